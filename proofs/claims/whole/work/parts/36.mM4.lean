def f_M_rows_4 (k4 : zSt → Nat → Int32 → Int32 → Int32 → Option (Int32)) (σ : zSt) (v0 : Nat) (v1 : Int32) (v2 : Int32) (v3 : Int32) : Option (Int32) :=
(zgI σ 12 v0 41).bind fun x1 =>
if x1 ≤ v3 then (
some v2) else
k4 σ v0 v1 (v2 * ((2 * v1) + 1)) (v3 + 1)
set_option maxRecDepth 100000 in
set_option maxHeartbeats 4000000 in
theorem r_M_rows_4 {X : zCX} (o : zOK X "WantShelvesModel" c_M_rows n_M_rows 1) {k4 : zSt → Nat → Int32 → Int32 → Int32 → Option (Int32)} (hk4 : ∀ {σ : zSt} {v0 : Nat} {v1 : Int32} {v2 : Int32} {v3 : Int32} {z : Int32}, k4 σ v0 v1 v2 v3 = some z → zRX X 0 0 (some (.int z)) σ → zPJ X 0 0 4 [(0, .ref v0), (1, .int v1), (2, .int v2), (3, .int v3)] [] σ) {σ : zSt} {v0 : Nat} {v1 : Int32} {v2 : Int32} {v3 : Int32} {z : Int32} (h : f_M_rows_4 k4 σ v0 v1 v2 v3 = some z) (hr : zRX X 0 0 (some (.int z)) σ) : zPJ X 0 0 4 [(0, .ref v0), (1, .int v1), (2, .int v2), (3, .int v3)] [] σ := by
  unfold f_M_rows_4 at h
  refine zj_iload_n o (zdd k_M_rows 4 rfl) rfl 3 rfl ?_
  refine zj_aload_n o (zdd k_M_rows 5 rfl) rfl 0 rfl ?_
  obtain ⟨x1, e_x1, h⟩ := zbd h
  refine zj_gI o (zdd k_M_rows 6 rfl) fl_M_388 rfl e_x1 ?_
  refine zj_icmp_ge (tgt := 26) o (zdd k_M_rows 7 rfl) (by decide) (fun hc => ?_) (fun hc => ?_)
  · rw [if_pos hc] at h
    refine zj_iload_n o (zdd k_M_rows 18 rfl) rfl 2 rfl ?_
    cases h
    exact zr_i o hr (zdd k_M_rows 19 rfl)
  · rw [if_neg hc] at h
    refine zj_iload_n o (zdd k_M_rows 8 rfl) rfl 2 rfl ?_
    refine zj_iconst o (zdd k_M_rows 9 rfl) zki_2 ?_
    refine zj_iload_n o (zdd k_M_rows 10 rfl) rfl 1 rfl ?_
    refine zj_imul o (zdd k_M_rows 11 rfl) ?_
    refine zj_iconst o (zdd k_M_rows 12 rfl) zki_1 ?_
    refine zj_iadd o (zdd k_M_rows 13 rfl) ?_
    refine zj_imul o (zdd k_M_rows 14 rfl) ?_
    refine zj_istore_n (loc' := [(2, .int (v2 * ((2 * v1) + 1))), (0, .ref v0), (1, .int v1), (3, .int v3)]) o (zdd k_M_rows 15 rfl) rfl (by decide) rfl ?_
    refine zj_iinc (v := v3 + 1) (loc' := [(3, .int (v3 + 1)), (2, .int (v2 * ((2 * v1) + 1))), (0, .ref v0), (1, .int v1)]) o (zdd k_M_rows 16 rfl) 3 rfl (by rw [zki_1]) (by decide) rfl ?_
    refine zj_goto (tgt := 4) o (zdd k_M_rows 17 rfl) (by decide) ?_
    exact zj_sub [2, 3, 1, 0] rfl (hk4 h hr)
def f_M_rows_4L : Nat → zSt → Nat → Int32 → Int32 → Int32 → Option (Int32)
  | 0 => fun _ _ _ _ _ => none
  | n + 1 => f_M_rows_4  (f_M_rows_4L  n)
theorem r_M_rows_4L {X : zCX} (o : zOK X "WantShelvesModel" c_M_rows n_M_rows 1) : ∀ (n : Nat) {σ : zSt} {v0 : Nat} {v1 : Int32} {v2 : Int32} {v3 : Int32} {z : Int32}, f_M_rows_4L n σ v0 v1 v2 v3 = some z → zRX X 0 0 (some (.int z)) σ → zPJ X 0 0 4 [(0, .ref v0), (1, .int v1), (2, .int v2), (3, .int v3)] [] σ
  | 0 => fun h _ => by cases h
  | n + 1 => fun h hr => r_M_rows_4 o (r_M_rows_4L o  n) h hr
def f_M_rows (σ : zSt) (t : Nat) (p0 : Int32) : Option (Int32) :=
zg σ 12 t (
f_M_rows_4L zfu σ t p0 1 0)
set_option maxRecDepth 100000 in
set_option maxHeartbeats 4000000 in
theorem m_M_rows {l : Launch} {b : Nat} {ex : Nat → Value} {D : va_G} {ca : Nat → ClassId} {σ : zSt} {t : Nat} {p0 : Int32} {z : Int32} (h : f_M_rows σ t p0 = some z) : zMT l b ex D ca 1 y_M_rows c_M_rows n_M_rows r_ret_M_rows [.ref t, .int p0] σ (some (.int z)) σ 0 0 := by
  obtain ⟨_, hg0⟩ := zg_some h
  have h := hg0
  refine zmt_of (by decide) (Nat.le_of_ble_eq_true rfl) ⟨.int, rfl, rfl⟩ (fun X o hin hrm _ _ _ _ _ hr => ?_)
  have hr := hr 0 0 (by decide) (by decide)
  have o : zOK X "WantShelvesModel" c_M_rows n_M_rows 1 := o
  change zPJ X 0 0 0 [(0, .ref t), (1, .int p0)] [] σ
  refine zj_iconst o (zdd k_M_rows 0 rfl) zki_1 ?_
  refine zj_istore_n (loc' := [(2, .int 1), (0, .ref t), (1, .int p0)]) o (zdd k_M_rows 1 rfl) rfl (by decide) rfl ?_
  refine zj_iconst o (zdd k_M_rows 2 rfl) zki_0 ?_
  refine zj_istore_n (loc' := [(3, .int 0), (2, .int 1), (0, .ref t), (1, .int p0)]) o (zdd k_M_rows 3 rfl) rfl (by decide) rfl ?_
  exact zj_sub [2, 3, 1, 0] rfl (r_M_rows_4L o  zfu h hr)
def f_M_layRow_38 (k5 : zSt → Nat → Int32 → Int32 → Int32 → Option (zSt)) (σ : zSt) (v0 : Nat) (v2 : Int32) (v3 : Int32) (v4 : Int32) (s0 : Int32) (s1 : Int32) (s2 : Nat) : Option (zSt) :=
(zwI σ 1 s2 s1 s0).bind fun σ1 =>
(zgI σ1 12 v0 41).bind fun x2 =>
if x2 ≤ v4 then (
k5 σ1 v0 v2 v3 (v4 + (-1))) else
(znz ((2 * v2) + 1)).bind fun n3 =>
k5 σ1 v0 v2 (v3 / ((2 * v2) + 1)) (v4 + (-1))
set_option maxRecDepth 100000 in
set_option maxHeartbeats 4000000 in
theorem r_M_layRow_38 {X : zCX} (o : zOK X "WantShelvesModel" c_M_layRow n_M_layRow 1) {k5 : zSt → Nat → Int32 → Int32 → Int32 → Option (zSt)} (hk5 : ∀ {σ : zSt} {v0 : Nat} {v2 : Int32} {v3 : Int32} {v4 : Int32} {z : zSt}, k5 σ v0 v2 v3 v4 = some z → zRX X 0 0 none z → zPJ X 0 0 5 [(0, .ref v0), (2, .int v2), (3, .int v3), (4, .int v4)] [] σ) {σ : zSt} {v0 : Nat} {v2 : Int32} {v3 : Int32} {v4 : Int32} {s0 : Int32} {s1 : Int32} {s2 : Nat} {z : zSt} (h : f_M_layRow_38 k5 σ v0 v2 v3 v4 s0 s1 s2 = some z) (hr : zRX X 0 0 none z) : zPJ X 0 0 38 [(0, .ref v0), (2, .int v2), (3, .int v3), (4, .int v4)] [.int s0, .int s1, .ref s2] σ := by
  unfold f_M_layRow_38 at h
  obtain ⟨σ1, e_σ1, h⟩ := zbd h
  refine zj_iast o (zdd k_M_layRow 24 rfl) e_σ1 ?_
  refine zj_iload o (zdd k_M_layRow 25 rfl) 3 rfl ?_
  refine zj_aload_n o (zdd k_M_layRow 26 rfl) rfl 0 rfl ?_
  obtain ⟨x2, e_x2, h⟩ := zbd h
  refine zj_gI o (zdd k_M_layRow 27 rfl) fl_M_388 rfl e_x2 ?_
  refine zj_icmp_ge (tgt := 58) o (zdd k_M_layRow 28 rfl) (by decide) (fun hc => ?_) (fun hc => ?_)
  · rw [if_pos hc] at h
    refine zj_iload_n o (zdd k_M_layRow 37 rfl) rfl 2 rfl ?_
    refine zj_istore_n (loc' := [(3, .int v3), (0, .ref v0), (2, .int v2), (4, .int v4)]) o (zdd k_M_layRow 38 rfl) rfl (by decide) rfl ?_
    refine zj_iinc (v := v4 + (-1)) (loc' := [(4, .int (v4 + (-1))), (3, .int v3), (0, .ref v0), (2, .int v2)]) o (zdd k_M_layRow 39 rfl) 3 rfl (by rw [zki_m1]) (by decide) rfl ?_
    refine zj_goto (tgt := 5) o (zdd k_M_layRow 40 rfl) (by decide) ?_
    exact zj_sub [2, 3, 1, 0] rfl (hk5 h hr)
  · rw [if_neg hc] at h
    refine zj_iload_n o (zdd k_M_layRow 29 rfl) rfl 2 rfl ?_
    refine zj_iconst o (zdd k_M_layRow 30 rfl) zki_2 ?_
    refine zj_iload_n o (zdd k_M_layRow 31 rfl) rfl 1 rfl ?_
    refine zj_imul o (zdd k_M_layRow 32 rfl) ?_
    refine zj_iconst o (zdd k_M_layRow 33 rfl) zki_1 ?_
    refine zj_iadd o (zdd k_M_layRow 34 rfl) ?_
    obtain ⟨n3, e_n3, h⟩ := zbd h
    refine zj_idiv o (zdd k_M_layRow 35 rfl) (znz_some e_n3).1 ?_
    refine zj_goto (tgt := 59) o (zdd k_M_layRow 36 rfl) (by decide) ?_
    refine zj_istore_n (loc' := [(3, .int (v3 / ((2 * v2) + 1))), (0, .ref v0), (2, .int v2), (4, .int v4)]) o (zdd k_M_layRow 38 rfl) rfl (by decide) rfl ?_
    refine zj_iinc (v := v4 + (-1)) (loc' := [(4, .int (v4 + (-1))), (3, .int (v3 / ((2 * v2) + 1))), (0, .ref v0), (2, .int v2)]) o (zdd k_M_layRow 39 rfl) 3 rfl (by rw [zki_m1]) (by decide) rfl ?_
    refine zj_goto (tgt := 5) o (zdd k_M_layRow 40 rfl) (by decide) ?_
    exact zj_sub [2, 3, 1, 0] rfl (hk5 h hr)
def f_M_layRow_5 (k5 : zSt → Nat → Int32 → Int32 → Int32 → Option (zSt)) (σ : zSt) (v0 : Nat) (v2 : Int32) (v3 : Int32) (v4 : Int32) : Option (zSt) :=
if v4 < 0 then (
some σ) else
(zgP σ 12 v0 50).bind fun a1 =>
(zgI σ 12 v0 41).bind fun x2 =>
if x2 ≤ v4 then (
f_M_layRow_38 k5 σ v0 v2 v3 v4 0 v4 a1) else
(znz ((2 * v2) + 1)).bind fun n3 =>
f_M_layRow_38 k5 σ v0 v2 v3 v4 ((zrem v3 ((2 * v2) + 1)) - v2) v4 a1
set_option maxRecDepth 100000 in
set_option maxHeartbeats 4000000 in
theorem r_M_layRow_5 {X : zCX} (o : zOK X "WantShelvesModel" c_M_layRow n_M_layRow 1) {k5 : zSt → Nat → Int32 → Int32 → Int32 → Option (zSt)} (hk5 : ∀ {σ : zSt} {v0 : Nat} {v2 : Int32} {v3 : Int32} {v4 : Int32} {z : zSt}, k5 σ v0 v2 v3 v4 = some z → zRX X 0 0 none z → zPJ X 0 0 5 [(0, .ref v0), (2, .int v2), (3, .int v3), (4, .int v4)] [] σ) {σ : zSt} {v0 : Nat} {v2 : Int32} {v3 : Int32} {v4 : Int32} {z : zSt} (h : f_M_layRow_5 k5 σ v0 v2 v3 v4 = some z) (hr : zRX X 0 0 none z) : zPJ X 0 0 5 [(0, .ref v0), (2, .int v2), (3, .int v3), (4, .int v4)] [] σ := by
  unfold f_M_layRow_5 at h
  refine zj_iload o (zdd k_M_layRow 4 rfl) 3 rfl ?_
  refine zj_if_lt (tgt := 66) o (zdd k_M_layRow 5 rfl) (by decide) (fun hc => ?_) (fun hc => ?_)
  · rw [if_pos hc] at h
    cases h
    exact zr_v o hr (zdd k_M_layRow 41 rfl)
  · rw [if_neg hc] at h
    refine zj_aload_n o (zdd k_M_layRow 6 rfl) rfl 0 rfl ?_
    obtain ⟨a1, e_a1, h⟩ := zbd h
    refine zj_gP o (zdd k_M_layRow 7 rfl) fl_M_81 rfl e_a1 ?_
    refine zj_iload o (zdd k_M_layRow 8 rfl) 3 rfl ?_
    refine zj_iload o (zdd k_M_layRow 9 rfl) 3 rfl ?_
    refine zj_aload_n o (zdd k_M_layRow 10 rfl) rfl 0 rfl ?_
    obtain ⟨x2, e_x2, h⟩ := zbd h
    refine zj_gI o (zdd k_M_layRow 11 rfl) fl_M_388 rfl e_x2 ?_
    refine zj_icmp_ge (tgt := 37) o (zdd k_M_layRow 12 rfl) (by decide) (fun hc => ?_) (fun hc => ?_)
    · rw [if_pos hc] at h
      refine zj_iconst o (zdd k_M_layRow 23 rfl) zki_0 ?_
      exact zj_sub [0, 1, 2, 3] rfl (r_M_layRow_38 o hk5 h hr)
    · rw [if_neg hc] at h
      refine zj_iload_n o (zdd k_M_layRow 13 rfl) rfl 2 rfl ?_
      refine zj_iconst o (zdd k_M_layRow 14 rfl) zki_2 ?_
      refine zj_iload_n o (zdd k_M_layRow 15 rfl) rfl 1 rfl ?_
      refine zj_imul o (zdd k_M_layRow 16 rfl) ?_
      refine zj_iconst o (zdd k_M_layRow 17 rfl) zki_1 ?_
      refine zj_iadd o (zdd k_M_layRow 18 rfl) ?_
      obtain ⟨n3, e_n3, h⟩ := zbd h
      refine zj_irem o (zdd k_M_layRow 19 rfl) (znz_some e_n3).1 ?_
      change zPJ X 0 0 _ _ [.int (zrem v3 ((2 * v2) + 1)), .int v4, .ref a1] _
      refine zj_iload_n o (zdd k_M_layRow 20 rfl) rfl 1 rfl ?_
      refine zj_isub o (zdd k_M_layRow 21 rfl) ?_
      refine zj_goto (tgt := 38) o (zdd k_M_layRow 22 rfl) (by decide) ?_
      exact zj_sub [0, 1, 2, 3] rfl (r_M_layRow_38 o hk5 h hr)
def f_M_layRow_5L : Nat → zSt → Nat → Int32 → Int32 → Int32 → Option (zSt)
  | 0 => fun _ _ _ _ _ => none
  | n + 1 => f_M_layRow_5  (f_M_layRow_5L  n)
theorem r_M_layRow_5L {X : zCX} (o : zOK X "WantShelvesModel" c_M_layRow n_M_layRow 1) : ∀ (n : Nat) {σ : zSt} {v0 : Nat} {v2 : Int32} {v3 : Int32} {v4 : Int32} {z : zSt}, f_M_layRow_5L n σ v0 v2 v3 v4 = some z → zRX X 0 0 none z → zPJ X 0 0 5 [(0, .ref v0), (2, .int v2), (3, .int v3), (4, .int v4)] [] σ
  | 0 => fun h _ => by cases h
  | n + 1 => fun h hr => r_M_layRow_5 o (r_M_layRow_5L o  n) h hr
def f_M_layRow (σ : zSt) (t : Nat) (p0 : Int32) (p1 : Int32) : Option (zSt) :=
zg σ 12 t (
f_M_layRow_5L zfu σ t p1 p0 3)
set_option maxRecDepth 100000 in
set_option maxHeartbeats 4000000 in
theorem m_M_layRow {l : Launch} {b : Nat} {ex : Nat → Value} {D : va_G} {ca : Nat → ClassId} {σ : zSt} {t : Nat} {p0 : Int32} {p1 : Int32} {z : zSt} (h : f_M_layRow σ t p0 p1 = some z) : zMT l b ex D ca 1 y_M_layRow c_M_layRow n_M_layRow r_ret_M_layRow [.ref t, .int p0, .int p1] σ none z 0 0 := by
  obtain ⟨_, hg0⟩ := zg_some h
  have h := hg0
  refine zmt_of (by decide) (Nat.le_of_ble_eq_true rfl) rfl (fun X o hin hrm _ _ _ _ _ hr => ?_)
  have hr := hr 0 0 (by decide) (by decide)
  have o : zOK X "WantShelvesModel" c_M_layRow n_M_layRow 1 := o
  change zPJ X 0 0 0 [(0, .ref t), (1, .int p0), (2, .int p1)] [] σ
  refine zj_iload_n o (zdd k_M_layRow 0 rfl) rfl 1 rfl ?_
  refine zj_istore_n (loc' := [(3, .int p0), (0, .ref t), (1, .int p0), (2, .int p1)]) o (zdd k_M_layRow 1 rfl) rfl (by decide) rfl ?_
  refine zj_iconst o (zdd k_M_layRow 2 rfl) zki_3 ?_
  refine zj_istore (loc' := [(4, .int 3), (3, .int p0), (0, .ref t), (1, .int p0), (2, .int p1)]) o (zdd k_M_layRow 3 rfl) (by decide) rfl ?_
  exact zj_sub [2, 4, 1, 0] rfl (r_M_layRow_5L o  zfu h hr)
def f_M_layByRow (σ : zSt) (t : Nat) (p0 : Int32) (p1 : Int32) (p2 : Int32) : Option (zSt) :=
zg σ 12 t (
(f_M_layRow σ t p1 p2).bind fun σ1 =>
(f_M_layKeys σ1 t p0).bind fun σ2 =>
some σ2)
set_option maxRecDepth 100000 in
set_option maxHeartbeats 4000000 in
theorem m_M_layByRow {l : Launch} {b : Nat} {ex : Nat → Value} {D : va_G} {ca : Nat → ClassId} {σ : zSt} {t : Nat} {p0 : Int32} {p1 : Int32} {p2 : Int32} {z : zSt} (h : f_M_layByRow σ t p0 p1 p2 = some z) : zMT l b ex D ca 6 y_M_layByRow c_M_layByRow n_M_layByRow r_ret_M_layByRow [.ref t, .int p0, .int p1, .int p2] σ none z 0 0 := by
  obtain ⟨_, hg0⟩ := zg_some h
  have h := hg0
  refine zmt_of (by decide) (Nat.le_of_ble_eq_true rfl) rfl (fun X o hin hrm _ _ _ _ _ hr => ?_)
  have hr := hr 0 0 (by decide) (by decide)
  have o : zOK X "WantShelvesModel" c_M_layByRow n_M_layByRow 6 := o
  change zPJ X 0 0 0 [(0, .ref t), (1, .int p0), (2, .int p1), (3, .int p2)] [] σ
  refine zj_aload_n o (zdd k_M_layByRow 0 rfl) rfl 0 rfl ?_
  refine zj_iload_n o (zdd k_M_layByRow 1 rfl) rfl 2 rfl ?_
  refine zj_iload_n o (zdd k_M_layByRow 2 rfl) rfl 3 rfl ?_
  obtain ⟨σ1, e_σ1, h⟩ := zbd h
  refine zc_V o (zdd k_M_layByRow 3 rfl) ml_M_527 mv_M_layRow ⟨rfl, by decide⟩ (zg_some e_σ1).1 (by decide) [.int p1, .int p2] [] rfl (Nat.le_of_ble_eq_true rfl) rfl (m_M_layRow e_σ1) ?_
  change zPJ X 0 0 _ _ [] _
  refine zj_aload_n o (zdd k_M_layByRow 4 rfl) rfl 0 rfl ?_
  refine zj_iload_n o (zdd k_M_layByRow 5 rfl) rfl 1 rfl ?_
  obtain ⟨σ2, e_σ2, h⟩ := zbd h
  refine zc_V o (zdd k_M_layByRow 6 rfl) ml_M_454 mv_M_layKeys ⟨rfl, by decide⟩ (zg_some e_σ2).1 (by decide) [.int p0] [] rfl (Nat.le_of_ble_eq_true rfl) rfl (m_M_layKeys e_σ2) ?_
  change zPJ X 0 0 _ _ [] _
  cases h
  exact zr_v o hr (zdd k_M_layByRow 7 rfl)
def f_M_hide_138 (k62 : zSt → Nat → Int32 → Int32 → Int32 → Int32 → Int32 → Int32 → Option (Int32 × zSt)) (σ : zSt) (v0 : Nat) (v1 : Int32) (v2 : Int32) (v3 : Int32) (v4 : Int32) (v5 : Int32) (v6 : Int32) : Option (Int32 × zSt) :=
(zgP σ 12 v0 65).bind fun a1 =>
(zgP σ 12 v0 53).bind fun a2 =>
(zaI σ 1 a2 v2).bind fun x3 =>
if v3 < x3 then (
(zwI σ 3 a1 v6 0).bind fun σ4 =>
k62 σ4 v0 v1 v2 v3 v4 v5 (v6 + 1)) else
(zwI σ 3 a1 v6 1).bind fun σ5 =>
k62 σ5 v0 v1 v2 v3 v4 v5 (v6 + 1)
set_option maxRecDepth 100000 in
set_option maxHeartbeats 4000000 in
theorem r_M_hide_138 {X : zCX} (o : zOK X "WantShelvesModel" c_M_hide n_M_hide 7) {k62 : zSt → Nat → Int32 → Int32 → Int32 → Int32 → Int32 → Int32 → Option (Int32 × zSt)} (hk62 : ∀ {σ : zSt} {v0 : Nat} {v1 : Int32} {v2 : Int32} {v3 : Int32} {v4 : Int32} {v5 : Int32} {v6 : Int32} {z : Int32 × zSt}, k62 σ v0 v1 v2 v3 v4 v5 v6 = some z → zRX X 0 0 (some (.int z.1)) z.2 → zPJ X 0 0 62 [(0, .ref v0), (1, .int v1), (2, .int v2), (3, .int v3), (4, .int v4), (5, .int v5), (6, .int v6)] [] σ) {σ : zSt} {v0 : Nat} {v1 : Int32} {v2 : Int32} {v3 : Int32} {v4 : Int32} {v5 : Int32} {v6 : Int32} {z : Int32 × zSt} (h : f_M_hide_138 k62 σ v0 v1 v2 v3 v4 v5 v6 = some z) (hr : zRX X 0 0 (some (.int z.1)) z.2) : zPJ X 0 0 138 [(0, .ref v0), (1, .int v1), (2, .int v2), (3, .int v3), (4, .int v4), (5, .int v5), (6, .int v6)] [] σ := by
  unfold f_M_hide_138 at h
  refine zj_aload_n o (zdd k_M_hide_1 25 rfl) rfl 0 rfl ?_
  obtain ⟨a1, e_a1, h⟩ := zbd h
  refine zj_gP o (zdd k_M_hide_1 26 rfl) fl_M_114 rfl e_a1 ?_
  refine zj_iload o (zdd k_M_hide_1 27 rfl) 6 rfl ?_
  refine zj_aload_n o (zdd k_M_hide_1 28 rfl) rfl 0 rfl ?_
  obtain ⟨a2, e_a2, h⟩ := zbd h
  refine zj_gP o (zdd k_M_hide_1 29 rfl) fl_M_90 rfl e_a2 ?_
  refine zj_iload_n o (zdd k_M_hide_1 30 rfl) rfl 2 rfl ?_
  obtain ⟨x3, e_x3, h⟩ := zbd h
  refine zj_iald o (zdd k_M_hide_1 31 rfl) e_x3 ?_
  refine zj_iload_n o (zdd k_M_hide_1 32 rfl) rfl 3 rfl ?_
  refine zj_icmp_gt (tgt := 158) o (zdd k_M_hide_1 33 rfl) (by decide) (fun hc => ?_) (fun hc => ?_)
  · rw [if_pos hc] at h
    refine zj_iconst o (zdd k_M_hide_1 36 rfl) zki_0 ?_
    obtain ⟨σ4, e_σ4, h⟩ := zbd h
    refine zj_zast o (zdd k_M_hide_1 37 rfl) e_σ4 ?_
    refine zj_iinc (v := v6 + 1) (loc' := [(6, .int (v6 + 1)), (0, .ref v0), (1, .int v1), (2, .int v2), (3, .int v3), (4, .int v4), (5, .int v5)]) o (zdd k_M_hide_1 38 rfl) 6 rfl (by rw [zki_1]) (by decide) rfl ?_
    refine zj_goto (tgt := 62) o (zdd k_M_hide_1 39 rfl) (by decide) ?_
    exact zj_sub [1, 2, 3, 4, 5, 6, 0] rfl (hk62 h hr)
  · rw [if_neg hc] at h
    refine zj_iconst o (zdd k_M_hide_1 34 rfl) zki_1 ?_
    refine zj_goto (tgt := 159) o (zdd k_M_hide_1 35 rfl) (by decide) ?_
    obtain ⟨σ5, e_σ5, h⟩ := zbd h
    refine zj_zast o (zdd k_M_hide_1 37 rfl) e_σ5 ?_
    refine zj_iinc (v := v6 + 1) (loc' := [(6, .int (v6 + 1)), (0, .ref v0), (1, .int v1), (2, .int v2), (3, .int v3), (4, .int v4), (5, .int v5)]) o (zdd k_M_hide_1 38 rfl) 6 rfl (by rw [zki_1]) (by decide) rfl ?_
    refine zj_goto (tgt := 62) o (zdd k_M_hide_1 39 rfl) (by decide) ?_
    exact zj_sub [1, 2, 3, 4, 5, 6, 0] rfl (hk62 h hr)
def f_M_hide_96 (k62 : zSt → Nat → Int32 → Int32 → Int32 → Int32 → Int32 → Int32 → Option (Int32 × zSt)) (k96 : zSt → Nat → Int32 → Int32 → Int32 → Int32 → Int32 → Int32 → Int32 → Option (Int32 × zSt)) (σ : zSt) (v0 : Nat) (v1 : Int32) (v2 : Int32) (v3 : Int32) (v4 : Int32) (v5 : Int32) (v6 : Int32) (v7 : Int32) : Option (Int32 × zSt) :=
(zgI σ 12 v0 54).bind fun x1 =>
if x1 ≤ v7 then (
f_M_hide_138 k62 σ v0 v1 v2 v3 v4 v5 v6) else
(zgP σ 12 v0 64).bind fun a2 =>
(zgP σ 12 v0 64).bind fun a3 =>
(zaJ σ a3 v6).bind fun x4 =>
(zgP σ 12 v0 52).bind fun a5 =>
(zaI σ 1 a5 v7).bind fun x6 =>
(zwJ σ a2 v6 ((16 * x4) + (Int32.toInt64 x6))).bind fun σ7 =>
k96 σ7 v0 v1 v2 v3 v4 v5 v6 (v7 + 1)
set_option maxRecDepth 100000 in
set_option maxHeartbeats 4000000 in
theorem r_M_hide_96 {X : zCX} (o : zOK X "WantShelvesModel" c_M_hide n_M_hide 7) {k62 : zSt → Nat → Int32 → Int32 → Int32 → Int32 → Int32 → Int32 → Option (Int32 × zSt)} {k96 : zSt → Nat → Int32 → Int32 → Int32 → Int32 → Int32 → Int32 → Int32 → Option (Int32 × zSt)} (hk62 : ∀ {σ : zSt} {v0 : Nat} {v1 : Int32} {v2 : Int32} {v3 : Int32} {v4 : Int32} {v5 : Int32} {v6 : Int32} {z : Int32 × zSt}, k62 σ v0 v1 v2 v3 v4 v5 v6 = some z → zRX X 0 0 (some (.int z.1)) z.2 → zPJ X 0 0 62 [(0, .ref v0), (1, .int v1), (2, .int v2), (3, .int v3), (4, .int v4), (5, .int v5), (6, .int v6)] [] σ) (hk96 : ∀ {σ : zSt} {v0 : Nat} {v1 : Int32} {v2 : Int32} {v3 : Int32} {v4 : Int32} {v5 : Int32} {v6 : Int32} {v7 : Int32} {z : Int32 × zSt}, k96 σ v0 v1 v2 v3 v4 v5 v6 v7 = some z → zRX X 0 0 (some (.int z.1)) z.2 → zPJ X 0 0 96 [(0, .ref v0), (1, .int v1), (2, .int v2), (3, .int v3), (4, .int v4), (5, .int v5), (6, .int v6), (7, .int v7)] [] σ) {σ : zSt} {v0 : Nat} {v1 : Int32} {v2 : Int32} {v3 : Int32} {v4 : Int32} {v5 : Int32} {v6 : Int32} {v7 : Int32} {z : Int32 × zSt} (h : f_M_hide_96 k62 k96 σ v0 v1 v2 v3 v4 v5 v6 v7 = some z) (hr : zRX X 0 0 (some (.int z.1)) z.2) : zPJ X 0 0 96 [(0, .ref v0), (1, .int v1), (2, .int v2), (3, .int v3), (4, .int v4), (5, .int v5), (6, .int v6), (7, .int v7)] [] σ := by
  unfold f_M_hide_96 at h
  refine zj_iload o (zdd k_M_hide_1 3 rfl) 7 rfl ?_
  refine zj_aload_n o (zdd k_M_hide_1 4 rfl) rfl 0 rfl ?_
  obtain ⟨x1, e_x1, h⟩ := zbd h
  refine zj_gI o (zdd k_M_hide_1 5 rfl) fl_M_460 rfl e_x1 ?_
  refine zj_icmp_ge (tgt := 138) o (zdd k_M_hide_1 6 rfl) (by decide) (fun hc => ?_) (fun hc => ?_)
  · rw [if_pos hc] at h
    exact zj_sub [0, 1, 2, 3, 4, 5, 6] rfl (r_M_hide_138 o hk62 h hr)
  · rw [if_neg hc] at h
    refine zj_aload_n o (zdd k_M_hide_1 7 rfl) rfl 0 rfl ?_
    obtain ⟨a2, e_a2, h⟩ := zbd h
    refine zj_gP o (zdd k_M_hide_1 8 rfl) fl_M_111 rfl e_a2 ?_
    refine zj_iload o (zdd k_M_hide_1 9 rfl) 6 rfl ?_
    refine zj_ldc2 o (zdd k_M_hide_1 10 rfl) lc_M_537 ?_
    refine zj_aload_n o (zdd k_M_hide_1 11 rfl) rfl 0 rfl ?_
    obtain ⟨a3, e_a3, h⟩ := zbd h
    refine zj_gP o (zdd k_M_hide_1 12 rfl) fl_M_111 rfl e_a3 ?_
    refine zj_iload o (zdd k_M_hide_1 13 rfl) 6 rfl ?_
    obtain ⟨x4, e_x4, h⟩ := zbd h
    refine zj_lald o (zdd k_M_hide_1 14 rfl) e_x4 ?_
    refine zj_lmul o (zdd k_M_hide_1 15 rfl) ?_
    refine zj_aload_n o (zdd k_M_hide_1 16 rfl) rfl 0 rfl ?_
    obtain ⟨a5, e_a5, h⟩ := zbd h
    refine zj_gP o (zdd k_M_hide_1 17 rfl) fl_M_87 rfl e_a5 ?_
    refine zj_iload o (zdd k_M_hide_1 18 rfl) 7 rfl ?_
    obtain ⟨x6, e_x6, h⟩ := zbd h
    refine zj_iald o (zdd k_M_hide_1 19 rfl) e_x6 ?_
    refine zj_i2l o (zdd k_M_hide_1 20 rfl) ?_
    refine zj_ladd o (zdd k_M_hide_1 21 rfl) ?_
    obtain ⟨σ7, e_σ7, h⟩ := zbd h
    refine zj_last o (zdd k_M_hide_1 22 rfl) e_σ7 ?_
    refine zj_iinc (v := v7 + 1) (loc' := [(7, .int (v7 + 1)), (0, .ref v0), (1, .int v1), (2, .int v2), (3, .int v3), (4, .int v4), (5, .int v5), (6, .int v6)]) o (zdd k_M_hide_1 23 rfl) 7 rfl (by rw [zki_1]) (by decide) rfl ?_
    refine zj_goto (tgt := 96) o (zdd k_M_hide_1 24 rfl) (by decide) ?_
    exact zj_sub [1, 2, 3, 4, 5, 6, 7, 0] rfl (hk96 h hr)
def f_M_hide_96L (k62 : zSt → Nat → Int32 → Int32 → Int32 → Int32 → Int32 → Int32 → Option (Int32 × zSt)) : Nat → zSt → Nat → Int32 → Int32 → Int32 → Int32 → Int32 → Int32 → Int32 → Option (Int32 × zSt)
  | 0 => fun _ _ _ _ _ _ _ _ _ => none
  | n + 1 => f_M_hide_96  k62 (f_M_hide_96L k62 n)
theorem r_M_hide_96L {X : zCX} (o : zOK X "WantShelvesModel" c_M_hide n_M_hide 7) {k62 : zSt → Nat → Int32 → Int32 → Int32 → Int32 → Int32 → Int32 → Option (Int32 × zSt)} (hk62 : ∀ {σ : zSt} {v0 : Nat} {v1 : Int32} {v2 : Int32} {v3 : Int32} {v4 : Int32} {v5 : Int32} {v6 : Int32} {z : Int32 × zSt}, k62 σ v0 v1 v2 v3 v4 v5 v6 = some z → zRX X 0 0 (some (.int z.1)) z.2 → zPJ X 0 0 62 [(0, .ref v0), (1, .int v1), (2, .int v2), (3, .int v3), (4, .int v4), (5, .int v5), (6, .int v6)] [] σ) : ∀ (n : Nat) {σ : zSt} {v0 : Nat} {v1 : Int32} {v2 : Int32} {v3 : Int32} {v4 : Int32} {v5 : Int32} {v6 : Int32} {v7 : Int32} {z : Int32 × zSt}, f_M_hide_96L k62 n σ v0 v1 v2 v3 v4 v5 v6 v7 = some z → zRX X 0 0 (some (.int z.1)) z.2 → zPJ X 0 0 96 [(0, .ref v0), (1, .int v1), (2, .int v2), (3, .int v3), (4, .int v4), (5, .int v5), (6, .int v6), (7, .int v7)] [] σ
  | 0 => fun h _ => by cases h
  | n + 1 => fun h hr => r_M_hide_96 o hk62 (r_M_hide_96L o hk62 n) h hr
def f_M_hide_233 (k175 : zSt → Nat → Int32 → Int32 → Int32 → Int32 → Int32 → Option (Int32 × zSt)) (k201 : zSt → Nat → Int32 → Int32 → Int32 → Int32 → Int32 → Int32 → Int32 → Option (Int32 × zSt)) (σ : zSt) (v0 : Nat) (v4 : Int32) (v5 : Int32) (v6 : Int32) (v7 : Int32) (v8 : Int32) (v10 : Int32) (s0 : Int32) (s1 : Int32) : Option (Int32 × zSt) :=
(f_M_truth s0).bind fun x1 =>
k201 σ v0 v4 v5 v6 v7 v8 (s1 + x1) (v10 + 1)
set_option maxRecDepth 100000 in
set_option maxHeartbeats 4000000 in
theorem r_M_hide_233 {X : zCX} (o : zOK X "WantShelvesModel" c_M_hide n_M_hide 7) {k175 : zSt → Nat → Int32 → Int32 → Int32 → Int32 → Int32 → Option (Int32 × zSt)} {k201 : zSt → Nat → Int32 → Int32 → Int32 → Int32 → Int32 → Int32 → Int32 → Option (Int32 × zSt)} (hk175 : ∀ {σ : zSt} {v0 : Nat} {v4 : Int32} {v5 : Int32} {v6 : Int32} {v7 : Int32} {v8 : Int32} {z : Int32 × zSt}, k175 σ v0 v4 v5 v6 v7 v8 = some z → zRX X 0 0 (some (.int z.1)) z.2 → zPJ X 0 0 175 [(0, .ref v0), (4, .int v4), (5, .int v5), (6, .int v6), (7, .int v7), (8, .int v8)] [] σ) (hk201 : ∀ {σ : zSt} {v0 : Nat} {v4 : Int32} {v5 : Int32} {v6 : Int32} {v7 : Int32} {v8 : Int32} {v9 : Int32} {v10 : Int32} {z : Int32 × zSt}, k201 σ v0 v4 v5 v6 v7 v8 v9 v10 = some z → zRX X 0 0 (some (.int z.1)) z.2 → zPJ X 0 0 201 [(0, .ref v0), (4, .int v4), (5, .int v5), (6, .int v6), (7, .int v7), (8, .int v8), (9, .int v9), (10, .int v10)] [] σ) {σ : zSt} {v0 : Nat} {v4 : Int32} {v5 : Int32} {v6 : Int32} {v7 : Int32} {v8 : Int32} {v10 : Int32} {s0 : Int32} {s1 : Int32} {z : Int32 × zSt} (h : f_M_hide_233 k175 k201 σ v0 v4 v5 v6 v7 v8 v10 s0 s1 = some z) (hr : zRX X 0 0 (some (.int z.1)) z.2) : zPJ X 0 0 233 [(0, .ref v0), (4, .int v4), (5, .int v5), (6, .int v6), (7, .int v7), (8, .int v8), (10, .int v10)] [.int s0, .int s1] σ := by
  unfold f_M_hide_233 at h
  obtain ⟨x1, e_x1, h⟩ := zbd h
  refine zc_S o (zdd k_M_hide_2 26 rfl) ml_M_324 ms_M_truth (by decide) [.int s0] [.int s1] rfl (Nat.le_of_ble_eq_true rfl) rfl (m_M_truth e_x1) ?_
  change zPJ X 0 0 _ _ [.int x1, .int s1] _
  refine zj_iadd o (zdd k_M_hide_2 27 rfl) ?_
  refine zj_istore (loc' := [(9, .int (s1 + x1)), (0, .ref v0), (4, .int v4), (5, .int v5), (6, .int v6), (7, .int v7), (8, .int v8), (10, .int v10)]) o (zdd k_M_hide_2 28 rfl) (by decide) rfl ?_
  refine zj_iinc (v := v10 + 1) (loc' := [(10, .int (v10 + 1)), (9, .int (s1 + x1)), (0, .ref v0), (4, .int v4), (5, .int v5), (6, .int v6), (7, .int v7), (8, .int v8)]) o (zdd k_M_hide_2 29 rfl) 7 rfl (by rw [zki_1]) (by decide) rfl ?_
  refine zj_goto (tgt := 201) o (zdd k_M_hide_2 30 rfl) (by decide) ?_
  exact zj_sub [2, 3, 4, 5, 6, 7, 1, 0] rfl (hk201 h hr)
def f_M_hide_245 (k175 : zSt → Nat → Int32 → Int32 → Int32 → Int32 → Int32 → Option (Int32 × zSt)) (σ : zSt) (v0 : Nat) (v4 : Int32) (v5 : Int32) (v6 : Int32) (v7 : Int32) (v8 : Int32) (v9 : Int32) : Option (Int32 × zSt) :=
if v7 < v9 then (
k175 σ v0 v4 v5 v8 v9 (v8 + 1)) else
k175 σ v0 v4 v5 v6 v7 (v8 + 1)
set_option maxRecDepth 100000 in
set_option maxHeartbeats 4000000 in
theorem r_M_hide_245 {X : zCX} (o : zOK X "WantShelvesModel" c_M_hide n_M_hide 7) {k175 : zSt → Nat → Int32 → Int32 → Int32 → Int32 → Int32 → Option (Int32 × zSt)} (hk175 : ∀ {σ : zSt} {v0 : Nat} {v4 : Int32} {v5 : Int32} {v6 : Int32} {v7 : Int32} {v8 : Int32} {z : Int32 × zSt}, k175 σ v0 v4 v5 v6 v7 v8 = some z → zRX X 0 0 (some (.int z.1)) z.2 → zPJ X 0 0 175 [(0, .ref v0), (4, .int v4), (5, .int v5), (6, .int v6), (7, .int v7), (8, .int v8)] [] σ) {σ : zSt} {v0 : Nat} {v4 : Int32} {v5 : Int32} {v6 : Int32} {v7 : Int32} {v8 : Int32} {v9 : Int32} {z : Int32 × zSt} (h : f_M_hide_245 k175 σ v0 v4 v5 v6 v7 v8 v9 = some z) (hr : zRX X 0 0 (some (.int z.1)) z.2) : zPJ X 0 0 245 [(0, .ref v0), (4, .int v4), (5, .int v5), (6, .int v6), (7, .int v7), (8, .int v8), (9, .int v9)] [] σ := by
  unfold f_M_hide_245 at h
  refine zj_iload o (zdd k_M_hide_2 31 rfl) 6 rfl ?_
  refine zj_iload o (zdd k_M_hide_2 32 rfl) 4 rfl ?_
  refine zj_icmp_gt (tgt := 255) o (zdd k_M_hide_2 33 rfl) (by decide) (fun hc => ?_) (fun hc => ?_)
  · rw [if_pos hc] at h
    refine zj_iload o (zdd k_M_hide_2 35 rfl) 5 rfl ?_
    refine zj_istore (loc' := [(6, .int v8), (0, .ref v0), (4, .int v4), (5, .int v5), (7, .int v7), (8, .int v8), (9, .int v9)]) o (zdd k_M_hide_2 36 rfl) (by decide) rfl ?_
    refine zj_iload o (zdd k_M_hide_2 37 rfl) 6 rfl ?_
    refine zj_istore (loc' := [(7, .int v9), (6, .int v8), (0, .ref v0), (4, .int v4), (5, .int v5), (8, .int v8), (9, .int v9)]) o (zdd k_M_hide_2 38 rfl) (by decide) rfl ?_
    refine zj_iinc (v := v8 + 1) (loc' := [(8, .int (v8 + 1)), (7, .int v9), (6, .int v8), (0, .ref v0), (4, .int v4), (5, .int v5), (9, .int v9)]) o (zdd k_M_hide_2 39 rfl) 5 rfl (by rw [zki_1]) (by decide) rfl ?_
    refine zj_goto (tgt := 175) o (zdd k_M_hide_2 40 rfl) (by decide) ?_
    exact zj_sub [3, 4, 5, 2, 1, 0] rfl (hk175 h hr)
  · rw [if_neg hc] at h
    refine zj_goto (tgt := 263) o (zdd k_M_hide_2 34 rfl) (by decide) ?_
    refine zj_iinc (v := v8 + 1) (loc' := [(8, .int (v8 + 1)), (0, .ref v0), (4, .int v4), (5, .int v5), (6, .int v6), (7, .int v7), (9, .int v9)]) o (zdd k_M_hide_2 39 rfl) 5 rfl (by rw [zki_1]) (by decide) rfl ?_
    refine zj_goto (tgt := 175) o (zdd k_M_hide_2 40 rfl) (by decide) ?_
    exact zj_sub [1, 2, 3, 4, 5, 0] rfl (hk175 h hr)
def f_M_hide_201 (k175 : zSt → Nat → Int32 → Int32 → Int32 → Int32 → Int32 → Option (Int32 × zSt)) (k201 : zSt → Nat → Int32 → Int32 → Int32 → Int32 → Int32 → Int32 → Int32 → Option (Int32 × zSt)) (σ : zSt) (v0 : Nat) (v4 : Int32) (v5 : Int32) (v6 : Int32) (v7 : Int32) (v8 : Int32) (v9 : Int32) (v10 : Int32) : Option (Int32 × zSt) :=
if v5 ≤ v10 then (
f_M_hide_245 k175 σ v0 v4 v5 v6 v7 v8 v9) else
(zgP σ 12 v0 64).bind fun a1 =>
(zaJ σ a1 v10).bind fun x2 =>
(zgP σ 12 v0 64).bind fun a3 =>
(zaJ σ a3 v8).bind fun x4 =>
if lg_cmp x2 x4 = 0 then (
f_M_hide_233 k175 k201 σ v0 v4 v5 v6 v7 v8 v10 1 v9) else
f_M_hide_233 k175 k201 σ v0 v4 v5 v6 v7 v8 v10 0 v9
set_option maxRecDepth 100000 in
set_option maxHeartbeats 4000000 in
theorem r_M_hide_201 {X : zCX} (o : zOK X "WantShelvesModel" c_M_hide n_M_hide 7) {k175 : zSt → Nat → Int32 → Int32 → Int32 → Int32 → Int32 → Option (Int32 × zSt)} {k201 : zSt → Nat → Int32 → Int32 → Int32 → Int32 → Int32 → Int32 → Int32 → Option (Int32 × zSt)} (hk175 : ∀ {σ : zSt} {v0 : Nat} {v4 : Int32} {v5 : Int32} {v6 : Int32} {v7 : Int32} {v8 : Int32} {z : Int32 × zSt}, k175 σ v0 v4 v5 v6 v7 v8 = some z → zRX X 0 0 (some (.int z.1)) z.2 → zPJ X 0 0 175 [(0, .ref v0), (4, .int v4), (5, .int v5), (6, .int v6), (7, .int v7), (8, .int v8)] [] σ) (hk201 : ∀ {σ : zSt} {v0 : Nat} {v4 : Int32} {v5 : Int32} {v6 : Int32} {v7 : Int32} {v8 : Int32} {v9 : Int32} {v10 : Int32} {z : Int32 × zSt}, k201 σ v0 v4 v5 v6 v7 v8 v9 v10 = some z → zRX X 0 0 (some (.int z.1)) z.2 → zPJ X 0 0 201 [(0, .ref v0), (4, .int v4), (5, .int v5), (6, .int v6), (7, .int v7), (8, .int v8), (9, .int v9), (10, .int v10)] [] σ) {σ : zSt} {v0 : Nat} {v4 : Int32} {v5 : Int32} {v6 : Int32} {v7 : Int32} {v8 : Int32} {v9 : Int32} {v10 : Int32} {z : Int32 × zSt} (h : f_M_hide_201 k175 k201 σ v0 v4 v5 v6 v7 v8 v9 v10 = some z) (hr : zRX X 0 0 (some (.int z.1)) z.2) : zPJ X 0 0 201 [(0, .ref v0), (4, .int v4), (5, .int v5), (6, .int v6), (7, .int v7), (8, .int v8), (9, .int v9), (10, .int v10)] [] σ := by
  unfold f_M_hide_201 at h
  refine zj_iload o (zdd k_M_hide_2 9 rfl) 7 rfl ?_
  refine zj_iload o (zdd k_M_hide_2 10 rfl) 2 rfl ?_
  refine zj_icmp_ge (tgt := 245) o (zdd k_M_hide_2 11 rfl) (by decide) (fun hc => ?_) (fun hc => ?_)
  · rw [if_pos hc] at h
    exact zj_sub [0, 1, 2, 3, 4, 5, 6] rfl (r_M_hide_245 o hk175 h hr)
  · rw [if_neg hc] at h
    refine zj_iload o (zdd k_M_hide_2 12 rfl) 6 rfl ?_
    refine zj_aload_n o (zdd k_M_hide_2 13 rfl) rfl 0 rfl ?_
    obtain ⟨a1, e_a1, h⟩ := zbd h
    refine zj_gP o (zdd k_M_hide_2 14 rfl) fl_M_111 rfl e_a1 ?_
    refine zj_iload o (zdd k_M_hide_2 15 rfl) 7 rfl ?_
    obtain ⟨x2, e_x2, h⟩ := zbd h
    refine zj_lald o (zdd k_M_hide_2 16 rfl) e_x2 ?_
    refine zj_aload_n o (zdd k_M_hide_2 17 rfl) rfl 0 rfl ?_
    obtain ⟨a3, e_a3, h⟩ := zbd h
    refine zj_gP o (zdd k_M_hide_2 18 rfl) fl_M_111 rfl e_a3 ?_
    refine zj_iload o (zdd k_M_hide_2 19 rfl) 5 rfl ?_
    obtain ⟨x4, e_x4, h⟩ := zbd h
    refine zj_lald o (zdd k_M_hide_2 20 rfl) e_x4 ?_
    refine zj_lcmp o (zdd k_M_hide_2 21 rfl) ?_
    refine zj_if_ne (tgt := 232) o (zdd k_M_hide_2 22 rfl) (by decide) (fun hc => ?_) (fun hc => ?_)
    · rw [if_neg hc] at h
      refine zj_iconst o (zdd k_M_hide_2 25 rfl) zki_0 ?_
      exact zj_sub [0, 1, 2, 3, 4, 5, 7] rfl (r_M_hide_233 o hk175 hk201 h hr)
    · rw [if_pos hc] at h
      refine zj_iconst o (zdd k_M_hide_2 23 rfl) zki_1 ?_
      refine zj_goto (tgt := 233) o (zdd k_M_hide_2 24 rfl) (by decide) ?_
      exact zj_sub [0, 1, 2, 3, 4, 5, 7] rfl (r_M_hide_233 o hk175 hk201 h hr)
def f_M_hide_201L (k175 : zSt → Nat → Int32 → Int32 → Int32 → Int32 → Int32 → Option (Int32 × zSt)) : Nat → zSt → Nat → Int32 → Int32 → Int32 → Int32 → Int32 → Int32 → Int32 → Option (Int32 × zSt)
  | 0 => fun _ _ _ _ _ _ _ _ _ => none
  | n + 1 => f_M_hide_201  k175 (f_M_hide_201L k175 n)
theorem r_M_hide_201L {X : zCX} (o : zOK X "WantShelvesModel" c_M_hide n_M_hide 7) {k175 : zSt → Nat → Int32 → Int32 → Int32 → Int32 → Int32 → Option (Int32 × zSt)} (hk175 : ∀ {σ : zSt} {v0 : Nat} {v4 : Int32} {v5 : Int32} {v6 : Int32} {v7 : Int32} {v8 : Int32} {z : Int32 × zSt}, k175 σ v0 v4 v5 v6 v7 v8 = some z → zRX X 0 0 (some (.int z.1)) z.2 → zPJ X 0 0 175 [(0, .ref v0), (4, .int v4), (5, .int v5), (6, .int v6), (7, .int v7), (8, .int v8)] [] σ) : ∀ (n : Nat) {σ : zSt} {v0 : Nat} {v4 : Int32} {v5 : Int32} {v6 : Int32} {v7 : Int32} {v8 : Int32} {v9 : Int32} {v10 : Int32} {z : Int32 × zSt}, f_M_hide_201L k175 n σ v0 v4 v5 v6 v7 v8 v9 v10 = some z → zRX X 0 0 (some (.int z.1)) z.2 → zPJ X 0 0 201 [(0, .ref v0), (4, .int v4), (5, .int v5), (6, .int v6), (7, .int v7), (8, .int v8), (9, .int v9), (10, .int v10)] [] σ
  | 0 => fun h _ => by cases h
  | n + 1 => fun h hr => r_M_hide_201 o hk175 (r_M_hide_201L o hk175 n) h hr
def f_M_hide_287 (k287 : zSt → Nat → Int32 → Int32 → Option (Int32 × zSt)) (σ : zSt) (v0 : Nat) (v7 : Int32) (v8 : Int32) : Option (Int32 × zSt) :=
(zgI σ 12 v0 41).bind fun x1 =>
if x1 ≤ v8 then (
some (v7, σ)) else
(zgP σ 12 v0 50).bind fun a2 =>
(zaI σ 1 a2 v8).bind fun x3 =>
(f_M_lay σ v0 x3).bind fun σ4 =>
k287 σ4 v0 v7 (v8 + 1)
set_option maxRecDepth 100000 in
set_option maxHeartbeats 4000000 in
theorem r_M_hide_287 {X : zCX} (o : zOK X "WantShelvesModel" c_M_hide n_M_hide 7) {k287 : zSt → Nat → Int32 → Int32 → Option (Int32 × zSt)} (hk287 : ∀ {σ : zSt} {v0 : Nat} {v7 : Int32} {v8 : Int32} {z : Int32 × zSt}, k287 σ v0 v7 v8 = some z → zRX X 0 0 (some (.int z.1)) z.2 → zPJ X 0 0 287 [(0, .ref v0), (7, .int v7), (8, .int v8)] [] σ) {σ : zSt} {v0 : Nat} {v7 : Int32} {v8 : Int32} {z : Int32 × zSt} (h : f_M_hide_287 k287 σ v0 v7 v8 = some z) (hr : zRX X 0 0 (some (.int z.1)) z.2) : zPJ X 0 0 287 [(0, .ref v0), (7, .int v7), (8, .int v8)] [] σ := by
  unfold f_M_hide_287 at h
  refine zj_iload o (zdd k_M_hide_3 1 rfl) 2 rfl ?_
  refine zj_aload_n o (zdd k_M_hide_3 2 rfl) rfl 0 rfl ?_
  obtain ⟨x1, e_x1, h⟩ := zbd h
  refine zj_gI o (zdd k_M_hide_3 3 rfl) fl_M_388 rfl e_x1 ?_
  refine zj_icmp_ge (tgt := 313) o (zdd k_M_hide_3 4 rfl) (by decide) (fun hc => ?_) (fun hc => ?_)
  · rw [if_pos hc] at h
    refine zj_iload o (zdd k_M_hide_3 13 rfl) 1 rfl ?_
    cases h
    exact zr_i o hr (zdd k_M_hide_3 14 rfl)
  · rw [if_neg hc] at h
    refine zj_aload_n o (zdd k_M_hide_3 5 rfl) rfl 0 rfl ?_
    refine zj_aload_n o (zdd k_M_hide_3 6 rfl) rfl 0 rfl ?_
    obtain ⟨a2, e_a2, h⟩ := zbd h
    refine zj_gP o (zdd k_M_hide_3 7 rfl) fl_M_81 rfl e_a2 ?_
    refine zj_iload o (zdd k_M_hide_3 8 rfl) 2 rfl ?_
    obtain ⟨x3, e_x3, h⟩ := zbd h
    refine zj_iald o (zdd k_M_hide_3 9 rfl) e_x3 ?_
    obtain ⟨σ4, e_σ4, h⟩ := zbd h
    refine zc_V o (zdd k_M_hide_3 10 rfl) ml_M_511 mv_M_lay ⟨rfl, by decide⟩ (zg_some e_σ4).1 (by decide) [.int x3] [] rfl (Nat.le_of_ble_eq_true rfl) rfl (m_M_lay e_σ4) ?_
    change zPJ X 0 0 _ _ [] _
    refine zj_iinc (v := v8 + 1) (loc' := [(8, .int (v8 + 1)), (0, .ref v0), (7, .int v7)]) o (zdd k_M_hide_3 11 rfl) 2 rfl (by rw [zki_1]) (by decide) rfl ?_
    refine zj_goto (tgt := 287) o (zdd k_M_hide_3 12 rfl) (by decide) ?_
    exact zj_sub [1, 2, 0] rfl (hk287 h hr)
def f_M_hide_287L : Nat → zSt → Nat → Int32 → Int32 → Option (Int32 × zSt)
  | 0 => fun _ _ _ _ => none
  | n + 1 => f_M_hide_287  (f_M_hide_287L  n)
theorem r_M_hide_287L {X : zCX} (o : zOK X "WantShelvesModel" c_M_hide n_M_hide 7) : ∀ (n : Nat) {σ : zSt} {v0 : Nat} {v7 : Int32} {v8 : Int32} {z : Int32 × zSt}, f_M_hide_287L n σ v0 v7 v8 = some z → zRX X 0 0 (some (.int z.1)) z.2 → zPJ X 0 0 287 [(0, .ref v0), (7, .int v7), (8, .int v8)] [] σ
  | 0 => fun h _ => by cases h
  | n + 1 => fun h hr => r_M_hide_287 o (r_M_hide_287L o  n) h hr
def f_M_hide_269 (σ : zSt) (v0 : Nat) (v4 : Int32) (v6 : Int32) (v7 : Int32) : Option (Int32 × zSt) :=
if 0 ≤ v6 then (
(f_M_layRow σ v0 v6 v4).bind fun σ1 =>
f_M_hide_287L zfu σ1 v0 v7 0) else
some ((-1), σ)
set_option maxRecDepth 100000 in
set_option maxHeartbeats 4000000 in
theorem r_M_hide_269 {X : zCX} (o : zOK X "WantShelvesModel" c_M_hide n_M_hide 7) {σ : zSt} {v0 : Nat} {v4 : Int32} {v6 : Int32} {v7 : Int32} {z : Int32 × zSt} (h : f_M_hide_269 σ v0 v4 v6 v7 = some z) (hr : zRX X 0 0 (some (.int z.1)) z.2) : zPJ X 0 0 269 [(0, .ref v0), (4, .int v4), (6, .int v6), (7, .int v7)] [] σ := by
  unfold f_M_hide_269 at h
  refine zj_iload o (zdd k_M_hide_2 41 rfl) 2 rfl ?_
  refine zj_if_ge (tgt := 276) o (zdd k_M_hide_2 42 rfl) (by decide) (fun hc => ?_) (fun hc => ?_)
  · rw [if_pos hc] at h
    refine zj_aload_n o (zdd k_M_hide_2 45 rfl) rfl 0 rfl ?_
    refine zj_iload o (zdd k_M_hide_2 46 rfl) 2 rfl ?_
    refine zj_iload o (zdd k_M_hide_2 47 rfl) 1 rfl ?_
    obtain ⟨σ1, e_σ1, h⟩ := zbd h
    refine zc_V o (zdd k_M_hide_2 48 rfl) ml_M_527 mv_M_layRow ⟨rfl, by decide⟩ (zg_some e_σ1).1 (by decide) [.int v6, .int v4] [] rfl (Nat.le_of_ble_eq_true rfl) rfl (m_M_layRow e_σ1) ?_
    change zPJ X 0 0 _ _ [] _
    refine zj_iconst o (zdd k_M_hide_2 49 rfl) zki_0 ?_
    refine zj_istore (loc' := [(8, .int 0), (0, .ref v0), (4, .int v4), (6, .int v6), (7, .int v7)]) o (zdd k_M_hide_3 0 rfl) (by decide) rfl ?_
    exact zj_sub [1, 4, 0] rfl (r_M_hide_287L o  zfu h hr)
  · rw [if_neg hc] at h
    refine zj_iconst o (zdd k_M_hide_2 43 rfl) zki_m1 ?_
    cases h
    exact zr_i o hr (zdd k_M_hide_2 44 rfl)
def f_M_hide_175 (k175 : zSt → Nat → Int32 → Int32 → Int32 → Int32 → Int32 → Option (Int32 × zSt)) (σ : zSt) (v0 : Nat) (v4 : Int32) (v5 : Int32) (v6 : Int32) (v7 : Int32) (v8 : Int32) : Option (Int32 × zSt) :=
if v5 ≤ v8 then (
f_M_hide_269 σ v0 v4 v6 v7) else
(zgP σ 12 v0 65).bind fun a1 =>
(zaI σ 3 a1 v8).bind fun x2 =>
if x2 = 0 then (
k175 σ v0 v4 v5 v6 v7 (v8 + 1)) else
f_M_hide_201L k175 zfu σ v0 v4 v5 v6 v7 v8 0 0
set_option maxRecDepth 100000 in
set_option maxHeartbeats 4000000 in
theorem r_M_hide_175 {X : zCX} (o : zOK X "WantShelvesModel" c_M_hide n_M_hide 7) {k175 : zSt → Nat → Int32 → Int32 → Int32 → Int32 → Int32 → Option (Int32 × zSt)} (hk175 : ∀ {σ : zSt} {v0 : Nat} {v4 : Int32} {v5 : Int32} {v6 : Int32} {v7 : Int32} {v8 : Int32} {z : Int32 × zSt}, k175 σ v0 v4 v5 v6 v7 v8 = some z → zRX X 0 0 (some (.int z.1)) z.2 → zPJ X 0 0 175 [(0, .ref v0), (4, .int v4), (5, .int v5), (6, .int v6), (7, .int v7), (8, .int v8)] [] σ) {σ : zSt} {v0 : Nat} {v4 : Int32} {v5 : Int32} {v6 : Int32} {v7 : Int32} {v8 : Int32} {z : Int32 × zSt} (h : f_M_hide_175 k175 σ v0 v4 v5 v6 v7 v8 = some z) (hr : zRX X 0 0 (some (.int z.1)) z.2) : zPJ X 0 0 175 [(0, .ref v0), (4, .int v4), (5, .int v5), (6, .int v6), (7, .int v7), (8, .int v8)] [] σ := by
  unfold f_M_hide_175 at h
  refine zj_iload o (zdd k_M_hide_1 46 rfl) 5 rfl ?_
  refine zj_iload o (zdd k_M_hide_1 47 rfl) 2 rfl ?_
  refine zj_icmp_ge (tgt := 269) o (zdd k_M_hide_1 48 rfl) (by decide) (fun hc => ?_) (fun hc => ?_)
  · rw [if_pos hc] at h
    exact zj_sub [0, 1, 3, 4] rfl (r_M_hide_269 o  h hr)
  · rw [if_neg hc] at h
    refine zj_aload_n o (zdd k_M_hide_1 49 rfl) rfl 0 rfl ?_
    obtain ⟨a1, e_a1, h⟩ := zbd h
    refine zj_gP o (zdd k_M_hide_2 0 rfl) fl_M_114 rfl e_a1 ?_
    refine zj_iload o (zdd k_M_hide_2 1 rfl) 5 rfl ?_
    obtain ⟨x2, e_x2, h⟩ := zbd h
    refine zj_zald o (zdd k_M_hide_2 2 rfl) e_x2 ?_
    refine zj_if_ne (tgt := 195) o (zdd k_M_hide_2 3 rfl) (by decide) (fun hc => ?_) (fun hc => ?_)
    · rw [if_neg hc] at h
      refine zj_iconst o (zdd k_M_hide_2 5 rfl) zki_0 ?_
      refine zj_istore (loc' := [(9, .int 0), (0, .ref v0), (4, .int v4), (5, .int v5), (6, .int v6), (7, .int v7), (8, .int v8)]) o (zdd k_M_hide_2 6 rfl) (by decide) rfl ?_
      refine zj_iconst o (zdd k_M_hide_2 7 rfl) zki_0 ?_
      refine zj_istore (loc' := [(10, .int 0), (9, .int 0), (0, .ref v0), (4, .int v4), (5, .int v5), (6, .int v6), (7, .int v7), (8, .int v8)]) o (zdd k_M_hide_2 8 rfl) (by decide) rfl ?_
      exact zj_sub [2, 3, 4, 5, 6, 7, 1, 0] rfl (r_M_hide_201L o hk175 zfu h hr)
    · rw [if_pos hc] at h
      refine zj_goto (tgt := 263) o (zdd k_M_hide_2 4 rfl) (by decide) ?_
      refine zj_iinc (v := v8 + 1) (loc' := [(8, .int (v8 + 1)), (0, .ref v0), (4, .int v4), (5, .int v5), (6, .int v6), (7, .int v7)]) o (zdd k_M_hide_2 39 rfl) 5 rfl (by rw [zki_1]) (by decide) rfl ?_
      refine zj_goto (tgt := 175) o (zdd k_M_hide_2 40 rfl) (by decide) ?_
      exact zj_sub [1, 2, 3, 4, 5, 0] rfl (hk175 h hr)
def f_M_hide_175L : Nat → zSt → Nat → Int32 → Int32 → Int32 → Int32 → Int32 → Option (Int32 × zSt)
  | 0 => fun _ _ _ _ _ _ _ => none
  | n + 1 => f_M_hide_175  (f_M_hide_175L  n)
theorem r_M_hide_175L {X : zCX} (o : zOK X "WantShelvesModel" c_M_hide n_M_hide 7) : ∀ (n : Nat) {σ : zSt} {v0 : Nat} {v4 : Int32} {v5 : Int32} {v6 : Int32} {v7 : Int32} {v8 : Int32} {z : Int32 × zSt}, f_M_hide_175L n σ v0 v4 v5 v6 v7 v8 = some z → zRX X 0 0 (some (.int z.1)) z.2 → zPJ X 0 0 175 [(0, .ref v0), (4, .int v4), (5, .int v5), (6, .int v6), (7, .int v7), (8, .int v8)] [] σ
  | 0 => fun h _ => by cases h
  | n + 1 => fun h hr => r_M_hide_175 o (r_M_hide_175L o  n) h hr
def f_M_hide_166 (σ : zSt) (v0 : Nat) (v4 : Int32) (v5 : Int32) : Option (Int32 × zSt) :=
f_M_hide_175L zfu σ v0 v4 v5 (-1) 0 0
set_option maxRecDepth 100000 in
set_option maxHeartbeats 4000000 in
theorem r_M_hide_166 {X : zCX} (o : zOK X "WantShelvesModel" c_M_hide n_M_hide 7) {σ : zSt} {v0 : Nat} {v4 : Int32} {v5 : Int32} {z : Int32 × zSt} (h : f_M_hide_166 σ v0 v4 v5 = some z) (hr : zRX X 0 0 (some (.int z.1)) z.2) : zPJ X 0 0 166 [(0, .ref v0), (4, .int v4), (5, .int v5)] [] σ := by
  unfold f_M_hide_166 at h
  refine zj_iconst o (zdd k_M_hide_1 40 rfl) zki_m1 ?_
  refine zj_istore (loc' := [(6, .int (-1)), (0, .ref v0), (4, .int v4), (5, .int v5)]) o (zdd k_M_hide_1 41 rfl) (by decide) rfl ?_
  refine zj_iconst o (zdd k_M_hide_1 42 rfl) zki_0 ?_
  refine zj_istore (loc' := [(7, .int 0), (6, .int (-1)), (0, .ref v0), (4, .int v4), (5, .int v5)]) o (zdd k_M_hide_1 43 rfl) (by decide) rfl ?_
  refine zj_iconst o (zdd k_M_hide_1 44 rfl) zki_0 ?_
  refine zj_istore (loc' := [(8, .int 0), (7, .int 0), (6, .int (-1)), (0, .ref v0), (4, .int v4), (5, .int v5)]) o (zdd k_M_hide_1 45 rfl) (by decide) rfl ?_
  exact zj_sub [3, 4, 5, 2, 1, 0] rfl (r_M_hide_175L o  zfu h hr)
def f_M_hide_62 (k62 : zSt → Nat → Int32 → Int32 → Int32 → Int32 → Int32 → Int32 → Option (Int32 × zSt)) (σ : zSt) (v0 : Nat) (v1 : Int32) (v2 : Int32) (v3 : Int32) (v4 : Int32) (v5 : Int32) (v6 : Int32) : Option (Int32 × zSt) :=
if v5 ≤ v6 then (
f_M_hide_166 σ v0 v4 v5) else
(f_M_layByRow σ v0 v1 v6 v4).bind fun σ1 =>
(f_M_layOrder σ1 v0 (1 <<< (v1 &&& 31))).bind fun σ2 =>
(zgP σ2 12 v0 64).bind fun a3 =>
(zwJ σ2 a3 v6 0).bind fun σ4 =>
f_M_hide_96L k62 zfu σ4 v0 v1 v2 v3 v4 v5 v6 0
set_option maxRecDepth 100000 in
set_option maxHeartbeats 4000000 in
theorem r_M_hide_62 {X : zCX} (o : zOK X "WantShelvesModel" c_M_hide n_M_hide 7) {k62 : zSt → Nat → Int32 → Int32 → Int32 → Int32 → Int32 → Int32 → Option (Int32 × zSt)} (hk62 : ∀ {σ : zSt} {v0 : Nat} {v1 : Int32} {v2 : Int32} {v3 : Int32} {v4 : Int32} {v5 : Int32} {v6 : Int32} {z : Int32 × zSt}, k62 σ v0 v1 v2 v3 v4 v5 v6 = some z → zRX X 0 0 (some (.int z.1)) z.2 → zPJ X 0 0 62 [(0, .ref v0), (1, .int v1), (2, .int v2), (3, .int v3), (4, .int v4), (5, .int v5), (6, .int v6)] [] σ) {σ : zSt} {v0 : Nat} {v1 : Int32} {v2 : Int32} {v3 : Int32} {v4 : Int32} {v5 : Int32} {v6 : Int32} {z : Int32 × zSt} (h : f_M_hide_62 k62 σ v0 v1 v2 v3 v4 v5 v6 = some z) (hr : zRX X 0 0 (some (.int z.1)) z.2) : zPJ X 0 0 62 [(0, .ref v0), (1, .int v1), (2, .int v2), (3, .int v3), (4, .int v4), (5, .int v5), (6, .int v6)] [] σ := by
  unfold f_M_hide_62 at h
  refine zj_iload o (zdd k_M_hide_0 33 rfl) 6 rfl ?_
  refine zj_iload o (zdd k_M_hide_0 34 rfl) 5 rfl ?_
  refine zj_icmp_ge (tgt := 166) o (zdd k_M_hide_0 35 rfl) (by decide) (fun hc => ?_) (fun hc => ?_)
  · rw [if_pos hc] at h
    exact zj_sub [0, 4, 5] rfl (r_M_hide_166 o  h hr)
  · rw [if_neg hc] at h
    refine zj_aload_n o (zdd k_M_hide_0 36 rfl) rfl 0 rfl ?_
    refine zj_iload_n o (zdd k_M_hide_0 37 rfl) rfl 1 rfl ?_
    refine zj_iload o (zdd k_M_hide_0 38 rfl) 6 rfl ?_
    refine zj_iload o (zdd k_M_hide_0 39 rfl) 4 rfl ?_
    obtain ⟨σ1, e_σ1, h⟩ := zbd h
    refine zc_V o (zdd k_M_hide_0 40 rfl) ml_M_533 mv_M_layByRow ⟨rfl, by decide⟩ (zg_some e_σ1).1 (by decide) [.int v1, .int v6, .int v4] [] rfl (Nat.le_of_ble_eq_true rfl) rfl (m_M_layByRow e_σ1) ?_
    change zPJ X 0 0 _ _ [] _
    refine zj_aload_n o (zdd k_M_hide_0 41 rfl) rfl 0 rfl ?_
    refine zj_iconst o (zdd k_M_hide_0 42 rfl) zki_1 ?_
    refine zj_iload_n o (zdd k_M_hide_0 43 rfl) rfl 1 rfl ?_
    refine zj_ishl o (zdd k_M_hide_0 44 rfl) ?_
    obtain ⟨σ2, e_σ2, h⟩ := zbd h
    refine zc_V o (zdd k_M_hide_0 45 rfl) ml_M_493 mv_M_layOrder ⟨rfl, by decide⟩ (zg_some e_σ2).1 (by decide) [.int (1 <<< (v1 &&& 31))] [] rfl (Nat.le_of_ble_eq_true rfl) rfl (m_M_layOrder e_σ2) ?_
    change zPJ X 0 0 _ _ [] _
    refine zj_aload_n o (zdd k_M_hide_0 46 rfl) rfl 0 rfl ?_
    obtain ⟨a3, e_a3, h⟩ := zbd h
    refine zj_gP o (zdd k_M_hide_0 47 rfl) fl_M_111 rfl e_a3 ?_
    refine zj_iload o (zdd k_M_hide_0 48 rfl) 6 rfl ?_
    refine zj_lconst (v := 0) o (zdd k_M_hide_0 49 rfl) rfl ?_
    obtain ⟨σ4, e_σ4, h⟩ := zbd h
    refine zj_last o (zdd k_M_hide_1 0 rfl) e_σ4 ?_
    refine zj_iconst o (zdd k_M_hide_1 1 rfl) zki_0 ?_
    refine zj_istore (loc' := [(7, .int 0), (0, .ref v0), (1, .int v1), (2, .int v2), (3, .int v3), (4, .int v4), (5, .int v5), (6, .int v6)]) o (zdd k_M_hide_1 2 rfl) (by decide) rfl ?_
    exact zj_sub [1, 2, 3, 4, 5, 6, 7, 0] rfl (r_M_hide_96L o hk62 zfu h hr)
def f_M_hide_62L : Nat → zSt → Nat → Int32 → Int32 → Int32 → Int32 → Int32 → Int32 → Option (Int32 × zSt)
  | 0 => fun _ _ _ _ _ _ _ _ => none
  | n + 1 => f_M_hide_62  (f_M_hide_62L  n)
theorem r_M_hide_62L {X : zCX} (o : zOK X "WantShelvesModel" c_M_hide n_M_hide 7) : ∀ (n : Nat) {σ : zSt} {v0 : Nat} {v1 : Int32} {v2 : Int32} {v3 : Int32} {v4 : Int32} {v5 : Int32} {v6 : Int32} {z : Int32 × zSt}, f_M_hide_62L n σ v0 v1 v2 v3 v4 v5 v6 = some z → zRX X 0 0 (some (.int z.1)) z.2 → zPJ X 0 0 62 [(0, .ref v0), (1, .int v1), (2, .int v2), (3, .int v3), (4, .int v4), (5, .int v5), (6, .int v6)] [] σ
  | 0 => fun h _ => by cases h
  | n + 1 => fun h hr => r_M_hide_62 o (r_M_hide_62L o  n) h hr
def f_M_hide (σ : zSt) (t : Nat) (p0 : Int32) (p1 : Int32) (p2 : Int32) (p3 : Int32) : Option (Int32 × zSt) :=
zg σ 12 t (
(zsI σ 12 t 59 0).bind fun σ1 =>
(f_M_isReader σ1 t p0).bind fun x2 =>
if x2 = 0 then (
some ((-1), σ1)) else
(f_M_isBook σ1 t p1).bind fun x3 =>
if x3 = 0 then (
some ((-1), σ1)) else
(f_M_isOut σ1 t p1).bind fun x4 =>
if x4 = 0 then (
(f_M_isIn p2 0 9).bind fun x5 =>
if x5 = 0 then (
some ((-1), σ1)) else
(f_M_isIn p3 1 2).bind fun x6 =>
if x6 = 0 then (
some ((-1), σ1)) else
(f_M_rows σ1 t p3).bind fun x7 =>
f_M_hide_62L zfu σ1 t p0 p1 p2 p3 x7 0) else
some ((-1), σ1))
set_option maxRecDepth 100000 in
set_option maxHeartbeats 4000000 in
theorem m_M_hide {l : Launch} {b : Nat} {ex : Nat → Value} {D : va_G} {ca : Nat → ClassId} {σ : zSt} {t : Nat} {p0 : Int32} {p1 : Int32} {p2 : Int32} {p3 : Int32} {z : Int32 × zSt} (h : f_M_hide σ t p0 p1 p2 p3 = some z) : zMT l b ex D ca 7 y_M_hide c_M_hide n_M_hide r_ret_M_hide [.ref t, .int p0, .int p1, .int p2, .int p3] σ (some (.int z.1)) z.2 0 0 := by
  obtain ⟨_, hg0⟩ := zg_some h
  have h := hg0
  refine zmt_of (by decide) (Nat.le_of_ble_eq_true rfl) ⟨.int, rfl, rfl⟩ (fun X o hin hrm _ _ _ _ _ hr => ?_)
  have hr := hr 0 0 (by decide) (by decide)
  have o : zOK X "WantShelvesModel" c_M_hide n_M_hide 7 := o
  change zPJ X 0 0 0 [(0, .ref t), (1, .int p0), (2, .int p1), (3, .int p2), (4, .int p3)] [] σ
  refine zj_aload_n o (zdd k_M_hide_0 0 rfl) rfl 0 rfl ?_
  refine zj_iconst o (zdd k_M_hide_0 1 rfl) zki_0 ?_
  obtain ⟨σ1, e_σ1, h⟩ := zbd h
  refine zj_pI o (zdd k_M_hide_0 2 rfl) fl_M_422 rfl rfl e_σ1 ?_
  refine zj_aload_n o (zdd k_M_hide_0 3 rfl) rfl 0 rfl ?_
  refine zj_iload_n o (zdd k_M_hide_0 4 rfl) rfl 1 rfl ?_
  obtain ⟨x2, e_x2, h⟩ := zbd h
  refine zc_V o (zdd k_M_hide_0 5 rfl) ml_M_441 mv_M_isReader ⟨rfl, by decide⟩ (zg_some e_x2).1 (by decide) [.int p0] [] rfl (Nat.le_of_ble_eq_true rfl) rfl (m_M_isReader e_x2) ?_
  change zPJ X 0 0 _ _ [.int x2] _
  refine zj_if_eq (tgt := 49) o (zdd k_M_hide_0 6 rfl) (by decide) (fun hc => ?_) (fun hc => ?_)
  · rw [if_pos hc] at h
    refine zj_iconst o (zdd k_M_hide_0 25 rfl) zki_m1 ?_
    cases h
    exact zr_i o hr (zdd k_M_hide_0 26 rfl)
  · rw [if_neg hc] at h
    refine zj_aload_n o (zdd k_M_hide_0 7 rfl) rfl 0 rfl ?_
    refine zj_iload_n o (zdd k_M_hide_0 8 rfl) rfl 2 rfl ?_
    obtain ⟨x3, e_x3, h⟩ := zbd h
    refine zc_V o (zdd k_M_hide_0 9 rfl) ml_M_435 mv_M_isBook ⟨rfl, by decide⟩ (zg_some e_x3).1 (by decide) [.int p1] [] rfl (Nat.le_of_ble_eq_true rfl) rfl (m_M_isBook e_x3) ?_
    change zPJ X 0 0 _ _ [.int x3] _
    refine zj_if_eq (tgt := 49) o (zdd k_M_hide_0 10 rfl) (by decide) (fun hc => ?_) (fun hc => ?_)
    · rw [if_pos hc] at h
      refine zj_iconst o (zdd k_M_hide_0 25 rfl) zki_m1 ?_
      cases h
      exact zr_i o hr (zdd k_M_hide_0 26 rfl)
    · rw [if_neg hc] at h
      refine zj_aload_n o (zdd k_M_hide_0 11 rfl) rfl 0 rfl ?_
      refine zj_iload_n o (zdd k_M_hide_0 12 rfl) rfl 2 rfl ?_
      obtain ⟨x4, e_x4, h⟩ := zbd h
      refine zc_V o (zdd k_M_hide_0 13 rfl) ml_M_463 mv_M_isOut ⟨rfl, by decide⟩ (zg_some e_x4).1 (by decide) [.int p1] [] rfl (Nat.le_of_ble_eq_true rfl) rfl (m_M_isOut e_x4) ?_
      change zPJ X 0 0 _ _ [.int x4] _
      refine zj_if_ne (tgt := 49) o (zdd k_M_hide_0 14 rfl) (by decide) (fun hc => ?_) (fun hc => ?_)
      · rw [if_neg hc] at h
        refine zj_iconst o (zdd k_M_hide_0 25 rfl) zki_m1 ?_
        cases h
        exact zr_i o hr (zdd k_M_hide_0 26 rfl)
      · rw [if_pos hc] at h
        refine zj_iload_n o (zdd k_M_hide_0 15 rfl) rfl 3 rfl ?_
        refine zj_iconst o (zdd k_M_hide_0 16 rfl) zki_0 ?_
        refine zj_bipush o (zdd k_M_hide_0 17 rfl) zkb_9 ?_
        obtain ⟨x5, e_x5, h⟩ := zbd h
        refine zc_S o (zdd k_M_hide_0 18 rfl) ml_M_425 ms_M_isIn (by decide) [.int p2, .int 0, .int 9] [] rfl (Nat.le_of_ble_eq_true rfl) rfl (m_M_isIn e_x5) ?_
        change zPJ X 0 0 _ _ [.int x5] _
        refine zj_if_eq (tgt := 49) o (zdd k_M_hide_0 19 rfl) (by decide) (fun hc => ?_) (fun hc => ?_)
        · rw [if_pos hc] at h
          refine zj_iconst o (zdd k_M_hide_0 25 rfl) zki_m1 ?_
          cases h
          exact zr_i o hr (zdd k_M_hide_0 26 rfl)
        · rw [if_neg hc] at h
          refine zj_iload o (zdd k_M_hide_0 20 rfl) 4 rfl ?_
          refine zj_iconst o (zdd k_M_hide_0 21 rfl) zki_1 ?_
          refine zj_iconst o (zdd k_M_hide_0 22 rfl) zki_2 ?_
          obtain ⟨x6, e_x6, h⟩ := zbd h
          refine zc_S o (zdd k_M_hide_0 23 rfl) ml_M_425 ms_M_isIn (by decide) [.int p3, .int 1, .int 2] [] rfl (Nat.le_of_ble_eq_true rfl) rfl (m_M_isIn e_x6) ?_
          change zPJ X 0 0 _ _ [.int x6] _
          refine zj_if_ne (tgt := 51) o (zdd k_M_hide_0 24 rfl) (by decide) (fun hc => ?_) (fun hc => ?_)
          · rw [if_neg hc] at h
            refine zj_aload_n o (zdd k_M_hide_0 27 rfl) rfl 0 rfl ?_
            refine zj_iload o (zdd k_M_hide_0 28 rfl) 4 rfl ?_
            obtain ⟨x7, e_x7, h⟩ := zbd h
            refine zc_V o (zdd k_M_hide_0 29 rfl) ml_M_530 mv_M_rows ⟨rfl, by decide⟩ (zg_some e_x7).1 (by decide) [.int p3] [] rfl (Nat.le_of_ble_eq_true rfl) rfl (m_M_rows e_x7) ?_
            change zPJ X 0 0 _ _ [.int x7] _
            refine zj_istore (loc' := [(5, .int x7), (0, .ref t), (1, .int p0), (2, .int p1), (3, .int p2), (4, .int p3)]) o (zdd k_M_hide_0 30 rfl) (by decide) rfl ?_
            refine zj_iconst o (zdd k_M_hide_0 31 rfl) zki_0 ?_
            refine zj_istore (loc' := [(6, .int 0), (5, .int x7), (0, .ref t), (1, .int p0), (2, .int p1), (3, .int p2), (4, .int p3)]) o (zdd k_M_hide_0 32 rfl) (by decide) rfl ?_
            exact zj_sub [2, 3, 4, 5, 6, 1, 0] rfl (r_M_hide_62L o  zfu h hr)
          · rw [if_pos hc] at h
            refine zj_iconst o (zdd k_M_hide_0 25 rfl) zki_m1 ?_
            cases h
            exact zr_i o hr (zdd k_M_hide_0 26 rfl)
def f_M_isPair (σ : zSt) (t : Nat) (p0 : Int32) (p1 : Int32) (p2 : Int32) : Option (Int32) :=
zg σ 12 t (
((f_M_isReader σ t p0).bind fun x1 =>
if x1 = 0 then (
some 0) else
(f_M_isReader σ t p1).bind fun x2 =>
if x2 = 0 then (
some 0) else
if p0 = p1 then (
some 0) else
(f_M_isIn p2 1 2).bind fun x3 =>
if x3 = 0 then (
some 0) else
(zgP σ 12 t 49).bind fun a4 =>
(zaI σ 1 a4 31).bind fun x5 =>
(f_M_members x5).bind fun x6 =>
(zgI σ 12 t 42).bind fun x7 =>
if x7 ≤ x6 then (
some 0) else
some 1).bind zbool)
set_option maxRecDepth 100000 in
set_option maxHeartbeats 4000000 in
theorem m_M_isPair {l : Launch} {b : Nat} {ex : Nat → Value} {D : va_G} {ca : Nat → ClassId} {σ : zSt} {t : Nat} {p0 : Int32} {p1 : Int32} {p2 : Int32} {z : Int32} (h : f_M_isPair σ t p0 p1 p2 = some z) : zMT l b ex D ca 3 y_M_isPair c_M_isPair n_M_isPair r_ret_M_isPair [.ref t, .int p0, .int p1, .int p2] σ (some (.int z)) σ 0 0 := by
  obtain ⟨_, hg0⟩ := zg_some h
  obtain ⟨z0, hbd, hz⟩ := zbd hg0
  obtain ⟨hzb, rfl⟩ := zbool_some hz
  have h := hbd
  refine zmt_of (by decide) (Nat.le_of_ble_eq_true rfl) ⟨.boolean, rfl, zb_nar hzb⟩ (fun X o hin hrm _ _ _ _ _ hr => ?_)
  have hr := hr 0 0 (by decide) (by decide)
  have o : zOK X "WantShelvesModel" c_M_isPair n_M_isPair 3 := o
  change zPJ X 0 0 0 [(0, .ref t), (1, .int p0), (2, .int p1), (3, .int p2)] [] σ
  refine zj_aload_n o (zdd k_M_isPair 0 rfl) rfl 0 rfl ?_
  refine zj_iload_n o (zdd k_M_isPair 1 rfl) rfl 1 rfl ?_
  obtain ⟨x1, e_x1, h⟩ := zbd h
  refine zc_V o (zdd k_M_isPair 2 rfl) ml_M_441 mv_M_isReader ⟨rfl, by decide⟩ (zg_some e_x1).1 (by decide) [.int p0] [] rfl (Nat.le_of_ble_eq_true rfl) rfl (m_M_isReader e_x1) ?_
  change zPJ X 0 0 _ _ [.int x1] _
  refine zj_if_eq (tgt := 51) o (zdd k_M_isPair 3 rfl) (by decide) (fun hc => ?_) (fun hc => ?_)
  · rw [if_pos hc] at h
    refine zj_iconst o (zdd k_M_isPair 26 rfl) zki_0 ?_
    cases h
    exact zr_i o hr (zdd k_M_isPair 27 rfl)
  · rw [if_neg hc] at h
    refine zj_aload_n o (zdd k_M_isPair 4 rfl) rfl 0 rfl ?_
    refine zj_iload_n o (zdd k_M_isPair 5 rfl) rfl 2 rfl ?_
    obtain ⟨x2, e_x2, h⟩ := zbd h
    refine zc_V o (zdd k_M_isPair 6 rfl) ml_M_441 mv_M_isReader ⟨rfl, by decide⟩ (zg_some e_x2).1 (by decide) [.int p1] [] rfl (Nat.le_of_ble_eq_true rfl) rfl (m_M_isReader e_x2) ?_
    change zPJ X 0 0 _ _ [.int x2] _
    refine zj_if_eq (tgt := 51) o (zdd k_M_isPair 7 rfl) (by decide) (fun hc => ?_) (fun hc => ?_)
    · rw [if_pos hc] at h
      refine zj_iconst o (zdd k_M_isPair 26 rfl) zki_0 ?_
      cases h
      exact zr_i o hr (zdd k_M_isPair 27 rfl)
    · rw [if_neg hc] at h
      refine zj_iload_n o (zdd k_M_isPair 8 rfl) rfl 1 rfl ?_
      refine zj_iload_n o (zdd k_M_isPair 9 rfl) rfl 2 rfl ?_
      refine zj_icmp_eq (tgt := 51) o (zdd k_M_isPair 10 rfl) (by decide) (fun hc => ?_) (fun hc => ?_)
      · rw [if_pos hc] at h
        refine zj_iconst o (zdd k_M_isPair 26 rfl) zki_0 ?_
        cases h
        exact zr_i o hr (zdd k_M_isPair 27 rfl)
      · rw [if_neg hc] at h
        refine zj_iload_n o (zdd k_M_isPair 11 rfl) rfl 3 rfl ?_
        refine zj_iconst o (zdd k_M_isPair 12 rfl) zki_1 ?_
        refine zj_iconst o (zdd k_M_isPair 13 rfl) zki_2 ?_
        obtain ⟨x3, e_x3, h⟩ := zbd h
        refine zc_S o (zdd k_M_isPair 14 rfl) ml_M_425 ms_M_isIn (by decide) [.int p2, .int 1, .int 2] [] rfl (Nat.le_of_ble_eq_true rfl) rfl (m_M_isIn e_x3) ?_
        change zPJ X 0 0 _ _ [.int x3] _
        refine zj_if_eq (tgt := 51) o (zdd k_M_isPair 15 rfl) (by decide) (fun hc => ?_) (fun hc => ?_)
        · rw [if_pos hc] at h
          refine zj_iconst o (zdd k_M_isPair 26 rfl) zki_0 ?_
          cases h
          exact zr_i o hr (zdd k_M_isPair 27 rfl)
        · rw [if_neg hc] at h
          refine zj_aload_n o (zdd k_M_isPair 16 rfl) rfl 0 rfl ?_
          obtain ⟨a4, e_a4, h⟩ := zbd h
          refine zj_gP o (zdd k_M_isPair 17 rfl) fl_M_78 rfl e_a4 ?_
          refine zj_bipush o (zdd k_M_isPair 18 rfl) zkb_31 ?_
          obtain ⟨x5, e_x5, h⟩ := zbd h
          refine zj_iald o (zdd k_M_isPair 19 rfl) e_x5 ?_
          obtain ⟨x6, e_x6, h⟩ := zbd h
          refine zc_S o (zdd k_M_isPair 20 rfl) ml_M_515 ms_M_members (by decide) [.int x5] [] rfl (Nat.le_of_ble_eq_true rfl) rfl (m_M_members e_x6) ?_
          change zPJ X 0 0 _ _ [.int x6] _
          refine zj_aload_n o (zdd k_M_isPair 21 rfl) rfl 0 rfl ?_
          obtain ⟨x7, e_x7, h⟩ := zbd h
          refine zj_gI o (zdd k_M_isPair 22 rfl) fl_M_391 rfl e_x7 ?_
          refine zj_icmp_ge (tgt := 51) o (zdd k_M_isPair 23 rfl) (by decide) (fun hc => ?_) (fun hc => ?_)
          · rw [if_pos hc] at h
            refine zj_iconst o (zdd k_M_isPair 26 rfl) zki_0 ?_
            cases h
            exact zr_i o hr (zdd k_M_isPair 27 rfl)
          · rw [if_neg hc] at h
            refine zj_iconst o (zdd k_M_isPair 24 rfl) zki_1 ?_
            refine zj_goto (tgt := 52) o (zdd k_M_isPair 25 rfl) (by decide) ?_
            cases h
            exact zr_i o hr (zdd k_M_isPair 27 rfl)
def f_M_ownBook (σ : zSt) (t : Nat) (p0 : Int32) : Option (Int32 × zSt) :=
zg σ 12 t (
(f_M_layOwn σ t p0).bind fun σ1 =>
(f_M_layOrder σ1 t (1 <<< (p0 &&& 31))).bind fun σ2 =>
(zgP σ2 12 t 52).bind fun a3 =>
(zaI σ2 1 a3 0).bind fun x4 =>
some (x4, σ2))
set_option maxRecDepth 100000 in
set_option maxHeartbeats 4000000 in
theorem m_M_ownBook {l : Launch} {b : Nat} {ex : Nat → Value} {D : va_G} {ca : Nat → ClassId} {σ : zSt} {t : Nat} {p0 : Int32} {z : Int32 × zSt} (h : f_M_ownBook σ t p0 = some z) : zMT l b ex D ca 7 y_M_ownBook c_M_ownBook n_M_ownBook r_ret_M_ownBook [.ref t, .int p0] σ (some (.int z.1)) z.2 0 0 := by
  obtain ⟨_, hg0⟩ := zg_some h
  have h := hg0
  refine zmt_of (by decide) (Nat.le_of_ble_eq_true rfl) ⟨.int, rfl, rfl⟩ (fun X o hin hrm _ _ _ _ _ hr => ?_)
  have hr := hr 0 0 (by decide) (by decide)
  have o : zOK X "WantShelvesModel" c_M_ownBook n_M_ownBook 7 := o
  change zPJ X 0 0 0 [(0, .ref t), (1, .int p0)] [] σ
  refine zj_aload_n o (zdd k_M_ownBook 0 rfl) rfl 0 rfl ?_
  refine zj_iload_n o (zdd k_M_ownBook 1 rfl) rfl 1 rfl ?_
  obtain ⟨σ1, e_σ1, h⟩ := zbd h
  refine zc_V o (zdd k_M_ownBook 2 rfl) ml_M_457 mv_M_layOwn ⟨rfl, by decide⟩ (zg_some e_σ1).1 (by decide) [.int p0] [] rfl (Nat.le_of_ble_eq_true rfl) rfl (m_M_layOwn e_σ1) ?_
  change zPJ X 0 0 _ _ [] _
  refine zj_aload_n o (zdd k_M_ownBook 3 rfl) rfl 0 rfl ?_
  refine zj_iconst o (zdd k_M_ownBook 4 rfl) zki_1 ?_
  refine zj_iload_n o (zdd k_M_ownBook 5 rfl) rfl 1 rfl ?_
  refine zj_ishl o (zdd k_M_ownBook 6 rfl) ?_
  obtain ⟨σ2, e_σ2, h⟩ := zbd h
  refine zc_V o (zdd k_M_ownBook 7 rfl) ml_M_493 mv_M_layOrder ⟨rfl, by decide⟩ (zg_some e_σ2).1 (by decide) [.int (1 <<< (p0 &&& 31))] [] rfl (Nat.le_of_ble_eq_true rfl) rfl (m_M_layOrder e_σ2) ?_
  change zPJ X 0 0 _ _ [] _
  refine zj_aload_n o (zdd k_M_ownBook 8 rfl) rfl 0 rfl ?_
  obtain ⟨a3, e_a3, h⟩ := zbd h
  refine zj_gP o (zdd k_M_ownBook 9 rfl) fl_M_87 rfl e_a3 ?_
  refine zj_iconst o (zdd k_M_ownBook 10 rfl) zki_0 ?_
  obtain ⟨x4, e_x4, h⟩ := zbd h
  refine zj_iald o (zdd k_M_ownBook 11 rfl) e_x4 ?_
  cases h
  exact zr_i o hr (zdd k_M_ownBook 12 rfl)
def f_M_stepsBoth (σ : zSt) (t : Nat) (p0 : Int32) (p1 : Int32) (p2 : Int32) : Option (Int32 × zSt) :=
zg σ 12 t (
(f_M_layOrder σ t ((1 <<< (p0 &&& 31)) ||| (1 <<< (p1 &&& 31)))).bind fun σ1 =>
(zgP σ1 12 t 53).bind fun a2 =>
(zaI σ1 1 a2 p2).bind fun x3 =>
(f_M_stepsTo σ1 t x3).bind fun x4 =>
some (x4, σ1))
set_option maxRecDepth 100000 in
set_option maxHeartbeats 4000000 in
theorem m_M_stepsBoth {l : Launch} {b : Nat} {ex : Nat → Value} {D : va_G} {ca : Nat → ClassId} {σ : zSt} {t : Nat} {p0 : Int32} {p1 : Int32} {p2 : Int32} {z : Int32 × zSt} (h : f_M_stepsBoth σ t p0 p1 p2 = some z) : zMT l b ex D ca 5 y_M_stepsBoth c_M_stepsBoth n_M_stepsBoth r_ret_M_stepsBoth [.ref t, .int p0, .int p1, .int p2] σ (some (.int z.1)) z.2 0 0 := by
  obtain ⟨_, hg0⟩ := zg_some h
  have h := hg0
  refine zmt_of (by decide) (Nat.le_of_ble_eq_true rfl) ⟨.int, rfl, rfl⟩ (fun X o hin hrm _ _ _ _ _ hr => ?_)
  have hr := hr 0 0 (by decide) (by decide)
  have o : zOK X "WantShelvesModel" c_M_stepsBoth n_M_stepsBoth 5 := o
  change zPJ X 0 0 0 [(0, .ref t), (1, .int p0), (2, .int p1), (3, .int p2)] [] σ
  refine zj_aload_n o (zdd k_M_stepsBoth 0 rfl) rfl 0 rfl ?_
  refine zj_iconst o (zdd k_M_stepsBoth 1 rfl) zki_1 ?_
  refine zj_iload_n o (zdd k_M_stepsBoth 2 rfl) rfl 1 rfl ?_
  refine zj_ishl o (zdd k_M_stepsBoth 3 rfl) ?_
  refine zj_iconst o (zdd k_M_stepsBoth 4 rfl) zki_1 ?_
  refine zj_iload_n o (zdd k_M_stepsBoth 5 rfl) rfl 2 rfl ?_
  refine zj_ishl o (zdd k_M_stepsBoth 6 rfl) ?_
  refine zj_ior o (zdd k_M_stepsBoth 7 rfl) ?_
  obtain ⟨σ1, e_σ1, h⟩ := zbd h
  refine zc_V o (zdd k_M_stepsBoth 8 rfl) ml_M_493 mv_M_layOrder ⟨rfl, by decide⟩ (zg_some e_σ1).1 (by decide) [.int ((1 <<< (p0 &&& 31)) ||| (1 <<< (p1 &&& 31)))] [] rfl (Nat.le_of_ble_eq_true rfl) rfl (m_M_layOrder e_σ1) ?_
  change zPJ X 0 0 _ _ [] _
  refine zj_aload_n o (zdd k_M_stepsBoth 9 rfl) rfl 0 rfl ?_
  refine zj_aload_n o (zdd k_M_stepsBoth 10 rfl) rfl 0 rfl ?_
  obtain ⟨a2, e_a2, h⟩ := zbd h
  refine zj_gP o (zdd k_M_stepsBoth 11 rfl) fl_M_90 rfl e_a2 ?_
  refine zj_iload_n o (zdd k_M_stepsBoth 12 rfl) rfl 3 rfl ?_
  obtain ⟨x3, e_x3, h⟩ := zbd h
  refine zj_iald o (zdd k_M_stepsBoth 13 rfl) e_x3 ?_
  obtain ⟨x4, e_x4, h⟩ := zbd h
  refine zc_V o (zdd k_M_stepsBoth 14 rfl) ml_M_496 mv_M_stepsTo ⟨rfl, by decide⟩ (zg_some e_x4).1 (by decide) [.int x3] [] rfl (Nat.le_of_ble_eq_true rfl) rfl (m_M_stepsTo e_x4) ?_
  change zPJ X 0 0 _ _ [.int x4] _
  cases h
  exact zr_i o hr (zdd k_M_stepsBoth 15 rfl)
def f_M_layBestRow_15 (k15 : zSt → Nat → Int32 → Int32 → Int32 → Int32 → Int32 → Option (zSt)) (σ : zSt) (v0 : Nat) (v1 : Int32) (v2 : Int32) (v3 : Int32) (v4 : Int32) (v5 : Int32) : Option (zSt) :=
(f_M_rows σ v0 v4).bind fun x1 =>
if x1 ≤ v5 then (
some σ) else
(f_M_layByRow σ v0 v1 v5 v4).bind fun σ2 =>
(f_M_stepsBoth σ2 v0 v1 v2 v3).bind fun q3 =>
(zgI q3.2 12 v0 67).bind fun x4 =>
if q3.1 < x4 then (
(zsI q3.2 12 v0 66 v5).bind fun σ5 =>
(zsI σ5 12 v0 67 q3.1).bind fun σ6 =>
k15 σ6 v0 v1 v2 v3 v4 (v5 + 1)) else
k15 q3.2 v0 v1 v2 v3 v4 (v5 + 1)
set_option maxRecDepth 100000 in
set_option maxHeartbeats 4000000 in
theorem r_M_layBestRow_15 {X : zCX} (o : zOK X "WantShelvesModel" c_M_layBestRow n_M_layBestRow 7) {k15 : zSt → Nat → Int32 → Int32 → Int32 → Int32 → Int32 → Option (zSt)} (hk15 : ∀ {σ : zSt} {v0 : Nat} {v1 : Int32} {v2 : Int32} {v3 : Int32} {v4 : Int32} {v5 : Int32} {z : zSt}, k15 σ v0 v1 v2 v3 v4 v5 = some z → zRX X 0 0 none z → zPJ X 0 0 15 [(0, .ref v0), (1, .int v1), (2, .int v2), (3, .int v3), (4, .int v4), (5, .int v5)] [] σ) {σ : zSt} {v0 : Nat} {v1 : Int32} {v2 : Int32} {v3 : Int32} {v4 : Int32} {v5 : Int32} {z : zSt} (h : f_M_layBestRow_15 k15 σ v0 v1 v2 v3 v4 v5 = some z) (hr : zRX X 0 0 none z) : zPJ X 0 0 15 [(0, .ref v0), (1, .int v1), (2, .int v2), (3, .int v3), (4, .int v4), (5, .int v5)] [] σ := by
  unfold f_M_layBestRow_15 at h
  refine zj_iload o (zdd k_M_layBestRow 8 rfl) 5 rfl ?_
  refine zj_aload_n o (zdd k_M_layBestRow 9 rfl) rfl 0 rfl ?_
  refine zj_iload o (zdd k_M_layBestRow 10 rfl) 4 rfl ?_
  obtain ⟨x1, e_x1, h⟩ := zbd h
  refine zc_V o (zdd k_M_layBestRow 11 rfl) ml_M_530 mv_M_rows ⟨rfl, by decide⟩ (zg_some e_x1).1 (by decide) [.int v4] [.int v5] rfl (Nat.le_of_ble_eq_true rfl) rfl (m_M_rows e_x1) ?_
  change zPJ X 0 0 _ _ [.int x1, .int v5] _
  refine zj_icmp_ge (tgt := 74) o (zdd k_M_layBestRow 12 rfl) (by decide) (fun hc => ?_) (fun hc => ?_)
  · rw [if_pos hc] at h
    cases h
    exact zr_v o hr (zdd k_M_layBestRow 37 rfl)
  · rw [if_neg hc] at h
    refine zj_aload_n o (zdd k_M_layBestRow 13 rfl) rfl 0 rfl ?_
    refine zj_iload_n o (zdd k_M_layBestRow 14 rfl) rfl 1 rfl ?_
    refine zj_iload o (zdd k_M_layBestRow 15 rfl) 5 rfl ?_
    refine zj_iload o (zdd k_M_layBestRow 16 rfl) 4 rfl ?_
    obtain ⟨σ2, e_σ2, h⟩ := zbd h
    refine zc_V o (zdd k_M_layBestRow 17 rfl) ml_M_533 mv_M_layByRow ⟨rfl, by decide⟩ (zg_some e_σ2).1 (by decide) [.int v1, .int v5, .int v4] [] rfl (Nat.le_of_ble_eq_true rfl) rfl (m_M_layByRow e_σ2) ?_
    change zPJ X 0 0 _ _ [] _
    refine zj_aload_n o (zdd k_M_layBestRow 18 rfl) rfl 0 rfl ?_
    refine zj_iload_n o (zdd k_M_layBestRow 19 rfl) rfl 1 rfl ?_
    refine zj_iload_n o (zdd k_M_layBestRow 20 rfl) rfl 2 rfl ?_
    refine zj_iload_n o (zdd k_M_layBestRow 21 rfl) rfl 3 rfl ?_
    obtain ⟨q3, e_q3, h⟩ := zbd h
    refine zc_V o (zdd k_M_layBestRow 22 rfl) ml_M_545 mv_M_stepsBoth ⟨rfl, by decide⟩ (zg_some e_q3).1 (by decide) [.int v1, .int v2, .int v3] [] rfl (Nat.le_of_ble_eq_true rfl) rfl (m_M_stepsBoth e_q3) ?_
    change zPJ X 0 0 _ _ [.int q3.1] _
    refine zj_istore (loc' := [(6, .int q3.1), (0, .ref v0), (1, .int v1), (2, .int v2), (3, .int v3), (4, .int v4), (5, .int v5)]) o (zdd k_M_layBestRow 23 rfl) (by decide) rfl ?_
    refine zj_iload o (zdd k_M_layBestRow 24 rfl) 0 rfl ?_
    refine zj_aload_n o (zdd k_M_layBestRow 25 rfl) rfl 1 rfl ?_
    obtain ⟨x4, e_x4, h⟩ := zbd h
    refine zj_gI o (zdd k_M_layBestRow 26 rfl) fl_M_542 rfl e_x4 ?_
    refine zj_icmp_lt (tgt := 56) o (zdd k_M_layBestRow 27 rfl) (by decide) (fun hc => ?_) (fun hc => ?_)
    · rw [if_pos hc] at h
      refine zj_aload_n o (zdd k_M_layBestRow 29 rfl) rfl 1 rfl ?_
      refine zj_iload o (zdd k_M_layBestRow 30 rfl) 6 rfl ?_
      obtain ⟨σ5, e_σ5, h⟩ := zbd h
      refine zj_pI o (zdd k_M_layBestRow 31 rfl) fl_M_539 rfl rfl e_σ5 ?_
      refine zj_aload_n o (zdd k_M_layBestRow 32 rfl) rfl 1 rfl ?_
      refine zj_iload o (zdd k_M_layBestRow 33 rfl) 0 rfl ?_
      obtain ⟨σ6, e_σ6, h⟩ := zbd h
      refine zj_pI o (zdd k_M_layBestRow 34 rfl) fl_M_542 rfl rfl e_σ6 ?_
      refine zj_iinc (v := v5 + 1) (loc' := [(5, .int (v5 + 1)), (6, .int q3.1), (0, .ref v0), (1, .int v1), (2, .int v2), (3, .int v3), (4, .int v4)]) o (zdd k_M_layBestRow 35 rfl) 6 rfl (by rw [zki_1]) (by decide) rfl ?_
      refine zj_goto (tgt := 15) o (zdd k_M_layBestRow 36 rfl) (by decide) ?_
      exact zj_sub [2, 3, 4, 5, 6, 0] rfl (hk15 h hr)
    · rw [if_neg hc] at h
      refine zj_goto (tgt := 68) o (zdd k_M_layBestRow 28 rfl) (by decide) ?_
      refine zj_iinc (v := v5 + 1) (loc' := [(5, .int (v5 + 1)), (6, .int q3.1), (0, .ref v0), (1, .int v1), (2, .int v2), (3, .int v3), (4, .int v4)]) o (zdd k_M_layBestRow 35 rfl) 6 rfl (by rw [zki_1]) (by decide) rfl ?_
      refine zj_goto (tgt := 15) o (zdd k_M_layBestRow 36 rfl) (by decide) ?_
      exact zj_sub [2, 3, 4, 5, 6, 0] rfl (hk15 h hr)
def f_M_layBestRow_15L : Nat → zSt → Nat → Int32 → Int32 → Int32 → Int32 → Int32 → Option (zSt)
  | 0 => fun _ _ _ _ _ _ _ => none
  | n + 1 => f_M_layBestRow_15  (f_M_layBestRow_15L  n)
theorem r_M_layBestRow_15L {X : zCX} (o : zOK X "WantShelvesModel" c_M_layBestRow n_M_layBestRow 7) : ∀ (n : Nat) {σ : zSt} {v0 : Nat} {v1 : Int32} {v2 : Int32} {v3 : Int32} {v4 : Int32} {v5 : Int32} {z : zSt}, f_M_layBestRow_15L n σ v0 v1 v2 v3 v4 v5 = some z → zRX X 0 0 none z → zPJ X 0 0 15 [(0, .ref v0), (1, .int v1), (2, .int v2), (3, .int v3), (4, .int v4), (5, .int v5)] [] σ
  | 0 => fun h _ => by cases h
  | n + 1 => fun h hr => r_M_layBestRow_15 o (r_M_layBestRow_15L o  n) h hr
def f_M_layBestRow (σ : zSt) (t : Nat) (p0 : Int32) (p1 : Int32) (p2 : Int32) (p3 : Int32) : Option (zSt) :=
zg σ 12 t (
(zsI σ 12 t 66 (-1)).bind fun σ1 =>
(zsI σ1 12 t 67 1000000).bind fun σ2 =>
f_M_layBestRow_15L zfu σ2 t p0 p1 p2 p3 0)
set_option maxRecDepth 100000 in
set_option maxHeartbeats 4000000 in
theorem m_M_layBestRow {l : Launch} {b : Nat} {ex : Nat → Value} {D : va_G} {ca : Nat → ClassId} {σ : zSt} {t : Nat} {p0 : Int32} {p1 : Int32} {p2 : Int32} {p3 : Int32} {z : zSt} (h : f_M_layBestRow σ t p0 p1 p2 p3 = some z) : zMT l b ex D ca 7 y_M_layBestRow c_M_layBestRow n_M_layBestRow r_ret_M_layBestRow [.ref t, .int p0, .int p1, .int p2, .int p3] σ none z 0 0 := by
  obtain ⟨_, hg0⟩ := zg_some h
  have h := hg0
  refine zmt_of (by decide) (Nat.le_of_ble_eq_true rfl) rfl (fun X o hin hrm _ _ _ _ _ hr => ?_)
  have hr := hr 0 0 (by decide) (by decide)
  have o : zOK X "WantShelvesModel" c_M_layBestRow n_M_layBestRow 7 := o
  change zPJ X 0 0 0 [(0, .ref t), (1, .int p0), (2, .int p1), (3, .int p2), (4, .int p3)] [] σ
  refine zj_aload_n o (zdd k_M_layBestRow 0 rfl) rfl 0 rfl ?_
  refine zj_iconst o (zdd k_M_layBestRow 1 rfl) zki_m1 ?_
  obtain ⟨σ1, e_σ1, h⟩ := zbd h
  refine zj_pI o (zdd k_M_layBestRow 2 rfl) fl_M_539 rfl rfl e_σ1 ?_
  refine zj_aload_n o (zdd k_M_layBestRow 3 rfl) rfl 0 rfl ?_
  refine zj_ldcw o (zdd k_M_layBestRow 4 rfl) co_M_514 ?_
  obtain ⟨σ2, e_σ2, h⟩ := zbd h
  refine zj_pI o (zdd k_M_layBestRow 5 rfl) fl_M_542 rfl rfl e_σ2 ?_
  refine zj_iconst o (zdd k_M_layBestRow 6 rfl) zki_0 ?_
  refine zj_istore (loc' := [(5, .int 0), (0, .ref t), (1, .int p0), (2, .int p1), (3, .int p2), (4, .int p3)]) o (zdd k_M_layBestRow 7 rfl) (by decide) rfl ?_
  exact zj_sub [1, 2, 3, 4, 5, 0] rfl (r_M_layBestRow_15L o  zfu h hr)
def f_M_pretend_70 (k70 : zSt → Nat → Int32 → Int32 → Option (Int32 × zSt)) (σ : zSt) (v0 : Nat) (v5 : Int32) (v6 : Int32) : Option (Int32 × zSt) :=
(zgI σ 12 v0 41).bind fun x1 =>
if x1 ≤ v6 then (
(zgI σ 12 v0 67).bind fun x2 =>
some (v5 - x2, σ)) else
(zgP σ 12 v0 50).bind fun a3 =>
(zaI σ 1 a3 v6).bind fun x4 =>
(f_M_lay σ v0 x4).bind fun σ5 =>
k70 σ5 v0 v5 (v6 + 1)
set_option maxRecDepth 100000 in
set_option maxHeartbeats 4000000 in
theorem r_M_pretend_70 {X : zCX} (o : zOK X "WantShelvesModel" c_M_pretend n_M_pretend 8) {k70 : zSt → Nat → Int32 → Int32 → Option (Int32 × zSt)} (hk70 : ∀ {σ : zSt} {v0 : Nat} {v5 : Int32} {v6 : Int32} {z : Int32 × zSt}, k70 σ v0 v5 v6 = some z → zRX X 0 0 (some (.int z.1)) z.2 → zPJ X 0 0 70 [(0, .ref v0), (5, .int v5), (6, .int v6)] [] σ) {σ : zSt} {v0 : Nat} {v5 : Int32} {v6 : Int32} {z : Int32 × zSt} (h : f_M_pretend_70 k70 σ v0 v5 v6 = some z) (hr : zRX X 0 0 (some (.int z.1)) z.2) : zPJ X 0 0 70 [(0, .ref v0), (5, .int v5), (6, .int v6)] [] σ := by
  unfold f_M_pretend_70 at h
  refine zj_iload o (zdd k_M_pretend 42 rfl) 2 rfl ?_
  refine zj_aload_n o (zdd k_M_pretend 43 rfl) rfl 0 rfl ?_
  obtain ⟨x1, e_x1, h⟩ := zbd h
  refine zj_gI o (zdd k_M_pretend 44 rfl) fl_M_388 rfl e_x1 ?_
  refine zj_icmp_ge (tgt := 96) o (zdd k_M_pretend 45 rfl) (by decide) (fun hc => ?_) (fun hc => ?_)
  · rw [if_pos hc] at h
    refine zj_iload o (zdd k_M_pretend 54 rfl) 1 rfl ?_
    refine zj_aload_n o (zdd k_M_pretend 55 rfl) rfl 0 rfl ?_
    obtain ⟨x2, e_x2, h⟩ := zbd h
    refine zj_gI o (zdd k_M_pretend 56 rfl) fl_M_542 rfl e_x2 ?_
    refine zj_isub o (zdd k_M_pretend 57 rfl) ?_
    cases h
    exact zr_i o hr (zdd k_M_pretend 58 rfl)
  · rw [if_neg hc] at h
    refine zj_aload_n o (zdd k_M_pretend 46 rfl) rfl 0 rfl ?_
    refine zj_aload_n o (zdd k_M_pretend 47 rfl) rfl 0 rfl ?_
    obtain ⟨a3, e_a3, h⟩ := zbd h
    refine zj_gP o (zdd k_M_pretend 48 rfl) fl_M_81 rfl e_a3 ?_
    refine zj_iload o (zdd k_M_pretend 49 rfl) 2 rfl ?_
    obtain ⟨x4, e_x4, h⟩ := zbd h
    refine zj_iald o (zdd k_M_pretend 50 rfl) e_x4 ?_
    obtain ⟨σ5, e_σ5, h⟩ := zbd h
    refine zc_V o (zdd k_M_pretend 51 rfl) ml_M_511 mv_M_lay ⟨rfl, by decide⟩ (zg_some e_σ5).1 (by decide) [.int x4] [] rfl (Nat.le_of_ble_eq_true rfl) rfl (m_M_lay e_σ5) ?_
    change zPJ X 0 0 _ _ [] _
    refine zj_iinc (v := v6 + 1) (loc' := [(6, .int (v6 + 1)), (0, .ref v0), (5, .int v5)]) o (zdd k_M_pretend 52 rfl) 2 rfl (by rw [zki_1]) (by decide) rfl ?_
    refine zj_goto (tgt := 70) o (zdd k_M_pretend 53 rfl) (by decide) ?_
    exact zj_sub [1, 2, 0] rfl (hk70 h hr)
def f_M_pretend_70L : Nat → zSt → Nat → Int32 → Int32 → Option (Int32 × zSt)
  | 0 => fun _ _ _ _ => none
  | n + 1 => f_M_pretend_70  (f_M_pretend_70L  n)
theorem r_M_pretend_70L {X : zCX} (o : zOK X "WantShelvesModel" c_M_pretend n_M_pretend 8) : ∀ (n : Nat) {σ : zSt} {v0 : Nat} {v5 : Int32} {v6 : Int32} {z : Int32 × zSt}, f_M_pretend_70L n σ v0 v5 v6 = some z → zRX X 0 0 (some (.int z.1)) z.2 → zPJ X 0 0 70 [(0, .ref v0), (5, .int v5), (6, .int v6)] [] σ
  | 0 => fun h _ => by cases h
  | n + 1 => fun h hr => r_M_pretend_70 o (r_M_pretend_70L o  n) h hr
def f_M_pretend (σ : zSt) (t : Nat) (p0 : Int32) (p1 : Int32) (p2 : Int32) : Option (Int32 × zSt) :=
zg σ 12 t (
(zsI σ 12 t 59 0).bind fun σ1 =>
(f_M_isPair σ1 t p0 p1 p2).bind fun x2 =>
if x2 = 0 then (
some ((-1), σ1)) else
(f_M_ownBook σ1 t p0).bind fun q3 =>
(f_M_layAll q3.2 t).bind fun σ4 =>
(f_M_stepsBoth σ4 t p0 p1 q3.1).bind fun q5 =>
(f_M_layBestRow q5.2 t p0 p1 q3.1 p2).bind fun σ6 =>
(zgI σ6 12 t 67).bind fun x7 =>
if x7 < q5.1 then (
(zgI σ6 12 t 66).bind fun x8 =>
(f_M_layRow σ6 t x8 p2).bind fun σ9 =>
f_M_pretend_70L zfu σ9 t q5.1 0) else
some (0, σ6))
set_option maxRecDepth 100000 in
set_option maxHeartbeats 4000000 in
theorem m_M_pretend {l : Launch} {b : Nat} {ex : Nat → Value} {D : va_G} {ca : Nat → ClassId} {σ : zSt} {t : Nat} {p0 : Int32} {p1 : Int32} {p2 : Int32} {z : Int32 × zSt} (h : f_M_pretend σ t p0 p1 p2 = some z) : zMT l b ex D ca 8 y_M_pretend c_M_pretend n_M_pretend r_ret_M_pretend [.ref t, .int p0, .int p1, .int p2] σ (some (.int z.1)) z.2 0 0 := by
  obtain ⟨_, hg0⟩ := zg_some h
  have h := hg0
  refine zmt_of (by decide) (Nat.le_of_ble_eq_true rfl) ⟨.int, rfl, rfl⟩ (fun X o hin hrm _ _ _ _ _ hr => ?_)
  have hr := hr 0 0 (by decide) (by decide)
  have o : zOK X "WantShelvesModel" c_M_pretend n_M_pretend 8 := o
  change zPJ X 0 0 0 [(0, .ref t), (1, .int p0), (2, .int p1), (3, .int p2)] [] σ
  refine zj_aload_n o (zdd k_M_pretend 0 rfl) rfl 0 rfl ?_
  refine zj_iconst o (zdd k_M_pretend 1 rfl) zki_0 ?_
  obtain ⟨σ1, e_σ1, h⟩ := zbd h
  refine zj_pI o (zdd k_M_pretend 2 rfl) fl_M_422 rfl rfl e_σ1 ?_
  refine zj_aload_n o (zdd k_M_pretend 3 rfl) rfl 0 rfl ?_
  refine zj_iload_n o (zdd k_M_pretend 4 rfl) rfl 1 rfl ?_
  refine zj_iload_n o (zdd k_M_pretend 5 rfl) rfl 2 rfl ?_
  refine zj_iload_n o (zdd k_M_pretend 6 rfl) rfl 3 rfl ?_
  obtain ⟨x2, e_x2, h⟩ := zbd h
  refine zc_V o (zdd k_M_pretend 7 rfl) ml_M_548 mv_M_isPair ⟨rfl, by decide⟩ (zg_some e_x2).1 (by decide) [.int p0, .int p1, .int p2] [] rfl (Nat.le_of_ble_eq_true rfl) rfl (m_M_isPair e_x2) ?_
  change zPJ X 0 0 _ _ [.int x2] _
  refine zj_if_ne (tgt := 17) o (zdd k_M_pretend 8 rfl) (by decide) (fun hc => ?_) (fun hc => ?_)
  · rw [if_neg hc] at h
    refine zj_aload_n o (zdd k_M_pretend 11 rfl) rfl 0 rfl ?_
    refine zj_iload_n o (zdd k_M_pretend 12 rfl) rfl 1 rfl ?_
    obtain ⟨q3, e_q3, h⟩ := zbd h
    refine zc_V o (zdd k_M_pretend 13 rfl) ml_M_551 mv_M_ownBook ⟨rfl, by decide⟩ (zg_some e_q3).1 (by decide) [.int p0] [] rfl (Nat.le_of_ble_eq_true rfl) rfl (m_M_ownBook e_q3) ?_
    change zPJ X 0 0 _ _ [.int q3.1] _
    refine zj_istore (loc' := [(4, .int q3.1), (0, .ref t), (1, .int p0), (2, .int p1), (3, .int p2)]) o (zdd k_M_pretend 14 rfl) (by decide) rfl ?_
    refine zj_aload_n o (zdd k_M_pretend 15 rfl) rfl 1 rfl ?_
    obtain ⟨σ4, e_σ4, h⟩ := zbd h
    refine zc_V o (zdd k_M_pretend 16 rfl) ml_M_490 mv_M_layAll ⟨rfl, by decide⟩ (zg_some e_σ4).1 (by decide) [] [] rfl (Nat.le_of_ble_eq_true rfl) rfl (m_M_layAll e_σ4) ?_
    change zPJ X 0 0 _ _ [] _
    refine zj_aload_n o (zdd k_M_pretend 17 rfl) rfl 1 rfl ?_
    refine zj_iload_n o (zdd k_M_pretend 18 rfl) rfl 2 rfl ?_
    refine zj_iload_n o (zdd k_M_pretend 19 rfl) rfl 3 rfl ?_
    refine zj_iload o (zdd k_M_pretend 20 rfl) 0 rfl ?_
    obtain ⟨q5, e_q5, h⟩ := zbd h
    refine zc_V o (zdd k_M_pretend 21 rfl) ml_M_545 mv_M_stepsBoth ⟨rfl, by decide⟩ (zg_some e_q5).1 (by decide) [.int p0, .int p1, .int q3.1] [] rfl (Nat.le_of_ble_eq_true rfl) rfl (m_M_stepsBoth e_q5) ?_
    change zPJ X 0 0 _ _ [.int q5.1] _
    refine zj_istore (loc' := [(5, .int q5.1), (4, .int q3.1), (0, .ref t), (1, .int p0), (2, .int p1), (3, .int p2)]) o (zdd k_M_pretend 22 rfl) (by decide) rfl ?_
    refine zj_aload_n o (zdd k_M_pretend 23 rfl) rfl 2 rfl ?_
    refine zj_iload_n o (zdd k_M_pretend 24 rfl) rfl 3 rfl ?_
    refine zj_iload_n o (zdd k_M_pretend 25 rfl) rfl 4 rfl ?_
    refine zj_iload o (zdd k_M_pretend 26 rfl) 1 rfl ?_
    refine zj_iload_n o (zdd k_M_pretend 27 rfl) rfl 5 rfl ?_
    obtain ⟨σ6, e_σ6, h⟩ := zbd h
    refine zc_V o (zdd k_M_pretend 28 rfl) ml_M_554 mv_M_layBestRow ⟨rfl, by decide⟩ (zg_some e_σ6).1 (by decide) [.int p0, .int p1, .int q3.1, .int p2] [] rfl (Nat.le_of_ble_eq_true rfl) rfl (m_M_layBestRow e_σ6) ?_
    change zPJ X 0 0 _ _ [] _
    refine zj_aload_n o (zdd k_M_pretend 29 rfl) rfl 2 rfl ?_
    obtain ⟨x7, e_x7, h⟩ := zbd h
    refine zj_gI o (zdd k_M_pretend 30 rfl) fl_M_542 rfl e_x7 ?_
    refine zj_iload o (zdd k_M_pretend 31 rfl) 0 rfl ?_
    refine zj_icmp_lt (tgt := 58) o (zdd k_M_pretend 32 rfl) (by decide) (fun hc => ?_) (fun hc => ?_)
    · rw [if_pos hc] at h
      refine zj_aload_n o (zdd k_M_pretend 35 rfl) rfl 2 rfl ?_
      refine zj_aload_n o (zdd k_M_pretend 36 rfl) rfl 2 rfl ?_
      obtain ⟨x8, e_x8, h⟩ := zbd h
      refine zj_gI o (zdd k_M_pretend 37 rfl) fl_M_539 rfl e_x8 ?_
      refine zj_iload_n o (zdd k_M_pretend 38 rfl) rfl 5 rfl ?_
      obtain ⟨σ9, e_σ9, h⟩ := zbd h
      refine zc_V o (zdd k_M_pretend 39 rfl) ml_M_527 mv_M_layRow ⟨rfl, by decide⟩ (zg_some e_σ9).1 (by decide) [.int x8, .int p2] [] rfl (Nat.le_of_ble_eq_true rfl) rfl (m_M_layRow e_σ9) ?_
      change zPJ X 0 0 _ _ [] _
      refine zj_iconst o (zdd k_M_pretend 40 rfl) zki_0 ?_
      refine zj_istore (loc' := [(6, .int 0), (5, .int q5.1), (4, .int q3.1), (0, .ref t), (1, .int p0), (2, .int p1), (3, .int p2)]) o (zdd k_M_pretend 41 rfl) (by decide) rfl ?_
      exact zj_sub [3, 1, 0] rfl (r_M_pretend_70L o  zfu h hr)
    · rw [if_neg hc] at h
      refine zj_iconst o (zdd k_M_pretend 33 rfl) zki_0 ?_
      cases h
      exact zr_i o hr (zdd k_M_pretend 34 rfl)
  · rw [if_pos hc] at h
    refine zj_iconst o (zdd k_M_pretend 9 rfl) zki_m1 ?_
    cases h
    exact zr_i o hr (zdd k_M_pretend 10 rfl)
def f_M_layAs (σ : zSt) (t : Nat) (p0 : Int32) (p1 : Int32) (p2 : Int32) : Option (zSt) :=
zg σ 12 t (
if 0 ≤ p1 then (
(f_M_layByRow σ t p0 p1 p2).bind fun σ1 =>
some σ1) else
(f_M_layOwn σ t p0).bind fun σ2 =>
some σ2)
set_option maxRecDepth 100000 in
set_option maxHeartbeats 4000000 in
theorem m_M_layAs {l : Launch} {b : Nat} {ex : Nat → Value} {D : va_G} {ca : Nat → ClassId} {σ : zSt} {t : Nat} {p0 : Int32} {p1 : Int32} {p2 : Int32} {z : zSt} (h : f_M_layAs σ t p0 p1 p2 = some z) : zMT l b ex D ca 7 y_M_layAs c_M_layAs n_M_layAs r_ret_M_layAs [.ref t, .int p0, .int p1, .int p2] σ none z 0 0 := by
  obtain ⟨_, hg0⟩ := zg_some h
  have h := hg0
  refine zmt_of (by decide) (Nat.le_of_ble_eq_true rfl) rfl (fun X o hin hrm _ _ _ _ _ hr => ?_)
  have hr := hr 0 0 (by decide) (by decide)
  have o : zOK X "WantShelvesModel" c_M_layAs n_M_layAs 7 := o
  change zPJ X 0 0 0 [(0, .ref t), (1, .int p0), (2, .int p1), (3, .int p2)] [] σ
  refine zj_iload_n o (zdd k_M_layAs 0 rfl) rfl 2 rfl ?_
  refine zj_if_ge (tgt := 12) o (zdd k_M_layAs 1 rfl) (by decide) (fun hc => ?_) (fun hc => ?_)
  · rw [if_pos hc] at h
    refine zj_aload_n o (zdd k_M_layAs 6 rfl) rfl 0 rfl ?_
    refine zj_iload_n o (zdd k_M_layAs 7 rfl) rfl 1 rfl ?_
    refine zj_iload_n o (zdd k_M_layAs 8 rfl) rfl 2 rfl ?_
    refine zj_iload_n o (zdd k_M_layAs 9 rfl) rfl 3 rfl ?_
    obtain ⟨σ1, e_σ1, h⟩ := zbd h
    refine zc_V o (zdd k_M_layAs 10 rfl) ml_M_533 mv_M_layByRow ⟨rfl, by decide⟩ (zg_some e_σ1).1 (by decide) [.int p0, .int p1, .int p2] [] rfl (Nat.le_of_ble_eq_true rfl) rfl (m_M_layByRow e_σ1) ?_
    change zPJ X 0 0 _ _ [] _
    cases h
    exact zr_v o hr (zdd k_M_layAs 11 rfl)
  · rw [if_neg hc] at h
    refine zj_aload_n o (zdd k_M_layAs 2 rfl) rfl 0 rfl ?_
    refine zj_iload_n o (zdd k_M_layAs 3 rfl) rfl 1 rfl ?_
    obtain ⟨σ2, e_σ2, h⟩ := zbd h
    refine zc_V o (zdd k_M_layAs 4 rfl) ml_M_457 mv_M_layOwn ⟨rfl, by decide⟩ (zg_some e_σ2).1 (by decide) [.int p0] [] rfl (Nat.le_of_ble_eq_true rfl) rfl (m_M_layOwn e_σ2) ?_
    change zPJ X 0 0 _ _ [] _
    refine zj_goto (tgt := 19) o (zdd k_M_layAs 5 rfl) (by decide) ?_
    cases h
    exact zr_v o hr (zdd k_M_layAs 11 rfl)
def f_M_takes_45 (σ : zSt) (v0 : Nat) (v1 : Int32) (v5 : Int32) (s0 : Int32) : Option (Int32 × zSt) :=
(f_M_layAs σ v0 v1 s0 v5).bind fun σ1 =>
some (s0, σ1)
set_option maxRecDepth 100000 in
set_option maxHeartbeats 4000000 in
theorem r_M_takes_45 {X : zCX} (o : zOK X "WantShelvesModel" c_M_takes n_M_takes 8) {σ : zSt} {v0 : Nat} {v1 : Int32} {v5 : Int32} {s0 : Int32} {z : Int32 × zSt} (h : f_M_takes_45 σ v0 v1 v5 s0 = some z) (hr : zRX X 0 0 (some (.int z.1)) z.2) : zPJ X 0 0 45 [(0, .ref v0), (1, .int v1), (5, .int v5)] [.int s0] σ := by
  unfold f_M_takes_45 at h
  refine zj_istore (loc' := [(7, .int s0), (0, .ref v0), (1, .int v1), (5, .int v5)]) o (zdd k_M_takes 25 rfl) (by decide) rfl ?_
  refine zj_aload_n o (zdd k_M_takes 26 rfl) rfl 1 rfl ?_
  refine zj_iload_n o (zdd k_M_takes 27 rfl) rfl 2 rfl ?_
  refine zj_iload o (zdd k_M_takes 28 rfl) 0 rfl ?_
  refine zj_iload o (zdd k_M_takes 29 rfl) 3 rfl ?_
  obtain ⟨σ1, e_σ1, h⟩ := zbd h
  refine zc_V o (zdd k_M_takes 30 rfl) ml_M_558 mv_M_layAs ⟨rfl, by decide⟩ (zg_some e_σ1).1 (by decide) [.int v1, .int s0, .int v5] [] rfl (Nat.le_of_ble_eq_true rfl) rfl (m_M_layAs e_σ1) ?_
  change zPJ X 0 0 _ _ [] _
  refine zj_iload o (zdd k_M_takes 31 rfl) 0 rfl ?_
  cases h
  exact zr_i o hr (zdd k_M_takes 32 rfl)
def f_M_takes (σ : zSt) (t : Nat) (p0 : Int32) (p1 : Int32) (p2 : Int32) (p3 : Int32) (p4 : Int32) : Option (Int32 × zSt) :=
zg σ 12 t (
(f_M_layAs σ t p0 p1 p4).bind fun σ1 =>
(f_M_stepsBoth σ1 t p0 p2 p3).bind fun q2 =>
(f_M_layBestRow q2.2 t p0 p2 p3 p4).bind fun σ3 =>
(zgI σ3 12 t 67).bind fun x4 =>
if q2.1 ≤ x4 then (
f_M_takes_45 σ3 t p0 p4 p1) else
(zgI σ3 12 t 66).bind fun x5 =>
f_M_takes_45 σ3 t p0 p4 x5)
set_option maxRecDepth 100000 in
set_option maxHeartbeats 4000000 in
theorem m_M_takes {l : Launch} {b : Nat} {ex : Nat → Value} {D : va_G} {ca : Nat → ClassId} {σ : zSt} {t : Nat} {p0 : Int32} {p1 : Int32} {p2 : Int32} {p3 : Int32} {p4 : Int32} {z : Int32 × zSt} (h : f_M_takes σ t p0 p1 p2 p3 p4 = some z) : zMT l b ex D ca 8 y_M_takes c_M_takes n_M_takes r_ret_M_takes [.ref t, .int p0, .int p1, .int p2, .int p3, .int p4] σ (some (.int z.1)) z.2 0 0 := by
  obtain ⟨_, hg0⟩ := zg_some h
  have h := hg0
  refine zmt_of (by decide) (Nat.le_of_ble_eq_true rfl) ⟨.int, rfl, rfl⟩ (fun X o hin hrm _ _ _ _ _ hr => ?_)
  have hr := hr 0 0 (by decide) (by decide)
  have o : zOK X "WantShelvesModel" c_M_takes n_M_takes 8 := o
  change zPJ X 0 0 0 [(0, .ref t), (1, .int p0), (2, .int p1), (3, .int p2), (4, .int p3), (5, .int p4)] [] σ
  refine zj_aload_n o (zdd k_M_takes 0 rfl) rfl 0 rfl ?_
  refine zj_iload_n o (zdd k_M_takes 1 rfl) rfl 1 rfl ?_
  refine zj_iload_n o (zdd k_M_takes 2 rfl) rfl 2 rfl ?_
  refine zj_iload o (zdd k_M_takes 3 rfl) 5 rfl ?_
  obtain ⟨σ1, e_σ1, h⟩ := zbd h
  refine zc_V o (zdd k_M_takes 4 rfl) ml_M_558 mv_M_layAs ⟨rfl, by decide⟩ (zg_some e_σ1).1 (by decide) [.int p0, .int p1, .int p4] [] rfl (Nat.le_of_ble_eq_true rfl) rfl (m_M_layAs e_σ1) ?_
  change zPJ X 0 0 _ _ [] _
  refine zj_aload_n o (zdd k_M_takes 5 rfl) rfl 0 rfl ?_
  refine zj_iload_n o (zdd k_M_takes 6 rfl) rfl 1 rfl ?_
  refine zj_iload_n o (zdd k_M_takes 7 rfl) rfl 3 rfl ?_
  refine zj_iload o (zdd k_M_takes 8 rfl) 4 rfl ?_
  obtain ⟨q2, e_q2, h⟩ := zbd h
  refine zc_V o (zdd k_M_takes 9 rfl) ml_M_545 mv_M_stepsBoth ⟨rfl, by decide⟩ (zg_some e_q2).1 (by decide) [.int p0, .int p2, .int p3] [] rfl (Nat.le_of_ble_eq_true rfl) rfl (m_M_stepsBoth e_q2) ?_
  change zPJ X 0 0 _ _ [.int q2.1] _
  refine zj_istore (loc' := [(6, .int q2.1), (0, .ref t), (1, .int p0), (2, .int p1), (3, .int p2), (4, .int p3), (5, .int p4)]) o (zdd k_M_takes 10 rfl) (by decide) rfl ?_
  refine zj_aload_n o (zdd k_M_takes 11 rfl) rfl 1 rfl ?_
  refine zj_iload_n o (zdd k_M_takes 12 rfl) rfl 2 rfl ?_
  refine zj_iload_n o (zdd k_M_takes 13 rfl) rfl 4 rfl ?_
  refine zj_iload o (zdd k_M_takes 14 rfl) 5 rfl ?_
  refine zj_iload o (zdd k_M_takes 15 rfl) 6 rfl ?_
  obtain ⟨σ3, e_σ3, h⟩ := zbd h
  refine zc_V o (zdd k_M_takes 16 rfl) ml_M_554 mv_M_layBestRow ⟨rfl, by decide⟩ (zg_some e_σ3).1 (by decide) [.int p0, .int p2, .int p3, .int p4] [] rfl (Nat.le_of_ble_eq_true rfl) rfl (m_M_layBestRow e_σ3) ?_
  change zPJ X 0 0 _ _ [] _
  refine zj_aload_n o (zdd k_M_takes 17 rfl) rfl 1 rfl ?_
  obtain ⟨x4, e_x4, h⟩ := zbd h
  refine zj_gI o (zdd k_M_takes 18 rfl) fl_M_542 rfl e_x4 ?_
  refine zj_iload o (zdd k_M_takes 19 rfl) 0 rfl ?_
  refine zj_icmp_ge (tgt := 44) o (zdd k_M_takes 20 rfl) (by decide) (fun hc => ?_) (fun hc => ?_)
  · rw [if_pos hc] at h
    refine zj_iload_n o (zdd k_M_takes 24 rfl) rfl 3 rfl ?_
    exact zj_sub [1, 2, 6] rfl (r_M_takes_45 o  h hr)
  · rw [if_neg hc] at h
    refine zj_aload_n o (zdd k_M_takes 21 rfl) rfl 1 rfl ?_
    obtain ⟨x5, e_x5, h⟩ := zbd h
    refine zj_gI o (zdd k_M_takes 22 rfl) fl_M_539 rfl e_x5 ?_
    refine zj_goto (tgt := 45) o (zdd k_M_takes 23 rfl) (by decide) ?_
    exact zj_sub [1, 2, 6] rfl (r_M_takes_45 o  h hr)
def f_M_putWants_22 (k22 : zSt → Nat → Int32 → Option (zSt)) (σ : zSt) (v0 : Nat) (v4 : Int32) : Option (zSt) :=
(zgI σ 12 v0 41).bind fun x1 =>
if x1 ≤ v4 then (
some σ) else
(zgP σ 12 v0 50).bind fun a2 =>
(zaI σ 1 a2 v4).bind fun x3 =>
(f_M_lay σ v0 x3).bind fun σ4 =>
k22 σ4 v0 (v4 + 1)
set_option maxRecDepth 100000 in
set_option maxHeartbeats 4000000 in
theorem r_M_putWants_22 {X : zCX} (o : zOK X "WantShelvesModel" c_M_putWants n_M_putWants 2) {k22 : zSt → Nat → Int32 → Option (zSt)} (hk22 : ∀ {σ : zSt} {v0 : Nat} {v4 : Int32} {z : zSt}, k22 σ v0 v4 = some z → zRX X 0 0 none z → zPJ X 0 0 22 [(0, .ref v0), (4, .int v4)] [] σ) {σ : zSt} {v0 : Nat} {v4 : Int32} {z : zSt} (h : f_M_putWants_22 k22 σ v0 v4 = some z) (hr : zRX X 0 0 none z) : zPJ X 0 0 22 [(0, .ref v0), (4, .int v4)] [] σ := by
  unfold f_M_putWants_22 at h
  refine zj_iload o (zdd k_M_putWants 13 rfl) 1 rfl ?_
  refine zj_aload_n o (zdd k_M_putWants 14 rfl) rfl 0 rfl ?_
  obtain ⟨x1, e_x1, h⟩ := zbd h
  refine zj_gI o (zdd k_M_putWants 15 rfl) fl_M_388 rfl e_x1 ?_
  refine zj_icmp_ge (tgt := 48) o (zdd k_M_putWants 16 rfl) (by decide) (fun hc => ?_) (fun hc => ?_)
  · rw [if_pos hc] at h
    cases h
    exact zr_v o hr (zdd k_M_putWants 25 rfl)
  · rw [if_neg hc] at h
    refine zj_aload_n o (zdd k_M_putWants 17 rfl) rfl 0 rfl ?_
    refine zj_aload_n o (zdd k_M_putWants 18 rfl) rfl 0 rfl ?_
    obtain ⟨a2, e_a2, h⟩ := zbd h
    refine zj_gP o (zdd k_M_putWants 19 rfl) fl_M_81 rfl e_a2 ?_
    refine zj_iload o (zdd k_M_putWants 20 rfl) 1 rfl ?_
    obtain ⟨x3, e_x3, h⟩ := zbd h
    refine zj_iald o (zdd k_M_putWants 21 rfl) e_x3 ?_
    obtain ⟨σ4, e_σ4, h⟩ := zbd h
    refine zc_V o (zdd k_M_putWants 22 rfl) ml_M_511 mv_M_lay ⟨rfl, by decide⟩ (zg_some e_σ4).1 (by decide) [.int x3] [] rfl (Nat.le_of_ble_eq_true rfl) rfl (m_M_lay e_σ4) ?_
    change zPJ X 0 0 _ _ [] _
    refine zj_iinc (v := v4 + 1) (loc' := [(4, .int (v4 + 1)), (0, .ref v0)]) o (zdd k_M_putWants 23 rfl) 1 rfl (by rw [zki_1]) (by decide) rfl ?_
    refine zj_goto (tgt := 22) o (zdd k_M_putWants 24 rfl) (by decide) ?_
    exact zj_sub [1, 0] rfl (hk22 h hr)
def f_M_putWants_22L : Nat → zSt → Nat → Int32 → Option (zSt)
  | 0 => fun _ _ _ => none
  | n + 1 => f_M_putWants_22  (f_M_putWants_22L  n)
theorem r_M_putWants_22L {X : zCX} (o : zOK X "WantShelvesModel" c_M_putWants n_M_putWants 2) : ∀ (n : Nat) {σ : zSt} {v0 : Nat} {v4 : Int32} {z : zSt}, f_M_putWants_22L n σ v0 v4 = some z → zRX X 0 0 none z → zPJ X 0 0 22 [(0, .ref v0), (4, .int v4)] [] σ
  | 0 => fun h _ => by cases h
  | n + 1 => fun h hr => r_M_putWants_22 o (r_M_putWants_22L o  n) h hr
def f_M_putWants (σ : zSt) (t : Nat) (p0 : Int32) (p1 : Int32) (p2 : Int32) : Option (zSt) :=
zg σ 12 t (
if 0 ≤ p1 then (
(f_M_layRow σ t p1 p2).bind fun σ1 =>
f_M_putWants_22L zfu σ1 t 0) else
(f_M_layHand σ t p0 (-1)).bind fun σ2 =>
f_M_putWants_22L zfu σ2 t 0)
set_option maxRecDepth 100000 in
set_option maxHeartbeats 4000000 in
theorem m_M_putWants {l : Launch} {b : Nat} {ex : Nat → Value} {D : va_G} {ca : Nat → ClassId} {σ : zSt} {t : Nat} {p0 : Int32} {p1 : Int32} {p2 : Int32} {z : zSt} (h : f_M_putWants σ t p0 p1 p2 = some z) : zMT l b ex D ca 2 y_M_putWants c_M_putWants n_M_putWants r_ret_M_putWants [.ref t, .int p0, .int p1, .int p2] σ none z 0 0 := by
  obtain ⟨_, hg0⟩ := zg_some h
  have h := hg0
  refine zmt_of (by decide) (Nat.le_of_ble_eq_true rfl) rfl (fun X o hin hrm _ _ _ _ _ hr => ?_)
  have hr := hr 0 0 (by decide) (by decide)
  have o : zOK X "WantShelvesModel" c_M_putWants n_M_putWants 2 := o
  change zPJ X 0 0 0 [(0, .ref t), (1, .int p0), (2, .int p1), (3, .int p2)] [] σ
  refine zj_iload_n o (zdd k_M_putWants 0 rfl) rfl 2 rfl ?_
  refine zj_if_ge (tgt := 13) o (zdd k_M_putWants 1 rfl) (by decide) (fun hc => ?_) (fun hc => ?_)
  · rw [if_pos hc] at h
    refine zj_aload_n o (zdd k_M_putWants 7 rfl) rfl 0 rfl ?_
    refine zj_iload_n o (zdd k_M_putWants 8 rfl) rfl 2 rfl ?_
    refine zj_iload_n o (zdd k_M_putWants 9 rfl) rfl 3 rfl ?_
    obtain ⟨σ1, e_σ1, h⟩ := zbd h
    refine zc_V o (zdd k_M_putWants 10 rfl) ml_M_527 mv_M_layRow ⟨rfl, by decide⟩ (zg_some e_σ1).1 (by decide) [.int p1, .int p2] [] rfl (Nat.le_of_ble_eq_true rfl) rfl (m_M_layRow e_σ1) ?_
    change zPJ X 0 0 _ _ [] _
    refine zj_iconst o (zdd k_M_putWants 11 rfl) zki_0 ?_
    refine zj_istore (loc' := [(4, .int 0), (0, .ref t), (1, .int p0), (2, .int p1), (3, .int p2)]) o (zdd k_M_putWants 12 rfl) (by decide) rfl ?_
    exact zj_sub [1, 0] rfl (r_M_putWants_22L o  zfu h hr)
  · rw [if_neg hc] at h
    refine zj_aload_n o (zdd k_M_putWants 2 rfl) rfl 0 rfl ?_
    refine zj_iload_n o (zdd k_M_putWants 3 rfl) rfl 1 rfl ?_
    refine zj_iconst o (zdd k_M_putWants 4 rfl) zki_m1 ?_
    obtain ⟨σ2, e_σ2, h⟩ := zbd h
    refine zc_V o (zdd k_M_putWants 5 rfl) ml_M_451 mv_M_layHand ⟨rfl, by decide⟩ (zg_some e_σ2).1 (by decide) [.int p0, .int (-1)] [] rfl (Nat.le_of_ble_eq_true rfl) rfl (m_M_layHand e_σ2) ?_
    change zPJ X 0 0 _ _ [] _
    refine zj_goto (tgt := 19) o (zdd k_M_putWants 6 rfl) (by decide) ?_
    refine zj_iconst o (zdd k_M_putWants 11 rfl) zki_0 ?_
    refine zj_istore (loc' := [(4, .int 0), (0, .ref t), (1, .int p0), (2, .int p1), (3, .int p2)]) o (zdd k_M_putWants 12 rfl) (by decide) rfl ?_
    exact zj_sub [1, 0] rfl (r_M_putWants_22L o  zfu h hr)
def f_M_rest_119 (σ : zSt) (v0 : Nat) (v1 : Int32) (v2 : Int32) (v3 : Int32) (v6 : Int32) : Option (Int32 × zSt) :=
(zgI σ 12 v0 68).bind fun x1 =>
(f_M_putWants σ v0 v1 x1 v3).bind fun σ2 =>
(zgI σ2 12 v0 69).bind fun x3 =>
(f_M_putWants σ2 v0 v2 x3 v3).bind fun σ4 =>
some (v6, σ4)
set_option maxRecDepth 100000 in
set_option maxHeartbeats 4000000 in
theorem r_M_rest_119 {X : zCX} (o : zOK X "WantShelvesModel" c_M_rest n_M_rest 9) {σ : zSt} {v0 : Nat} {v1 : Int32} {v2 : Int32} {v3 : Int32} {v6 : Int32} {z : Int32 × zSt} (h : f_M_rest_119 σ v0 v1 v2 v3 v6 = some z) (hr : zRX X 0 0 (some (.int z.1)) z.2) : zPJ X 0 0 119 [(0, .ref v0), (1, .int v1), (2, .int v2), (3, .int v3), (6, .int v6)] [] σ := by
  unfold f_M_rest_119 at h
  refine zj_aload_n o (zdd k_M_rest 65 rfl) rfl 0 rfl ?_
  refine zj_iload_n o (zdd k_M_rest 66 rfl) rfl 1 rfl ?_
  refine zj_aload_n o (zdd k_M_rest 67 rfl) rfl 0 rfl ?_
  obtain ⟨x1, e_x1, h⟩ := zbd h
  refine zj_gI o (zdd k_M_rest 68 rfl) fl_M_561 rfl e_x1 ?_
  refine zj_iload_n o (zdd k_M_rest 69 rfl) rfl 3 rfl ?_
  obtain ⟨σ2, e_σ2, h⟩ := zbd h
  refine zc_V o (zdd k_M_rest 70 rfl) ml_M_571 mv_M_putWants ⟨rfl, by decide⟩ (zg_some e_σ2).1 (by decide) [.int v1, .int x1, .int v3] [] rfl (Nat.le_of_ble_eq_true rfl) rfl (m_M_putWants e_σ2) ?_
  change zPJ X 0 0 _ _ [] _
  refine zj_aload_n o (zdd k_M_rest 71 rfl) rfl 0 rfl ?_
  refine zj_iload_n o (zdd k_M_rest 72 rfl) rfl 2 rfl ?_
  refine zj_aload_n o (zdd k_M_rest 73 rfl) rfl 0 rfl ?_
  obtain ⟨x3, e_x3, h⟩ := zbd h
  refine zj_gI o (zdd k_M_rest 74 rfl) fl_M_564 rfl e_x3 ?_
  refine zj_iload_n o (zdd k_M_rest 75 rfl) rfl 3 rfl ?_
  obtain ⟨σ4, e_σ4, h⟩ := zbd h
  refine zc_V o (zdd k_M_rest 76 rfl) ml_M_571 mv_M_putWants ⟨rfl, by decide⟩ (zg_some e_σ4).1 (by decide) [.int v2, .int x3, .int v3] [] rfl (Nat.le_of_ble_eq_true rfl) rfl (m_M_putWants e_σ4) ?_
  change zPJ X 0 0 _ _ [] _
  refine zj_iload o (zdd k_M_rest 77 rfl) 4 rfl ?_
  cases h
  exact zr_i o hr (zdd k_M_rest 78 rfl)
def f_M_rest_49 (k49 : zSt → Nat → Int32 → Int32 → Int32 → Int32 → Int32 → Int32 → Option (Int32 × zSt)) (σ : zSt) (v0 : Nat) (v1 : Int32) (v2 : Int32) (v3 : Int32) (v4 : Int32) (v5 : Int32) (v6 : Int32) : Option (Int32 × zSt) :=
if 20 < v6 then (
some ((-1), σ)) else
(zgI σ 12 v0 68).bind fun x1 =>
(zgI σ 12 v0 69).bind fun x2 =>
(f_M_takes σ v0 v1 x1 v2 v4 v3).bind fun q3 =>
(zsI q3.2 12 v0 68 q3.1).bind fun σ4 =>
(f_M_takes σ4 v0 v2 x2 v1 v5 v3).bind fun q5 =>
(zsI q5.2 12 v0 69 q5.1).bind fun σ6 =>
(zgI σ6 12 v0 68).bind fun x7 =>
if x7 = x1 then (
(zgI σ6 12 v0 69).bind fun x8 =>
if x8 = x2 then (
f_M_rest_119 σ6 v0 v1 v2 v3 v6) else
k49 σ6 v0 v1 v2 v3 v4 v5 (v6 + 1)) else
k49 σ6 v0 v1 v2 v3 v4 v5 (v6 + 1)
set_option maxRecDepth 100000 in
set_option maxHeartbeats 4000000 in
theorem r_M_rest_49 {X : zCX} (o : zOK X "WantShelvesModel" c_M_rest n_M_rest 9) {k49 : zSt → Nat → Int32 → Int32 → Int32 → Int32 → Int32 → Int32 → Option (Int32 × zSt)} (hk49 : ∀ {σ : zSt} {v0 : Nat} {v1 : Int32} {v2 : Int32} {v3 : Int32} {v4 : Int32} {v5 : Int32} {v6 : Int32} {z : Int32 × zSt}, k49 σ v0 v1 v2 v3 v4 v5 v6 = some z → zRX X 0 0 (some (.int z.1)) z.2 → zPJ X 0 0 49 [(0, .ref v0), (1, .int v1), (2, .int v2), (3, .int v3), (4, .int v4), (5, .int v5), (6, .int v6)] [] σ) {σ : zSt} {v0 : Nat} {v1 : Int32} {v2 : Int32} {v3 : Int32} {v4 : Int32} {v5 : Int32} {v6 : Int32} {z : Int32 × zSt} (h : f_M_rest_49 k49 σ v0 v1 v2 v3 v4 v5 v6 = some z) (hr : zRX X 0 0 (some (.int z.1)) z.2) : zPJ X 0 0 49 [(0, .ref v0), (1, .int v1), (2, .int v2), (3, .int v3), (4, .int v4), (5, .int v5), (6, .int v6)] [] σ := by
  unfold f_M_rest_49 at h
  refine zj_iload o (zdd k_M_rest 29 rfl) 6 rfl ?_
  refine zj_bipush o (zdd k_M_rest 30 rfl) zkb_20 ?_
  refine zj_icmp_gt (tgt := 148) o (zdd k_M_rest 31 rfl) (by decide) (fun hc => ?_) (fun hc => ?_)
  · rw [if_pos hc] at h
    refine zj_iconst o (zdd k_M_rest 81 rfl) zki_m1 ?_
    cases h
    exact zr_i o hr (zdd k_M_rest 82 rfl)
  · rw [if_neg hc] at h
    refine zj_aload_n o (zdd k_M_rest 32 rfl) rfl 0 rfl ?_
    obtain ⟨x1, e_x1, h⟩ := zbd h
    refine zj_gI o (zdd k_M_rest 33 rfl) fl_M_561 rfl e_x1 ?_
    refine zj_istore (loc' := [(7, .int x1), (0, .ref v0), (1, .int v1), (2, .int v2), (3, .int v3), (4, .int v4), (5, .int v5), (6, .int v6)]) o (zdd k_M_rest 34 rfl) (by decide) rfl ?_
    refine zj_aload_n o (zdd k_M_rest 35 rfl) rfl 1 rfl ?_
    obtain ⟨x2, e_x2, h⟩ := zbd h
    refine zj_gI o (zdd k_M_rest 36 rfl) fl_M_564 rfl e_x2 ?_
    refine zj_istore (loc' := [(8, .int x2), (7, .int x1), (0, .ref v0), (1, .int v1), (2, .int v2), (3, .int v3), (4, .int v4), (5, .int v5), (6, .int v6)]) o (zdd k_M_rest 37 rfl) (by decide) rfl ?_
    refine zj_aload_n o (zdd k_M_rest 38 rfl) rfl 2 rfl ?_
    refine zj_aload_n o (zdd k_M_rest 39 rfl) rfl 2 rfl ?_
    refine zj_iload_n o (zdd k_M_rest 40 rfl) rfl 3 rfl ?_
    refine zj_iload o (zdd k_M_rest 41 rfl) 1 rfl ?_
    refine zj_iload_n o (zdd k_M_rest 42 rfl) rfl 4 rfl ?_
    refine zj_iload o (zdd k_M_rest 43 rfl) 6 rfl ?_
    refine zj_iload_n o (zdd k_M_rest 44 rfl) rfl 5 rfl ?_
    obtain ⟨q3, e_q3, h⟩ := zbd h
    refine zc_V o (zdd k_M_rest 45 rfl) ml_M_567 mv_M_takes ⟨rfl, by decide⟩ (zg_some e_q3).1 (by decide) [.int v1, .int x1, .int v2, .int v4, .int v3] [.ref v0] rfl (Nat.le_of_ble_eq_true rfl) rfl (m_M_takes e_q3) ?_
    change zPJ X 0 0 _ _ [.int q3.1, .ref v0] _
    obtain ⟨σ4, e_σ4, h⟩ := zbd h
    refine zj_pI o (zdd k_M_rest 46 rfl) fl_M_561 rfl rfl e_σ4 ?_
    refine zj_aload_n o (zdd k_M_rest 47 rfl) rfl 2 rfl ?_
    refine zj_aload_n o (zdd k_M_rest 48 rfl) rfl 2 rfl ?_
    refine zj_iload_n o (zdd k_M_rest 49 rfl) rfl 4 rfl ?_
    refine zj_iload o (zdd k_M_rest 50 rfl) 0 rfl ?_
    refine zj_iload_n o (zdd k_M_rest 51 rfl) rfl 3 rfl ?_
    refine zj_iload o (zdd k_M_rest 52 rfl) 7 rfl ?_
    refine zj_iload_n o (zdd k_M_rest 53 rfl) rfl 5 rfl ?_
    obtain ⟨q5, e_q5, h⟩ := zbd h
    refine zc_V o (zdd k_M_rest 54 rfl) ml_M_567 mv_M_takes ⟨rfl, by decide⟩ (zg_some e_q5).1 (by decide) [.int v2, .int x2, .int v1, .int v5, .int v3] [.ref v0] rfl (Nat.le_of_ble_eq_true rfl) rfl (m_M_takes e_q5) ?_
    change zPJ X 0 0 _ _ [.int q5.1, .ref v0] _
    obtain ⟨σ6, e_σ6, h⟩ := zbd h
    refine zj_pI o (zdd k_M_rest 55 rfl) fl_M_564 rfl rfl e_σ6 ?_
    refine zj_aload_n o (zdd k_M_rest 56 rfl) rfl 2 rfl ?_
    obtain ⟨x7, e_x7, h⟩ := zbd h
    refine zj_gI o (zdd k_M_rest 57 rfl) fl_M_561 rfl e_x7 ?_
    refine zj_iload o (zdd k_M_rest 58 rfl) 1 rfl ?_
    refine zj_icmp_ne (tgt := 142) o (zdd k_M_rest 59 rfl) (by decide) (fun hc => ?_) (fun hc => ?_)
    · rw [if_neg hc] at h
      refine zj_iinc (v := v6 + 1) (loc' := [(6, .int (v6 + 1)), (8, .int x2), (7, .int x1), (0, .ref v0), (1, .int v1), (2, .int v2), (3, .int v3), (4, .int v4), (5, .int v5)]) o (zdd k_M_rest 79 rfl) 8 rfl (by rw [zki_1]) (by decide) rfl ?_
      refine zj_goto (tgt := 49) o (zdd k_M_rest 80 rfl) (by decide) ?_
      exact zj_sub [3, 4, 5, 6, 7, 8, 0] rfl (hk49 h hr)
    · rw [if_pos hc] at h
      refine zj_aload_n o (zdd k_M_rest 60 rfl) rfl 2 rfl ?_
      obtain ⟨x8, e_x8, h⟩ := zbd h
      refine zj_gI o (zdd k_M_rest 61 rfl) fl_M_564 rfl e_x8 ?_
      refine zj_iload o (zdd k_M_rest 62 rfl) 0 rfl ?_
      refine zj_icmp_eq (tgt := 119) o (zdd k_M_rest 63 rfl) (by decide) (fun hc => ?_) (fun hc => ?_)
      · rw [if_pos hc] at h
        exact zj_sub [2, 3, 4, 5, 8] rfl (r_M_rest_119 o  h hr)
      · rw [if_neg hc] at h
        refine zj_goto (tgt := 142) o (zdd k_M_rest 64 rfl) (by decide) ?_
        refine zj_iinc (v := v6 + 1) (loc' := [(6, .int (v6 + 1)), (8, .int x2), (7, .int x1), (0, .ref v0), (1, .int v1), (2, .int v2), (3, .int v3), (4, .int v4), (5, .int v5)]) o (zdd k_M_rest 79 rfl) 8 rfl (by rw [zki_1]) (by decide) rfl ?_
        refine zj_goto (tgt := 49) o (zdd k_M_rest 80 rfl) (by decide) ?_
        exact zj_sub [3, 4, 5, 6, 7, 8, 0] rfl (hk49 h hr)
def f_M_rest_49L : Nat → zSt → Nat → Int32 → Int32 → Int32 → Int32 → Int32 → Int32 → Option (Int32 × zSt)
  | 0 => fun _ _ _ _ _ _ _ _ => none
  | n + 1 => f_M_rest_49  (f_M_rest_49L  n)
theorem r_M_rest_49L {X : zCX} (o : zOK X "WantShelvesModel" c_M_rest n_M_rest 9) : ∀ (n : Nat) {σ : zSt} {v0 : Nat} {v1 : Int32} {v2 : Int32} {v3 : Int32} {v4 : Int32} {v5 : Int32} {v6 : Int32} {z : Int32 × zSt}, f_M_rest_49L n σ v0 v1 v2 v3 v4 v5 v6 = some z → zRX X 0 0 (some (.int z.1)) z.2 → zPJ X 0 0 49 [(0, .ref v0), (1, .int v1), (2, .int v2), (3, .int v3), (4, .int v4), (5, .int v5), (6, .int v6)] [] σ
  | 0 => fun h _ => by cases h
  | n + 1 => fun h hr => r_M_rest_49 o (r_M_rest_49L o  n) h hr
def f_M_rest (σ : zSt) (t : Nat) (p0 : Int32) (p1 : Int32) (p2 : Int32) : Option (Int32 × zSt) :=
zg σ 12 t (
(zsI σ 12 t 59 0).bind fun σ1 =>
(f_M_isPair σ1 t p0 p1 p2).bind fun x2 =>
if x2 = 0 then (
some ((-2), σ1)) else
(f_M_ownBook σ1 t p0).bind fun q3 =>
(f_M_ownBook q3.2 t p1).bind fun q4 =>
(zsI q4.2 12 t 68 (-1)).bind fun σ5 =>
(zsI σ5 12 t 69 (-1)).bind fun σ6 =>
(f_M_layAll σ6 t).bind fun σ7 =>
f_M_rest_49L zfu σ7 t p0 p1 p2 q3.1 q4.1 1)
set_option maxRecDepth 100000 in
set_option maxHeartbeats 4000000 in
theorem m_M_rest {l : Launch} {b : Nat} {ex : Nat → Value} {D : va_G} {ca : Nat → ClassId} {σ : zSt} {t : Nat} {p0 : Int32} {p1 : Int32} {p2 : Int32} {z : Int32 × zSt} (h : f_M_rest σ t p0 p1 p2 = some z) : zMT l b ex D ca 9 y_M_rest c_M_rest n_M_rest r_ret_M_rest [.ref t, .int p0, .int p1, .int p2] σ (some (.int z.1)) z.2 0 0 := by
  obtain ⟨_, hg0⟩ := zg_some h
  have h := hg0
  refine zmt_of (by decide) (Nat.le_of_ble_eq_true rfl) ⟨.int, rfl, rfl⟩ (fun X o hin hrm _ _ _ _ _ hr => ?_)
  have hr := hr 0 0 (by decide) (by decide)
  have o : zOK X "WantShelvesModel" c_M_rest n_M_rest 9 := o
  change zPJ X 0 0 0 [(0, .ref t), (1, .int p0), (2, .int p1), (3, .int p2)] [] σ
  refine zj_aload_n o (zdd k_M_rest 0 rfl) rfl 0 rfl ?_
  refine zj_iconst o (zdd k_M_rest 1 rfl) zki_0 ?_
  obtain ⟨σ1, e_σ1, h⟩ := zbd h
  refine zj_pI o (zdd k_M_rest 2 rfl) fl_M_422 rfl rfl e_σ1 ?_
  refine zj_aload_n o (zdd k_M_rest 3 rfl) rfl 0 rfl ?_
  refine zj_iload_n o (zdd k_M_rest 4 rfl) rfl 1 rfl ?_
  refine zj_iload_n o (zdd k_M_rest 5 rfl) rfl 2 rfl ?_
  refine zj_iload_n o (zdd k_M_rest 6 rfl) rfl 3 rfl ?_
  obtain ⟨x2, e_x2, h⟩ := zbd h
  refine zc_V o (zdd k_M_rest 7 rfl) ml_M_548 mv_M_isPair ⟨rfl, by decide⟩ (zg_some e_x2).1 (by decide) [.int p0, .int p1, .int p2] [] rfl (Nat.le_of_ble_eq_true rfl) rfl (m_M_isPair e_x2) ?_
  change zPJ X 0 0 _ _ [.int x2] _
  refine zj_if_ne (tgt := 18) o (zdd k_M_rest 8 rfl) (by decide) (fun hc => ?_) (fun hc => ?_)
  · rw [if_neg hc] at h
    refine zj_aload_n o (zdd k_M_rest 11 rfl) rfl 0 rfl ?_
    refine zj_iload_n o (zdd k_M_rest 12 rfl) rfl 1 rfl ?_
    obtain ⟨q3, e_q3, h⟩ := zbd h
    refine zc_V o (zdd k_M_rest 13 rfl) ml_M_551 mv_M_ownBook ⟨rfl, by decide⟩ (zg_some e_q3).1 (by decide) [.int p0] [] rfl (Nat.le_of_ble_eq_true rfl) rfl (m_M_ownBook e_q3) ?_
    change zPJ X 0 0 _ _ [.int q3.1] _
    refine zj_istore (loc' := [(4, .int q3.1), (0, .ref t), (1, .int p0), (2, .int p1), (3, .int p2)]) o (zdd k_M_rest 14 rfl) (by decide) rfl ?_
    refine zj_aload_n o (zdd k_M_rest 15 rfl) rfl 1 rfl ?_
    refine zj_iload_n o (zdd k_M_rest 16 rfl) rfl 3 rfl ?_
    obtain ⟨q4, e_q4, h⟩ := zbd h
    refine zc_V o (zdd k_M_rest 17 rfl) ml_M_551 mv_M_ownBook ⟨rfl, by decide⟩ (zg_some e_q4).1 (by decide) [.int p1] [] rfl (Nat.le_of_ble_eq_true rfl) rfl (m_M_ownBook e_q4) ?_
    change zPJ X 0 0 _ _ [.int q4.1] _
    refine zj_istore (loc' := [(5, .int q4.1), (4, .int q3.1), (0, .ref t), (1, .int p0), (2, .int p1), (3, .int p2)]) o (zdd k_M_rest 18 rfl) (by decide) rfl ?_
    refine zj_aload_n o (zdd k_M_rest 19 rfl) rfl 2 rfl ?_
    refine zj_iconst o (zdd k_M_rest 20 rfl) zki_m1 ?_
    obtain ⟨σ5, e_σ5, h⟩ := zbd h
    refine zj_pI o (zdd k_M_rest 21 rfl) fl_M_561 rfl rfl e_σ5 ?_
    refine zj_aload_n o (zdd k_M_rest 22 rfl) rfl 2 rfl ?_
    refine zj_iconst o (zdd k_M_rest 23 rfl) zki_m1 ?_
    obtain ⟨σ6, e_σ6, h⟩ := zbd h
    refine zj_pI o (zdd k_M_rest 24 rfl) fl_M_564 rfl rfl e_σ6 ?_
    refine zj_aload_n o (zdd k_M_rest 25 rfl) rfl 2 rfl ?_
    obtain ⟨σ7, e_σ7, h⟩ := zbd h
    refine zc_V o (zdd k_M_rest 26 rfl) ml_M_490 mv_M_layAll ⟨rfl, by decide⟩ (zg_some e_σ7).1 (by decide) [] [] rfl (Nat.le_of_ble_eq_true rfl) rfl (m_M_layAll e_σ7) ?_
    change zPJ X 0 0 _ _ [] _
    refine zj_iconst o (zdd k_M_rest 27 rfl) zki_1 ?_
    refine zj_istore (loc' := [(6, .int 1), (5, .int q4.1), (4, .int q3.1), (0, .ref t), (1, .int p0), (2, .int p1), (3, .int p2)]) o (zdd k_M_rest 28 rfl) (by decide) rfl ?_
    exact zj_sub [3, 4, 5, 6, 2, 1, 0] rfl (r_M_rest_49L o  zfu h hr)
  · rw [if_pos hc] at h
    refine zj_bipush o (zdd k_M_rest 9 rfl) zkb_m2 ?_
    cases h
    exact zr_i o hr (zdd k_M_rest 10 rfl)
def f_M_left_38 (σ : zSt) (v0 : Nat) (v1 : Int32) (v2 : Int32) : Option (Int32 × zSt) :=
(f_M_isBook σ v0 v1).bind fun x1 =>
if x1 = 0 then (
some ((-1), σ)) else
(f_M_isOut σ v0 v1).bind fun x2 =>
if x2 = 0 then (
if v2 = 0 then (
(zgP σ 12 v0 70).bind fun a3 =>
(zgI σ 12 v0 71).bind fun x4 =>
(zwI σ 1 a3 x4 v1).bind fun σ5 =>
(zgI σ5 12 v0 71).bind fun x6 =>
(zsI σ5 12 v0 71 (x6 + 1)).bind fun σ7 =>
(zgI σ7 12 v0 71).bind fun x8 =>
some (x8, σ7)) else
some ((-1), σ)) else
some ((-1), σ)
set_option maxRecDepth 100000 in
set_option maxHeartbeats 4000000 in
theorem r_M_left_38 {X : zCX} (o : zOK X "WantShelvesModel" c_M_left n_M_left 3) {σ : zSt} {v0 : Nat} {v1 : Int32} {v2 : Int32} {z : Int32 × zSt} (h : f_M_left_38 σ v0 v1 v2 = some z) (hr : zRX X 0 0 (some (.int z.1)) z.2) : zPJ X 0 0 38 [(0, .ref v0), (1, .int v1), (2, .int v2)] [] σ := by
  unfold f_M_left_38 at h
  refine zj_aload_n o (zdd k_M_left 22 rfl) rfl 0 rfl ?_
  refine zj_iload_n o (zdd k_M_left 23 rfl) rfl 1 rfl ?_
  obtain ⟨x1, e_x1, h⟩ := zbd h
  refine zc_V o (zdd k_M_left 24 rfl) ml_M_435 mv_M_isBook ⟨rfl, by decide⟩ (zg_some e_x1).1 (by decide) [.int v1] [] rfl (Nat.le_of_ble_eq_true rfl) rfl (m_M_isBook e_x1) ?_
  change zPJ X 0 0 _ _ [.int x1] _
  refine zj_if_eq (tgt := 58) o (zdd k_M_left 25 rfl) (by decide) (fun hc => ?_) (fun hc => ?_)
  · rw [if_pos hc] at h
    refine zj_iconst o (zdd k_M_left 32 rfl) zki_m1 ?_
    cases h
    exact zr_i o hr (zdd k_M_left 33 rfl)
  · rw [if_neg hc] at h
    refine zj_aload_n o (zdd k_M_left 26 rfl) rfl 0 rfl ?_
    refine zj_iload_n o (zdd k_M_left 27 rfl) rfl 1 rfl ?_
    obtain ⟨x2, e_x2, h⟩ := zbd h
    refine zc_V o (zdd k_M_left 28 rfl) ml_M_463 mv_M_isOut ⟨rfl, by decide⟩ (zg_some e_x2).1 (by decide) [.int v1] [] rfl (Nat.le_of_ble_eq_true rfl) rfl (m_M_isOut e_x2) ?_
    change zPJ X 0 0 _ _ [.int x2] _
    refine zj_if_ne (tgt := 58) o (zdd k_M_left 29 rfl) (by decide) (fun hc => ?_) (fun hc => ?_)
    · rw [if_neg hc] at h
      refine zj_iconst o (zdd k_M_left 32 rfl) zki_m1 ?_
      cases h
      exact zr_i o hr (zdd k_M_left 33 rfl)
    · rw [if_pos hc] at h
      refine zj_iload_n o (zdd k_M_left 30 rfl) rfl 2 rfl ?_
      refine zj_if_eq (tgt := 60) o (zdd k_M_left 31 rfl) (by decide) (fun hc => ?_) (fun hc => ?_)
      · rw [if_pos hc] at h
        refine zj_aload_n o (zdd k_M_left 34 rfl) rfl 0 rfl ?_
        obtain ⟨a3, e_a3, h⟩ := zbd h
        refine zj_gP o (zdd k_M_left 35 rfl) fl_M_118 rfl e_a3 ?_
        refine zj_aload_n o (zdd k_M_left 36 rfl) rfl 0 rfl ?_
        obtain ⟨x4, e_x4, h⟩ := zbd h
        refine zj_gI o (zdd k_M_left 37 rfl) fl_M_419 rfl e_x4 ?_
        refine zj_iload_n o (zdd k_M_left 38 rfl) rfl 1 rfl ?_
        obtain ⟨σ5, e_σ5, h⟩ := zbd h
        refine zj_iast o (zdd k_M_left 39 rfl) e_σ5 ?_
        refine zj_aload_n o (zdd k_M_left 40 rfl) rfl 0 rfl ?_
        refine zj_dup o (zdd k_M_left 41 rfl) rfl ?_
        obtain ⟨x6, e_x6, h⟩ := zbd h
        refine zj_gI o (zdd k_M_left 42 rfl) fl_M_419 rfl e_x6 ?_
        refine zj_iconst o (zdd k_M_left 43 rfl) zki_1 ?_
        refine zj_iadd o (zdd k_M_left 44 rfl) ?_
        obtain ⟨σ7, e_σ7, h⟩ := zbd h
        refine zj_pI o (zdd k_M_left 45 rfl) fl_M_419 rfl rfl e_σ7 ?_
        refine zj_aload_n o (zdd k_M_left 46 rfl) rfl 0 rfl ?_
        obtain ⟨x8, e_x8, h⟩ := zbd h
        refine zj_gI o (zdd k_M_left 47 rfl) fl_M_419 rfl e_x8 ?_
        cases h
        exact zr_i o hr (zdd k_M_left 48 rfl)
      · rw [if_neg hc] at h
        refine zj_iconst o (zdd k_M_left 32 rfl) zki_m1 ?_
        cases h
        exact zr_i o hr (zdd k_M_left 33 rfl)
def f_M_left_4 (k4 : zSt → Nat → Int32 → Int32 → Int32 → Option (Int32 × zSt)) (σ : zSt) (v0 : Nat) (v1 : Int32) (v2 : Int32) (v3 : Int32) : Option (Int32 × zSt) :=
(zgI σ 12 v0 71).bind fun x1 =>
if x1 ≤ v3 then (
f_M_left_38 σ v0 v1 v2) else
if v2 = 0 then (
(zgP σ 12 v0 70).bind fun a2 =>
(zaI σ 1 a2 v3).bind fun x3 =>
if x3 = v1 then (
k4 σ v0 v1 1 (v3 + 1)) else
k4 σ v0 v1 0 (v3 + 1)) else
k4 σ v0 v1 1 (v3 + 1)
set_option maxRecDepth 100000 in
set_option maxHeartbeats 4000000 in
theorem r_M_left_4 {X : zCX} (o : zOK X "WantShelvesModel" c_M_left n_M_left 3) {k4 : zSt → Nat → Int32 → Int32 → Int32 → Option (Int32 × zSt)} (hk4 : ∀ {σ : zSt} {v0 : Nat} {v1 : Int32} {v2 : Int32} {v3 : Int32} {z : Int32 × zSt}, k4 σ v0 v1 v2 v3 = some z → zRX X 0 0 (some (.int z.1)) z.2 → zPJ X 0 0 4 [(0, .ref v0), (1, .int v1), (2, .int v2), (3, .int v3)] [] σ) {σ : zSt} {v0 : Nat} {v1 : Int32} {v2 : Int32} {v3 : Int32} {z : Int32 × zSt} (h : f_M_left_4 k4 σ v0 v1 v2 v3 = some z) (hr : zRX X 0 0 (some (.int z.1)) z.2) : zPJ X 0 0 4 [(0, .ref v0), (1, .int v1), (2, .int v2), (3, .int v3)] [] σ := by
  unfold f_M_left_4 at h
  refine zj_iload_n o (zdd k_M_left 4 rfl) rfl 3 rfl ?_
  refine zj_aload_n o (zdd k_M_left 5 rfl) rfl 0 rfl ?_
  obtain ⟨x1, e_x1, h⟩ := zbd h
  refine zj_gI o (zdd k_M_left 6 rfl) fl_M_419 rfl e_x1 ?_
  refine zj_icmp_ge (tgt := 38) o (zdd k_M_left 7 rfl) (by decide) (fun hc => ?_) (fun hc => ?_)
  · rw [if_pos hc] at h
    exact zj_sub [0, 1, 2] rfl (r_M_left_38 o  h hr)
  · rw [if_neg hc] at h
    refine zj_iload_n o (zdd k_M_left 8 rfl) rfl 2 rfl ?_
    refine zj_if_ne (tgt := 26) o (zdd k_M_left 9 rfl) (by decide) (fun hc => ?_) (fun hc => ?_)
    · rw [if_neg hc] at h
      refine zj_iconst o (zdd k_M_left 16 rfl) zki_1 ?_
      refine zj_goto (tgt := 31) o (zdd k_M_left 17 rfl) (by decide) ?_
      refine zj_istore_n (loc' := [(2, .int 1), (0, .ref v0), (1, .int v1), (3, .int v3)]) o (zdd k_M_left 19 rfl) rfl (by decide) rfl ?_
      refine zj_iinc (v := v3 + 1) (loc' := [(3, .int (v3 + 1)), (2, .int 1), (0, .ref v0), (1, .int v1)]) o (zdd k_M_left 20 rfl) 3 rfl (by rw [zki_1]) (by decide) rfl ?_
      refine zj_goto (tgt := 4) o (zdd k_M_left 21 rfl) (by decide) ?_
      exact zj_sub [2, 3, 1, 0] rfl (hk4 h hr)
    · rw [if_pos hc] at h
      refine zj_aload_n o (zdd k_M_left 10 rfl) rfl 0 rfl ?_
      obtain ⟨a2, e_a2, h⟩ := zbd h
      refine zj_gP o (zdd k_M_left 11 rfl) fl_M_118 rfl e_a2 ?_
      refine zj_iload_n o (zdd k_M_left 12 rfl) rfl 3 rfl ?_
      obtain ⟨x3, e_x3, h⟩ := zbd h
      refine zj_iald o (zdd k_M_left 13 rfl) e_x3 ?_
      refine zj_iload_n o (zdd k_M_left 14 rfl) rfl 1 rfl ?_
      refine zj_icmp_ne (tgt := 30) o (zdd k_M_left 15 rfl) (by decide) (fun hc => ?_) (fun hc => ?_)
      · rw [if_neg hc] at h
        refine zj_iconst o (zdd k_M_left 18 rfl) zki_0 ?_
        refine zj_istore_n (loc' := [(2, .int 0), (0, .ref v0), (1, .int v1), (3, .int v3)]) o (zdd k_M_left 19 rfl) rfl (by decide) rfl ?_
        refine zj_iinc (v := v3 + 1) (loc' := [(3, .int (v3 + 1)), (2, .int 0), (0, .ref v0), (1, .int v1)]) o (zdd k_M_left 20 rfl) 3 rfl (by rw [zki_1]) (by decide) rfl ?_
        refine zj_goto (tgt := 4) o (zdd k_M_left 21 rfl) (by decide) ?_
        exact zj_sub [2, 3, 1, 0] rfl (hk4 h hr)
      · rw [if_pos hc] at h
        refine zj_iconst o (zdd k_M_left 16 rfl) zki_1 ?_
        refine zj_goto (tgt := 31) o (zdd k_M_left 17 rfl) (by decide) ?_
        refine zj_istore_n (loc' := [(2, .int 1), (0, .ref v0), (1, .int v1), (3, .int v3)]) o (zdd k_M_left 19 rfl) rfl (by decide) rfl ?_
        refine zj_iinc (v := v3 + 1) (loc' := [(3, .int (v3 + 1)), (2, .int 1), (0, .ref v0), (1, .int v1)]) o (zdd k_M_left 20 rfl) 3 rfl (by rw [zki_1]) (by decide) rfl ?_
        refine zj_goto (tgt := 4) o (zdd k_M_left 21 rfl) (by decide) ?_
        exact zj_sub [2, 3, 1, 0] rfl (hk4 h hr)
def f_M_left_4L : Nat → zSt → Nat → Int32 → Int32 → Int32 → Option (Int32 × zSt)
  | 0 => fun _ _ _ _ _ => none
  | n + 1 => f_M_left_4  (f_M_left_4L  n)
theorem r_M_left_4L {X : zCX} (o : zOK X "WantShelvesModel" c_M_left n_M_left 3) : ∀ (n : Nat) {σ : zSt} {v0 : Nat} {v1 : Int32} {v2 : Int32} {v3 : Int32} {z : Int32 × zSt}, f_M_left_4L n σ v0 v1 v2 v3 = some z → zRX X 0 0 (some (.int z.1)) z.2 → zPJ X 0 0 4 [(0, .ref v0), (1, .int v1), (2, .int v2), (3, .int v3)] [] σ
  | 0 => fun h _ => by cases h
  | n + 1 => fun h hr => r_M_left_4 o (r_M_left_4L o  n) h hr
def f_M_left (σ : zSt) (t : Nat) (p0 : Int32) : Option (Int32 × zSt) :=
zg σ 12 t (
f_M_left_4L zfu σ t p0 0 0)
set_option maxRecDepth 100000 in
set_option maxHeartbeats 4000000 in
theorem m_M_left {l : Launch} {b : Nat} {ex : Nat → Value} {D : va_G} {ca : Nat → ClassId} {σ : zSt} {t : Nat} {p0 : Int32} {z : Int32 × zSt} (h : f_M_left σ t p0 = some z) : zMT l b ex D ca 3 y_M_left c_M_left n_M_left r_ret_M_left [.ref t, .int p0] σ (some (.int z.1)) z.2 0 0 := by
  obtain ⟨_, hg0⟩ := zg_some h
  have h := hg0
  refine zmt_of (by decide) (Nat.le_of_ble_eq_true rfl) ⟨.int, rfl, rfl⟩ (fun X o hin hrm _ _ _ _ _ hr => ?_)
  have hr := hr 0 0 (by decide) (by decide)
  have o : zOK X "WantShelvesModel" c_M_left n_M_left 3 := o
  change zPJ X 0 0 0 [(0, .ref t), (1, .int p0)] [] σ
  refine zj_iconst o (zdd k_M_left 0 rfl) zki_0 ?_
  refine zj_istore_n (loc' := [(2, .int 0), (0, .ref t), (1, .int p0)]) o (zdd k_M_left 1 rfl) rfl (by decide) rfl ?_
  refine zj_iconst o (zdd k_M_left 2 rfl) zki_0 ?_
  refine zj_istore_n (loc' := [(3, .int 0), (2, .int 0), (0, .ref t), (1, .int p0)]) o (zdd k_M_left 3 rfl) rfl (by decide) rfl ?_
  exact zj_sub [2, 3, 1, 0] rfl (r_M_left_4L o  zfu h hr)
def f_M_hush (σ : zSt) (t : Nat) : Option (Int32 × zSt) :=
zg σ 12 t (
(zgI σ 12 t 71).bind fun x1 =>
(zsI σ 12 t 71 0).bind fun σ2 =>
some (x1, σ2))
set_option maxRecDepth 100000 in
set_option maxHeartbeats 4000000 in
theorem m_M_hush {l : Launch} {b : Nat} {ex : Nat → Value} {D : va_G} {ca : Nat → ClassId} {σ : zSt} {t : Nat} {z : Int32 × zSt} (h : f_M_hush σ t = some z) : zMT l b ex D ca 1 y_M_hush c_M_hush n_M_hush r_ret_M_hush [.ref t] σ (some (.int z.1)) z.2 0 0 := by
  obtain ⟨_, hg0⟩ := zg_some h
  have h := hg0
  refine zmt_of (by decide) (Nat.le_of_ble_eq_true rfl) ⟨.int, rfl, rfl⟩ (fun X o hin hrm _ _ _ _ _ hr => ?_)
  have hr := hr 0 0 (by decide) (by decide)
  have o : zOK X "WantShelvesModel" c_M_hush n_M_hush 1 := o
  change zPJ X 0 0 0 [(0, .ref t)] [] σ
  refine zj_aload_n o (zdd k_M_hush 0 rfl) rfl 0 rfl ?_
  obtain ⟨x1, e_x1, h⟩ := zbd h
  refine zj_gI o (zdd k_M_hush 1 rfl) fl_M_419 rfl e_x1 ?_
  refine zj_istore_n (loc' := [(1, .int x1), (0, .ref t)]) o (zdd k_M_hush 2 rfl) rfl (by decide) rfl ?_
  refine zj_aload_n o (zdd k_M_hush 3 rfl) rfl 1 rfl ?_
  refine zj_iconst o (zdd k_M_hush 4 rfl) zki_0 ?_
  obtain ⟨σ2, e_σ2, h⟩ := zbd h
  refine zj_pI o (zdd k_M_hush 5 rfl) fl_M_419 rfl rfl e_σ2 ?_
  refine zj_iload_n o (zdd k_M_hush 6 rfl) rfl 0 rfl ?_
  cases h
  exact zr_i o hr (zdd k_M_hush 7 rfl)
def f_M_was_99 (k32 : zSt → Nat → Int32 → Int32 → Int32 → Int32 → Int32 → Option (Int32 × zSt)) (σ : zSt) (v0 : Nat) (v1 : Int32) (v2 : Int32) (v3 : Int32) (v4 : Int32) (v5 : Int32) (v6 : Int32) : Option (Int32 × zSt) :=
if v6 = 0 then (
k32 σ v0 v1 v2 v3 v4 (v5 + 1)) else
k32 σ v0 v1 (v2 + 1) (v3 &&& v5) (v4 ||| v5) (v5 + 1)
set_option maxRecDepth 100000 in
set_option maxHeartbeats 4000000 in
theorem r_M_was_99 {X : zCX} (o : zOK X "WantShelvesModel" c_M_was n_M_was 8) {k32 : zSt → Nat → Int32 → Int32 → Int32 → Int32 → Int32 → Option (Int32 × zSt)} (hk32 : ∀ {σ : zSt} {v0 : Nat} {v1 : Int32} {v2 : Int32} {v3 : Int32} {v4 : Int32} {v5 : Int32} {z : Int32 × zSt}, k32 σ v0 v1 v2 v3 v4 v5 = some z → zRX X 0 0 (some (.int z.1)) z.2 → zPJ X 0 0 32 [(0, .ref v0), (1, .int v1), (2, .int v2), (3, .int v3), (4, .int v4), (5, .int v5)] [] σ) {σ : zSt} {v0 : Nat} {v1 : Int32} {v2 : Int32} {v3 : Int32} {v4 : Int32} {v5 : Int32} {v6 : Int32} {z : Int32 × zSt} (h : f_M_was_99 k32 σ v0 v1 v2 v3 v4 v5 v6 = some z) (hr : zRX X 0 0 (some (.int z.1)) z.2) : zPJ X 0 0 99 [(0, .ref v0), (1, .int v1), (2, .int v2), (3, .int v3), (4, .int v4), (5, .int v5), (6, .int v6)] [] σ := by
  unfold f_M_was_99 at h
  refine zj_iload o (zdd k_M_was 56 rfl) 6 rfl ?_
  refine zj_if_ne (tgt := 107) o (zdd k_M_was 57 rfl) (by decide) (fun hc => ?_) (fun hc => ?_)
  · rw [if_neg hc] at h
    refine zj_iinc (v := v2 + 1) (loc' := [(2, .int (v2 + 1)), (0, .ref v0), (1, .int v1), (3, .int v3), (4, .int v4), (5, .int v5), (6, .int v6)]) o (zdd k_M_was 59 rfl) 2 rfl (by rw [zki_1]) (by decide) rfl ?_
    refine zj_iload_n o (zdd k_M_was 60 rfl) rfl 3 rfl ?_
    refine zj_iload o (zdd k_M_was 61 rfl) 5 rfl ?_
    refine zj_iand o (zdd k_M_was 62 rfl) ?_
    refine zj_istore_n (loc' := [(3, .int (v3 &&& v5)), (2, .int (v2 + 1)), (0, .ref v0), (1, .int v1), (4, .int v4), (5, .int v5), (6, .int v6)]) o (zdd k_M_was 63 rfl) rfl (by decide) rfl ?_
    refine zj_iload o (zdd k_M_was 64 rfl) 4 rfl ?_
    refine zj_iload o (zdd k_M_was 65 rfl) 5 rfl ?_
    refine zj_ior o (zdd k_M_was 66 rfl) ?_
    refine zj_istore (loc' := [(4, .int (v4 ||| v5)), (3, .int (v3 &&& v5)), (2, .int (v2 + 1)), (0, .ref v0), (1, .int v1), (5, .int v5), (6, .int v6)]) o (zdd k_M_was 67 rfl) (by decide) rfl ?_
    refine zj_iinc (v := v5 + 1) (loc' := [(5, .int (v5 + 1)), (4, .int (v4 ||| v5)), (3, .int (v3 &&& v5)), (2, .int (v2 + 1)), (0, .ref v0), (1, .int v1), (6, .int v6)]) o (zdd k_M_was 68 rfl) 5 rfl (by rw [zki_1]) (by decide) rfl ?_
    refine zj_goto (tgt := 32) o (zdd k_M_was 69 rfl) (by decide) ?_
    exact zj_sub [4, 5, 3, 2, 1, 0] rfl (hk32 h hr)
  · rw [if_pos hc] at h
    refine zj_goto (tgt := 122) o (zdd k_M_was 58 rfl) (by decide) ?_
    refine zj_iinc (v := v5 + 1) (loc' := [(5, .int (v5 + 1)), (0, .ref v0), (1, .int v1), (2, .int v2), (3, .int v3), (4, .int v4), (6, .int v6)]) o (zdd k_M_was 68 rfl) 5 rfl (by rw [zki_1]) (by decide) rfl ?_
    refine zj_goto (tgt := 32) o (zdd k_M_was 69 rfl) (by decide) ?_
    exact zj_sub [1, 2, 3, 4, 5, 0] rfl (hk32 h hr)
def f_M_was_55 (k32 : zSt → Nat → Int32 → Int32 → Int32 → Int32 → Int32 → Option (Int32 × zSt)) (k55 : zSt → Nat → Int32 → Int32 → Int32 → Int32 → Int32 → Int32 → Int32 → Option (Int32 × zSt)) (σ : zSt) (v0 : Nat) (v1 : Int32) (v2 : Int32) (v3 : Int32) (v4 : Int32) (v5 : Int32) (v6 : Int32) (v7 : Int32) : Option (Int32 × zSt) :=
(zgI σ 12 v0 71).bind fun x1 =>
if x1 ≤ v7 then (
f_M_was_99 k32 σ v0 v1 v2 v3 v4 v5 v6) else
if v6 = 0 then (
k55 σ v0 v1 v2 v3 v4 v5 0 (v7 + 1)) else
(zgP σ 12 v0 53).bind fun a2 =>
(zgP σ 12 v0 70).bind fun a3 =>
(zaI σ 1 a3 v7).bind fun x4 =>
(zaI σ 1 a2 x4).bind fun x5 =>
if x5 = v7 then (
k55 σ v0 v1 v2 v3 v4 v5 1 (v7 + 1)) else
k55 σ v0 v1 v2 v3 v4 v5 0 (v7 + 1)
set_option maxRecDepth 100000 in
set_option maxHeartbeats 4000000 in
theorem r_M_was_55 {X : zCX} (o : zOK X "WantShelvesModel" c_M_was n_M_was 8) {k32 : zSt → Nat → Int32 → Int32 → Int32 → Int32 → Int32 → Option (Int32 × zSt)} {k55 : zSt → Nat → Int32 → Int32 → Int32 → Int32 → Int32 → Int32 → Int32 → Option (Int32 × zSt)} (hk32 : ∀ {σ : zSt} {v0 : Nat} {v1 : Int32} {v2 : Int32} {v3 : Int32} {v4 : Int32} {v5 : Int32} {z : Int32 × zSt}, k32 σ v0 v1 v2 v3 v4 v5 = some z → zRX X 0 0 (some (.int z.1)) z.2 → zPJ X 0 0 32 [(0, .ref v0), (1, .int v1), (2, .int v2), (3, .int v3), (4, .int v4), (5, .int v5)] [] σ) (hk55 : ∀ {σ : zSt} {v0 : Nat} {v1 : Int32} {v2 : Int32} {v3 : Int32} {v4 : Int32} {v5 : Int32} {v6 : Int32} {v7 : Int32} {z : Int32 × zSt}, k55 σ v0 v1 v2 v3 v4 v5 v6 v7 = some z → zRX X 0 0 (some (.int z.1)) z.2 → zPJ X 0 0 55 [(0, .ref v0), (1, .int v1), (2, .int v2), (3, .int v3), (4, .int v4), (5, .int v5), (6, .int v6), (7, .int v7)] [] σ) {σ : zSt} {v0 : Nat} {v1 : Int32} {v2 : Int32} {v3 : Int32} {v4 : Int32} {v5 : Int32} {v6 : Int32} {v7 : Int32} {z : Int32 × zSt} (h : f_M_was_55 k32 k55 σ v0 v1 v2 v3 v4 v5 v6 v7 = some z) (hr : zRX X 0 0 (some (.int z.1)) z.2) : zPJ X 0 0 55 [(0, .ref v0), (1, .int v1), (2, .int v2), (3, .int v3), (4, .int v4), (5, .int v5), (6, .int v6), (7, .int v7)] [] σ := by
  unfold f_M_was_55 at h
  refine zj_iload o (zdd k_M_was 35 rfl) 7 rfl ?_
  refine zj_aload_n o (zdd k_M_was 36 rfl) rfl 0 rfl ?_
  obtain ⟨x1, e_x1, h⟩ := zbd h
  refine zj_gI o (zdd k_M_was 37 rfl) fl_M_419 rfl e_x1 ?_
  refine zj_icmp_ge (tgt := 99) o (zdd k_M_was 38 rfl) (by decide) (fun hc => ?_) (fun hc => ?_)
  · rw [if_pos hc] at h
    exact zj_sub [0, 1, 2, 3, 4, 5, 6] rfl (r_M_was_99 o hk32 h hr)
  · rw [if_neg hc] at h
    refine zj_iload o (zdd k_M_was 39 rfl) 6 rfl ?_
    refine zj_if_eq (tgt := 90) o (zdd k_M_was 40 rfl) (by decide) (fun hc => ?_) (fun hc => ?_)
    · rw [if_pos hc] at h
      refine zj_iconst o (zdd k_M_was 52 rfl) zki_0 ?_
      refine zj_istore (loc' := [(6, .int 0), (0, .ref v0), (1, .int v1), (2, .int v2), (3, .int v3), (4, .int v4), (5, .int v5), (7, .int v7)]) o (zdd k_M_was 53 rfl) (by decide) rfl ?_
      refine zj_iinc (v := v7 + 1) (loc' := [(7, .int (v7 + 1)), (6, .int 0), (0, .ref v0), (1, .int v1), (2, .int v2), (3, .int v3), (4, .int v4), (5, .int v5)]) o (zdd k_M_was 54 rfl) 7 rfl (by rw [zki_1]) (by decide) rfl ?_
      refine zj_goto (tgt := 55) o (zdd k_M_was 55 rfl) (by decide) ?_
      exact zj_sub [2, 3, 4, 5, 6, 7, 1, 0] rfl (hk55 h hr)
    · rw [if_neg hc] at h
      refine zj_aload_n o (zdd k_M_was 41 rfl) rfl 0 rfl ?_
      obtain ⟨a2, e_a2, h⟩ := zbd h
      refine zj_gP o (zdd k_M_was 42 rfl) fl_M_90 rfl e_a2 ?_
      refine zj_aload_n o (zdd k_M_was 43 rfl) rfl 0 rfl ?_
      obtain ⟨a3, e_a3, h⟩ := zbd h
      refine zj_gP o (zdd k_M_was 44 rfl) fl_M_118 rfl e_a3 ?_
      refine zj_iload o (zdd k_M_was 45 rfl) 7 rfl ?_
      obtain ⟨x4, e_x4, h⟩ := zbd h
      refine zj_iald o (zdd k_M_was 46 rfl) e_x4 ?_
      obtain ⟨x5, e_x5, h⟩ := zbd h
      refine zj_iald o (zdd k_M_was 47 rfl) e_x5 ?_
      refine zj_iload o (zdd k_M_was 48 rfl) 7 rfl ?_
      refine zj_icmp_ne (tgt := 90) o (zdd k_M_was 49 rfl) (by decide) (fun hc => ?_) (fun hc => ?_)
      · rw [if_neg hc] at h
        refine zj_iconst o (zdd k_M_was 52 rfl) zki_0 ?_
        refine zj_istore (loc' := [(6, .int 0), (0, .ref v0), (1, .int v1), (2, .int v2), (3, .int v3), (4, .int v4), (5, .int v5), (7, .int v7)]) o (zdd k_M_was 53 rfl) (by decide) rfl ?_
        refine zj_iinc (v := v7 + 1) (loc' := [(7, .int (v7 + 1)), (6, .int 0), (0, .ref v0), (1, .int v1), (2, .int v2), (3, .int v3), (4, .int v4), (5, .int v5)]) o (zdd k_M_was 54 rfl) 7 rfl (by rw [zki_1]) (by decide) rfl ?_
        refine zj_goto (tgt := 55) o (zdd k_M_was 55 rfl) (by decide) ?_
        exact zj_sub [2, 3, 4, 5, 6, 7, 1, 0] rfl (hk55 h hr)
      · rw [if_pos hc] at h
        refine zj_iconst o (zdd k_M_was 50 rfl) zki_1 ?_
        refine zj_goto (tgt := 91) o (zdd k_M_was 51 rfl) (by decide) ?_
        refine zj_istore (loc' := [(6, .int 1), (0, .ref v0), (1, .int v1), (2, .int v2), (3, .int v3), (4, .int v4), (5, .int v5), (7, .int v7)]) o (zdd k_M_was 53 rfl) (by decide) rfl ?_
        refine zj_iinc (v := v7 + 1) (loc' := [(7, .int (v7 + 1)), (6, .int 1), (0, .ref v0), (1, .int v1), (2, .int v2), (3, .int v3), (4, .int v4), (5, .int v5)]) o (zdd k_M_was 54 rfl) 7 rfl (by rw [zki_1]) (by decide) rfl ?_
        refine zj_goto (tgt := 55) o (zdd k_M_was 55 rfl) (by decide) ?_
        exact zj_sub [2, 3, 4, 5, 6, 7, 1, 0] rfl (hk55 h hr)
def f_M_was_55L (k32 : zSt → Nat → Int32 → Int32 → Int32 → Int32 → Int32 → Option (Int32 × zSt)) : Nat → zSt → Nat → Int32 → Int32 → Int32 → Int32 → Int32 → Int32 → Int32 → Option (Int32 × zSt)
  | 0 => fun _ _ _ _ _ _ _ _ _ => none
  | n + 1 => f_M_was_55  k32 (f_M_was_55L k32 n)
theorem r_M_was_55L {X : zCX} (o : zOK X "WantShelvesModel" c_M_was n_M_was 8) {k32 : zSt → Nat → Int32 → Int32 → Int32 → Int32 → Int32 → Option (Int32 × zSt)} (hk32 : ∀ {σ : zSt} {v0 : Nat} {v1 : Int32} {v2 : Int32} {v3 : Int32} {v4 : Int32} {v5 : Int32} {z : Int32 × zSt}, k32 σ v0 v1 v2 v3 v4 v5 = some z → zRX X 0 0 (some (.int z.1)) z.2 → zPJ X 0 0 32 [(0, .ref v0), (1, .int v1), (2, .int v2), (3, .int v3), (4, .int v4), (5, .int v5)] [] σ) : ∀ (n : Nat) {σ : zSt} {v0 : Nat} {v1 : Int32} {v2 : Int32} {v3 : Int32} {v4 : Int32} {v5 : Int32} {v6 : Int32} {v7 : Int32} {z : Int32 × zSt}, f_M_was_55L k32 n σ v0 v1 v2 v3 v4 v5 v6 v7 = some z → zRX X 0 0 (some (.int z.1)) z.2 → zPJ X 0 0 55 [(0, .ref v0), (1, .int v1), (2, .int v2), (3, .int v3), (4, .int v4), (5, .int v5), (6, .int v6), (7, .int v7)] [] σ
  | 0 => fun h _ => by cases h
  | n + 1 => fun h hr => r_M_was_55 o hk32 (r_M_was_55L o hk32 n) h hr
def f_M_was_128 (σ : zSt) (v1 : Int32) (v2 : Int32) (v3 : Int32) (v4 : Int32) : Option (Int32 × zSt) :=
if v1 = 0 then (
some (v2, σ)) else
if v2 = 0 then (
some (0, σ)) else
if v1 = 1 then (
some (v3, σ)) else
some (v4, σ)
set_option maxRecDepth 100000 in
set_option maxHeartbeats 4000000 in
theorem r_M_was_128 {X : zCX} (o : zOK X "WantShelvesModel" c_M_was n_M_was 8) {σ : zSt} {v1 : Int32} {v2 : Int32} {v3 : Int32} {v4 : Int32} {z : Int32 × zSt} (h : f_M_was_128 σ v1 v2 v3 v4 = some z) (hr : zRX X 0 0 (some (.int z.1)) z.2) : zPJ X 0 0 128 [(1, .int v1), (2, .int v2), (3, .int v3), (4, .int v4)] [] σ := by
  unfold f_M_was_128 at h
  refine zj_iload_n o (zdd k_M_was 70 rfl) rfl 0 rfl ?_
  refine zj_if_ne (tgt := 136) o (zdd k_M_was 71 rfl) (by decide) (fun hc => ?_) (fun hc => ?_)
  · rw [if_neg hc] at h
    refine zj_iload_n o (zdd k_M_was 74 rfl) rfl 1 rfl ?_
    refine zj_if_ne (tgt := 144) o (zdd k_M_was 75 rfl) (by decide) (fun hc => ?_) (fun hc => ?_)
    · rw [if_neg hc] at h
      refine zj_iload_n o (zdd k_M_was 78 rfl) rfl 0 rfl ?_
      refine zj_iconst o (zdd k_M_was 79 rfl) zki_1 ?_
      refine zj_icmp_ne (tgt := 153) o (zdd k_M_was 80 rfl) (by decide) (fun hc => ?_) (fun hc => ?_)
      · rw [if_neg hc] at h
        refine zj_iload o (zdd k_M_was 83 rfl) 3 rfl ?_
        cases h
        exact zr_i o hr (zdd k_M_was 84 rfl)
      · rw [if_pos hc] at h
        refine zj_iload_n o (zdd k_M_was 81 rfl) rfl 2 rfl ?_
        refine zj_goto (tgt := 155) o (zdd k_M_was 82 rfl) (by decide) ?_
        cases h
        exact zr_i o hr (zdd k_M_was 84 rfl)
    · rw [if_pos hc] at h
      refine zj_iconst o (zdd k_M_was 76 rfl) zki_0 ?_
      refine zj_goto (tgt := 155) o (zdd k_M_was 77 rfl) (by decide) ?_
      cases h
      exact zr_i o hr (zdd k_M_was 84 rfl)
  · rw [if_pos hc] at h
    refine zj_iload_n o (zdd k_M_was 72 rfl) rfl 1 rfl ?_
    refine zj_goto (tgt := 155) o (zdd k_M_was 73 rfl) (by decide) ?_
    cases h
    exact zr_i o hr (zdd k_M_was 84 rfl)
def f_M_was_32 (k32 : zSt → Nat → Int32 → Int32 → Int32 → Int32 → Int32 → Option (Int32 × zSt)) (σ : zSt) (v0 : Nat) (v1 : Int32) (v2 : Int32) (v3 : Int32) (v4 : Int32) (v5 : Int32) : Option (Int32 × zSt) :=
(zgI σ 12 v0 43).bind fun x1 =>
if 1 <<< (x1 &&& 31) ≤ v5 then (
f_M_was_128 σ v1 v2 v3 v4) else
(f_M_layOrder σ v0 v5).bind fun σ2 =>
f_M_was_55L k32 zfu σ2 v0 v1 v2 v3 v4 v5 1 0
set_option maxRecDepth 100000 in
set_option maxHeartbeats 4000000 in
theorem r_M_was_32 {X : zCX} (o : zOK X "WantShelvesModel" c_M_was n_M_was 8) {k32 : zSt → Nat → Int32 → Int32 → Int32 → Int32 → Int32 → Option (Int32 × zSt)} (hk32 : ∀ {σ : zSt} {v0 : Nat} {v1 : Int32} {v2 : Int32} {v3 : Int32} {v4 : Int32} {v5 : Int32} {z : Int32 × zSt}, k32 σ v0 v1 v2 v3 v4 v5 = some z → zRX X 0 0 (some (.int z.1)) z.2 → zPJ X 0 0 32 [(0, .ref v0), (1, .int v1), (2, .int v2), (3, .int v3), (4, .int v4), (5, .int v5)] [] σ) {σ : zSt} {v0 : Nat} {v1 : Int32} {v2 : Int32} {v3 : Int32} {v4 : Int32} {v5 : Int32} {z : Int32 × zSt} (h : f_M_was_32 k32 σ v0 v1 v2 v3 v4 v5 = some z) (hr : zRX X 0 0 (some (.int z.1)) z.2) : zPJ X 0 0 32 [(0, .ref v0), (1, .int v1), (2, .int v2), (3, .int v3), (4, .int v4), (5, .int v5)] [] σ := by
  unfold f_M_was_32 at h
  refine zj_iload o (zdd k_M_was 22 rfl) 5 rfl ?_
  refine zj_iconst o (zdd k_M_was 23 rfl) zki_1 ?_
  refine zj_aload_n o (zdd k_M_was 24 rfl) rfl 0 rfl ?_
  obtain ⟨x1, e_x1, h⟩ := zbd h
  refine zj_gI o (zdd k_M_was 25 rfl) fl_M_394 rfl e_x1 ?_
  refine zj_ishl o (zdd k_M_was 26 rfl) ?_
  refine zj_icmp_ge (tgt := 128) o (zdd k_M_was 27 rfl) (by decide) (fun hc => ?_) (fun hc => ?_)
  · rw [if_pos hc] at h
    exact zj_sub [1, 2, 3, 4] rfl (r_M_was_128 o  h hr)
  · rw [if_neg hc] at h
    refine zj_aload_n o (zdd k_M_was 28 rfl) rfl 0 rfl ?_
    refine zj_iload o (zdd k_M_was 29 rfl) 5 rfl ?_
    obtain ⟨σ2, e_σ2, h⟩ := zbd h
    refine zc_V o (zdd k_M_was 30 rfl) ml_M_493 mv_M_layOrder ⟨rfl, by decide⟩ (zg_some e_σ2).1 (by decide) [.int v5] [] rfl (Nat.le_of_ble_eq_true rfl) rfl (m_M_layOrder e_σ2) ?_
    change zPJ X 0 0 _ _ [] _
    refine zj_iconst o (zdd k_M_was 31 rfl) zki_1 ?_
    refine zj_istore (loc' := [(6, .int 1), (0, .ref v0), (1, .int v1), (2, .int v2), (3, .int v3), (4, .int v4), (5, .int v5)]) o (zdd k_M_was 32 rfl) (by decide) rfl ?_
    refine zj_iconst o (zdd k_M_was 33 rfl) zki_0 ?_
    refine zj_istore (loc' := [(7, .int 0), (6, .int 1), (0, .ref v0), (1, .int v1), (2, .int v2), (3, .int v3), (4, .int v4), (5, .int v5)]) o (zdd k_M_was 34 rfl) (by decide) rfl ?_
    exact zj_sub [2, 3, 4, 5, 6, 7, 1, 0] rfl (r_M_was_55L o hk32 zfu h hr)
def f_M_was_32L : Nat → zSt → Nat → Int32 → Int32 → Int32 → Int32 → Int32 → Option (Int32 × zSt)
  | 0 => fun _ _ _ _ _ _ _ => none
  | n + 1 => f_M_was_32  (f_M_was_32L  n)
theorem r_M_was_32L {X : zCX} (o : zOK X "WantShelvesModel" c_M_was n_M_was 8) : ∀ (n : Nat) {σ : zSt} {v0 : Nat} {v1 : Int32} {v2 : Int32} {v3 : Int32} {v4 : Int32} {v5 : Int32} {z : Int32 × zSt}, f_M_was_32L n σ v0 v1 v2 v3 v4 v5 = some z → zRX X 0 0 (some (.int z.1)) z.2 → zPJ X 0 0 32 [(0, .ref v0), (1, .int v1), (2, .int v2), (3, .int v3), (4, .int v4), (5, .int v5)] [] σ
  | 0 => fun h _ => by cases h
  | n + 1 => fun h hr => r_M_was_32 o (r_M_was_32L o  n) h hr
def f_M_was (σ : zSt) (t : Nat) (p0 : Int32) : Option (Int32 × zSt) :=
zg σ 12 t (
(f_M_isIn p0 0 2).bind fun x1 =>
if x1 = 0 then (
some ((-1), σ)) else
(f_M_layAll σ t).bind fun σ2 =>
(zgI σ2 12 t 43).bind fun x3 =>
f_M_was_32L zfu σ2 t p0 0 ((1 <<< (x3 &&& 31)) - 1) 0 0)
set_option maxRecDepth 100000 in
set_option maxHeartbeats 4000000 in
theorem m_M_was {l : Launch} {b : Nat} {ex : Nat → Value} {D : va_G} {ca : Nat → ClassId} {σ : zSt} {t : Nat} {p0 : Int32} {z : Int32 × zSt} (h : f_M_was σ t p0 = some z) : zMT l b ex D ca 8 y_M_was c_M_was n_M_was r_ret_M_was [.ref t, .int p0] σ (some (.int z.1)) z.2 0 0 := by
  obtain ⟨_, hg0⟩ := zg_some h
  have h := hg0
  refine zmt_of (by decide) (Nat.le_of_ble_eq_true rfl) ⟨.int, rfl, rfl⟩ (fun X o hin hrm _ _ _ _ _ hr => ?_)
  have hr := hr 0 0 (by decide) (by decide)
  have o : zOK X "WantShelvesModel" c_M_was n_M_was 8 := o
  change zPJ X 0 0 0 [(0, .ref t), (1, .int p0)] [] σ
  refine zj_iload_n o (zdd k_M_was 0 rfl) rfl 1 rfl ?_
  refine zj_iconst o (zdd k_M_was 1 rfl) zki_0 ?_
  refine zj_iconst o (zdd k_M_was 2 rfl) zki_2 ?_
  obtain ⟨x1, e_x1, h⟩ := zbd h
  refine zc_S o (zdd k_M_was 3 rfl) ml_M_425 ms_M_isIn (by decide) [.int p0, .int 0, .int 2] [] rfl (Nat.le_of_ble_eq_true rfl) rfl (m_M_isIn e_x1) ?_
  change zPJ X 0 0 _ _ [.int x1] _
  refine zj_if_ne (tgt := 11) o (zdd k_M_was 4 rfl) (by decide) (fun hc => ?_) (fun hc => ?_)
  · rw [if_neg hc] at h
    refine zj_aload_n o (zdd k_M_was 7 rfl) rfl 0 rfl ?_
    obtain ⟨σ2, e_σ2, h⟩ := zbd h
    refine zc_V o (zdd k_M_was 8 rfl) ml_M_490 mv_M_layAll ⟨rfl, by decide⟩ (zg_some e_σ2).1 (by decide) [] [] rfl (Nat.le_of_ble_eq_true rfl) rfl (m_M_layAll e_σ2) ?_
    change zPJ X 0 0 _ _ [] _
    refine zj_iconst o (zdd k_M_was 9 rfl) zki_0 ?_
    refine zj_istore_n (loc' := [(2, .int 0), (0, .ref t), (1, .int p0)]) o (zdd k_M_was 10 rfl) rfl (by decide) rfl ?_
    refine zj_iconst o (zdd k_M_was 11 rfl) zki_1 ?_
    refine zj_aload_n o (zdd k_M_was 12 rfl) rfl 1 rfl ?_
    obtain ⟨x3, e_x3, h⟩ := zbd h
    refine zj_gI o (zdd k_M_was 13 rfl) fl_M_394 rfl e_x3 ?_
    refine zj_ishl o (zdd k_M_was 14 rfl) ?_
    refine zj_iconst o (zdd k_M_was 15 rfl) zki_1 ?_
    refine zj_isub o (zdd k_M_was 16 rfl) ?_
    refine zj_istore_n (loc' := [(3, .int ((1 <<< (x3 &&& 31)) - 1)), (2, .int 0), (0, .ref t), (1, .int p0)]) o (zdd k_M_was 17 rfl) rfl (by decide) rfl ?_
    refine zj_iconst o (zdd k_M_was 18 rfl) zki_0 ?_
    refine zj_istore (loc' := [(4, .int 0), (3, .int ((1 <<< (x3 &&& 31)) - 1)), (2, .int 0), (0, .ref t), (1, .int p0)]) o (zdd k_M_was 19 rfl) (by decide) rfl ?_
    refine zj_iconst o (zdd k_M_was 20 rfl) zki_0 ?_
    refine zj_istore (loc' := [(5, .int 0), (4, .int 0), (3, .int ((1 <<< (x3 &&& 31)) - 1)), (2, .int 0), (0, .ref t), (1, .int p0)]) o (zdd k_M_was 21 rfl) (by decide) rfl ?_
    exact zj_sub [4, 5, 3, 2, 1, 0] rfl (r_M_was_32L o  zfu h hr)
  · rw [if_pos hc] at h
    refine zj_iconst o (zdd k_M_was 5 rfl) zki_m1 ?_
    cases h
    exact zr_i o hr (zdd k_M_was 6 rfl)
def f_M_one_176 (k105 : zSt → Nat → Int32 → Int32 → Option (Int32 × zSt)) (σ : zSt) (v0 : Nat) (v1 : Int32) (v2 : Int32) (v3 : Int32) : Option (Int32 × zSt) :=
(zgP σ 12 v0 53).bind fun a1 =>
(zwI σ 1 a1 v2 v3).bind fun σ2 =>
(f_M_lay σ2 v0 v2).bind fun σ3 =>
(zgP σ3 12 v0 72).bind fun a4 =>
(zaI σ3 1 a4 v2).bind fun x5 =>
(f_M_stepsTo σ3 v0 v3).bind fun x6 =>
k105 σ3 v0 (v1 + (x5 * x6)) (v3 + 1)
set_option maxRecDepth 100000 in
set_option maxHeartbeats 4000000 in
theorem r_M_one_176 {X : zCX} (o : zOK X "WantShelvesModel" c_M_one n_M_one 8) {k105 : zSt → Nat → Int32 → Int32 → Option (Int32 × zSt)} (hk105 : ∀ {σ : zSt} {v0 : Nat} {v1 : Int32} {v3 : Int32} {z : Int32 × zSt}, k105 σ v0 v1 v3 = some z → zRX X 0 0 (some (.int z.1)) z.2 → zPJ X 0 0 105 [(0, .ref v0), (1, .int v1), (3, .int v3)] [] σ) {σ : zSt} {v0 : Nat} {v1 : Int32} {v2 : Int32} {v3 : Int32} {z : Int32 × zSt} (h : f_M_one_176 k105 σ v0 v1 v2 v3 = some z) (hr : zRX X 0 0 (some (.int z.1)) z.2) : zPJ X 0 0 176 [(0, .ref v0), (1, .int v1), (2, .int v2), (3, .int v3)] [] σ := by
  unfold f_M_one_176 at h
  refine zj_aload_n o (zdd k_M_one 99 rfl) rfl 0 rfl ?_
  obtain ⟨a1, e_a1, h⟩ := zbd h
  refine zj_gP o (zdd k_M_one 100 rfl) fl_M_90 rfl e_a1 ?_
  refine zj_iload_n o (zdd k_M_one 101 rfl) rfl 2 rfl ?_
  refine zj_iload_n o (zdd k_M_one 102 rfl) rfl 3 rfl ?_
  obtain ⟨σ2, e_σ2, h⟩ := zbd h
  refine zj_iast o (zdd k_M_one 103 rfl) e_σ2 ?_
  refine zj_aload_n o (zdd k_M_one 104 rfl) rfl 0 rfl ?_
  refine zj_iload_n o (zdd k_M_one 105 rfl) rfl 2 rfl ?_
  obtain ⟨σ3, e_σ3, h⟩ := zbd h
  refine zc_V o (zdd k_M_one 106 rfl) ml_M_511 mv_M_lay ⟨rfl, by decide⟩ (zg_some e_σ3).1 (by decide) [.int v2] [] rfl (Nat.le_of_ble_eq_true rfl) rfl (m_M_lay e_σ3) ?_
  change zPJ X 0 0 _ _ [] _
  refine zj_iload_n o (zdd k_M_one 107 rfl) rfl 1 rfl ?_
  refine zj_aload_n o (zdd k_M_one 108 rfl) rfl 0 rfl ?_
  obtain ⟨a4, e_a4, h⟩ := zbd h
  refine zj_gP o (zdd k_M_one 109 rfl) fl_M_121 rfl e_a4 ?_
  refine zj_iload_n o (zdd k_M_one 110 rfl) rfl 2 rfl ?_
  obtain ⟨x5, e_x5, h⟩ := zbd h
  refine zj_iald o (zdd k_M_one 111 rfl) e_x5 ?_
  refine zj_aload_n o (zdd k_M_one 112 rfl) rfl 0 rfl ?_
  refine zj_iload_n o (zdd k_M_one 113 rfl) rfl 3 rfl ?_
  obtain ⟨x6, e_x6, h⟩ := zbd h
  refine zc_V o (zdd k_M_one 114 rfl) ml_M_496 mv_M_stepsTo ⟨rfl, by decide⟩ (zg_some e_x6).1 (by decide) [.int v3] [.int x5, .int v1] rfl (Nat.le_of_ble_eq_true rfl) rfl (m_M_stepsTo e_x6) ?_
  change zPJ X 0 0 _ _ [.int x6, .int x5, .int v1] _
  refine zj_imul o (zdd k_M_one 115 rfl) ?_
  refine zj_iadd o (zdd k_M_one 116 rfl) ?_
  refine zj_istore_n (loc' := [(1, .int (v1 + (x5 * x6))), (0, .ref v0), (2, .int v2), (3, .int v3)]) o (zdd k_M_one 117 rfl) rfl (by decide) rfl ?_
  refine zj_iinc (v := v3 + 1) (loc' := [(3, .int (v3 + 1)), (1, .int (v1 + (x5 * x6))), (0, .ref v0), (2, .int v2)]) o (zdd k_M_one 118 rfl) 3 rfl (by rw [zki_1]) (by decide) rfl ?_
  refine zj_goto (tgt := 105) o (zdd k_M_one 119 rfl) (by decide) ?_
  exact zj_sub [2, 1, 0] rfl (hk105 h hr)
def f_M_one_129 (k105 : zSt → Nat → Int32 → Int32 → Option (Int32 × zSt)) (k129 : zSt → Nat → Int32 → Int32 → Int32 → Int32 → Option (Int32 × zSt)) (σ : zSt) (v0 : Nat) (v1 : Int32) (v2 : Int32) (v3 : Int32) (v4 : Int32) : Option (Int32 × zSt) :=
(zgI σ 12 v0 42).bind fun x1 =>
if x1 ≤ v4 then (
f_M_one_176 k105 σ v0 v1 v2 v3) else
(f_M_isLeft σ v0 v4).bind fun x2 =>
if x2 = 0 then (
k129 σ v0 v1 v2 v3 (v4 + 1)) else
if v2 < 0 then (
k129 σ v0 v1 v4 v3 (v4 + 1)) else
(zgP σ 12 v0 72).bind fun a3 =>
(zaI σ 1 a3 v4).bind fun x4 =>
(zgP σ 12 v0 72).bind fun a5 =>
(zaI σ 1 a5 v2).bind fun x6 =>
if x4 ≤ x6 then (
k129 σ v0 v1 v2 v3 (v4 + 1)) else
k129 σ v0 v1 v4 v3 (v4 + 1)
set_option maxRecDepth 100000 in
set_option maxHeartbeats 4000000 in
theorem r_M_one_129 {X : zCX} (o : zOK X "WantShelvesModel" c_M_one n_M_one 8) {k105 : zSt → Nat → Int32 → Int32 → Option (Int32 × zSt)} {k129 : zSt → Nat → Int32 → Int32 → Int32 → Int32 → Option (Int32 × zSt)} (hk105 : ∀ {σ : zSt} {v0 : Nat} {v1 : Int32} {v3 : Int32} {z : Int32 × zSt}, k105 σ v0 v1 v3 = some z → zRX X 0 0 (some (.int z.1)) z.2 → zPJ X 0 0 105 [(0, .ref v0), (1, .int v1), (3, .int v3)] [] σ) (hk129 : ∀ {σ : zSt} {v0 : Nat} {v1 : Int32} {v2 : Int32} {v3 : Int32} {v4 : Int32} {z : Int32 × zSt}, k129 σ v0 v1 v2 v3 v4 = some z → zRX X 0 0 (some (.int z.1)) z.2 → zPJ X 0 0 129 [(0, .ref v0), (1, .int v1), (2, .int v2), (3, .int v3), (4, .int v4)] [] σ) {σ : zSt} {v0 : Nat} {v1 : Int32} {v2 : Int32} {v3 : Int32} {v4 : Int32} {z : Int32 × zSt} (h : f_M_one_129 k105 k129 σ v0 v1 v2 v3 v4 = some z) (hr : zRX X 0 0 (some (.int z.1)) z.2) : zPJ X 0 0 129 [(0, .ref v0), (1, .int v1), (2, .int v2), (3, .int v3), (4, .int v4)] [] σ := by
  unfold f_M_one_129 at h
  refine zj_iload o (zdd k_M_one 76 rfl) 4 rfl ?_
  refine zj_aload_n o (zdd k_M_one 77 rfl) rfl 0 rfl ?_
  obtain ⟨x1, e_x1, h⟩ := zbd h
  refine zj_gI o (zdd k_M_one 78 rfl) fl_M_391 rfl e_x1 ?_
  refine zj_icmp_ge (tgt := 176) o (zdd k_M_one 79 rfl) (by decide) (fun hc => ?_) (fun hc => ?_)
  · rw [if_pos hc] at h
    exact zj_sub [0, 1, 2, 3] rfl (r_M_one_176 o hk105 h hr)
  · rw [if_neg hc] at h
    refine zj_aload_n o (zdd k_M_one 80 rfl) rfl 0 rfl ?_
    refine zj_iload o (zdd k_M_one 81 rfl) 4 rfl ?_
    obtain ⟨x2, e_x2, h⟩ := zbd h
    refine zc_V o (zdd k_M_one 82 rfl) ml_M_466 mv_M_isLeft ⟨rfl, by decide⟩ (zg_some e_x2).1 (by decide) [.int v4] [] rfl (Nat.le_of_ble_eq_true rfl) rfl (m_M_isLeft e_x2) ?_
    change zPJ X 0 0 _ _ [.int x2] _
    refine zj_if_eq (tgt := 170) o (zdd k_M_one 83 rfl) (by decide) (fun hc => ?_) (fun hc => ?_)
    · rw [if_pos hc] at h
      refine zj_iinc (v := v4 + 1) (loc' := [(4, .int (v4 + 1)), (0, .ref v0), (1, .int v1), (2, .int v2), (3, .int v3)]) o (zdd k_M_one 97 rfl) 4 rfl (by rw [zki_1]) (by decide) rfl ?_
      refine zj_goto (tgt := 129) o (zdd k_M_one 98 rfl) (by decide) ?_
      exact zj_sub [1, 2, 3, 4, 0] rfl (hk129 h hr)
    · rw [if_neg hc] at h
      refine zj_iload_n o (zdd k_M_one 84 rfl) rfl 2 rfl ?_
      refine zj_if_lt (tgt := 167) o (zdd k_M_one 85 rfl) (by decide) (fun hc => ?_) (fun hc => ?_)
      · rw [if_pos hc] at h
        refine zj_iload o (zdd k_M_one 95 rfl) 4 rfl ?_
        refine zj_istore_n (loc' := [(2, .int v4), (0, .ref v0), (1, .int v1), (3, .int v3), (4, .int v4)]) o (zdd k_M_one 96 rfl) rfl (by decide) rfl ?_
        refine zj_iinc (v := v4 + 1) (loc' := [(4, .int (v4 + 1)), (2, .int v4), (0, .ref v0), (1, .int v1), (3, .int v3)]) o (zdd k_M_one 97 rfl) 4 rfl (by rw [zki_1]) (by decide) rfl ?_
        refine zj_goto (tgt := 129) o (zdd k_M_one 98 rfl) (by decide) ?_
        exact zj_sub [2, 3, 1, 4, 0] rfl (hk129 h hr)
      · rw [if_neg hc] at h
        refine zj_aload_n o (zdd k_M_one 86 rfl) rfl 0 rfl ?_
        obtain ⟨a3, e_a3, h⟩ := zbd h
        refine zj_gP o (zdd k_M_one 87 rfl) fl_M_121 rfl e_a3 ?_
        refine zj_iload o (zdd k_M_one 88 rfl) 4 rfl ?_
        obtain ⟨x4, e_x4, h⟩ := zbd h
        refine zj_iald o (zdd k_M_one 89 rfl) e_x4 ?_
        refine zj_aload_n o (zdd k_M_one 90 rfl) rfl 0 rfl ?_
        obtain ⟨a5, e_a5, h⟩ := zbd h
        refine zj_gP o (zdd k_M_one 91 rfl) fl_M_121 rfl e_a5 ?_
        refine zj_iload_n o (zdd k_M_one 92 rfl) rfl 2 rfl ?_
        obtain ⟨x6, e_x6, h⟩ := zbd h
        refine zj_iald o (zdd k_M_one 93 rfl) e_x6 ?_
        refine zj_icmp_le (tgt := 170) o (zdd k_M_one 94 rfl) (by decide) (fun hc => ?_) (fun hc => ?_)
        · rw [if_pos hc] at h
          refine zj_iinc (v := v4 + 1) (loc' := [(4, .int (v4 + 1)), (0, .ref v0), (1, .int v1), (2, .int v2), (3, .int v3)]) o (zdd k_M_one 97 rfl) 4 rfl (by rw [zki_1]) (by decide) rfl ?_
          refine zj_goto (tgt := 129) o (zdd k_M_one 98 rfl) (by decide) ?_
          exact zj_sub [1, 2, 3, 4, 0] rfl (hk129 h hr)
        · rw [if_neg hc] at h
          refine zj_iload o (zdd k_M_one 95 rfl) 4 rfl ?_
          refine zj_istore_n (loc' := [(2, .int v4), (0, .ref v0), (1, .int v1), (3, .int v3), (4, .int v4)]) o (zdd k_M_one 96 rfl) rfl (by decide) rfl ?_
          refine zj_iinc (v := v4 + 1) (loc' := [(4, .int (v4 + 1)), (2, .int v4), (0, .ref v0), (1, .int v1), (3, .int v3)]) o (zdd k_M_one 97 rfl) 4 rfl (by rw [zki_1]) (by decide) rfl ?_
          refine zj_goto (tgt := 129) o (zdd k_M_one 98 rfl) (by decide) ?_
          exact zj_sub [2, 3, 1, 4, 0] rfl (hk129 h hr)
def f_M_one_129L (k105 : zSt → Nat → Int32 → Int32 → Option (Int32 × zSt)) : Nat → zSt → Nat → Int32 → Int32 → Int32 → Int32 → Option (Int32 × zSt)
  | 0 => fun _ _ _ _ _ _ => none
  | n + 1 => f_M_one_129  k105 (f_M_one_129L k105 n)
theorem r_M_one_129L {X : zCX} (o : zOK X "WantShelvesModel" c_M_one n_M_one 8) {k105 : zSt → Nat → Int32 → Int32 → Option (Int32 × zSt)} (hk105 : ∀ {σ : zSt} {v0 : Nat} {v1 : Int32} {v3 : Int32} {z : Int32 × zSt}, k105 σ v0 v1 v3 = some z → zRX X 0 0 (some (.int z.1)) z.2 → zPJ X 0 0 105 [(0, .ref v0), (1, .int v1), (3, .int v3)] [] σ) : ∀ (n : Nat) {σ : zSt} {v0 : Nat} {v1 : Int32} {v2 : Int32} {v3 : Int32} {v4 : Int32} {z : Int32 × zSt}, f_M_one_129L k105 n σ v0 v1 v2 v3 v4 = some z → zRX X 0 0 (some (.int z.1)) z.2 → zPJ X 0 0 129 [(0, .ref v0), (1, .int v1), (2, .int v2), (3, .int v3), (4, .int v4)] [] σ
  | 0 => fun h _ => by cases h
  | n + 1 => fun h hr => r_M_one_129 o hk105 (r_M_one_129L o hk105 n) h hr
def f_M_one_105 (k105 : zSt → Nat → Int32 → Int32 → Option (Int32 × zSt)) (σ : zSt) (v0 : Nat) (v1 : Int32) (v3 : Int32) : Option (Int32 × zSt) :=
(zgI σ 12 v0 42).bind fun x1 =>
(zgP σ 12 v0 49).bind fun a2 =>
(zaI σ 1 a2 31).bind fun x3 =>
(f_M_members x3).bind fun x4 =>
if x1 - x4 ≤ v3 then (
some (v1, σ)) else
f_M_one_129L k105 zfu σ v0 v1 (-1) v3 0
set_option maxRecDepth 100000 in
set_option maxHeartbeats 4000000 in
theorem r_M_one_105 {X : zCX} (o : zOK X "WantShelvesModel" c_M_one n_M_one 8) {k105 : zSt → Nat → Int32 → Int32 → Option (Int32 × zSt)} (hk105 : ∀ {σ : zSt} {v0 : Nat} {v1 : Int32} {v3 : Int32} {z : Int32 × zSt}, k105 σ v0 v1 v3 = some z → zRX X 0 0 (some (.int z.1)) z.2 → zPJ X 0 0 105 [(0, .ref v0), (1, .int v1), (3, .int v3)] [] σ) {σ : zSt} {v0 : Nat} {v1 : Int32} {v3 : Int32} {z : Int32 × zSt} (h : f_M_one_105 k105 σ v0 v1 v3 = some z) (hr : zRX X 0 0 (some (.int z.1)) z.2) : zPJ X 0 0 105 [(0, .ref v0), (1, .int v1), (3, .int v3)] [] σ := by
  unfold f_M_one_105 at h
  refine zj_iload_n o (zdd k_M_one 62 rfl) rfl 2 rfl ?_
  refine zj_aload_n o (zdd k_M_one 63 rfl) rfl 0 rfl ?_
  obtain ⟨x1, e_x1, h⟩ := zbd h
  refine zj_gI o (zdd k_M_one 64 rfl) fl_M_391 rfl e_x1 ?_
  refine zj_aload_n o (zdd k_M_one 65 rfl) rfl 0 rfl ?_
  obtain ⟨a2, e_a2, h⟩ := zbd h
  refine zj_gP o (zdd k_M_one 66 rfl) fl_M_78 rfl e_a2 ?_
  refine zj_bipush o (zdd k_M_one 67 rfl) zkb_31 ?_
  obtain ⟨x3, e_x3, h⟩ := zbd h
  refine zj_iald o (zdd k_M_one 68 rfl) e_x3 ?_
  obtain ⟨x4, e_x4, h⟩ := zbd h
  refine zc_S o (zdd k_M_one 69 rfl) ml_M_515 ms_M_members (by decide) [.int x3] [.int x1, .int v3] rfl (Nat.le_of_ble_eq_true rfl) rfl (m_M_members e_x4) ?_
  change zPJ X 0 0 _ _ [.int x4, .int x1, .int v3] _
  refine zj_isub o (zdd k_M_one 70 rfl) ?_
  refine zj_icmp_ge (tgt := 209) o (zdd k_M_one 71 rfl) (by decide) (fun hc => ?_) (fun hc => ?_)
  · rw [if_pos hc] at h
    refine zj_iload_n o (zdd k_M_one 120 rfl) rfl 1 rfl ?_
    cases h
    exact zr_i o hr (zdd k_M_one 121 rfl)
  · rw [if_neg hc] at h
    refine zj_iconst o (zdd k_M_one 72 rfl) zki_m1 ?_
    refine zj_istore_n (loc' := [(2, .int (-1)), (0, .ref v0), (1, .int v1), (3, .int v3)]) o (zdd k_M_one 73 rfl) rfl (by decide) rfl ?_
    refine zj_iconst o (zdd k_M_one 74 rfl) zki_0 ?_
    refine zj_istore (loc' := [(4, .int 0), (2, .int (-1)), (0, .ref v0), (1, .int v1), (3, .int v3)]) o (zdd k_M_one 75 rfl) (by decide) rfl ?_
    exact zj_sub [2, 3, 1, 4, 0] rfl (r_M_one_129L o hk105 zfu h hr)
def f_M_one_105L : Nat → zSt → Nat → Int32 → Int32 → Option (Int32 × zSt)
  | 0 => fun _ _ _ _ => none
  | n + 1 => f_M_one_105  (f_M_one_105L  n)
theorem r_M_one_105L {X : zCX} (o : zOK X "WantShelvesModel" c_M_one n_M_one 8) : ∀ (n : Nat) {σ : zSt} {v0 : Nat} {v1 : Int32} {v3 : Int32} {z : Int32 × zSt}, f_M_one_105L n σ v0 v1 v3 = some z → zRX X 0 0 (some (.int z.1)) z.2 → zPJ X 0 0 105 [(0, .ref v0), (1, .int v1), (3, .int v3)] [] σ
  | 0 => fun h _ => by cases h
  | n + 1 => fun h hr => r_M_one_105 o (r_M_one_105L o  n) h hr
def f_M_one_99 (σ : zSt) (v0 : Nat) : Option (Int32 × zSt) :=
f_M_one_105L zfu σ v0 0 0
set_option maxRecDepth 100000 in
set_option maxHeartbeats 4000000 in
theorem r_M_one_99 {X : zCX} (o : zOK X "WantShelvesModel" c_M_one n_M_one 8) {σ : zSt} {v0 : Nat} {z : Int32 × zSt} (h : f_M_one_99 σ v0 = some z) (hr : zRX X 0 0 (some (.int z.1)) z.2) : zPJ X 0 0 99 [(0, .ref v0)] [] σ := by
  unfold f_M_one_99 at h
  refine zj_iconst o (zdd k_M_one 56 rfl) zki_0 ?_
  refine zj_istore_n (loc' := [(1, .int 0), (0, .ref v0)]) o (zdd k_M_one 57 rfl) rfl (by decide) rfl ?_
  refine zj_iconst o (zdd k_M_one 58 rfl) zki_m1 ?_
  refine zj_istore_n (loc' := [(2, .int (-1)), (1, .int 0), (0, .ref v0)]) o (zdd k_M_one 59 rfl) rfl (by decide) rfl ?_
  refine zj_iconst o (zdd k_M_one 60 rfl) zki_0 ?_
  refine zj_istore_n (loc' := [(3, .int 0), (2, .int (-1)), (1, .int 0), (0, .ref v0)]) o (zdd k_M_one 61 rfl) rfl (by decide) rfl ?_
  exact zj_sub [3, 2, 0] rfl (r_M_one_105L o  zfu h hr)
def f_M_one_80 (k80 : zSt → Nat → Int32 → Option (Int32 × zSt)) (σ : zSt) (v0 : Nat) (v1 : Int32) : Option (Int32 × zSt) :=
if 10 ≤ v1 then (
f_M_one_99 σ v0) else
(zgP σ 12 v0 53).bind fun a1 =>
(zwI σ 1 a1 v1 (-1)).bind fun σ2 =>
k80 σ2 v0 (v1 + 1)
set_option maxRecDepth 100000 in
set_option maxHeartbeats 4000000 in
theorem r_M_one_80 {X : zCX} (o : zOK X "WantShelvesModel" c_M_one n_M_one 8) {k80 : zSt → Nat → Int32 → Option (Int32 × zSt)} (hk80 : ∀ {σ : zSt} {v0 : Nat} {v1 : Int32} {z : Int32 × zSt}, k80 σ v0 v1 = some z → zRX X 0 0 (some (.int z.1)) z.2 → zPJ X 0 0 80 [(0, .ref v0), (1, .int v1)] [] σ) {σ : zSt} {v0 : Nat} {v1 : Int32} {z : Int32 × zSt} (h : f_M_one_80 k80 σ v0 v1 = some z) (hr : zRX X 0 0 (some (.int z.1)) z.2) : zPJ X 0 0 80 [(0, .ref v0), (1, .int v1)] [] σ := by
  unfold f_M_one_80 at h
  refine zj_iload_n o (zdd k_M_one 46 rfl) rfl 1 rfl ?_
  refine zj_bipush o (zdd k_M_one 47 rfl) zkb_10 ?_
  refine zj_icmp_ge (tgt := 99) o (zdd k_M_one 48 rfl) (by decide) (fun hc => ?_) (fun hc => ?_)
  · rw [if_pos hc] at h
    exact zj_sub [0] rfl (r_M_one_99 o  h hr)
  · rw [if_neg hc] at h
    refine zj_aload_n o (zdd k_M_one 49 rfl) rfl 0 rfl ?_
    obtain ⟨a1, e_a1, h⟩ := zbd h
    refine zj_gP o (zdd k_M_one 50 rfl) fl_M_90 rfl e_a1 ?_
    refine zj_iload_n o (zdd k_M_one 51 rfl) rfl 1 rfl ?_
    refine zj_iconst o (zdd k_M_one 52 rfl) zki_m1 ?_
    obtain ⟨σ2, e_σ2, h⟩ := zbd h
    refine zj_iast o (zdd k_M_one 53 rfl) e_σ2 ?_
    refine zj_iinc (v := v1 + 1) (loc' := [(1, .int (v1 + 1)), (0, .ref v0)]) o (zdd k_M_one 54 rfl) 1 rfl (by rw [zki_1]) (by decide) rfl ?_
    refine zj_goto (tgt := 80) o (zdd k_M_one 55 rfl) (by decide) ?_
    exact zj_sub [1, 0] rfl (hk80 h hr)
def f_M_one_80L : Nat → zSt → Nat → Int32 → Option (Int32 × zSt)
  | 0 => fun _ _ _ => none
  | n + 1 => f_M_one_80  (f_M_one_80L  n)
theorem r_M_one_80L {X : zCX} (o : zOK X "WantShelvesModel" c_M_one n_M_one 8) : ∀ (n : Nat) {σ : zSt} {v0 : Nat} {v1 : Int32} {z : Int32 × zSt}, f_M_one_80L n σ v0 v1 = some z → zRX X 0 0 (some (.int z.1)) z.2 → zPJ X 0 0 80 [(0, .ref v0), (1, .int v1)] [] σ
  | 0 => fun h _ => by cases h
  | n + 1 => fun h hr => r_M_one_80 o (r_M_one_80L o  n) h hr
def f_M_one_28 (k28 : zSt → Nat → Int32 → Option (Int32 × zSt)) (σ : zSt) (v0 : Nat) (v1 : Int32) : Option (Int32 × zSt) :=
(zgI σ 12 v0 43).bind fun x1 =>
if x1 ≤ v1 then (
f_M_one_80L zfu σ v0 0) else
(zgP σ 12 v0 49).bind fun a2 =>
(zaI σ 1 a2 31).bind fun x3 =>
(f_M_members x3).bind fun x4 =>
(zgI σ 12 v0 42).bind fun x5 =>
if x5 ≤ x4 then (
f_M_one_80L zfu σ v0 0) else
(zgP σ 12 v0 72).bind fun a6 =>
(f_M_ownBook σ v0 v1).bind fun q7 =>
(zaI q7.2 1 a6 q7.1).bind fun x8 =>
(zgP q7.2 12 v0 33).bind fun a9 =>
(zaI q7.2 1 a9 v1).bind fun x10 =>
(zwI q7.2 1 a6 q7.1 (x8 + x10)).bind fun σ11 =>
k28 σ11 v0 (v1 + 1)
set_option maxRecDepth 100000 in
set_option maxHeartbeats 4000000 in
theorem r_M_one_28 {X : zCX} (o : zOK X "WantShelvesModel" c_M_one n_M_one 8) {k28 : zSt → Nat → Int32 → Option (Int32 × zSt)} (hk28 : ∀ {σ : zSt} {v0 : Nat} {v1 : Int32} {z : Int32 × zSt}, k28 σ v0 v1 = some z → zRX X 0 0 (some (.int z.1)) z.2 → zPJ X 0 0 28 [(0, .ref v0), (1, .int v1)] [] σ) {σ : zSt} {v0 : Nat} {v1 : Int32} {z : Int32 × zSt} (h : f_M_one_28 k28 σ v0 v1 = some z) (hr : zRX X 0 0 (some (.int z.1)) z.2) : zPJ X 0 0 28 [(0, .ref v0), (1, .int v1)] [] σ := by
  unfold f_M_one_28 at h
  refine zj_iload_n o (zdd k_M_one 17 rfl) rfl 1 rfl ?_
  refine zj_aload_n o (zdd k_M_one 18 rfl) rfl 0 rfl ?_
  obtain ⟨x1, e_x1, h⟩ := zbd h
  refine zj_gI o (zdd k_M_one 19 rfl) fl_M_394 rfl e_x1 ?_
  refine zj_icmp_ge (tgt := 78) o (zdd k_M_one 20 rfl) (by decide) (fun hc => ?_) (fun hc => ?_)
  · rw [if_pos hc] at h
    refine zj_iconst o (zdd k_M_one 44 rfl) zki_0 ?_
    refine zj_istore_n (loc' := [(1, .int 0), (0, .ref v0)]) o (zdd k_M_one 45 rfl) rfl (by decide) rfl ?_
    exact zj_sub [1, 0] rfl (r_M_one_80L o  zfu h hr)
  · rw [if_neg hc] at h
    refine zj_aload_n o (zdd k_M_one 21 rfl) rfl 0 rfl ?_
    obtain ⟨a2, e_a2, h⟩ := zbd h
    refine zj_gP o (zdd k_M_one 22 rfl) fl_M_78 rfl e_a2 ?_
    refine zj_bipush o (zdd k_M_one 23 rfl) zkb_31 ?_
    obtain ⟨x3, e_x3, h⟩ := zbd h
    refine zj_iald o (zdd k_M_one 24 rfl) e_x3 ?_
    obtain ⟨x4, e_x4, h⟩ := zbd h
    refine zc_S o (zdd k_M_one 25 rfl) ml_M_515 ms_M_members (by decide) [.int x3] [] rfl (Nat.le_of_ble_eq_true rfl) rfl (m_M_members e_x4) ?_
    change zPJ X 0 0 _ _ [.int x4] _
    refine zj_aload_n o (zdd k_M_one 26 rfl) rfl 0 rfl ?_
    obtain ⟨x5, e_x5, h⟩ := zbd h
    refine zj_gI o (zdd k_M_one 27 rfl) fl_M_391 rfl e_x5 ?_
    refine zj_icmp_ge (tgt := 78) o (zdd k_M_one 28 rfl) (by decide) (fun hc => ?_) (fun hc => ?_)
    · rw [if_pos hc] at h
      refine zj_iconst o (zdd k_M_one 44 rfl) zki_0 ?_
      refine zj_istore_n (loc' := [(1, .int 0), (0, .ref v0)]) o (zdd k_M_one 45 rfl) rfl (by decide) rfl ?_
      exact zj_sub [1, 0] rfl (r_M_one_80L o  zfu h hr)
    · rw [if_neg hc] at h
      refine zj_aload_n o (zdd k_M_one 29 rfl) rfl 0 rfl ?_
      obtain ⟨a6, e_a6, h⟩ := zbd h
      refine zj_gP o (zdd k_M_one 30 rfl) fl_M_121 rfl e_a6 ?_
      refine zj_aload_n o (zdd k_M_one 31 rfl) rfl 0 rfl ?_
      refine zj_iload_n o (zdd k_M_one 32 rfl) rfl 1 rfl ?_
      obtain ⟨q7, e_q7, h⟩ := zbd h
      refine zc_V o (zdd k_M_one 33 rfl) ml_M_551 mv_M_ownBook ⟨rfl, by decide⟩ (zg_some e_q7).1 (by decide) [.int v1] [.ref a6] rfl (Nat.le_of_ble_eq_true rfl) rfl (m_M_ownBook e_q7) ?_
      change zPJ X 0 0 _ _ [.int q7.1, .ref a6] _
      refine zj_dup2 o (zdd k_M_one 34 rfl) rfl rfl ?_
      obtain ⟨x8, e_x8, h⟩ := zbd h
      refine zj_iald o (zdd k_M_one 35 rfl) e_x8 ?_
      refine zj_aload_n o (zdd k_M_one 36 rfl) rfl 0 rfl ?_
      obtain ⟨a9, e_a9, h⟩ := zbd h
      refine zj_gP o (zdd k_M_one 37 rfl) fl_M_69 rfl e_a9 ?_
      refine zj_iload_n o (zdd k_M_one 38 rfl) rfl 1 rfl ?_
      obtain ⟨x10, e_x10, h⟩ := zbd h
      refine zj_iald o (zdd k_M_one 39 rfl) e_x10 ?_
      refine zj_iadd o (zdd k_M_one 40 rfl) ?_
      obtain ⟨σ11, e_σ11, h⟩ := zbd h
      refine zj_iast o (zdd k_M_one 41 rfl) e_σ11 ?_
      refine zj_iinc (v := v1 + 1) (loc' := [(1, .int (v1 + 1)), (0, .ref v0)]) o (zdd k_M_one 42 rfl) 1 rfl (by rw [zki_1]) (by decide) rfl ?_
      refine zj_goto (tgt := 28) o (zdd k_M_one 43 rfl) (by decide) ?_
      exact zj_sub [1, 0] rfl (hk28 h hr)
def f_M_one_28L : Nat → zSt → Nat → Int32 → Option (Int32 × zSt)
  | 0 => fun _ _ _ => none
  | n + 1 => f_M_one_28  (f_M_one_28L  n)
theorem r_M_one_28L {X : zCX} (o : zOK X "WantShelvesModel" c_M_one n_M_one 8) : ∀ (n : Nat) {σ : zSt} {v0 : Nat} {v1 : Int32} {z : Int32 × zSt}, f_M_one_28L n σ v0 v1 = some z → zRX X 0 0 (some (.int z.1)) z.2 → zPJ X 0 0 28 [(0, .ref v0), (1, .int v1)] [] σ
  | 0 => fun h _ => by cases h
  | n + 1 => fun h hr => r_M_one_28 o (r_M_one_28L o  n) h hr
def f_M_one_7 (k7 : zSt → Nat → Int32 → Option (Int32 × zSt)) (σ : zSt) (v0 : Nat) (v1 : Int32) : Option (Int32 × zSt) :=
if 10 ≤ v1 then (
f_M_one_28L zfu σ v0 0) else
(zgP σ 12 v0 72).bind fun a1 =>
(zwI σ 1 a1 v1 0).bind fun σ2 =>
k7 σ2 v0 (v1 + 1)
set_option maxRecDepth 100000 in
set_option maxHeartbeats 4000000 in
theorem r_M_one_7 {X : zCX} (o : zOK X "WantShelvesModel" c_M_one n_M_one 8) {k7 : zSt → Nat → Int32 → Option (Int32 × zSt)} (hk7 : ∀ {σ : zSt} {v0 : Nat} {v1 : Int32} {z : Int32 × zSt}, k7 σ v0 v1 = some z → zRX X 0 0 (some (.int z.1)) z.2 → zPJ X 0 0 7 [(0, .ref v0), (1, .int v1)] [] σ) {σ : zSt} {v0 : Nat} {v1 : Int32} {z : Int32 × zSt} (h : f_M_one_7 k7 σ v0 v1 = some z) (hr : zRX X 0 0 (some (.int z.1)) z.2) : zPJ X 0 0 7 [(0, .ref v0), (1, .int v1)] [] σ := by
  unfold f_M_one_7 at h
  refine zj_iload_n o (zdd k_M_one 5 rfl) rfl 1 rfl ?_
  refine zj_bipush o (zdd k_M_one 6 rfl) zkb_10 ?_
  refine zj_icmp_ge (tgt := 26) o (zdd k_M_one 7 rfl) (by decide) (fun hc => ?_) (fun hc => ?_)
  · rw [if_pos hc] at h
    refine zj_iconst o (zdd k_M_one 15 rfl) zki_0 ?_
    refine zj_istore_n (loc' := [(1, .int 0), (0, .ref v0)]) o (zdd k_M_one 16 rfl) rfl (by decide) rfl ?_
    exact zj_sub [1, 0] rfl (r_M_one_28L o  zfu h hr)
  · rw [if_neg hc] at h
    refine zj_aload_n o (zdd k_M_one 8 rfl) rfl 0 rfl ?_
    obtain ⟨a1, e_a1, h⟩ := zbd h
    refine zj_gP o (zdd k_M_one 9 rfl) fl_M_121 rfl e_a1 ?_
    refine zj_iload_n o (zdd k_M_one 10 rfl) rfl 1 rfl ?_
    refine zj_iconst o (zdd k_M_one 11 rfl) zki_0 ?_
    obtain ⟨σ2, e_σ2, h⟩ := zbd h
    refine zj_iast o (zdd k_M_one 12 rfl) e_σ2 ?_
    refine zj_iinc (v := v1 + 1) (loc' := [(1, .int (v1 + 1)), (0, .ref v0)]) o (zdd k_M_one 13 rfl) 1 rfl (by rw [zki_1]) (by decide) rfl ?_
    refine zj_goto (tgt := 7) o (zdd k_M_one 14 rfl) (by decide) ?_
    exact zj_sub [1, 0] rfl (hk7 h hr)
def f_M_one_7L : Nat → zSt → Nat → Int32 → Option (Int32 × zSt)
  | 0 => fun _ _ _ => none
  | n + 1 => f_M_one_7  (f_M_one_7L  n)
theorem r_M_one_7L {X : zCX} (o : zOK X "WantShelvesModel" c_M_one n_M_one 8) : ∀ (n : Nat) {σ : zSt} {v0 : Nat} {v1 : Int32} {z : Int32 × zSt}, f_M_one_7L n σ v0 v1 = some z → zRX X 0 0 (some (.int z.1)) z.2 → zPJ X 0 0 7 [(0, .ref v0), (1, .int v1)] [] σ
  | 0 => fun h _ => by cases h
  | n + 1 => fun h hr => r_M_one_7 o (r_M_one_7L o  n) h hr
def f_M_one (σ : zSt) (t : Nat) : Option (Int32 × zSt) :=
zg σ 12 t (
(zsI σ 12 t 59 0).bind fun σ1 =>
f_M_one_7L zfu σ1 t 0)
set_option maxRecDepth 100000 in
set_option maxHeartbeats 4000000 in
theorem m_M_one {l : Launch} {b : Nat} {ex : Nat → Value} {D : va_G} {ca : Nat → ClassId} {σ : zSt} {t : Nat} {z : Int32 × zSt} (h : f_M_one σ t = some z) : zMT l b ex D ca 8 y_M_one c_M_one n_M_one r_ret_M_one [.ref t] σ (some (.int z.1)) z.2 0 0 := by
  obtain ⟨_, hg0⟩ := zg_some h
  have h := hg0
  refine zmt_of (by decide) (Nat.le_of_ble_eq_true rfl) ⟨.int, rfl, rfl⟩ (fun X o hin hrm _ _ _ _ _ hr => ?_)
  have hr := hr 0 0 (by decide) (by decide)
  have o : zOK X "WantShelvesModel" c_M_one n_M_one 8 := o
  change zPJ X 0 0 0 [(0, .ref t)] [] σ
  refine zj_aload_n o (zdd k_M_one 0 rfl) rfl 0 rfl ?_
  refine zj_iconst o (zdd k_M_one 1 rfl) zki_0 ?_
  obtain ⟨σ1, e_σ1, h⟩ := zbd h
  refine zj_pI o (zdd k_M_one 2 rfl) fl_M_422 rfl rfl e_σ1 ?_
  refine zj_iconst o (zdd k_M_one 3 rfl) zki_0 ?_
  refine zj_istore_n (loc' := [(1, .int 0), (0, .ref t)]) o (zdd k_M_one 4 rfl) rfl (by decide) rfl ?_
  exact zj_sub [1, 0] rfl (r_M_one_7L o  zfu h hr)
def f_M_common_6 (k6 : Int64 → Int64 → Option (Int64)) (v4 : Int64) (v6 : Int64) : Option (Int64) :=
if lg_cmp v6 0 ≤ 0 then (
some v4) else
(znZ v6).bind fun n1 =>
k6 v6 (zremL v4 v6)
set_option maxRecDepth 100000 in
set_option maxHeartbeats 4000000 in
theorem r_M_common_6 {X : zCX} (o : zOK X "WantShelvesModel" c_M_common n_M_common 1) {k6 : Int64 → Int64 → Option (Int64)} (hk6 : ∀ {σ : zSt} {v4 : Int64} {v6 : Int64} {z : Int64}, k6 v4 v6 = some z → zRX X 0 0 (some (.long z)) σ → zPJ X 0 0 6 [(4, .long v4), (6, .long v6)] [] σ) {σ : zSt} {v4 : Int64} {v6 : Int64} {z : Int64} (h : f_M_common_6 k6 v4 v6 = some z) (hr : zRX X 0 0 (some (.long z)) σ) : zPJ X 0 0 6 [(4, .long v4), (6, .long v6)] [] σ := by
  unfold f_M_common_6 at h
  refine zj_lload o (zdd k_M_common 4 rfl) 1 rfl ?_
  refine zj_lconst (v := 0) o (zdd k_M_common 5 rfl) rfl ?_
  refine zj_lcmp o (zdd k_M_common 6 rfl) ?_
  refine zj_if_le (tgt := 31) o (zdd k_M_common 7 rfl) (by decide) (fun hc => ?_) (fun hc => ?_)
  · rw [if_pos hc] at h
    refine zj_lload o (zdd k_M_common 17 rfl) 0 rfl ?_
    cases h
    exact zr_l o hr (zdd k_M_common 18 rfl)
  · rw [if_neg hc] at h
    refine zj_lload o (zdd k_M_common 8 rfl) 0 rfl ?_
    refine zj_lload o (zdd k_M_common 9 rfl) 1 rfl ?_
    obtain ⟨n1, e_n1, h⟩ := zbd h
    refine zj_lrem o (zdd k_M_common 10 rfl) (znZ_some e_n1).1 ?_
    change zPJ X 0 0 _ _ [.long (zremL v4 v6)] _
    refine zj_lstore (loc' := [(8, .long (zremL v4 v6)), (4, .long v4), (6, .long v6)]) o (zdd k_M_common 11 rfl) (by decide) rfl ?_
    refine zj_lload o (zdd k_M_common 12 rfl) 2 rfl ?_
    refine zj_lstore (loc' := [(4, .long v6), (8, .long (zremL v4 v6)), (6, .long v6)]) o (zdd k_M_common 13 rfl) (by decide) rfl ?_
    refine zj_lload o (zdd k_M_common 14 rfl) 1 rfl ?_
    refine zj_lstore (loc' := [(6, .long (zremL v4 v6)), (4, .long v6), (8, .long (zremL v4 v6))]) o (zdd k_M_common 15 rfl) (by decide) rfl ?_
    refine zj_goto (tgt := 6) o (zdd k_M_common 16 rfl) (by decide) ?_
    exact zj_sub [1, 0] rfl (hk6 h hr)
def f_M_common_6L : Nat → Int64 → Int64 → Option (Int64)
  | 0 => fun _ _ => none
  | n + 1 => f_M_common_6  (f_M_common_6L  n)
theorem r_M_common_6L {X : zCX} (o : zOK X "WantShelvesModel" c_M_common n_M_common 1) : ∀ (n : Nat) {σ : zSt} {v4 : Int64} {v6 : Int64} {z : Int64}, f_M_common_6L n v4 v6 = some z → zRX X 0 0 (some (.long z)) σ → zPJ X 0 0 6 [(4, .long v4), (6, .long v6)] [] σ
  | 0 => fun h _ => by cases h
  | n + 1 => fun h hr => r_M_common_6 o (r_M_common_6L o  n) h hr
def f_M_common (p0 : Int64) (p1 : Int64) : Option (Int64) :=
f_M_common_6L zfu p0 p1
set_option maxRecDepth 100000 in
set_option maxHeartbeats 4000000 in
theorem m_M_common {l : Launch} {b : Nat} {ex : Nat → Value} {D : va_G} {ca : Nat → ClassId} {σ : zSt} {p0 : Int64} {p1 : Int64} {z : Int64} (h : f_M_common p0 p1 = some z) : zMT l b ex D ca 1 y_M_common c_M_common n_M_common r_ret_M_common [.long p0, .long p1] σ (some (.long z)) σ 0 0 := by
  unfold f_M_common at h
  refine zmt_of (by decide) (Nat.le_of_ble_eq_true rfl) rfl (fun X o hin hrm _ _ _ _ _ hr => ?_)
  have hr := hr 0 0 (by decide) (by decide)
  have o : zOK X "WantShelvesModel" c_M_common n_M_common 1 := o
  change zPJ X 0 0 0 [(0, .long p0), (2, .long p1)] [] σ
  refine zj_lload_n o (zdd k_M_common 0 rfl) rfl 0 rfl ?_
  refine zj_lstore (loc' := [(4, .long p0), (0, .long p0), (2, .long p1)]) o (zdd k_M_common 1 rfl) (by decide) rfl ?_
  refine zj_lload_n o (zdd k_M_common 2 rfl) rfl 2 rfl ?_
  refine zj_lstore (loc' := [(6, .long p1), (4, .long p0), (0, .long p0), (2, .long p1)]) o (zdd k_M_common 3 rfl) (by decide) rfl ?_
  exact zj_sub [1, 0] rfl (r_M_common_6L o  zfu h hr)
def f_M_crowd_108 (k68 : zSt → Nat → Int32 → Int32 → Int32 → Int64 → Int64 → Int32 → Option (Int64 × zSt)) (k108 : zSt → Nat → Int32 → Int32 → Int32 → Int64 → Int64 → Int32 → Int64 → Int32 → Option (Int64 × zSt)) (σ : zSt) (v0 : Nat) (v1 : Int32) (v2 : Int32) (v3 : Int32) (v4 : Int64) (v6 : Int64) (v8 : Int32) (v9 : Int64) (v11 : Int32) : Option (Int64 × zSt) :=
(zgI σ 12 v0 43).bind fun x1 =>
if x1 ≤ v11 then (
k68 σ v0 v1 v2 v3 (v4 + v9) v6 (v8 + 1)) else
if (v8 >>> (v11 &&& 31)) &&& 1 = 1 then (
(zgP σ 12 v0 33).bind fun a4 =>
(zaI σ 1 a4 v11).bind fun x5 =>
k108 σ v0 v1 v2 v3 v4 v6 v8 (v9 * (Int32.toInt64 x5)) (v11 + 1)) else
(zgP σ 12 v0 33).bind fun a2 =>
(zaI σ 1 a2 v11).bind fun x3 =>
k108 σ v0 v1 v2 v3 v4 v6 v8 (v9 * (Int32.toInt64 (100 - x3))) (v11 + 1)
set_option maxRecDepth 100000 in
set_option maxHeartbeats 4000000 in
theorem r_M_crowd_108 {X : zCX} (o : zOK X "WantShelvesModel" c_M_crowd n_M_crowd 8) {k68 : zSt → Nat → Int32 → Int32 → Int32 → Int64 → Int64 → Int32 → Option (Int64 × zSt)} {k108 : zSt → Nat → Int32 → Int32 → Int32 → Int64 → Int64 → Int32 → Int64 → Int32 → Option (Int64 × zSt)} (hk68 : ∀ {σ : zSt} {v0 : Nat} {v1 : Int32} {v2 : Int32} {v3 : Int32} {v4 : Int64} {v6 : Int64} {v8 : Int32} {z : Int64 × zSt}, k68 σ v0 v1 v2 v3 v4 v6 v8 = some z → zRX X 0 0 (some (.long z.1)) z.2 → zPJ X 0 0 68 [(0, .ref v0), (1, .int v1), (2, .int v2), (3, .int v3), (4, .long v4), (6, .long v6), (8, .int v8)] [] σ) (hk108 : ∀ {σ : zSt} {v0 : Nat} {v1 : Int32} {v2 : Int32} {v3 : Int32} {v4 : Int64} {v6 : Int64} {v8 : Int32} {v9 : Int64} {v11 : Int32} {z : Int64 × zSt}, k108 σ v0 v1 v2 v3 v4 v6 v8 v9 v11 = some z → zRX X 0 0 (some (.long z.1)) z.2 → zPJ X 0 0 108 [(0, .ref v0), (1, .int v1), (2, .int v2), (3, .int v3), (4, .long v4), (6, .long v6), (8, .int v8), (9, .long v9), (11, .int v11)] [] σ) {σ : zSt} {v0 : Nat} {v1 : Int32} {v2 : Int32} {v3 : Int32} {v4 : Int64} {v6 : Int64} {v8 : Int32} {v9 : Int64} {v11 : Int32} {z : Int64 × zSt} (h : f_M_crowd_108 k68 k108 σ v0 v1 v2 v3 v4 v6 v8 v9 v11 = some z) (hr : zRX X 0 0 (some (.long z.1)) z.2) : zPJ X 0 0 108 [(0, .ref v0), (1, .int v1), (2, .int v2), (3, .int v3), (4, .long v4), (6, .long v6), (8, .int v8), (9, .long v9), (11, .int v11)] [] σ := by
  unfold f_M_crowd_108 at h
  refine zj_iload o (zdd k_M_crowd 57 rfl) 8 rfl ?_
  refine zj_aload_n o (zdd k_M_crowd 58 rfl) rfl 0 rfl ?_
  obtain ⟨x1, e_x1, h⟩ := zbd h
  refine zj_gI o (zdd k_M_crowd 59 rfl) fl_M_394 rfl e_x1 ?_
  refine zj_icmp_ge (tgt := 161) o (zdd k_M_crowd 60 rfl) (by decide) (fun hc => ?_) (fun hc => ?_)
  · rw [if_pos hc] at h
    refine zj_lload o (zdd k_M_crowd 86 rfl) 4 rfl ?_
    refine zj_lload o (zdd k_M_crowd 87 rfl) 7 rfl ?_
    refine zj_ladd o (zdd k_M_crowd 88 rfl) ?_
    refine zj_lstore (loc' := [(4, .long (v4 + v9)), (0, .ref v0), (1, .int v1), (2, .int v2), (3, .int v3), (6, .long v6), (8, .int v8), (9, .long v9), (11, .int v11)]) o (zdd k_M_crowd 89 rfl) (by decide) rfl ?_
    refine zj_iinc (v := v8 + 1) (loc' := [(8, .int (v8 + 1)), (4, .long (v4 + v9)), (0, .ref v0), (1, .int v1), (2, .int v2), (3, .int v3), (6, .long v6), (9, .long v9), (11, .int v11)]) o (zdd k_M_crowd 90 rfl) 6 rfl (by rw [zki_1]) (by decide) rfl ?_
    refine zj_goto (tgt := 68) o (zdd k_M_crowd 91 rfl) (by decide) ?_
    exact zj_sub [2, 3, 4, 5, 1, 6, 0] rfl (hk68 h hr)
  · rw [if_neg hc] at h
    refine zj_lload o (zdd k_M_crowd 61 rfl) 7 rfl ?_
    refine zj_iload o (zdd k_M_crowd 62 rfl) 6 rfl ?_
    refine zj_iload o (zdd k_M_crowd 63 rfl) 8 rfl ?_
    refine zj_ishr o (zdd k_M_crowd 64 rfl) ?_
    refine zj_iconst o (zdd k_M_crowd 65 rfl) zki_1 ?_
    refine zj_iand o (zdd k_M_crowd 66 rfl) ?_
    refine zj_iconst o (zdd k_M_crowd 67 rfl) zki_1 ?_
    refine zj_icmp_ne (tgt := 141) o (zdd k_M_crowd 68 rfl) (by decide) (fun hc => ?_) (fun hc => ?_)
    · rw [if_neg hc] at h
      refine zj_bipush o (zdd k_M_crowd 75 rfl) zkb_100 ?_
      refine zj_aload_n o (zdd k_M_crowd 76 rfl) rfl 0 rfl ?_
      obtain ⟨a2, e_a2, h⟩ := zbd h
      refine zj_gP o (zdd k_M_crowd 77 rfl) fl_M_69 rfl e_a2 ?_
      refine zj_iload o (zdd k_M_crowd 78 rfl) 8 rfl ?_
      obtain ⟨x3, e_x3, h⟩ := zbd h
      refine zj_iald o (zdd k_M_crowd 79 rfl) e_x3 ?_
      refine zj_isub o (zdd k_M_crowd 80 rfl) ?_
      refine zj_i2l o (zdd k_M_crowd 81 rfl) ?_
      refine zj_lmul o (zdd k_M_crowd 82 rfl) ?_
      refine zj_lstore (loc' := [(9, .long (v9 * (Int32.toInt64 (100 - x3)))), (0, .ref v0), (1, .int v1), (2, .int v2), (3, .int v3), (4, .long v4), (6, .long v6), (8, .int v8), (11, .int v11)]) o (zdd k_M_crowd 83 rfl) (by decide) rfl ?_
      refine zj_iinc (v := v11 + 1) (loc' := [(11, .int (v11 + 1)), (9, .long (v9 * (Int32.toInt64 (100 - x3)))), (0, .ref v0), (1, .int v1), (2, .int v2), (3, .int v3), (4, .long v4), (6, .long v6), (8, .int v8)]) o (zdd k_M_crowd 84 rfl) 8 rfl (by rw [zki_1]) (by decide) rfl ?_
      refine zj_goto (tgt := 108) o (zdd k_M_crowd 85 rfl) (by decide) ?_
      exact zj_sub [2, 3, 4, 5, 6, 7, 8, 1, 0] rfl (hk108 h hr)
    · rw [if_pos hc] at h
      refine zj_aload_n o (zdd k_M_crowd 69 rfl) rfl 0 rfl ?_
      obtain ⟨a4, e_a4, h⟩ := zbd h
      refine zj_gP o (zdd k_M_crowd 70 rfl) fl_M_69 rfl e_a4 ?_
      refine zj_iload o (zdd k_M_crowd 71 rfl) 8 rfl ?_
      obtain ⟨x5, e_x5, h⟩ := zbd h
      refine zj_iald o (zdd k_M_crowd 72 rfl) e_x5 ?_
      refine zj_i2l o (zdd k_M_crowd 73 rfl) ?_
      refine zj_goto (tgt := 152) o (zdd k_M_crowd 74 rfl) (by decide) ?_
      refine zj_lmul o (zdd k_M_crowd 82 rfl) ?_
      refine zj_lstore (loc' := [(9, .long (v9 * (Int32.toInt64 x5))), (0, .ref v0), (1, .int v1), (2, .int v2), (3, .int v3), (4, .long v4), (6, .long v6), (8, .int v8), (11, .int v11)]) o (zdd k_M_crowd 83 rfl) (by decide) rfl ?_
      refine zj_iinc (v := v11 + 1) (loc' := [(11, .int (v11 + 1)), (9, .long (v9 * (Int32.toInt64 x5))), (0, .ref v0), (1, .int v1), (2, .int v2), (3, .int v3), (4, .long v4), (6, .long v6), (8, .int v8)]) o (zdd k_M_crowd 84 rfl) 8 rfl (by rw [zki_1]) (by decide) rfl ?_
      refine zj_goto (tgt := 108) o (zdd k_M_crowd 85 rfl) (by decide) ?_
      exact zj_sub [2, 3, 4, 5, 6, 7, 8, 1, 0] rfl (hk108 h hr)
def f_M_crowd_108L (k68 : zSt → Nat → Int32 → Int32 → Int32 → Int64 → Int64 → Int32 → Option (Int64 × zSt)) : Nat → zSt → Nat → Int32 → Int32 → Int32 → Int64 → Int64 → Int32 → Int64 → Int32 → Option (Int64 × zSt)
  | 0 => fun _ _ _ _ _ _ _ _ _ _ => none
  | n + 1 => f_M_crowd_108  k68 (f_M_crowd_108L k68 n)
theorem r_M_crowd_108L {X : zCX} (o : zOK X "WantShelvesModel" c_M_crowd n_M_crowd 8) {k68 : zSt → Nat → Int32 → Int32 → Int32 → Int64 → Int64 → Int32 → Option (Int64 × zSt)} (hk68 : ∀ {σ : zSt} {v0 : Nat} {v1 : Int32} {v2 : Int32} {v3 : Int32} {v4 : Int64} {v6 : Int64} {v8 : Int32} {z : Int64 × zSt}, k68 σ v0 v1 v2 v3 v4 v6 v8 = some z → zRX X 0 0 (some (.long z.1)) z.2 → zPJ X 0 0 68 [(0, .ref v0), (1, .int v1), (2, .int v2), (3, .int v3), (4, .long v4), (6, .long v6), (8, .int v8)] [] σ) : ∀ (n : Nat) {σ : zSt} {v0 : Nat} {v1 : Int32} {v2 : Int32} {v3 : Int32} {v4 : Int64} {v6 : Int64} {v8 : Int32} {v9 : Int64} {v11 : Int32} {z : Int64 × zSt}, f_M_crowd_108L k68 n σ v0 v1 v2 v3 v4 v6 v8 v9 v11 = some z → zRX X 0 0 (some (.long z.1)) z.2 → zPJ X 0 0 108 [(0, .ref v0), (1, .int v1), (2, .int v2), (3, .int v3), (4, .long v4), (6, .long v6), (8, .int v8), (9, .long v9), (11, .int v11)] [] σ
  | 0 => fun h _ => by cases h
  | n + 1 => fun h hr => r_M_crowd_108 o hk68 (r_M_crowd_108L o hk68 n) h hr
def f_M_crowd_174 (σ : zSt) (v3 : Int32) (v4 : Int64) (v6 : Int64) : Option (Int64 × zSt) :=
(f_M_common v6 v4).bind fun x1 =>
if v3 = 0 then (
(znZ x1).bind fun n3 =>
some (v4 / x1, σ)) else
(znZ x1).bind fun n2 =>
some (v6 / x1, σ)
set_option maxRecDepth 100000 in
set_option maxHeartbeats 4000000 in
theorem r_M_crowd_174 {X : zCX} (o : zOK X "WantShelvesModel" c_M_crowd n_M_crowd 8) {σ : zSt} {v3 : Int32} {v4 : Int64} {v6 : Int64} {z : Int64 × zSt} (h : f_M_crowd_174 σ v3 v4 v6 = some z) (hr : zRX X 0 0 (some (.long z.1)) z.2) : zPJ X 0 0 174 [(3, .int v3), (4, .long v4), (6, .long v6)] [] σ := by
  unfold f_M_crowd_174 at h
  refine zj_lload o (zdd k_M_crowd 92 rfl) 2 rfl ?_
  refine zj_lload o (zdd k_M_crowd 93 rfl) 1 rfl ?_
  obtain ⟨x1, e_x1, h⟩ := zbd h
  refine zc_S o (zdd k_M_crowd 94 rfl) ml_M_578 ms_M_common (by decide) [.long v6, .long v4] [] rfl (Nat.le_of_ble_eq_true rfl) rfl (m_M_common e_x1) ?_
  change zPJ X 0 0 _ _ [.long x1] _
  refine zj_lstore (loc' := [(8, .long x1), (3, .int v3), (4, .long v4), (6, .long v6)]) o (zdd k_M_crowd 95 rfl) (by decide) rfl ?_
  refine zj_iload_n o (zdd k_M_crowd 96 rfl) rfl 1 rfl ?_
  refine zj_if_ne (tgt := 195) o (zdd k_M_crowd 97 rfl) (by decide) (fun hc => ?_) (fun hc => ?_)
  · rw [if_neg hc] at h
    refine zj_lload o (zdd k_M_crowd 102 rfl) 3 rfl ?_
    refine zj_lload o (zdd k_M_crowd 103 rfl) 0 rfl ?_
    obtain ⟨n2, e_n2, h⟩ := zbd h
    refine zj_ldiv o (zdd k_M_crowd 104 rfl) (znZ_some e_n2).1 ?_
    cases h
    exact zr_l o hr (zdd k_M_crowd 105 rfl)
  · rw [if_pos hc] at h
    refine zj_lload o (zdd k_M_crowd 98 rfl) 2 rfl ?_
    refine zj_lload o (zdd k_M_crowd 99 rfl) 0 rfl ?_
    obtain ⟨n3, e_n3, h⟩ := zbd h
    refine zj_ldiv o (zdd k_M_crowd 100 rfl) (znZ_some e_n3).1 ?_
    refine zj_goto (tgt := 200) o (zdd k_M_crowd 101 rfl) (by decide) ?_
    cases h
    exact zr_l o hr (zdd k_M_crowd 105 rfl)
def f_M_crowd_68 (k68 : zSt → Nat → Int32 → Int32 → Int32 → Int64 → Int64 → Int32 → Option (Int64 × zSt)) (σ : zSt) (v0 : Nat) (v1 : Int32) (v2 : Int32) (v3 : Int32) (v4 : Int64) (v6 : Int64) (v8 : Int32) : Option (Int64 × zSt) :=
(zgI σ 12 v0 43).bind fun x1 =>
if 1 <<< (x1 &&& 31) ≤ v8 then (
f_M_crowd_174 σ v3 v4 v6) else
(f_M_layOrder σ v0 v8).bind fun σ2 =>
(zgP σ2 12 v0 53).bind fun a3 =>
(zaI σ2 1 a3 v1).bind fun x4 =>
(f_M_stepsTo σ2 v0 x4).bind fun x5 =>
if x5 ≤ v2 then (
f_M_crowd_108L k68 zfu σ2 v0 v1 v2 v3 v4 v6 v8 1 0) else
k68 σ2 v0 v1 v2 v3 v4 v6 (v8 + 1)
set_option maxRecDepth 100000 in
set_option maxHeartbeats 4000000 in
theorem r_M_crowd_68 {X : zCX} (o : zOK X "WantShelvesModel" c_M_crowd n_M_crowd 8) {k68 : zSt → Nat → Int32 → Int32 → Int32 → Int64 → Int64 → Int32 → Option (Int64 × zSt)} (hk68 : ∀ {σ : zSt} {v0 : Nat} {v1 : Int32} {v2 : Int32} {v3 : Int32} {v4 : Int64} {v6 : Int64} {v8 : Int32} {z : Int64 × zSt}, k68 σ v0 v1 v2 v3 v4 v6 v8 = some z → zRX X 0 0 (some (.long z.1)) z.2 → zPJ X 0 0 68 [(0, .ref v0), (1, .int v1), (2, .int v2), (3, .int v3), (4, .long v4), (6, .long v6), (8, .int v8)] [] σ) {σ : zSt} {v0 : Nat} {v1 : Int32} {v2 : Int32} {v3 : Int32} {v4 : Int64} {v6 : Int64} {v8 : Int32} {z : Int64 × zSt} (h : f_M_crowd_68 k68 σ v0 v1 v2 v3 v4 v6 v8 = some z) (hr : zRX X 0 0 (some (.long z.1)) z.2) : zPJ X 0 0 68 [(0, .ref v0), (1, .int v1), (2, .int v2), (3, .int v3), (4, .long v4), (6, .long v6), (8, .int v8)] [] σ := by
  unfold f_M_crowd_68 at h
  refine zj_iload o (zdd k_M_crowd 35 rfl) 6 rfl ?_
  refine zj_iconst o (zdd k_M_crowd 36 rfl) zki_1 ?_
  refine zj_aload_n o (zdd k_M_crowd 37 rfl) rfl 0 rfl ?_
  obtain ⟨x1, e_x1, h⟩ := zbd h
  refine zj_gI o (zdd k_M_crowd 38 rfl) fl_M_394 rfl e_x1 ?_
  refine zj_ishl o (zdd k_M_crowd 39 rfl) ?_
  refine zj_icmp_ge (tgt := 174) o (zdd k_M_crowd 40 rfl) (by decide) (fun hc => ?_) (fun hc => ?_)
  · rw [if_pos hc] at h
    exact zj_sub [3, 4, 5] rfl (r_M_crowd_174 o  h hr)
  · rw [if_neg hc] at h
    refine zj_aload_n o (zdd k_M_crowd 41 rfl) rfl 0 rfl ?_
    refine zj_iload o (zdd k_M_crowd 42 rfl) 6 rfl ?_
    obtain ⟨σ2, e_σ2, h⟩ := zbd h
    refine zc_V o (zdd k_M_crowd 43 rfl) ml_M_493 mv_M_layOrder ⟨rfl, by decide⟩ (zg_some e_σ2).1 (by decide) [.int v8] [] rfl (Nat.le_of_ble_eq_true rfl) rfl (m_M_layOrder e_σ2) ?_
    change zPJ X 0 0 _ _ [] _
    refine zj_aload_n o (zdd k_M_crowd 44 rfl) rfl 0 rfl ?_
    refine zj_aload_n o (zdd k_M_crowd 45 rfl) rfl 0 rfl ?_
    obtain ⟨a3, e_a3, h⟩ := zbd h
    refine zj_gP o (zdd k_M_crowd 46 rfl) fl_M_90 rfl e_a3 ?_
    refine zj_iload_n o (zdd k_M_crowd 47 rfl) rfl 1 rfl ?_
    obtain ⟨x4, e_x4, h⟩ := zbd h
    refine zj_iald o (zdd k_M_crowd 48 rfl) e_x4 ?_
    obtain ⟨x5, e_x5, h⟩ := zbd h
    refine zc_V o (zdd k_M_crowd 49 rfl) ml_M_496 mv_M_stepsTo ⟨rfl, by decide⟩ (zg_some e_x5).1 (by decide) [.int x4] [] rfl (Nat.le_of_ble_eq_true rfl) rfl (m_M_stepsTo e_x5) ?_
    change zPJ X 0 0 _ _ [.int x5] _
    refine zj_iload_n o (zdd k_M_crowd 50 rfl) rfl 2 rfl ?_
    refine zj_icmp_le (tgt := 102) o (zdd k_M_crowd 51 rfl) (by decide) (fun hc => ?_) (fun hc => ?_)
    · rw [if_pos hc] at h
      refine zj_lconst (v := 1) o (zdd k_M_crowd 53 rfl) rfl ?_
      refine zj_lstore (loc' := [(9, .long 1), (0, .ref v0), (1, .int v1), (2, .int v2), (3, .int v3), (4, .long v4), (6, .long v6), (8, .int v8)]) o (zdd k_M_crowd 54 rfl) (by decide) rfl ?_
      refine zj_iconst o (zdd k_M_crowd 55 rfl) zki_0 ?_
      refine zj_istore (loc' := [(11, .int 0), (9, .long 1), (0, .ref v0), (1, .int v1), (2, .int v2), (3, .int v3), (4, .long v4), (6, .long v6), (8, .int v8)]) o (zdd k_M_crowd 56 rfl) (by decide) rfl ?_
      exact zj_sub [2, 3, 4, 5, 6, 7, 8, 1, 0] rfl (r_M_crowd_108L o hk68 zfu h hr)
    · rw [if_neg hc] at h
      refine zj_goto (tgt := 168) o (zdd k_M_crowd 52 rfl) (by decide) ?_
      refine zj_iinc (v := v8 + 1) (loc' := [(8, .int (v8 + 1)), (0, .ref v0), (1, .int v1), (2, .int v2), (3, .int v3), (4, .long v4), (6, .long v6)]) o (zdd k_M_crowd 90 rfl) 6 rfl (by rw [zki_1]) (by decide) rfl ?_
      refine zj_goto (tgt := 68) o (zdd k_M_crowd 91 rfl) (by decide) ?_
      exact zj_sub [1, 2, 3, 4, 5, 6, 0] rfl (hk68 h hr)
def f_M_crowd_68L : Nat → zSt → Nat → Int32 → Int32 → Int32 → Int64 → Int64 → Int32 → Option (Int64 × zSt)
  | 0 => fun _ _ _ _ _ _ _ _ => none
  | n + 1 => f_M_crowd_68  (f_M_crowd_68L  n)
theorem r_M_crowd_68L {X : zCX} (o : zOK X "WantShelvesModel" c_M_crowd n_M_crowd 8) : ∀ (n : Nat) {σ : zSt} {v0 : Nat} {v1 : Int32} {v2 : Int32} {v3 : Int32} {v4 : Int64} {v6 : Int64} {v8 : Int32} {z : Int64 × zSt}, f_M_crowd_68L n σ v0 v1 v2 v3 v4 v6 v8 = some z → zRX X 0 0 (some (.long z.1)) z.2 → zPJ X 0 0 68 [(0, .ref v0), (1, .int v1), (2, .int v2), (3, .int v3), (4, .long v4), (6, .long v6), (8, .int v8)] [] σ
  | 0 => fun h _ => by cases h
  | n + 1 => fun h hr => r_M_crowd_68 o (r_M_crowd_68L o  n) h hr
def f_M_crowd_42 (k42 : zSt → Nat → Int32 → Int32 → Int32 → Int64 → Int64 → Int32 → Option (Int64 × zSt)) (σ : zSt) (v0 : Nat) (v1 : Int32) (v2 : Int32) (v3 : Int32) (v4 : Int64) (v6 : Int64) (v8 : Int32) : Option (Int64 × zSt) :=
(zgI σ 12 v0 43).bind fun x1 =>
if x1 ≤ v8 then (
f_M_crowd_68L zfu σ v0 v1 v2 v3 v4 v6 0) else
k42 σ v0 v1 v2 v3 v4 (v6 * 100) (v8 + 1)
set_option maxRecDepth 100000 in
set_option maxHeartbeats 4000000 in
theorem r_M_crowd_42 {X : zCX} (o : zOK X "WantShelvesModel" c_M_crowd n_M_crowd 8) {k42 : zSt → Nat → Int32 → Int32 → Int32 → Int64 → Int64 → Int32 → Option (Int64 × zSt)} (hk42 : ∀ {σ : zSt} {v0 : Nat} {v1 : Int32} {v2 : Int32} {v3 : Int32} {v4 : Int64} {v6 : Int64} {v8 : Int32} {z : Int64 × zSt}, k42 σ v0 v1 v2 v3 v4 v6 v8 = some z → zRX X 0 0 (some (.long z.1)) z.2 → zPJ X 0 0 42 [(0, .ref v0), (1, .int v1), (2, .int v2), (3, .int v3), (4, .long v4), (6, .long v6), (8, .int v8)] [] σ) {σ : zSt} {v0 : Nat} {v1 : Int32} {v2 : Int32} {v3 : Int32} {v4 : Int64} {v6 : Int64} {v8 : Int32} {z : Int64 × zSt} (h : f_M_crowd_42 k42 σ v0 v1 v2 v3 v4 v6 v8 = some z) (hr : zRX X 0 0 (some (.long z.1)) z.2) : zPJ X 0 0 42 [(0, .ref v0), (1, .int v1), (2, .int v2), (3, .int v3), (4, .long v4), (6, .long v6), (8, .int v8)] [] σ := by
  unfold f_M_crowd_42 at h
  refine zj_iload o (zdd k_M_crowd 23 rfl) 6 rfl ?_
  refine zj_aload_n o (zdd k_M_crowd 24 rfl) rfl 0 rfl ?_
  obtain ⟨x1, e_x1, h⟩ := zbd h
  refine zj_gI o (zdd k_M_crowd 25 rfl) fl_M_394 rfl e_x1 ?_
  refine zj_icmp_ge (tgt := 65) o (zdd k_M_crowd 26 rfl) (by decide) (fun hc => ?_) (fun hc => ?_)
  · rw [if_pos hc] at h
    refine zj_iconst o (zdd k_M_crowd 33 rfl) zki_0 ?_
    refine zj_istore (loc' := [(8, .int 0), (0, .ref v0), (1, .int v1), (2, .int v2), (3, .int v3), (4, .long v4), (6, .long v6)]) o (zdd k_M_crowd 34 rfl) (by decide) rfl ?_
    exact zj_sub [1, 2, 3, 4, 5, 6, 0] rfl (r_M_crowd_68L o  zfu h hr)
  · rw [if_neg hc] at h
    refine zj_lload o (zdd k_M_crowd 27 rfl) 5 rfl ?_
    refine zj_ldc2 o (zdd k_M_crowd 28 rfl) lc_M_576 ?_
    refine zj_lmul o (zdd k_M_crowd 29 rfl) ?_
    refine zj_lstore (loc' := [(6, .long (v6 * 100)), (0, .ref v0), (1, .int v1), (2, .int v2), (3, .int v3), (4, .long v4), (8, .int v8)]) o (zdd k_M_crowd 30 rfl) (by decide) rfl ?_
    refine zj_iinc (v := v8 + 1) (loc' := [(8, .int (v8 + 1)), (6, .long (v6 * 100)), (0, .ref v0), (1, .int v1), (2, .int v2), (3, .int v3), (4, .long v4)]) o (zdd k_M_crowd 31 rfl) 6 rfl (by rw [zki_1]) (by decide) rfl ?_
    refine zj_goto (tgt := 42) o (zdd k_M_crowd 32 rfl) (by decide) ?_
    exact zj_sub [2, 3, 4, 5, 6, 1, 0] rfl (hk42 h hr)
def f_M_crowd_42L : Nat → zSt → Nat → Int32 → Int32 → Int32 → Int64 → Int64 → Int32 → Option (Int64 × zSt)
  | 0 => fun _ _ _ _ _ _ _ _ => none
  | n + 1 => f_M_crowd_42  (f_M_crowd_42L  n)
theorem r_M_crowd_42L {X : zCX} (o : zOK X "WantShelvesModel" c_M_crowd n_M_crowd 8) : ∀ (n : Nat) {σ : zSt} {v0 : Nat} {v1 : Int32} {v2 : Int32} {v3 : Int32} {v4 : Int64} {v6 : Int64} {v8 : Int32} {z : Int64 × zSt}, f_M_crowd_42L n σ v0 v1 v2 v3 v4 v6 v8 = some z → zRX X 0 0 (some (.long z.1)) z.2 → zPJ X 0 0 42 [(0, .ref v0), (1, .int v1), (2, .int v2), (3, .int v3), (4, .long v4), (6, .long v6), (8, .int v8)] [] σ
  | 0 => fun h _ => by cases h
  | n + 1 => fun h hr => r_M_crowd_42 o (r_M_crowd_42L o  n) h hr
def f_M_crowd (σ : zSt) (t : Nat) (p0 : Int32) (p1 : Int32) (p2 : Int32) : Option (Int64 × zSt) :=
zg σ 12 t (
(f_M_isBook σ t p0).bind fun x1 =>
if x1 = 0 then (
some ((-1), σ)) else
(f_M_isOut σ t p0).bind fun x2 =>
if x2 = 0 then (
(f_M_isIn p2 0 1).bind fun x3 =>
if x3 = 0 then (
some ((-1), σ)) else
(f_M_layAll σ t).bind fun σ4 =>
f_M_crowd_42L zfu σ4 t p0 p1 p2 0 1 0) else
some ((-1), σ))
set_option maxRecDepth 100000 in
set_option maxHeartbeats 4000000 in
theorem m_M_crowd {l : Launch} {b : Nat} {ex : Nat → Value} {D : va_G} {ca : Nat → ClassId} {σ : zSt} {t : Nat} {p0 : Int32} {p1 : Int32} {p2 : Int32} {z : Int64 × zSt} (h : f_M_crowd σ t p0 p1 p2 = some z) : zMT l b ex D ca 8 y_M_crowd c_M_crowd n_M_crowd r_ret_M_crowd [.ref t, .int p0, .int p1, .int p2] σ (some (.long z.1)) z.2 0 0 := by
  obtain ⟨_, hg0⟩ := zg_some h
  have h := hg0
  refine zmt_of (by decide) (Nat.le_of_ble_eq_true rfl) rfl (fun X o hin hrm _ _ _ _ _ hr => ?_)
  have hr := hr 0 0 (by decide) (by decide)
  have o : zOK X "WantShelvesModel" c_M_crowd n_M_crowd 8 := o
  change zPJ X 0 0 0 [(0, .ref t), (1, .int p0), (2, .int p1), (3, .int p2)] [] σ
  refine zj_aload_n o (zdd k_M_crowd 0 rfl) rfl 0 rfl ?_
  refine zj_iload_n o (zdd k_M_crowd 1 rfl) rfl 1 rfl ?_
  obtain ⟨x1, e_x1, h⟩ := zbd h
  refine zc_V o (zdd k_M_crowd 2 rfl) ml_M_435 mv_M_isBook ⟨rfl, by decide⟩ (zg_some e_x1).1 (by decide) [.int p0] [] rfl (Nat.le_of_ble_eq_true rfl) rfl (m_M_isBook e_x1) ?_
  change zPJ X 0 0 _ _ [.int x1] _
  refine zj_if_eq (tgt := 25) o (zdd k_M_crowd 3 rfl) (by decide) (fun hc => ?_) (fun hc => ?_)
  · rw [if_pos hc] at h
    refine zj_ldc2 o (zdd k_M_crowd 13 rfl) lc_M_574 ?_
    cases h
    exact zr_l o hr (zdd k_M_crowd 14 rfl)
  · rw [if_neg hc] at h
    refine zj_aload_n o (zdd k_M_crowd 4 rfl) rfl 0 rfl ?_
    refine zj_iload_n o (zdd k_M_crowd 5 rfl) rfl 1 rfl ?_
    obtain ⟨x2, e_x2, h⟩ := zbd h
    refine zc_V o (zdd k_M_crowd 6 rfl) ml_M_463 mv_M_isOut ⟨rfl, by decide⟩ (zg_some e_x2).1 (by decide) [.int p0] [] rfl (Nat.le_of_ble_eq_true rfl) rfl (m_M_isOut e_x2) ?_
    change zPJ X 0 0 _ _ [.int x2] _
    refine zj_if_ne (tgt := 25) o (zdd k_M_crowd 7 rfl) (by decide) (fun hc => ?_) (fun hc => ?_)
    · rw [if_neg hc] at h
      refine zj_ldc2 o (zdd k_M_crowd 13 rfl) lc_M_574 ?_
      cases h
      exact zr_l o hr (zdd k_M_crowd 14 rfl)
    · rw [if_pos hc] at h
      refine zj_iload_n o (zdd k_M_crowd 8 rfl) rfl 3 rfl ?_
      refine zj_iconst o (zdd k_M_crowd 9 rfl) zki_0 ?_
      refine zj_iconst o (zdd k_M_crowd 10 rfl) zki_1 ?_
      obtain ⟨x3, e_x3, h⟩ := zbd h
      refine zc_S o (zdd k_M_crowd 11 rfl) ml_M_425 ms_M_isIn (by decide) [.int p2, .int 0, .int 1] [] rfl (Nat.le_of_ble_eq_true rfl) rfl (m_M_isIn e_x3) ?_
      change zPJ X 0 0 _ _ [.int x3] _
      refine zj_if_ne (tgt := 29) o (zdd k_M_crowd 12 rfl) (by decide) (fun hc => ?_) (fun hc => ?_)
      · rw [if_neg hc] at h
        refine zj_aload_n o (zdd k_M_crowd 15 rfl) rfl 0 rfl ?_
        obtain ⟨σ4, e_σ4, h⟩ := zbd h
        refine zc_V o (zdd k_M_crowd 16 rfl) ml_M_490 mv_M_layAll ⟨rfl, by decide⟩ (zg_some e_σ4).1 (by decide) [] [] rfl (Nat.le_of_ble_eq_true rfl) rfl (m_M_layAll e_σ4) ?_
        change zPJ X 0 0 _ _ [] _
        refine zj_lconst (v := 0) o (zdd k_M_crowd 17 rfl) rfl ?_
        refine zj_lstore (loc' := [(4, .long 0), (0, .ref t), (1, .int p0), (2, .int p1), (3, .int p2)]) o (zdd k_M_crowd 18 rfl) (by decide) rfl ?_
        refine zj_lconst (v := 1) o (zdd k_M_crowd 19 rfl) rfl ?_
        refine zj_lstore (loc' := [(6, .long 1), (4, .long 0), (0, .ref t), (1, .int p0), (2, .int p1), (3, .int p2)]) o (zdd k_M_crowd 20 rfl) (by decide) rfl ?_
        refine zj_iconst o (zdd k_M_crowd 21 rfl) zki_0 ?_
        refine zj_istore (loc' := [(8, .int 0), (6, .long 1), (4, .long 0), (0, .ref t), (1, .int p0), (2, .int p1), (3, .int p2)]) o (zdd k_M_crowd 22 rfl) (by decide) rfl ?_
        exact zj_sub [3, 4, 5, 6, 2, 1, 0] rfl (r_M_crowd_42L o  zfu h hr)
      · rw [if_pos hc] at h
        refine zj_ldc2 o (zdd k_M_crowd 13 rfl) lc_M_574 ?_
        cases h
        exact zr_l o hr (zdd k_M_crowd 14 rfl)
def f_M_lies (σ : zSt) (t : Nat) (p0 : Int32) : Option (Int32) :=
zg σ 12 t (
(zgI σ 12 t 59).bind fun x1 =>
(f_M_isIn p0 0 (x1 - 1)).bind fun x2 =>
if x2 = 0 then (
some (-1000000)) else
(zgP σ 12 t 58).bind fun a3 =>
(zaI σ 1 a3 p0).bind fun x4 =>
some x4)
set_option maxRecDepth 100000 in
set_option maxHeartbeats 4000000 in
theorem m_M_lies {l : Launch} {b : Nat} {ex : Nat → Value} {D : va_G} {ca : Nat → ClassId} {σ : zSt} {t : Nat} {p0 : Int32} {z : Int32} (h : f_M_lies σ t p0 = some z) : zMT l b ex D ca 2 y_M_lies c_M_lies n_M_lies r_ret_M_lies [.ref t, .int p0] σ (some (.int z)) σ 0 0 := by
  obtain ⟨_, hg0⟩ := zg_some h
  have h := hg0
  refine zmt_of (by decide) (Nat.le_of_ble_eq_true rfl) ⟨.int, rfl, rfl⟩ (fun X o hin hrm _ _ _ _ _ hr => ?_)
  have hr := hr 0 0 (by decide) (by decide)
  have o : zOK X "WantShelvesModel" c_M_lies n_M_lies 2 := o
  change zPJ X 0 0 0 [(0, .ref t), (1, .int p0)] [] σ
  refine zj_iload_n o (zdd k_M_lies 0 rfl) rfl 1 rfl ?_
  refine zj_iconst o (zdd k_M_lies 1 rfl) zki_0 ?_
  refine zj_aload_n o (zdd k_M_lies 2 rfl) rfl 0 rfl ?_
  obtain ⟨x1, e_x1, h⟩ := zbd h
  refine zj_gI o (zdd k_M_lies 3 rfl) fl_M_422 rfl e_x1 ?_
  refine zj_iconst o (zdd k_M_lies 4 rfl) zki_1 ?_
  refine zj_isub o (zdd k_M_lies 5 rfl) ?_
  obtain ⟨x2, e_x2, h⟩ := zbd h
  refine zc_S o (zdd k_M_lies 6 rfl) ml_M_425 ms_M_isIn (by decide) [.int p0, .int 0, .int (x1 - 1)] [] rfl (Nat.le_of_ble_eq_true rfl) rfl (m_M_isIn e_x2) ?_
  change zPJ X 0 0 _ _ [.int x2] _
  refine zj_if_eq (tgt := 23) o (zdd k_M_lies 7 rfl) (by decide) (fun hc => ?_) (fun hc => ?_)
  · rw [if_pos hc] at h
    refine zj_ldcw o (zdd k_M_lies 13 rfl) co_M_444 ?_
    cases h
    exact zr_i o hr (zdd k_M_lies 14 rfl)
  · rw [if_neg hc] at h
    refine zj_aload_n o (zdd k_M_lies 8 rfl) rfl 0 rfl ?_
    obtain ⟨a3, e_a3, h⟩ := zbd h
    refine zj_gP o (zdd k_M_lies 9 rfl) fl_M_96 rfl e_a3 ?_
    refine zj_iload_n o (zdd k_M_lies 10 rfl) rfl 1 rfl ?_
    obtain ⟨x4, e_x4, h⟩ := zbd h
    refine zj_iald o (zdd k_M_lies 11 rfl) e_x4 ?_
    refine zj_goto (tgt := 26) o (zdd k_M_lies 12 rfl) (by decide) ?_
    cases h
    exact zr_i o hr (zdd k_M_lies 14 rfl)
def f_M_look (σ : zSt) (t : Nat) (p0 : Int32) (p1 : Int32) (p2 : Int32) : Option (Int32 × zSt) :=
zg σ 12 t (
(f_M_isReader σ t p0).bind fun x1 =>
if x1 = 0 then (
some ((-1), σ)) else
(f_M_isBook σ t p1).bind fun x2 =>
if x2 = 0 then (
some ((-1), σ)) else
(f_M_isBook σ t p2).bind fun x3 =>
if x3 = 0 then (
some ((-1), σ)) else
if p1 = p2 then (
some ((-1), σ)) else
(zgI σ 12 t 78).bind fun x4 =>
if x4 = 30 then (
some ((-1), σ)) else
(zgP σ 12 t 73).bind fun a5 =>
(zgI σ 12 t 78).bind fun x6 =>
(zwI σ 1 a5 x6 p0).bind fun σ7 =>
(zgP σ7 12 t 74).bind fun a8 =>
(zgI σ7 12 t 78).bind fun x9 =>
(zwI σ7 1 a8 x9 p1).bind fun σ10 =>
(zgP σ10 12 t 75).bind fun a11 =>
(zgI σ10 12 t 78).bind fun x12 =>
(zwI σ10 1 a11 x12 p2).bind fun σ13 =>
(zgP σ13 12 t 76).bind fun a14 =>
(zgI σ13 12 t 78).bind fun x15 =>
(zgI σ13 12 t 79).bind fun x16 =>
(zwI σ13 1 a14 x15 x16).bind fun σ17 =>
(zgP σ17 12 t 77).bind fun a18 =>
(zgI σ17 12 t 78).bind fun x19 =>
(zwI σ17 1 a18 x19 (-1)).bind fun σ20 =>
(zgI σ20 12 t 78).bind fun x21 =>
(zsI σ20 12 t 78 (x21 + 1)).bind fun σ22 =>
(zgI σ22 12 t 78).bind fun x23 =>
some (x23 - 1, σ22))
set_option maxRecDepth 100000 in
set_option maxHeartbeats 4000000 in
theorem m_M_look {l : Launch} {b : Nat} {ex : Nat → Value} {D : va_G} {ca : Nat → ClassId} {σ : zSt} {t : Nat} {p0 : Int32} {p1 : Int32} {p2 : Int32} {z : Int32 × zSt} (h : f_M_look σ t p0 p1 p2 = some z) : zMT l b ex D ca 3 y_M_look c_M_look n_M_look r_ret_M_look [.ref t, .int p0, .int p1, .int p2] σ (some (.int z.1)) z.2 0 0 := by
  obtain ⟨_, hg0⟩ := zg_some h
  have h := hg0
  refine zmt_of (by decide) (Nat.le_of_ble_eq_true rfl) ⟨.int, rfl, rfl⟩ (fun X o hin hrm _ _ _ _ _ hr => ?_)
  have hr := hr 0 0 (by decide) (by decide)
  have o : zOK X "WantShelvesModel" c_M_look n_M_look 3 := o
  change zPJ X 0 0 0 [(0, .ref t), (1, .int p0), (2, .int p1), (3, .int p2)] [] σ
  refine zj_aload_n o (zdd k_M_look 0 rfl) rfl 0 rfl ?_
  refine zj_iload_n o (zdd k_M_look 1 rfl) rfl 1 rfl ?_
  obtain ⟨x1, e_x1, h⟩ := zbd h
  refine zc_V o (zdd k_M_look 2 rfl) ml_M_441 mv_M_isReader ⟨rfl, by decide⟩ (zg_some e_x1).1 (by decide) [.int p0] [] rfl (Nat.le_of_ble_eq_true rfl) rfl (m_M_isReader e_x1) ?_
  change zPJ X 0 0 _ _ [.int x1] _
  refine zj_if_eq (tgt := 38) o (zdd k_M_look 3 rfl) (by decide) (fun hc => ?_) (fun hc => ?_)
  · rw [if_pos hc] at h
    refine zj_iconst o (zdd k_M_look 19 rfl) zki_m1 ?_
    cases h
    exact zr_i o hr (zdd k_M_look 20 rfl)
  · rw [if_neg hc] at h
    refine zj_aload_n o (zdd k_M_look 4 rfl) rfl 0 rfl ?_
    refine zj_iload_n o (zdd k_M_look 5 rfl) rfl 2 rfl ?_
    obtain ⟨x2, e_x2, h⟩ := zbd h
    refine zc_V o (zdd k_M_look 6 rfl) ml_M_435 mv_M_isBook ⟨rfl, by decide⟩ (zg_some e_x2).1 (by decide) [.int p1] [] rfl (Nat.le_of_ble_eq_true rfl) rfl (m_M_isBook e_x2) ?_
    change zPJ X 0 0 _ _ [.int x2] _
    refine zj_if_eq (tgt := 38) o (zdd k_M_look 7 rfl) (by decide) (fun hc => ?_) (fun hc => ?_)
    · rw [if_pos hc] at h
      refine zj_iconst o (zdd k_M_look 19 rfl) zki_m1 ?_
      cases h
      exact zr_i o hr (zdd k_M_look 20 rfl)
    · rw [if_neg hc] at h
      refine zj_aload_n o (zdd k_M_look 8 rfl) rfl 0 rfl ?_
      refine zj_iload_n o (zdd k_M_look 9 rfl) rfl 3 rfl ?_
      obtain ⟨x3, e_x3, h⟩ := zbd h
      refine zc_V o (zdd k_M_look 10 rfl) ml_M_435 mv_M_isBook ⟨rfl, by decide⟩ (zg_some e_x3).1 (by decide) [.int p2] [] rfl (Nat.le_of_ble_eq_true rfl) rfl (m_M_isBook e_x3) ?_
      change zPJ X 0 0 _ _ [.int x3] _
      refine zj_if_eq (tgt := 38) o (zdd k_M_look 11 rfl) (by decide) (fun hc => ?_) (fun hc => ?_)
      · rw [if_pos hc] at h
        refine zj_iconst o (zdd k_M_look 19 rfl) zki_m1 ?_
        cases h
        exact zr_i o hr (zdd k_M_look 20 rfl)
      · rw [if_neg hc] at h
        refine zj_iload_n o (zdd k_M_look 12 rfl) rfl 2 rfl ?_
        refine zj_iload_n o (zdd k_M_look 13 rfl) rfl 3 rfl ?_
        refine zj_icmp_eq (tgt := 38) o (zdd k_M_look 14 rfl) (by decide) (fun hc => ?_) (fun hc => ?_)
        · rw [if_pos hc] at h
          refine zj_iconst o (zdd k_M_look 19 rfl) zki_m1 ?_
          cases h
          exact zr_i o hr (zdd k_M_look 20 rfl)
        · rw [if_neg hc] at h
          refine zj_aload_n o (zdd k_M_look 15 rfl) rfl 0 rfl ?_
          obtain ⟨x4, e_x4, h⟩ := zbd h
          refine zj_gI o (zdd k_M_look 16 rfl) fl_M_416 rfl e_x4 ?_
          refine zj_bipush o (zdd k_M_look 17 rfl) zkb_30 ?_
          refine zj_icmp_ne (tgt := 40) o (zdd k_M_look 18 rfl) (by decide) (fun hc => ?_) (fun hc => ?_)
          · rw [if_neg hc] at h
            refine zj_aload_n o (zdd k_M_look 21 rfl) rfl 0 rfl ?_
            obtain ⟨a5, e_a5, h⟩ := zbd h
            refine zj_gP o (zdd k_M_look 22 rfl) fl_M_124 rfl e_a5 ?_
            refine zj_aload_n o (zdd k_M_look 23 rfl) rfl 0 rfl ?_
            obtain ⟨x6, e_x6, h⟩ := zbd h
            refine zj_gI o (zdd k_M_look 24 rfl) fl_M_416 rfl e_x6 ?_
            refine zj_iload_n o (zdd k_M_look 25 rfl) rfl 1 rfl ?_
            obtain ⟨σ7, e_σ7, h⟩ := zbd h
            refine zj_iast o (zdd k_M_look 26 rfl) e_σ7 ?_
            refine zj_aload_n o (zdd k_M_look 27 rfl) rfl 0 rfl ?_
            obtain ⟨a8, e_a8, h⟩ := zbd h
            refine zj_gP o (zdd k_M_look 28 rfl) fl_M_127 rfl e_a8 ?_
            refine zj_aload_n o (zdd k_M_look 29 rfl) rfl 0 rfl ?_
            obtain ⟨x9, e_x9, h⟩ := zbd h
            refine zj_gI o (zdd k_M_look 30 rfl) fl_M_416 rfl e_x9 ?_
            refine zj_iload_n o (zdd k_M_look 31 rfl) rfl 2 rfl ?_
            obtain ⟨σ10, e_σ10, h⟩ := zbd h
            refine zj_iast o (zdd k_M_look 32 rfl) e_σ10 ?_
            refine zj_aload_n o (zdd k_M_look 33 rfl) rfl 0 rfl ?_
            obtain ⟨a11, e_a11, h⟩ := zbd h
            refine zj_gP o (zdd k_M_look 34 rfl) fl_M_130 rfl e_a11 ?_
            refine zj_aload_n o (zdd k_M_look 35 rfl) rfl 0 rfl ?_
            obtain ⟨x12, e_x12, h⟩ := zbd h
            refine zj_gI o (zdd k_M_look 36 rfl) fl_M_416 rfl e_x12 ?_
            refine zj_iload_n o (zdd k_M_look 37 rfl) rfl 3 rfl ?_
            obtain ⟨σ13, e_σ13, h⟩ := zbd h
            refine zj_iast o (zdd k_M_look 38 rfl) e_σ13 ?_
            refine zj_aload_n o (zdd k_M_look 39 rfl) rfl 0 rfl ?_
            obtain ⟨a14, e_a14, h⟩ := zbd h
            refine zj_gP o (zdd k_M_look 40 rfl) fl_M_133 rfl e_a14 ?_
            refine zj_aload_n o (zdd k_M_look 41 rfl) rfl 0 rfl ?_
            obtain ⟨x15, e_x15, h⟩ := zbd h
            refine zj_gI o (zdd k_M_look 42 rfl) fl_M_416 rfl e_x15 ?_
            refine zj_aload_n o (zdd k_M_look 43 rfl) rfl 0 rfl ?_
            obtain ⟨x16, e_x16, h⟩ := zbd h
            refine zj_gI o (zdd k_M_look 44 rfl) fl_M_582 rfl e_x16 ?_
            obtain ⟨σ17, e_σ17, h⟩ := zbd h
            refine zj_iast o (zdd k_M_look 45 rfl) e_σ17 ?_
            refine zj_aload_n o (zdd k_M_look 46 rfl) rfl 0 rfl ?_
            obtain ⟨a18, e_a18, h⟩ := zbd h
            refine zj_gP o (zdd k_M_look 47 rfl) fl_M_136 rfl e_a18 ?_
            refine zj_aload_n o (zdd k_M_look 48 rfl) rfl 0 rfl ?_
            obtain ⟨x19, e_x19, h⟩ := zbd h
            refine zj_gI o (zdd k_M_look 49 rfl) fl_M_416 rfl e_x19 ?_
            refine zj_iconst o (zdd k_M_look 50 rfl) zki_m1 ?_
            obtain ⟨σ20, e_σ20, h⟩ := zbd h
            refine zj_iast o (zdd k_M_look 51 rfl) e_σ20 ?_
            refine zj_aload_n o (zdd k_M_look 52 rfl) rfl 0 rfl ?_
            refine zj_dup o (zdd k_M_look 53 rfl) rfl ?_
            obtain ⟨x21, e_x21, h⟩ := zbd h
            refine zj_gI o (zdd k_M_look 54 rfl) fl_M_416 rfl e_x21 ?_
            refine zj_iconst o (zdd k_M_look 55 rfl) zki_1 ?_
            refine zj_iadd o (zdd k_M_look 56 rfl) ?_
            obtain ⟨σ22, e_σ22, h⟩ := zbd h
            refine zj_pI o (zdd k_M_look 57 rfl) fl_M_416 rfl rfl e_σ22 ?_
            refine zj_aload_n o (zdd k_M_look 58 rfl) rfl 0 rfl ?_
            obtain ⟨x23, e_x23, h⟩ := zbd h
            refine zj_gI o (zdd k_M_look 59 rfl) fl_M_416 rfl e_x23 ?_
            refine zj_iconst o (zdd k_M_look 60 rfl) zki_1 ?_
            refine zj_isub o (zdd k_M_look 61 rfl) ?_
            cases h
            exact zr_i o hr (zdd k_M_look 62 rfl)
          · rw [if_pos hc] at h
            refine zj_iconst o (zdd k_M_look 19 rfl) zki_m1 ?_
            cases h
            exact zr_i o hr (zdd k_M_look 20 rfl)
def f_M_untell (σ : zSt) (t : Nat) (p0 : Int32) : Option (Int32 × zSt) :=
zg σ 12 t (
((zgI σ 12 t 78).bind fun x1 =>
(f_M_isIn p0 0 (x1 - 1)).bind fun x2 =>
if x2 = 0 then (
some (0, σ)) else
(zgP σ 12 t 77).bind fun a3 =>
(zaI σ 1 a3 p0).bind fun x4 =>
if x4 < 0 then (
(zgP σ 12 t 77).bind fun a5 =>
(zgI σ 12 t 79).bind fun x6 =>
(zwI σ 1 a5 p0 x6).bind fun σ7 =>
some (1, σ7)) else
some (0, σ)).bind fun q => (zbool q.1).bind fun x => some (x, q.2))
set_option maxRecDepth 100000 in
set_option maxHeartbeats 4000000 in
theorem m_M_untell {l : Launch} {b : Nat} {ex : Nat → Value} {D : va_G} {ca : Nat → ClassId} {σ : zSt} {t : Nat} {p0 : Int32} {z : Int32 × zSt} (h : f_M_untell σ t p0 = some z) : zMT l b ex D ca 2 y_M_untell c_M_untell n_M_untell r_ret_M_untell [.ref t, .int p0] σ (some (.int z.1)) z.2 0 0 := by
  obtain ⟨_, hg0⟩ := zg_some h
  obtain ⟨z0, hbd, hz⟩ := zbd hg0
  obtain ⟨z1, hz1, hzz⟩ := zbd hz
  obtain ⟨hzb, rfl⟩ := zbool_some hz1
  cases hzz
  have h := hbd
  refine zmt_of (by decide) (Nat.le_of_ble_eq_true rfl) ⟨.boolean, rfl, zb_nar hzb⟩ (fun X o hin hrm _ _ _ _ _ hr => ?_)
  have hr := hr 0 0 (by decide) (by decide)
  have o : zOK X "WantShelvesModel" c_M_untell n_M_untell 2 := o
  change zPJ X 0 0 0 [(0, .ref t), (1, .int p0)] [] σ
  refine zj_iload_n o (zdd k_M_untell 0 rfl) rfl 1 rfl ?_
  refine zj_iconst o (zdd k_M_untell 1 rfl) zki_0 ?_
  refine zj_aload_n o (zdd k_M_untell 2 rfl) rfl 0 rfl ?_
  obtain ⟨x1, e_x1, h⟩ := zbd h
  refine zj_gI o (zdd k_M_untell 3 rfl) fl_M_416 rfl e_x1 ?_
  refine zj_iconst o (zdd k_M_untell 4 rfl) zki_1 ?_
  refine zj_isub o (zdd k_M_untell 5 rfl) ?_
  obtain ⟨x2, e_x2, h⟩ := zbd h
  refine zc_S o (zdd k_M_untell 6 rfl) ml_M_425 ms_M_isIn (by decide) [.int p0, .int 0, .int (x1 - 1)] [] rfl (Nat.le_of_ble_eq_true rfl) rfl (m_M_isIn e_x2) ?_
  change zPJ X 0 0 _ _ [.int x2] _
  refine zj_if_eq (tgt := 23) o (zdd k_M_untell 7 rfl) (by decide) (fun hc => ?_) (fun hc => ?_)
  · rw [if_pos hc] at h
    refine zj_iconst o (zdd k_M_untell 13 rfl) zki_0 ?_
    cases h
    exact zr_i o hr (zdd k_M_untell 14 rfl)
  · rw [if_neg hc] at h
    refine zj_aload_n o (zdd k_M_untell 8 rfl) rfl 0 rfl ?_
    obtain ⟨a3, e_a3, h⟩ := zbd h
    refine zj_gP o (zdd k_M_untell 9 rfl) fl_M_136 rfl e_a3 ?_
    refine zj_iload_n o (zdd k_M_untell 10 rfl) rfl 1 rfl ?_
    obtain ⟨x4, e_x4, h⟩ := zbd h
    refine zj_iald o (zdd k_M_untell 11 rfl) e_x4 ?_
    refine zj_if_lt (tgt := 25) o (zdd k_M_untell 12 rfl) (by decide) (fun hc => ?_) (fun hc => ?_)
    · rw [if_pos hc] at h
      refine zj_aload_n o (zdd k_M_untell 15 rfl) rfl 0 rfl ?_
      obtain ⟨a5, e_a5, h⟩ := zbd h
      refine zj_gP o (zdd k_M_untell 16 rfl) fl_M_136 rfl e_a5 ?_
      refine zj_iload_n o (zdd k_M_untell 17 rfl) rfl 1 rfl ?_
      refine zj_aload_n o (zdd k_M_untell 18 rfl) rfl 0 rfl ?_
      obtain ⟨x6, e_x6, h⟩ := zbd h
      refine zj_gI o (zdd k_M_untell 19 rfl) fl_M_582 rfl e_x6 ?_
      obtain ⟨σ7, e_σ7, h⟩ := zbd h
      refine zj_iast o (zdd k_M_untell 20 rfl) e_σ7 ?_
      refine zj_iconst o (zdd k_M_untell 21 rfl) zki_1 ?_
      cases h
      exact zr_i o hr (zdd k_M_untell 22 rfl)
    · rw [if_neg hc] at h
      refine zj_iconst o (zdd k_M_untell 13 rfl) zki_0 ?_
      cases h
      exact zr_i o hr (zdd k_M_untell 14 rfl)
def f_M_later (σ : zSt) (t : Nat) (p0 : Int32) : Option (Int32 × zSt) :=
zg σ 12 t (
if p0 < 0 then (
some ((-1), σ)) else
if 1000 < p0 then (
some ((-1), σ)) else
(zgI σ 12 t 79).bind fun x1 =>
if x1 + p0 ≤ 100000 then (
(zgI σ 12 t 79).bind fun x2 =>
(zsI σ 12 t 79 (x2 + p0)).bind fun σ3 =>
(zgI σ3 12 t 79).bind fun x4 =>
some (x4, σ3)) else
some ((-1), σ))
set_option maxRecDepth 100000 in
set_option maxHeartbeats 4000000 in
theorem m_M_later {l : Launch} {b : Nat} {ex : Nat → Value} {D : va_G} {ca : Nat → ClassId} {σ : zSt} {t : Nat} {p0 : Int32} {z : Int32 × zSt} (h : f_M_later σ t p0 = some z) : zMT l b ex D ca 1 y_M_later c_M_later n_M_later r_ret_M_later [.ref t, .int p0] σ (some (.int z.1)) z.2 0 0 := by
  obtain ⟨_, hg0⟩ := zg_some h
  have h := hg0
  refine zmt_of (by decide) (Nat.le_of_ble_eq_true rfl) ⟨.int, rfl, rfl⟩ (fun X o hin hrm _ _ _ _ _ hr => ?_)
  have hr := hr 0 0 (by decide) (by decide)
  have o : zOK X "WantShelvesModel" c_M_later n_M_later 1 := o
  change zPJ X 0 0 0 [(0, .ref t), (1, .int p0)] [] σ
  refine zj_iload_n o (zdd k_M_later 0 rfl) rfl 1 rfl ?_
  refine zj_if_lt (tgt := 23) o (zdd k_M_later 1 rfl) (by decide) (fun hc => ?_) (fun hc => ?_)
  · rw [if_pos hc] at h
    refine zj_iconst o (zdd k_M_later 11 rfl) zki_m1 ?_
    cases h
    exact zr_i o hr (zdd k_M_later 12 rfl)
  · rw [if_neg hc] at h
    refine zj_iload_n o (zdd k_M_later 2 rfl) rfl 1 rfl ?_
    refine zj_sipush o (zdd k_M_later 3 rfl) zks_1000 ?_
    refine zj_icmp_gt (tgt := 23) o (zdd k_M_later 4 rfl) (by decide) (fun hc => ?_) (fun hc => ?_)
    · rw [if_pos hc] at h
      refine zj_iconst o (zdd k_M_later 11 rfl) zki_m1 ?_
      cases h
      exact zr_i o hr (zdd k_M_later 12 rfl)
    · rw [if_neg hc] at h
      refine zj_aload_n o (zdd k_M_later 5 rfl) rfl 0 rfl ?_
      obtain ⟨x1, e_x1, h⟩ := zbd h
      refine zj_gI o (zdd k_M_later 6 rfl) fl_M_582 rfl e_x1 ?_
      refine zj_iload_n o (zdd k_M_later 7 rfl) rfl 1 rfl ?_
      refine zj_iadd o (zdd k_M_later 8 rfl) ?_
      refine zj_ldcw o (zdd k_M_later 9 rfl) co_M_585 ?_
      refine zj_icmp_le (tgt := 25) o (zdd k_M_later 10 rfl) (by decide) (fun hc => ?_) (fun hc => ?_)
      · rw [if_pos hc] at h
        refine zj_aload_n o (zdd k_M_later 13 rfl) rfl 0 rfl ?_
        refine zj_dup o (zdd k_M_later 14 rfl) rfl ?_
        obtain ⟨x2, e_x2, h⟩ := zbd h
        refine zj_gI o (zdd k_M_later 15 rfl) fl_M_582 rfl e_x2 ?_
        refine zj_iload_n o (zdd k_M_later 16 rfl) rfl 1 rfl ?_
        refine zj_iadd o (zdd k_M_later 17 rfl) ?_
        obtain ⟨σ3, e_σ3, h⟩ := zbd h
        refine zj_pI o (zdd k_M_later 18 rfl) fl_M_582 rfl rfl e_σ3 ?_
        refine zj_aload_n o (zdd k_M_later 19 rfl) rfl 0 rfl ?_
        obtain ⟨x4, e_x4, h⟩ := zbd h
        refine zj_gI o (zdd k_M_later 20 rfl) fl_M_582 rfl e_x4 ?_
        cases h
        exact zr_i o hr (zdd k_M_later 21 rfl)
      · rw [if_neg hc] at h
        refine zj_iconst o (zdd k_M_later 11 rfl) zki_m1 ?_
        cases h
        exact zr_i o hr (zdd k_M_later 12 rfl)
def f_M_fits_67 (k13 : zSt → Nat → Int32 → Int32 → Int32 → Int32 → Option (Int32 × zSt)) (σ : zSt) (v0 : Nat) (v1 : Int32) (v4 : Int32) (v5 : Int32) (v6 : Int32) : Option (Int32 × zSt) :=
if v5 = 0 then (
k13 σ v0 v1 v4 0 (v6 + 1)) else
(zgP σ 12 v0 74).bind fun a1 =>
(zaI σ 1 a1 v6).bind fun x2 =>
(zgP σ 12 v0 75).bind fun a3 =>
(zaI σ 1 a3 v6).bind fun x4 =>
(f_M_isAhead σ v0 v1 x2 x4).bind fun x5 =>
if x5 = 0 then (
k13 σ v0 v1 v4 0 (v6 + 1)) else
k13 σ v0 v1 v4 1 (v6 + 1)
set_option maxRecDepth 100000 in
set_option maxHeartbeats 4000000 in
theorem r_M_fits_67 {X : zCX} (o : zOK X "WantShelvesModel" c_M_fits n_M_fits 7) {k13 : zSt → Nat → Int32 → Int32 → Int32 → Int32 → Option (Int32 × zSt)} (hk13 : ∀ {σ : zSt} {v0 : Nat} {v1 : Int32} {v4 : Int32} {v5 : Int32} {v6 : Int32} {z : Int32 × zSt}, k13 σ v0 v1 v4 v5 v6 = some z → zRX X 0 0 (some (.int z.1)) z.2 → zPJ X 0 0 13 [(0, .ref v0), (1, .int v1), (4, .int v4), (5, .int v5), (6, .int v6)] [] σ) {σ : zSt} {v0 : Nat} {v1 : Int32} {v4 : Int32} {v5 : Int32} {v6 : Int32} {z : Int32 × zSt} (h : f_M_fits_67 k13 σ v0 v1 v4 v5 v6 = some z) (hr : zRX X 0 0 (some (.int z.1)) z.2) : zPJ X 0 0 67 [(0, .ref v0), (1, .int v1), (4, .int v4), (5, .int v5), (6, .int v6)] [] σ := by
  unfold f_M_fits_67 at h
  refine zj_iload o (zdd k_M_fits 36 rfl) 3 rfl ?_
  refine zj_if_eq (tgt := 98) o (zdd k_M_fits 37 rfl) (by decide) (fun hc => ?_) (fun hc => ?_)
  · rw [if_pos hc] at h
    refine zj_iconst o (zdd k_M_fits 52 rfl) zki_0 ?_
    refine zj_istore (loc' := [(5, .int 0), (0, .ref v0), (1, .int v1), (4, .int v4), (6, .int v6)]) o (zdd k_M_fits 53 rfl) (by decide) rfl ?_
    refine zj_iinc (v := v6 + 1) (loc' := [(6, .int (v6 + 1)), (5, .int 0), (0, .ref v0), (1, .int v1), (4, .int v4)]) o (zdd k_M_fits 54 rfl) 4 rfl (by rw [zki_1]) (by decide) rfl ?_
    refine zj_goto (tgt := 13) o (zdd k_M_fits 55 rfl) (by decide) ?_
    exact zj_sub [2, 3, 4, 1, 0] rfl (hk13 h hr)
  · rw [if_neg hc] at h
    refine zj_aload_n o (zdd k_M_fits 38 rfl) rfl 0 rfl ?_
    refine zj_iload_n o (zdd k_M_fits 39 rfl) rfl 1 rfl ?_
    refine zj_aload_n o (zdd k_M_fits 40 rfl) rfl 0 rfl ?_
    obtain ⟨a1, e_a1, h⟩ := zbd h
    refine zj_gP o (zdd k_M_fits 41 rfl) fl_M_127 rfl e_a1 ?_
    refine zj_iload o (zdd k_M_fits 42 rfl) 4 rfl ?_
    obtain ⟨x2, e_x2, h⟩ := zbd h
    refine zj_iald o (zdd k_M_fits 43 rfl) e_x2 ?_
    refine zj_aload_n o (zdd k_M_fits 44 rfl) rfl 0 rfl ?_
    obtain ⟨a3, e_a3, h⟩ := zbd h
    refine zj_gP o (zdd k_M_fits 45 rfl) fl_M_130 rfl e_a3 ?_
    refine zj_iload o (zdd k_M_fits 46 rfl) 4 rfl ?_
    obtain ⟨x4, e_x4, h⟩ := zbd h
    refine zj_iald o (zdd k_M_fits 47 rfl) e_x4 ?_
    obtain ⟨x5, e_x5, h⟩ := zbd h
    refine zc_V o (zdd k_M_fits 48 rfl) ml_M_469 mv_M_isAhead ⟨rfl, by decide⟩ (zg_some e_x5).1 (by decide) [.int v1, .int x2, .int x4] [] rfl (Nat.le_of_ble_eq_true rfl) rfl (m_M_isAhead e_x5) ?_
    change zPJ X 0 0 _ _ [.int x5] _
    refine zj_if_eq (tgt := 98) o (zdd k_M_fits 49 rfl) (by decide) (fun hc => ?_) (fun hc => ?_)
    · rw [if_pos hc] at h
      refine zj_iconst o (zdd k_M_fits 52 rfl) zki_0 ?_
      refine zj_istore (loc' := [(5, .int 0), (0, .ref v0), (1, .int v1), (4, .int v4), (6, .int v6)]) o (zdd k_M_fits 53 rfl) (by decide) rfl ?_
      refine zj_iinc (v := v6 + 1) (loc' := [(6, .int (v6 + 1)), (5, .int 0), (0, .ref v0), (1, .int v1), (4, .int v4)]) o (zdd k_M_fits 54 rfl) 4 rfl (by rw [zki_1]) (by decide) rfl ?_
      refine zj_goto (tgt := 13) o (zdd k_M_fits 55 rfl) (by decide) ?_
      exact zj_sub [2, 3, 4, 1, 0] rfl (hk13 h hr)
    · rw [if_neg hc] at h
      refine zj_iconst o (zdd k_M_fits 50 rfl) zki_1 ?_
      refine zj_goto (tgt := 99) o (zdd k_M_fits 51 rfl) (by decide) ?_
      refine zj_istore (loc' := [(5, .int 1), (0, .ref v0), (1, .int v1), (4, .int v4), (6, .int v6)]) o (zdd k_M_fits 53 rfl) (by decide) rfl ?_
      refine zj_iinc (v := v6 + 1) (loc' := [(6, .int (v6 + 1)), (5, .int 1), (0, .ref v0), (1, .int v1), (4, .int v4)]) o (zdd k_M_fits 54 rfl) 4 rfl (by rw [zki_1]) (by decide) rfl ?_
      refine zj_goto (tgt := 13) o (zdd k_M_fits 55 rfl) (by decide) ?_
      exact zj_sub [2, 3, 4, 1, 0] rfl (hk13 h hr)
def f_M_fits_13 (k13 : zSt → Nat → Int32 → Int32 → Int32 → Int32 → Option (Int32 × zSt)) (σ : zSt) (v0 : Nat) (v1 : Int32) (v4 : Int32) (v5 : Int32) (v6 : Int32) : Option (Int32 × zSt) :=
(zgI σ 12 v0 78).bind fun x1 =>
if x1 ≤ v6 then (
some (v5, σ)) else
(zgP σ 12 v0 73).bind fun a2 =>
(zaI σ 1 a2 v6).bind fun x3 =>
if x3 = v1 then (
(zgP σ 12 v0 76).bind fun a4 =>
(zaI σ 1 a4 v6).bind fun x5 =>
if v4 < x5 then (
k13 σ v0 v1 v4 v5 (v6 + 1)) else
(zgP σ 12 v0 77).bind fun a6 =>
(zaI σ 1 a6 v6).bind fun x7 =>
if x7 < 0 then (
f_M_fits_67 k13 σ v0 v1 v4 v5 v6) else
(zgP σ 12 v0 77).bind fun a8 =>
(zaI σ 1 a8 v6).bind fun x9 =>
if x9 ≤ v4 then (
k13 σ v0 v1 v4 v5 (v6 + 1)) else
f_M_fits_67 k13 σ v0 v1 v4 v5 v6) else
k13 σ v0 v1 v4 v5 (v6 + 1)
set_option maxRecDepth 100000 in
set_option maxHeartbeats 4000000 in
theorem r_M_fits_13 {X : zCX} (o : zOK X "WantShelvesModel" c_M_fits n_M_fits 7) {k13 : zSt → Nat → Int32 → Int32 → Int32 → Int32 → Option (Int32 × zSt)} (hk13 : ∀ {σ : zSt} {v0 : Nat} {v1 : Int32} {v4 : Int32} {v5 : Int32} {v6 : Int32} {z : Int32 × zSt}, k13 σ v0 v1 v4 v5 v6 = some z → zRX X 0 0 (some (.int z.1)) z.2 → zPJ X 0 0 13 [(0, .ref v0), (1, .int v1), (4, .int v4), (5, .int v5), (6, .int v6)] [] σ) {σ : zSt} {v0 : Nat} {v1 : Int32} {v4 : Int32} {v5 : Int32} {v6 : Int32} {z : Int32 × zSt} (h : f_M_fits_13 k13 σ v0 v1 v4 v5 v6 = some z) (hr : zRX X 0 0 (some (.int z.1)) z.2) : zPJ X 0 0 13 [(0, .ref v0), (1, .int v1), (4, .int v4), (5, .int v5), (6, .int v6)] [] σ := by
  unfold f_M_fits_13 at h
  refine zj_iload o (zdd k_M_fits 9 rfl) 4 rfl ?_
  refine zj_aload_n o (zdd k_M_fits 10 rfl) rfl 0 rfl ?_
  obtain ⟨x1, e_x1, h⟩ := zbd h
  refine zj_gI o (zdd k_M_fits 11 rfl) fl_M_416 rfl e_x1 ?_
  refine zj_icmp_ge (tgt := 107) o (zdd k_M_fits 12 rfl) (by decide) (fun hc => ?_) (fun hc => ?_)
  · rw [if_pos hc] at h
    refine zj_iload o (zdd k_M_fits 56 rfl) 3 rfl ?_
    cases h
    exact zr_i o hr (zdd k_M_fits 57 rfl)
  · rw [if_neg hc] at h
    refine zj_aload_n o (zdd k_M_fits 13 rfl) rfl 0 rfl ?_
    obtain ⟨a2, e_a2, h⟩ := zbd h
    refine zj_gP o (zdd k_M_fits 14 rfl) fl_M_124 rfl e_a2 ?_
    refine zj_iload o (zdd k_M_fits 15 rfl) 4 rfl ?_
    obtain ⟨x3, e_x3, h⟩ := zbd h
    refine zj_iald o (zdd k_M_fits 16 rfl) e_x3 ?_
    refine zj_iload_n o (zdd k_M_fits 17 rfl) rfl 1 rfl ?_
    refine zj_icmp_ne (tgt := 101) o (zdd k_M_fits 18 rfl) (by decide) (fun hc => ?_) (fun hc => ?_)
    · rw [if_neg hc] at h
      refine zj_iinc (v := v6 + 1) (loc' := [(6, .int (v6 + 1)), (0, .ref v0), (1, .int v1), (4, .int v4), (5, .int v5)]) o (zdd k_M_fits 54 rfl) 4 rfl (by rw [zki_1]) (by decide) rfl ?_
      refine zj_goto (tgt := 13) o (zdd k_M_fits 55 rfl) (by decide) ?_
      exact zj_sub [1, 2, 3, 4, 0] rfl (hk13 h hr)
    · rw [if_pos hc] at h
      refine zj_aload_n o (zdd k_M_fits 19 rfl) rfl 0 rfl ?_
      obtain ⟨a4, e_a4, h⟩ := zbd h
      refine zj_gP o (zdd k_M_fits 20 rfl) fl_M_133 rfl e_a4 ?_
      refine zj_iload o (zdd k_M_fits 21 rfl) 4 rfl ?_
      obtain ⟨x5, e_x5, h⟩ := zbd h
      refine zj_iald o (zdd k_M_fits 22 rfl) e_x5 ?_
      refine zj_iload o (zdd k_M_fits 23 rfl) 2 rfl ?_
      refine zj_icmp_gt (tgt := 101) o (zdd k_M_fits 24 rfl) (by decide) (fun hc => ?_) (fun hc => ?_)
      · rw [if_pos hc] at h
        refine zj_iinc (v := v6 + 1) (loc' := [(6, .int (v6 + 1)), (0, .ref v0), (1, .int v1), (4, .int v4), (5, .int v5)]) o (zdd k_M_fits 54 rfl) 4 rfl (by rw [zki_1]) (by decide) rfl ?_
        refine zj_goto (tgt := 13) o (zdd k_M_fits 55 rfl) (by decide) ?_
        exact zj_sub [1, 2, 3, 4, 0] rfl (hk13 h hr)
      · rw [if_neg hc] at h
        refine zj_aload_n o (zdd k_M_fits 25 rfl) rfl 0 rfl ?_
        obtain ⟨a6, e_a6, h⟩ := zbd h
        refine zj_gP o (zdd k_M_fits 26 rfl) fl_M_136 rfl e_a6 ?_
        refine zj_iload o (zdd k_M_fits 27 rfl) 4 rfl ?_
        obtain ⟨x7, e_x7, h⟩ := zbd h
        refine zj_iald o (zdd k_M_fits 28 rfl) e_x7 ?_
        refine zj_if_lt (tgt := 67) o (zdd k_M_fits 29 rfl) (by decide) (fun hc => ?_) (fun hc => ?_)
        · rw [if_pos hc] at h
          exact zj_sub [0, 1, 2, 3, 4] rfl (r_M_fits_67 o hk13 h hr)
        · rw [if_neg hc] at h
          refine zj_aload_n o (zdd k_M_fits 30 rfl) rfl 0 rfl ?_
          obtain ⟨a8, e_a8, h⟩ := zbd h
          refine zj_gP o (zdd k_M_fits 31 rfl) fl_M_136 rfl e_a8 ?_
          refine zj_iload o (zdd k_M_fits 32 rfl) 4 rfl ?_
          obtain ⟨x9, e_x9, h⟩ := zbd h
          refine zj_iald o (zdd k_M_fits 33 rfl) e_x9 ?_
          refine zj_iload o (zdd k_M_fits 34 rfl) 2 rfl ?_
          refine zj_icmp_le (tgt := 101) o (zdd k_M_fits 35 rfl) (by decide) (fun hc => ?_) (fun hc => ?_)
          · rw [if_pos hc] at h
            refine zj_iinc (v := v6 + 1) (loc' := [(6, .int (v6 + 1)), (0, .ref v0), (1, .int v1), (4, .int v4), (5, .int v5)]) o (zdd k_M_fits 54 rfl) 4 rfl (by rw [zki_1]) (by decide) rfl ?_
            refine zj_goto (tgt := 13) o (zdd k_M_fits 55 rfl) (by decide) ?_
            exact zj_sub [1, 2, 3, 4, 0] rfl (hk13 h hr)
          · rw [if_neg hc] at h
            exact zj_sub [0, 1, 2, 3, 4] rfl (r_M_fits_67 o hk13 h hr)
def f_M_fits_13L : Nat → zSt → Nat → Int32 → Int32 → Int32 → Int32 → Option (Int32 × zSt)
  | 0 => fun _ _ _ _ _ _ => none
  | n + 1 => f_M_fits_13  (f_M_fits_13L  n)
theorem r_M_fits_13L {X : zCX} (o : zOK X "WantShelvesModel" c_M_fits n_M_fits 7) : ∀ (n : Nat) {σ : zSt} {v0 : Nat} {v1 : Int32} {v4 : Int32} {v5 : Int32} {v6 : Int32} {z : Int32 × zSt}, f_M_fits_13L n σ v0 v1 v4 v5 v6 = some z → zRX X 0 0 (some (.int z.1)) z.2 → zPJ X 0 0 13 [(0, .ref v0), (1, .int v1), (4, .int v4), (5, .int v5), (6, .int v6)] [] σ
  | 0 => fun h _ => by cases h
  | n + 1 => fun h hr => r_M_fits_13 o (r_M_fits_13L o  n) h hr
def f_M_fits (σ : zSt) (t : Nat) (p0 : Int32) (p1 : Int32) (p2 : Int32) (p3 : Int32) : Option (Int32 × zSt) :=
zg σ 12 t (
((f_M_layByRow σ t p0 p1 p2).bind fun σ1 =>
f_M_fits_13L zfu σ1 t p0 p3 1 0).bind fun q => (zbool q.1).bind fun x => some (x, q.2))
set_option maxRecDepth 100000 in
set_option maxHeartbeats 4000000 in
theorem m_M_fits {l : Launch} {b : Nat} {ex : Nat → Value} {D : va_G} {ca : Nat → ClassId} {σ : zSt} {t : Nat} {p0 : Int32} {p1 : Int32} {p2 : Int32} {p3 : Int32} {z : Int32 × zSt} (h : f_M_fits σ t p0 p1 p2 p3 = some z) : zMT l b ex D ca 7 y_M_fits c_M_fits n_M_fits r_ret_M_fits [.ref t, .int p0, .int p1, .int p2, .int p3] σ (some (.int z.1)) z.2 0 0 := by
  obtain ⟨_, hg0⟩ := zg_some h
  obtain ⟨z0, hbd, hz⟩ := zbd hg0
  obtain ⟨z1, hz1, hzz⟩ := zbd hz
  obtain ⟨hzb, rfl⟩ := zbool_some hz1
  cases hzz
  have h := hbd
  refine zmt_of (by decide) (Nat.le_of_ble_eq_true rfl) ⟨.boolean, rfl, zb_nar hzb⟩ (fun X o hin hrm _ _ _ _ _ hr => ?_)
  have hr := hr 0 0 (by decide) (by decide)
  have o : zOK X "WantShelvesModel" c_M_fits n_M_fits 7 := o
  change zPJ X 0 0 0 [(0, .ref t), (1, .int p0), (2, .int p1), (3, .int p2), (4, .int p3)] [] σ
  refine zj_aload_n o (zdd k_M_fits 0 rfl) rfl 0 rfl ?_
  refine zj_iload_n o (zdd k_M_fits 1 rfl) rfl 1 rfl ?_
  refine zj_iload_n o (zdd k_M_fits 2 rfl) rfl 2 rfl ?_
  refine zj_iload_n o (zdd k_M_fits 3 rfl) rfl 3 rfl ?_
  obtain ⟨σ1, e_σ1, h⟩ := zbd h
  refine zc_V o (zdd k_M_fits 4 rfl) ml_M_533 mv_M_layByRow ⟨rfl, by decide⟩ (zg_some e_σ1).1 (by decide) [.int p0, .int p1, .int p2] [] rfl (Nat.le_of_ble_eq_true rfl) rfl (m_M_layByRow e_σ1) ?_
  change zPJ X 0 0 _ _ [] _
  refine zj_iconst o (zdd k_M_fits 5 rfl) zki_1 ?_
  refine zj_istore (loc' := [(5, .int 1), (0, .ref t), (1, .int p0), (2, .int p1), (3, .int p2), (4, .int p3)]) o (zdd k_M_fits 6 rfl) (by decide) rfl ?_
  refine zj_iconst o (zdd k_M_fits 7 rfl) zki_0 ?_
  refine zj_istore (loc' := [(6, .int 0), (5, .int 1), (0, .ref t), (1, .int p0), (2, .int p1), (3, .int p2), (4, .int p3)]) o (zdd k_M_fits 8 rfl) (by decide) rfl ?_
  exact zj_sub [2, 3, 6, 1, 0] rfl (r_M_fits_13L o  zfu h hr)
def f_M_fit_25 (k25 : zSt → Nat → Int32 → Int32 → Int32 → Int32 → Int32 → Option (Int32 × zSt)) (σ : zSt) (v0 : Nat) (v1 : Int32) (v2 : Int32) (v3 : Int32) (v4 : Int32) (v5 : Int32) : Option (Int32 × zSt) :=
(f_M_rows σ v0 v2).bind fun x1 =>
if x1 ≤ v5 then (
some (v4, σ)) else
(f_M_fits σ v0 v1 v5 v2 v3).bind fun q2 =>
(f_M_truth q2.1).bind fun x3 =>
k25 q2.2 v0 v1 v2 v3 (v4 + x3) (v5 + 1)
set_option maxRecDepth 100000 in
set_option maxHeartbeats 4000000 in
theorem r_M_fit_25 {X : zCX} (o : zOK X "WantShelvesModel" c_M_fit n_M_fit 8) {k25 : zSt → Nat → Int32 → Int32 → Int32 → Int32 → Int32 → Option (Int32 × zSt)} (hk25 : ∀ {σ : zSt} {v0 : Nat} {v1 : Int32} {v2 : Int32} {v3 : Int32} {v4 : Int32} {v5 : Int32} {z : Int32 × zSt}, k25 σ v0 v1 v2 v3 v4 v5 = some z → zRX X 0 0 (some (.int z.1)) z.2 → zPJ X 0 0 25 [(0, .ref v0), (1, .int v1), (2, .int v2), (3, .int v3), (4, .int v4), (5, .int v5)] [] σ) {σ : zSt} {v0 : Nat} {v1 : Int32} {v2 : Int32} {v3 : Int32} {v4 : Int32} {v5 : Int32} {z : Int32 × zSt} (h : f_M_fit_25 k25 σ v0 v1 v2 v3 v4 v5 = some z) (hr : zRX X 0 0 (some (.int z.1)) z.2) : zPJ X 0 0 25 [(0, .ref v0), (1, .int v1), (2, .int v2), (3, .int v3), (4, .int v4), (5, .int v5)] [] σ := by
  unfold f_M_fit_25 at h
  refine zj_iload o (zdd k_M_fit 15 rfl) 5 rfl ?_
  refine zj_aload_n o (zdd k_M_fit 16 rfl) rfl 0 rfl ?_
  refine zj_iload_n o (zdd k_M_fit 17 rfl) rfl 2 rfl ?_
  obtain ⟨x1, e_x1, h⟩ := zbd h
  refine zc_V o (zdd k_M_fit 18 rfl) ml_M_530 mv_M_rows ⟨rfl, by decide⟩ (zg_some e_x1).1 (by decide) [.int v2] [.int v5] rfl (Nat.le_of_ble_eq_true rfl) rfl (m_M_rows e_x1) ?_
  change zPJ X 0 0 _ _ [.int x1, .int v5] _
  refine zj_icmp_ge (tgt := 58) o (zdd k_M_fit 19 rfl) (by decide) (fun hc => ?_) (fun hc => ?_)
  · rw [if_pos hc] at h
    refine zj_iload o (zdd k_M_fit 32 rfl) 4 rfl ?_
    cases h
    exact zr_i o hr (zdd k_M_fit 33 rfl)
  · rw [if_neg hc] at h
    refine zj_iload o (zdd k_M_fit 20 rfl) 4 rfl ?_
    refine zj_aload_n o (zdd k_M_fit 21 rfl) rfl 0 rfl ?_
    refine zj_iload_n o (zdd k_M_fit 22 rfl) rfl 1 rfl ?_
    refine zj_iload o (zdd k_M_fit 23 rfl) 5 rfl ?_
    refine zj_iload_n o (zdd k_M_fit 24 rfl) rfl 2 rfl ?_
    refine zj_iload_n o (zdd k_M_fit 25 rfl) rfl 3 rfl ?_
    obtain ⟨q2, e_q2, h⟩ := zbd h
    refine zc_V o (zdd k_M_fit 26 rfl) ml_M_586 mv_M_fits ⟨rfl, by decide⟩ (zg_some e_q2).1 (by decide) [.int v1, .int v5, .int v2, .int v3] [.int v4] rfl (Nat.le_of_ble_eq_true rfl) rfl (m_M_fits e_q2) ?_
    change zPJ X 0 0 _ _ [.int q2.1, .int v4] _
    obtain ⟨x3, e_x3, h⟩ := zbd h
    refine zc_S o (zdd k_M_fit 27 rfl) ml_M_324 ms_M_truth (by decide) [.int q2.1] [.int v4] rfl (Nat.le_of_ble_eq_true rfl) rfl (m_M_truth e_x3) ?_
    change zPJ X 0 0 _ _ [.int x3, .int v4] _
    refine zj_iadd o (zdd k_M_fit 28 rfl) ?_
    refine zj_istore (loc' := [(4, .int (v4 + x3)), (0, .ref v0), (1, .int v1), (2, .int v2), (3, .int v3), (5, .int v5)]) o (zdd k_M_fit 29 rfl) (by decide) rfl ?_
    refine zj_iinc (v := v5 + 1) (loc' := [(5, .int (v5 + 1)), (4, .int (v4 + x3)), (0, .ref v0), (1, .int v1), (2, .int v2), (3, .int v3)]) o (zdd k_M_fit 30 rfl) 5 rfl (by rw [zki_1]) (by decide) rfl ?_
    refine zj_goto (tgt := 25) o (zdd k_M_fit 31 rfl) (by decide) ?_
    exact zj_sub [2, 3, 4, 5, 1, 0] rfl (hk25 h hr)
def f_M_fit_25L : Nat → zSt → Nat → Int32 → Int32 → Int32 → Int32 → Int32 → Option (Int32 × zSt)
  | 0 => fun _ _ _ _ _ _ _ => none
  | n + 1 => f_M_fit_25  (f_M_fit_25L  n)
theorem r_M_fit_25L {X : zCX} (o : zOK X "WantShelvesModel" c_M_fit n_M_fit 8) : ∀ (n : Nat) {σ : zSt} {v0 : Nat} {v1 : Int32} {v2 : Int32} {v3 : Int32} {v4 : Int32} {v5 : Int32} {z : Int32 × zSt}, f_M_fit_25L n σ v0 v1 v2 v3 v4 v5 = some z → zRX X 0 0 (some (.int z.1)) z.2 → zPJ X 0 0 25 [(0, .ref v0), (1, .int v1), (2, .int v2), (3, .int v3), (4, .int v4), (5, .int v5)] [] σ
  | 0 => fun h _ => by cases h
  | n + 1 => fun h hr => r_M_fit_25 o (r_M_fit_25L o  n) h hr
def f_M_fit (σ : zSt) (t : Nat) (p0 : Int32) (p1 : Int32) (p2 : Int32) : Option (Int32 × zSt) :=
zg σ 12 t (
(f_M_isReader σ t p0).bind fun x1 =>
if x1 = 0 then (
some ((-1), σ)) else
(f_M_isIn p1 1 2).bind fun x2 =>
if x2 = 0 then (
some ((-1), σ)) else
f_M_fit_25L zfu σ t p0 p1 p2 0 0)
set_option maxRecDepth 100000 in
set_option maxHeartbeats 4000000 in
theorem m_M_fit {l : Launch} {b : Nat} {ex : Nat → Value} {D : va_G} {ca : Nat → ClassId} {σ : zSt} {t : Nat} {p0 : Int32} {p1 : Int32} {p2 : Int32} {z : Int32 × zSt} (h : f_M_fit σ t p0 p1 p2 = some z) : zMT l b ex D ca 8 y_M_fit c_M_fit n_M_fit r_ret_M_fit [.ref t, .int p0, .int p1, .int p2] σ (some (.int z.1)) z.2 0 0 := by
  obtain ⟨_, hg0⟩ := zg_some h
  have h := hg0
  refine zmt_of (by decide) (Nat.le_of_ble_eq_true rfl) ⟨.int, rfl, rfl⟩ (fun X o hin hrm _ _ _ _ _ hr => ?_)
  have hr := hr 0 0 (by decide) (by decide)
  have o : zOK X "WantShelvesModel" c_M_fit n_M_fit 8 := o
  change zPJ X 0 0 0 [(0, .ref t), (1, .int p0), (2, .int p1), (3, .int p2)] [] σ
  refine zj_aload_n o (zdd k_M_fit 0 rfl) rfl 0 rfl ?_
  refine zj_iload_n o (zdd k_M_fit 1 rfl) rfl 1 rfl ?_
  obtain ⟨x1, e_x1, h⟩ := zbd h
  refine zc_V o (zdd k_M_fit 2 rfl) ml_M_441 mv_M_isReader ⟨rfl, by decide⟩ (zg_some e_x1).1 (by decide) [.int p0] [] rfl (Nat.le_of_ble_eq_true rfl) rfl (m_M_isReader e_x1) ?_
  change zPJ X 0 0 _ _ [.int x1] _
  refine zj_if_eq (tgt := 17) o (zdd k_M_fit 3 rfl) (by decide) (fun hc => ?_) (fun hc => ?_)
  · rw [if_pos hc] at h
    refine zj_iconst o (zdd k_M_fit 9 rfl) zki_m1 ?_
    cases h
    exact zr_i o hr (zdd k_M_fit 10 rfl)
  · rw [if_neg hc] at h
    refine zj_iload_n o (zdd k_M_fit 4 rfl) rfl 2 rfl ?_
    refine zj_iconst o (zdd k_M_fit 5 rfl) zki_1 ?_
    refine zj_iconst o (zdd k_M_fit 6 rfl) zki_2 ?_
    obtain ⟨x2, e_x2, h⟩ := zbd h
    refine zc_S o (zdd k_M_fit 7 rfl) ml_M_425 ms_M_isIn (by decide) [.int p1, .int 1, .int 2] [] rfl (Nat.le_of_ble_eq_true rfl) rfl (m_M_isIn e_x2) ?_
    change zPJ X 0 0 _ _ [.int x2] _
    refine zj_if_ne (tgt := 19) o (zdd k_M_fit 8 rfl) (by decide) (fun hc => ?_) (fun hc => ?_)
    · rw [if_neg hc] at h
      refine zj_iconst o (zdd k_M_fit 11 rfl) zki_0 ?_
      refine zj_istore (loc' := [(4, .int 0), (0, .ref t), (1, .int p0), (2, .int p1), (3, .int p2)]) o (zdd k_M_fit 12 rfl) (by decide) rfl ?_
      refine zj_iconst o (zdd k_M_fit 13 rfl) zki_0 ?_
      refine zj_istore (loc' := [(5, .int 0), (4, .int 0), (0, .ref t), (1, .int p0), (2, .int p1), (3, .int p2)]) o (zdd k_M_fit 14 rfl) (by decide) rfl ?_
      exact zj_sub [2, 3, 4, 5, 1, 0] rfl (r_M_fit_25L o  zfu h hr)
    · rw [if_pos hc] at h
      refine zj_iconst o (zdd k_M_fit 9 rfl) zki_m1 ?_
      cases h
      exact zr_i o hr (zdd k_M_fit 10 rfl)
def f_M_sure_38 (k38 : zSt → Nat → Int32 → Int32 → Int32 → Int32 → Int32 → Int32 → Int32 → Option (Int32 × zSt)) (σ : zSt) (v0 : Nat) (v1 : Int32) (v2 : Int32) (v3 : Int32) (v4 : Int32) (v5 : Int32) (v6 : Int32) (v7 : Int32) : Option (Int32 × zSt) :=
(f_M_rows σ v0 v4).bind fun x1 =>
if x1 ≤ v7 then (
some (v6, σ)) else
(f_M_fits σ v0 v1 v7 v4 v5).bind fun q2 =>
if q2.1 = 0 then (
k38 q2.2 v0 v1 v2 v3 v4 v5 v6 (v7 + 1)) else
(zgP q2.2 12 v0 50).bind fun a3 =>
(zaI q2.2 1 a3 v2).bind fun x4 =>
if v6 = (-1000000) then (
k38 q2.2 v0 v1 v2 v3 v4 v5 x4 (v7 + 1)) else
if v3 = 0 then (
if v6 ≤ x4 then (
k38 q2.2 v0 v1 v2 v3 v4 v5 v6 (v7 + 1)) else
k38 q2.2 v0 v1 v2 v3 v4 v5 x4 (v7 + 1)) else
if x4 ≤ v6 then (
k38 q2.2 v0 v1 v2 v3 v4 v5 v6 (v7 + 1)) else
k38 q2.2 v0 v1 v2 v3 v4 v5 x4 (v7 + 1)
set_option maxRecDepth 100000 in
set_option maxHeartbeats 4000000 in
theorem r_M_sure_38 {X : zCX} (o : zOK X "WantShelvesModel" c_M_sure n_M_sure 8) {k38 : zSt → Nat → Int32 → Int32 → Int32 → Int32 → Int32 → Int32 → Int32 → Option (Int32 × zSt)} (hk38 : ∀ {σ : zSt} {v0 : Nat} {v1 : Int32} {v2 : Int32} {v3 : Int32} {v4 : Int32} {v5 : Int32} {v6 : Int32} {v7 : Int32} {z : Int32 × zSt}, k38 σ v0 v1 v2 v3 v4 v5 v6 v7 = some z → zRX X 0 0 (some (.int z.1)) z.2 → zPJ X 0 0 38 [(0, .ref v0), (1, .int v1), (2, .int v2), (3, .int v3), (4, .int v4), (5, .int v5), (6, .int v6), (7, .int v7)] [] σ) {σ : zSt} {v0 : Nat} {v1 : Int32} {v2 : Int32} {v3 : Int32} {v4 : Int32} {v5 : Int32} {v6 : Int32} {v7 : Int32} {z : Int32 × zSt} (h : f_M_sure_38 k38 σ v0 v1 v2 v3 v4 v5 v6 v7 = some z) (hr : zRX X 0 0 (some (.int z.1)) z.2) : zPJ X 0 0 38 [(0, .ref v0), (1, .int v1), (2, .int v2), (3, .int v3), (4, .int v4), (5, .int v5), (6, .int v6), (7, .int v7)] [] σ := by
  unfold f_M_sure_38 at h
  refine zj_iload o (zdd k_M_sure 19 rfl) 7 rfl ?_
  refine zj_aload_n o (zdd k_M_sure 20 rfl) rfl 0 rfl ?_
  refine zj_iload o (zdd k_M_sure 21 rfl) 4 rfl ?_
  obtain ⟨x1, e_x1, h⟩ := zbd h
  refine zc_V o (zdd k_M_sure 22 rfl) ml_M_530 mv_M_rows ⟨rfl, by decide⟩ (zg_some e_x1).1 (by decide) [.int v4] [.int v7] rfl (Nat.le_of_ble_eq_true rfl) rfl (m_M_rows e_x1) ?_
  change zPJ X 0 0 _ _ [.int x1, .int v7] _
  refine zj_icmp_ge (tgt := 118) o (zdd k_M_sure 23 rfl) (by decide) (fun hc => ?_) (fun hc => ?_)
  · rw [if_pos hc] at h
    refine zj_iload o (zdd k_M_sure 55 rfl) 6 rfl ?_
    cases h
    exact zr_i o hr (zdd k_M_sure 56 rfl)
  · rw [if_neg hc] at h
    refine zj_aload_n o (zdd k_M_sure 24 rfl) rfl 0 rfl ?_
    refine zj_iload_n o (zdd k_M_sure 25 rfl) rfl 1 rfl ?_
    refine zj_iload o (zdd k_M_sure 26 rfl) 7 rfl ?_
    refine zj_iload o (zdd k_M_sure 27 rfl) 4 rfl ?_
    refine zj_iload o (zdd k_M_sure 28 rfl) 5 rfl ?_
    obtain ⟨q2, e_q2, h⟩ := zbd h
    refine zc_V o (zdd k_M_sure 29 rfl) ml_M_586 mv_M_fits ⟨rfl, by decide⟩ (zg_some e_q2).1 (by decide) [.int v1, .int v7, .int v4, .int v5] [] rfl (Nat.le_of_ble_eq_true rfl) rfl (m_M_fits e_q2) ?_
    change zPJ X 0 0 _ _ [.int q2.1] _
    refine zj_if_ne (tgt := 66) o (zdd k_M_sure 30 rfl) (by decide) (fun hc => ?_) (fun hc => ?_)
    · rw [if_neg hc] at h
      refine zj_aload_n o (zdd k_M_sure 32 rfl) rfl 0 rfl ?_
      obtain ⟨a3, e_a3, h⟩ := zbd h
      refine zj_gP o (zdd k_M_sure 33 rfl) fl_M_81 rfl e_a3 ?_
      refine zj_iload_n o (zdd k_M_sure 34 rfl) rfl 2 rfl ?_
      obtain ⟨x4, e_x4, h⟩ := zbd h
      refine zj_iald o (zdd k_M_sure 35 rfl) e_x4 ?_
      refine zj_istore (loc' := [(8, .int x4), (0, .ref v0), (1, .int v1), (2, .int v2), (3, .int v3), (4, .int v4), (5, .int v5), (6, .int v6), (7, .int v7)]) o (zdd k_M_sure 36 rfl) (by decide) rfl ?_
      refine zj_iload o (zdd k_M_sure 37 rfl) 7 rfl ?_
      refine zj_ldcw o (zdd k_M_sure 38 rfl) co_M_444 ?_
      refine zj_icmp_eq (tgt := 103) o (zdd k_M_sure 39 rfl) (by decide) (fun hc => ?_) (fun hc => ?_)
      · rw [if_pos hc] at h
        refine zj_iload o (zdd k_M_sure 49 rfl) 0 rfl ?_
        refine zj_goto (tgt := 110) o (zdd k_M_sure 50 rfl) (by decide) ?_
        refine zj_istore (loc' := [(6, .int x4), (8, .int x4), (0, .ref v0), (1, .int v1), (2, .int v2), (3, .int v3), (4, .int v4), (5, .int v5), (7, .int v7)]) o (zdd k_M_sure 52 rfl) (by decide) rfl ?_
        refine zj_iinc (v := v7 + 1) (loc' := [(7, .int (v7 + 1)), (6, .int x4), (8, .int x4), (0, .ref v0), (1, .int v1), (2, .int v2), (3, .int v3), (4, .int v4), (5, .int v5)]) o (zdd k_M_sure 53 rfl) 8 rfl (by rw [zki_1]) (by decide) rfl ?_
        refine zj_goto (tgt := 38) o (zdd k_M_sure 54 rfl) (by decide) ?_
        exact zj_sub [3, 4, 5, 6, 7, 8, 1, 0] rfl (hk38 h hr)
      · rw [if_neg hc] at h
        refine zj_iload_n o (zdd k_M_sure 40 rfl) rfl 4 rfl ?_
        refine zj_if_eq (tgt := 96) o (zdd k_M_sure 41 rfl) (by decide) (fun hc => ?_) (fun hc => ?_)
        · rw [if_pos hc] at h
          refine zj_iload o (zdd k_M_sure 46 rfl) 0 rfl ?_
          refine zj_iload o (zdd k_M_sure 47 rfl) 7 rfl ?_
          refine zj_icmp_ge (tgt := 108) o (zdd k_M_sure 48 rfl) (by decide) (fun hc => ?_) (fun hc => ?_)
          · rw [if_pos hc] at h
            refine zj_iload o (zdd k_M_sure 51 rfl) 7 rfl ?_
            refine zj_istore (loc' := [(6, .int v6), (8, .int x4), (0, .ref v0), (1, .int v1), (2, .int v2), (3, .int v3), (4, .int v4), (5, .int v5), (7, .int v7)]) o (zdd k_M_sure 52 rfl) (by decide) rfl ?_
            refine zj_iinc (v := v7 + 1) (loc' := [(7, .int (v7 + 1)), (6, .int v6), (8, .int x4), (0, .ref v0), (1, .int v1), (2, .int v2), (3, .int v3), (4, .int v4), (5, .int v5)]) o (zdd k_M_sure 53 rfl) 8 rfl (by rw [zki_1]) (by decide) rfl ?_
            refine zj_goto (tgt := 38) o (zdd k_M_sure 54 rfl) (by decide) ?_
            exact zj_sub [3, 4, 5, 6, 7, 8, 1, 0] rfl (hk38 h hr)
          · rw [if_neg hc] at h
            refine zj_iload o (zdd k_M_sure 49 rfl) 0 rfl ?_
            refine zj_goto (tgt := 110) o (zdd k_M_sure 50 rfl) (by decide) ?_
            refine zj_istore (loc' := [(6, .int x4), (8, .int x4), (0, .ref v0), (1, .int v1), (2, .int v2), (3, .int v3), (4, .int v4), (5, .int v5), (7, .int v7)]) o (zdd k_M_sure 52 rfl) (by decide) rfl ?_
            refine zj_iinc (v := v7 + 1) (loc' := [(7, .int (v7 + 1)), (6, .int x4), (8, .int x4), (0, .ref v0), (1, .int v1), (2, .int v2), (3, .int v3), (4, .int v4), (5, .int v5)]) o (zdd k_M_sure 53 rfl) 8 rfl (by rw [zki_1]) (by decide) rfl ?_
            refine zj_goto (tgt := 38) o (zdd k_M_sure 54 rfl) (by decide) ?_
            exact zj_sub [3, 4, 5, 6, 7, 8, 1, 0] rfl (hk38 h hr)
        · rw [if_neg hc] at h
          refine zj_iload o (zdd k_M_sure 42 rfl) 0 rfl ?_
          refine zj_iload o (zdd k_M_sure 43 rfl) 7 rfl ?_
          refine zj_icmp_le (tgt := 108) o (zdd k_M_sure 44 rfl) (by decide) (fun hc => ?_) (fun hc => ?_)
          · rw [if_pos hc] at h
            refine zj_iload o (zdd k_M_sure 51 rfl) 7 rfl ?_
            refine zj_istore (loc' := [(6, .int v6), (8, .int x4), (0, .ref v0), (1, .int v1), (2, .int v2), (3, .int v3), (4, .int v4), (5, .int v5), (7, .int v7)]) o (zdd k_M_sure 52 rfl) (by decide) rfl ?_
            refine zj_iinc (v := v7 + 1) (loc' := [(7, .int (v7 + 1)), (6, .int v6), (8, .int x4), (0, .ref v0), (1, .int v1), (2, .int v2), (3, .int v3), (4, .int v4), (5, .int v5)]) o (zdd k_M_sure 53 rfl) 8 rfl (by rw [zki_1]) (by decide) rfl ?_
            refine zj_goto (tgt := 38) o (zdd k_M_sure 54 rfl) (by decide) ?_
            exact zj_sub [3, 4, 5, 6, 7, 8, 1, 0] rfl (hk38 h hr)
          · rw [if_neg hc] at h
            refine zj_goto (tgt := 103) o (zdd k_M_sure 45 rfl) (by decide) ?_
            refine zj_iload o (zdd k_M_sure 49 rfl) 0 rfl ?_
            refine zj_goto (tgt := 110) o (zdd k_M_sure 50 rfl) (by decide) ?_
            refine zj_istore (loc' := [(6, .int x4), (8, .int x4), (0, .ref v0), (1, .int v1), (2, .int v2), (3, .int v3), (4, .int v4), (5, .int v5), (7, .int v7)]) o (zdd k_M_sure 52 rfl) (by decide) rfl ?_
            refine zj_iinc (v := v7 + 1) (loc' := [(7, .int (v7 + 1)), (6, .int x4), (8, .int x4), (0, .ref v0), (1, .int v1), (2, .int v2), (3, .int v3), (4, .int v4), (5, .int v5)]) o (zdd k_M_sure 53 rfl) 8 rfl (by rw [zki_1]) (by decide) rfl ?_
            refine zj_goto (tgt := 38) o (zdd k_M_sure 54 rfl) (by decide) ?_
            exact zj_sub [3, 4, 5, 6, 7, 8, 1, 0] rfl (hk38 h hr)
    · rw [if_pos hc] at h
      refine zj_goto (tgt := 112) o (zdd k_M_sure 31 rfl) (by decide) ?_
      refine zj_iinc (v := v7 + 1) (loc' := [(7, .int (v7 + 1)), (0, .ref v0), (1, .int v1), (2, .int v2), (3, .int v3), (4, .int v4), (5, .int v5), (6, .int v6)]) o (zdd k_M_sure 53 rfl) 7 rfl (by rw [zki_1]) (by decide) rfl ?_
      refine zj_goto (tgt := 38) o (zdd k_M_sure 54 rfl) (by decide) ?_
      exact zj_sub [1, 2, 3, 4, 5, 6, 7, 0] rfl (hk38 h hr)
def f_M_sure_38L : Nat → zSt → Nat → Int32 → Int32 → Int32 → Int32 → Int32 → Int32 → Int32 → Option (Int32 × zSt)
  | 0 => fun _ _ _ _ _ _ _ _ _ => none
  | n + 1 => f_M_sure_38  (f_M_sure_38L  n)
theorem r_M_sure_38L {X : zCX} (o : zOK X "WantShelvesModel" c_M_sure n_M_sure 8) : ∀ (n : Nat) {σ : zSt} {v0 : Nat} {v1 : Int32} {v2 : Int32} {v3 : Int32} {v4 : Int32} {v5 : Int32} {v6 : Int32} {v7 : Int32} {z : Int32 × zSt}, f_M_sure_38L n σ v0 v1 v2 v3 v4 v5 v6 v7 = some z → zRX X 0 0 (some (.int z.1)) z.2 → zPJ X 0 0 38 [(0, .ref v0), (1, .int v1), (2, .int v2), (3, .int v3), (4, .int v4), (5, .int v5), (6, .int v6), (7, .int v7)] [] σ
  | 0 => fun h _ => by cases h
  | n + 1 => fun h hr => r_M_sure_38 o (r_M_sure_38L o  n) h hr
def f_M_sure (σ : zSt) (t : Nat) (p0 : Int32) (p1 : Int32) (p2 : Int32) (p3 : Int32) (p4 : Int32) : Option (Int32 × zSt) :=
zg σ 12 t (
(f_M_isReader σ t p0).bind fun x1 =>
if x1 = 0 then (
some ((-1000000), σ)) else
(f_M_isTopic σ t p1).bind fun x2 =>
if x2 = 0 then (
some ((-1000000), σ)) else
(f_M_isIn p3 1 2).bind fun x3 =>
if x3 = 0 then (
some ((-1000000), σ)) else
f_M_sure_38L zfu σ t p0 p1 p2 p3 p4 (-1000000) 0)
set_option maxRecDepth 100000 in
set_option maxHeartbeats 4000000 in
theorem m_M_sure {l : Launch} {b : Nat} {ex : Nat → Value} {D : va_G} {ca : Nat → ClassId} {σ : zSt} {t : Nat} {p0 : Int32} {p1 : Int32} {p2 : Int32} {p3 : Int32} {p4 : Int32} {z : Int32 × zSt} (h : f_M_sure σ t p0 p1 p2 p3 p4 = some z) : zMT l b ex D ca 8 y_M_sure c_M_sure n_M_sure r_ret_M_sure [.ref t, .int p0, .int p1, .int p2, .int p3, .int p4] σ (some (.int z.1)) z.2 0 0 := by
  obtain ⟨_, hg0⟩ := zg_some h
  have h := hg0
  refine zmt_of (by decide) (Nat.le_of_ble_eq_true rfl) ⟨.int, rfl, rfl⟩ (fun X o hin hrm _ _ _ _ _ hr => ?_)
  have hr := hr 0 0 (by decide) (by decide)
  have o : zOK X "WantShelvesModel" c_M_sure n_M_sure 8 := o
  change zPJ X 0 0 0 [(0, .ref t), (1, .int p0), (2, .int p1), (3, .int p2), (4, .int p3), (5, .int p4)] [] σ
  refine zj_aload_n o (zdd k_M_sure 0 rfl) rfl 0 rfl ?_
  refine zj_iload_n o (zdd k_M_sure 1 rfl) rfl 1 rfl ?_
  obtain ⟨x1, e_x1, h⟩ := zbd h
  refine zc_V o (zdd k_M_sure 2 rfl) ml_M_441 mv_M_isReader ⟨rfl, by decide⟩ (zg_some e_x1).1 (by decide) [.int p0] [] rfl (Nat.le_of_ble_eq_true rfl) rfl (m_M_isReader e_x1) ?_
  change zPJ X 0 0 _ _ [.int x1] _
  refine zj_if_eq (tgt := 26) o (zdd k_M_sure 3 rfl) (by decide) (fun hc => ?_) (fun hc => ?_)
  · rw [if_pos hc] at h
    refine zj_ldcw o (zdd k_M_sure 13 rfl) co_M_444 ?_
    cases h
    exact zr_i o hr (zdd k_M_sure 14 rfl)
  · rw [if_neg hc] at h
    refine zj_aload_n o (zdd k_M_sure 4 rfl) rfl 0 rfl ?_
    refine zj_iload_n o (zdd k_M_sure 5 rfl) rfl 2 rfl ?_
    obtain ⟨x2, e_x2, h⟩ := zbd h
    refine zc_V o (zdd k_M_sure 6 rfl) ml_M_438 mv_M_isTopic ⟨rfl, by decide⟩ (zg_some e_x2).1 (by decide) [.int p1] [] rfl (Nat.le_of_ble_eq_true rfl) rfl (m_M_isTopic e_x2) ?_
    change zPJ X 0 0 _ _ [.int x2] _
    refine zj_if_eq (tgt := 26) o (zdd k_M_sure 7 rfl) (by decide) (fun hc => ?_) (fun hc => ?_)
    · rw [if_pos hc] at h
      refine zj_ldcw o (zdd k_M_sure 13 rfl) co_M_444 ?_
      cases h
      exact zr_i o hr (zdd k_M_sure 14 rfl)
    · rw [if_neg hc] at h
      refine zj_iload o (zdd k_M_sure 8 rfl) 4 rfl ?_
      refine zj_iconst o (zdd k_M_sure 9 rfl) zki_1 ?_
      refine zj_iconst o (zdd k_M_sure 10 rfl) zki_2 ?_
      obtain ⟨x3, e_x3, h⟩ := zbd h
      refine zc_S o (zdd k_M_sure 11 rfl) ml_M_425 ms_M_isIn (by decide) [.int p3, .int 1, .int 2] [] rfl (Nat.le_of_ble_eq_true rfl) rfl (m_M_isIn e_x3) ?_
      change zPJ X 0 0 _ _ [.int x3] _
      refine zj_if_ne (tgt := 30) o (zdd k_M_sure 12 rfl) (by decide) (fun hc => ?_) (fun hc => ?_)
      · rw [if_neg hc] at h
        refine zj_ldcw o (zdd k_M_sure 15 rfl) co_M_444 ?_
        refine zj_istore (loc' := [(6, .int (-1000000)), (0, .ref t), (1, .int p0), (2, .int p1), (3, .int p2), (4, .int p3), (5, .int p4)]) o (zdd k_M_sure 16 rfl) (by decide) rfl ?_
        refine zj_iconst o (zdd k_M_sure 17 rfl) zki_0 ?_
        refine zj_istore (loc' := [(7, .int 0), (6, .int (-1000000)), (0, .ref t), (1, .int p0), (2, .int p1), (3, .int p2), (4, .int p3), (5, .int p4)]) o (zdd k_M_sure 18 rfl) (by decide) rfl ?_
        exact zj_sub [2, 3, 4, 5, 6, 7, 1, 0] rfl (r_M_sure_38L o  zfu h hr)
      · rw [if_pos hc] at h
        refine zj_ldcw o (zdd k_M_sure 13 rfl) co_M_444 ?_
        cases h
        exact zr_i o hr (zdd k_M_sure 14 rfl)
def f_M_ask_113 (k66 : zSt → Nat → Int32 → Int32 → Int32 → Int32 → Int32 → Int32 → Option (Int32 × zSt)) (k98 : zSt → Nat → Int32 → Int32 → Int32 → Int32 → Int32 → Int32 → Int32 → Option (Int32 × zSt)) (k113 : zSt → Nat → Int32 → Int32 → Int32 → Int32 → Int32 → Int32 → Int32 → Int32 → Option (Int32 × zSt)) (σ : zSt) (v0 : Nat) (v1 : Int32) (v2 : Int32) (v3 : Int32) (v4 : Int32) (v5 : Int32) (v6 : Int32) (v7 : Int32) (v8 : Int32) : Option (Int32 × zSt) :=
(zgI σ 12 v0 42).bind fun x1 =>
if x1 ≤ v8 then (
k98 σ v0 v1 v2 v3 v4 v5 v6 (v7 + 1)) else
(zgP σ 12 v0 80).bind fun a2 =>
(zaI σ 1 a2 ((10 * v7) + v8)).bind fun x3 =>
(f_M_isAhead σ v0 v1 v7 v8).bind fun x4 =>
(f_M_truth x4).bind fun x5 =>
(zwI σ 1 a2 ((10 * v7) + v8) (x3 + x5)).bind fun σ6 =>
k113 σ6 v0 v1 v2 v3 v4 v5 v6 v7 (v8 + 1)
set_option maxRecDepth 100000 in
set_option maxHeartbeats 4000000 in
theorem r_M_ask_113 {X : zCX} (o : zOK X "WantShelvesModel" c_M_ask n_M_ask 8) {k66 : zSt → Nat → Int32 → Int32 → Int32 → Int32 → Int32 → Int32 → Option (Int32 × zSt)} {k98 : zSt → Nat → Int32 → Int32 → Int32 → Int32 → Int32 → Int32 → Int32 → Option (Int32 × zSt)} {k113 : zSt → Nat → Int32 → Int32 → Int32 → Int32 → Int32 → Int32 → Int32 → Int32 → Option (Int32 × zSt)} (hk66 : ∀ {σ : zSt} {v0 : Nat} {v1 : Int32} {v2 : Int32} {v3 : Int32} {v4 : Int32} {v5 : Int32} {v6 : Int32} {z : Int32 × zSt}, k66 σ v0 v1 v2 v3 v4 v5 v6 = some z → zRX X 0 0 (some (.int z.1)) z.2 → zPJ X 0 0 66 [(0, .ref v0), (1, .int v1), (2, .int v2), (3, .int v3), (4, .int v4), (5, .int v5), (6, .int v6)] [] σ) (hk98 : ∀ {σ : zSt} {v0 : Nat} {v1 : Int32} {v2 : Int32} {v3 : Int32} {v4 : Int32} {v5 : Int32} {v6 : Int32} {v7 : Int32} {z : Int32 × zSt}, k98 σ v0 v1 v2 v3 v4 v5 v6 v7 = some z → zRX X 0 0 (some (.int z.1)) z.2 → zPJ X 0 0 98 [(0, .ref v0), (1, .int v1), (2, .int v2), (3, .int v3), (4, .int v4), (5, .int v5), (6, .int v6), (7, .int v7)] [] σ) (hk113 : ∀ {σ : zSt} {v0 : Nat} {v1 : Int32} {v2 : Int32} {v3 : Int32} {v4 : Int32} {v5 : Int32} {v6 : Int32} {v7 : Int32} {v8 : Int32} {z : Int32 × zSt}, k113 σ v0 v1 v2 v3 v4 v5 v6 v7 v8 = some z → zRX X 0 0 (some (.int z.1)) z.2 → zPJ X 0 0 113 [(0, .ref v0), (1, .int v1), (2, .int v2), (3, .int v3), (4, .int v4), (5, .int v5), (6, .int v6), (7, .int v7), (8, .int v8)] [] σ) {σ : zSt} {v0 : Nat} {v1 : Int32} {v2 : Int32} {v3 : Int32} {v4 : Int32} {v5 : Int32} {v6 : Int32} {v7 : Int32} {v8 : Int32} {z : Int32 × zSt} (h : f_M_ask_113 k66 k98 k113 σ v0 v1 v2 v3 v4 v5 v6 v7 v8 = some z) (hr : zRX X 0 0 (some (.int z.1)) z.2) : zPJ X 0 0 113 [(0, .ref v0), (1, .int v1), (2, .int v2), (3, .int v3), (4, .int v4), (5, .int v5), (6, .int v6), (7, .int v7), (8, .int v8)] [] σ := by
  unfold f_M_ask_113 at h
  refine zj_iload o (zdd k_M_ask_1 10 rfl) 8 rfl ?_
  refine zj_aload_n o (zdd k_M_ask_1 11 rfl) rfl 0 rfl ?_
  obtain ⟨x1, e_x1, h⟩ := zbd h
  refine zj_gI o (zdd k_M_ask_1 12 rfl) fl_M_391 rfl e_x1 ?_
  refine zj_icmp_ge (tgt := 156) o (zdd k_M_ask_1 13 rfl) (by decide) (fun hc => ?_) (fun hc => ?_)
  · rw [if_pos hc] at h
    refine zj_iinc (v := v7 + 1) (loc' := [(7, .int (v7 + 1)), (0, .ref v0), (1, .int v1), (2, .int v2), (3, .int v3), (4, .int v4), (5, .int v5), (6, .int v6), (8, .int v8)]) o (zdd k_M_ask_1 33 rfl) 7 rfl (by rw [zki_1]) (by decide) rfl ?_
    refine zj_goto (tgt := 98) o (zdd k_M_ask_1 34 rfl) (by decide) ?_
    exact zj_sub [1, 2, 3, 4, 5, 6, 7, 0] rfl (hk98 h hr)
  · rw [if_neg hc] at h
    refine zj_aload_n o (zdd k_M_ask_1 14 rfl) rfl 0 rfl ?_
    obtain ⟨a2, e_a2, h⟩ := zbd h
    refine zj_gP o (zdd k_M_ask_1 15 rfl) fl_M_139 rfl e_a2 ?_
    refine zj_bipush o (zdd k_M_ask_1 16 rfl) zkb_10 ?_
    refine zj_iload o (zdd k_M_ask_1 17 rfl) 7 rfl ?_
    refine zj_imul o (zdd k_M_ask_1 18 rfl) ?_
    refine zj_iload o (zdd k_M_ask_1 19 rfl) 8 rfl ?_
    refine zj_iadd o (zdd k_M_ask_1 20 rfl) ?_
    refine zj_dup2 o (zdd k_M_ask_1 21 rfl) rfl rfl ?_
    obtain ⟨x3, e_x3, h⟩ := zbd h
    refine zj_iald o (zdd k_M_ask_1 22 rfl) e_x3 ?_
    refine zj_aload_n o (zdd k_M_ask_1 23 rfl) rfl 0 rfl ?_
    refine zj_iload_n o (zdd k_M_ask_1 24 rfl) rfl 1 rfl ?_
    refine zj_iload o (zdd k_M_ask_1 25 rfl) 7 rfl ?_
    refine zj_iload o (zdd k_M_ask_1 26 rfl) 8 rfl ?_
    obtain ⟨x4, e_x4, h⟩ := zbd h
    refine zc_V o (zdd k_M_ask_1 27 rfl) ml_M_469 mv_M_isAhead ⟨rfl, by decide⟩ (zg_some e_x4).1 (by decide) [.int v1, .int v7, .int v8] [.int x3, .int ((10 * v7) + v8), .ref a2] rfl (Nat.le_of_ble_eq_true rfl) rfl (m_M_isAhead e_x4) ?_
    change zPJ X 0 0 _ _ [.int x4, .int x3, .int ((10 * v7) + v8), .ref a2] _
    obtain ⟨x5, e_x5, h⟩ := zbd h
    refine zc_S o (zdd k_M_ask_1 28 rfl) ml_M_324 ms_M_truth (by decide) [.int x4] [.int x3, .int ((10 * v7) + v8), .ref a2] rfl (Nat.le_of_ble_eq_true rfl) rfl (m_M_truth e_x5) ?_
    change zPJ X 0 0 _ _ [.int x5, .int x3, .int ((10 * v7) + v8), .ref a2] _
    refine zj_iadd o (zdd k_M_ask_1 29 rfl) ?_
    obtain ⟨σ6, e_σ6, h⟩ := zbd h
    refine zj_iast o (zdd k_M_ask_1 30 rfl) e_σ6 ?_
    refine zj_iinc (v := v8 + 1) (loc' := [(8, .int (v8 + 1)), (0, .ref v0), (1, .int v1), (2, .int v2), (3, .int v3), (4, .int v4), (5, .int v5), (6, .int v6), (7, .int v7)]) o (zdd k_M_ask_1 31 rfl) 8 rfl (by rw [zki_1]) (by decide) rfl ?_
    refine zj_goto (tgt := 113) o (zdd k_M_ask_1 32 rfl) (by decide) ?_
    exact zj_sub [1, 2, 3, 4, 5, 6, 7, 8, 0] rfl (hk113 h hr)
def f_M_ask_113L (k66 : zSt → Nat → Int32 → Int32 → Int32 → Int32 → Int32 → Int32 → Option (Int32 × zSt)) (k98 : zSt → Nat → Int32 → Int32 → Int32 → Int32 → Int32 → Int32 → Int32 → Option (Int32 × zSt)) : Nat → zSt → Nat → Int32 → Int32 → Int32 → Int32 → Int32 → Int32 → Int32 → Int32 → Option (Int32 × zSt)
  | 0 => fun _ _ _ _ _ _ _ _ _ _ => none
  | n + 1 => f_M_ask_113  k66 k98 (f_M_ask_113L k66 k98 n)
theorem r_M_ask_113L {X : zCX} (o : zOK X "WantShelvesModel" c_M_ask n_M_ask 8) {k66 : zSt → Nat → Int32 → Int32 → Int32 → Int32 → Int32 → Int32 → Option (Int32 × zSt)} {k98 : zSt → Nat → Int32 → Int32 → Int32 → Int32 → Int32 → Int32 → Int32 → Option (Int32 × zSt)} (hk66 : ∀ {σ : zSt} {v0 : Nat} {v1 : Int32} {v2 : Int32} {v3 : Int32} {v4 : Int32} {v5 : Int32} {v6 : Int32} {z : Int32 × zSt}, k66 σ v0 v1 v2 v3 v4 v5 v6 = some z → zRX X 0 0 (some (.int z.1)) z.2 → zPJ X 0 0 66 [(0, .ref v0), (1, .int v1), (2, .int v2), (3, .int v3), (4, .int v4), (5, .int v5), (6, .int v6)] [] σ) (hk98 : ∀ {σ : zSt} {v0 : Nat} {v1 : Int32} {v2 : Int32} {v3 : Int32} {v4 : Int32} {v5 : Int32} {v6 : Int32} {v7 : Int32} {z : Int32 × zSt}, k98 σ v0 v1 v2 v3 v4 v5 v6 v7 = some z → zRX X 0 0 (some (.int z.1)) z.2 → zPJ X 0 0 98 [(0, .ref v0), (1, .int v1), (2, .int v2), (3, .int v3), (4, .int v4), (5, .int v5), (6, .int v6), (7, .int v7)] [] σ) : ∀ (n : Nat) {σ : zSt} {v0 : Nat} {v1 : Int32} {v2 : Int32} {v3 : Int32} {v4 : Int32} {v5 : Int32} {v6 : Int32} {v7 : Int32} {v8 : Int32} {z : Int32 × zSt}, f_M_ask_113L k66 k98 n σ v0 v1 v2 v3 v4 v5 v6 v7 v8 = some z → zRX X 0 0 (some (.int z.1)) z.2 → zPJ X 0 0 113 [(0, .ref v0), (1, .int v1), (2, .int v2), (3, .int v3), (4, .int v4), (5, .int v5), (6, .int v6), (7, .int v7), (8, .int v8)] [] σ
  | 0 => fun h _ => by cases h
  | n + 1 => fun h hr => r_M_ask_113 o hk66 hk98 (r_M_ask_113L o hk66 hk98 n) h hr
def f_M_ask_98 (k66 : zSt → Nat → Int32 → Int32 → Int32 → Int32 → Int32 → Int32 → Option (Int32 × zSt)) (k98 : zSt → Nat → Int32 → Int32 → Int32 → Int32 → Int32 → Int32 → Int32 → Option (Int32 × zSt)) (σ : zSt) (v0 : Nat) (v1 : Int32) (v2 : Int32) (v3 : Int32) (v4 : Int32) (v5 : Int32) (v6 : Int32) (v7 : Int32) : Option (Int32 × zSt) :=
(zgI σ 12 v0 42).bind fun x1 =>
if x1 ≤ v7 then (
k66 σ v0 v1 v2 v3 v4 v5 (v6 + 1)) else
f_M_ask_113L k66 k98 zfu σ v0 v1 v2 v3 v4 v5 v6 v7 (v7 + 1)
set_option maxRecDepth 100000 in
set_option maxHeartbeats 4000000 in
theorem r_M_ask_98 {X : zCX} (o : zOK X "WantShelvesModel" c_M_ask n_M_ask 8) {k66 : zSt → Nat → Int32 → Int32 → Int32 → Int32 → Int32 → Int32 → Option (Int32 × zSt)} {k98 : zSt → Nat → Int32 → Int32 → Int32 → Int32 → Int32 → Int32 → Int32 → Option (Int32 × zSt)} (hk66 : ∀ {σ : zSt} {v0 : Nat} {v1 : Int32} {v2 : Int32} {v3 : Int32} {v4 : Int32} {v5 : Int32} {v6 : Int32} {z : Int32 × zSt}, k66 σ v0 v1 v2 v3 v4 v5 v6 = some z → zRX X 0 0 (some (.int z.1)) z.2 → zPJ X 0 0 66 [(0, .ref v0), (1, .int v1), (2, .int v2), (3, .int v3), (4, .int v4), (5, .int v5), (6, .int v6)] [] σ) (hk98 : ∀ {σ : zSt} {v0 : Nat} {v1 : Int32} {v2 : Int32} {v3 : Int32} {v4 : Int32} {v5 : Int32} {v6 : Int32} {v7 : Int32} {z : Int32 × zSt}, k98 σ v0 v1 v2 v3 v4 v5 v6 v7 = some z → zRX X 0 0 (some (.int z.1)) z.2 → zPJ X 0 0 98 [(0, .ref v0), (1, .int v1), (2, .int v2), (3, .int v3), (4, .int v4), (5, .int v5), (6, .int v6), (7, .int v7)] [] σ) {σ : zSt} {v0 : Nat} {v1 : Int32} {v2 : Int32} {v3 : Int32} {v4 : Int32} {v5 : Int32} {v6 : Int32} {v7 : Int32} {z : Int32 × zSt} (h : f_M_ask_98 k66 k98 σ v0 v1 v2 v3 v4 v5 v6 v7 = some z) (hr : zRX X 0 0 (some (.int z.1)) z.2) : zPJ X 0 0 98 [(0, .ref v0), (1, .int v1), (2, .int v2), (3, .int v3), (4, .int v4), (5, .int v5), (6, .int v6), (7, .int v7)] [] σ := by
  unfold f_M_ask_98 at h
  refine zj_iload o (zdd k_M_ask_1 2 rfl) 7 rfl ?_
  refine zj_aload_n o (zdd k_M_ask_1 3 rfl) rfl 0 rfl ?_
  obtain ⟨x1, e_x1, h⟩ := zbd h
  refine zj_gI o (zdd k_M_ask_1 4 rfl) fl_M_391 rfl e_x1 ?_
  refine zj_icmp_ge (tgt := 162) o (zdd k_M_ask_1 5 rfl) (by decide) (fun hc => ?_) (fun hc => ?_)
  · rw [if_pos hc] at h
    refine zj_iinc (v := v6 + 1) (loc' := [(6, .int (v6 + 1)), (0, .ref v0), (1, .int v1), (2, .int v2), (3, .int v3), (4, .int v4), (5, .int v5), (7, .int v7)]) o (zdd k_M_ask_1 35 rfl) 6 rfl (by rw [zki_1]) (by decide) rfl ?_
    refine zj_goto (tgt := 66) o (zdd k_M_ask_1 36 rfl) (by decide) ?_
    exact zj_sub [1, 2, 3, 4, 5, 6, 0] rfl (hk66 h hr)
  · rw [if_neg hc] at h
    refine zj_iload o (zdd k_M_ask_1 6 rfl) 7 rfl ?_
    refine zj_iconst o (zdd k_M_ask_1 7 rfl) zki_1 ?_
    refine zj_iadd o (zdd k_M_ask_1 8 rfl) ?_
    refine zj_istore (loc' := [(8, .int (v7 + 1)), (0, .ref v0), (1, .int v1), (2, .int v2), (3, .int v3), (4, .int v4), (5, .int v5), (6, .int v6), (7, .int v7)]) o (zdd k_M_ask_1 9 rfl) (by decide) rfl ?_
    exact zj_sub [1, 2, 3, 4, 5, 6, 7, 8, 0] rfl (r_M_ask_113L o hk66 hk98 zfu h hr)
def f_M_ask_98L (k66 : zSt → Nat → Int32 → Int32 → Int32 → Int32 → Int32 → Int32 → Option (Int32 × zSt)) : Nat → zSt → Nat → Int32 → Int32 → Int32 → Int32 → Int32 → Int32 → Int32 → Option (Int32 × zSt)
  | 0 => fun _ _ _ _ _ _ _ _ _ => none
  | n + 1 => f_M_ask_98  k66 (f_M_ask_98L k66 n)
theorem r_M_ask_98L {X : zCX} (o : zOK X "WantShelvesModel" c_M_ask n_M_ask 8) {k66 : zSt → Nat → Int32 → Int32 → Int32 → Int32 → Int32 → Int32 → Option (Int32 × zSt)} (hk66 : ∀ {σ : zSt} {v0 : Nat} {v1 : Int32} {v2 : Int32} {v3 : Int32} {v4 : Int32} {v5 : Int32} {v6 : Int32} {z : Int32 × zSt}, k66 σ v0 v1 v2 v3 v4 v5 v6 = some z → zRX X 0 0 (some (.int z.1)) z.2 → zPJ X 0 0 66 [(0, .ref v0), (1, .int v1), (2, .int v2), (3, .int v3), (4, .int v4), (5, .int v5), (6, .int v6)] [] σ) : ∀ (n : Nat) {σ : zSt} {v0 : Nat} {v1 : Int32} {v2 : Int32} {v3 : Int32} {v4 : Int32} {v5 : Int32} {v6 : Int32} {v7 : Int32} {z : Int32 × zSt}, f_M_ask_98L k66 n σ v0 v1 v2 v3 v4 v5 v6 v7 = some z → zRX X 0 0 (some (.int z.1)) z.2 → zPJ X 0 0 98 [(0, .ref v0), (1, .int v1), (2, .int v2), (3, .int v3), (4, .int v4), (5, .int v5), (6, .int v6), (7, .int v7)] [] σ
  | 0 => fun h _ => by cases h
  | n + 1 => fun h hr => r_M_ask_98 o hk66 (r_M_ask_98L o hk66 n) h hr
def f_M_ask_274 (k186 : zSt → Nat → Int32 → Int32 → Int32 → Int32 → Int32 → Option (Int32 × zSt)) (k201 : zSt → Nat → Int32 → Int32 → Int32 → Int32 → Int32 → Int32 → Option (Int32 × zSt)) (σ : zSt) (v0 : Nat) (v3 : Int32) (v5 : Int32) (v6 : Int32) (v7 : Int32) (v8 : Int32) (v9 : Int32) (s0 : Int32) : Option (Int32 × zSt) :=
if s0 < v7 then (
k201 σ v0 v3 v5 ((10 * v8) + v9) s0 v8 (v9 + 1)) else
k201 σ v0 v3 v5 v6 v7 v8 (v9 + 1)
set_option maxRecDepth 100000 in
set_option maxHeartbeats 4000000 in
theorem r_M_ask_274 {X : zCX} (o : zOK X "WantShelvesModel" c_M_ask n_M_ask 8) {k186 : zSt → Nat → Int32 → Int32 → Int32 → Int32 → Int32 → Option (Int32 × zSt)} {k201 : zSt → Nat → Int32 → Int32 → Int32 → Int32 → Int32 → Int32 → Option (Int32 × zSt)} (hk186 : ∀ {σ : zSt} {v0 : Nat} {v3 : Int32} {v5 : Int32} {v6 : Int32} {v7 : Int32} {v8 : Int32} {z : Int32 × zSt}, k186 σ v0 v3 v5 v6 v7 v8 = some z → zRX X 0 0 (some (.int z.1)) z.2 → zPJ X 0 0 186 [(0, .ref v0), (3, .int v3), (5, .int v5), (6, .int v6), (7, .int v7), (8, .int v8)] [] σ) (hk201 : ∀ {σ : zSt} {v0 : Nat} {v3 : Int32} {v5 : Int32} {v6 : Int32} {v7 : Int32} {v8 : Int32} {v9 : Int32} {z : Int32 × zSt}, k201 σ v0 v3 v5 v6 v7 v8 v9 = some z → zRX X 0 0 (some (.int z.1)) z.2 → zPJ X 0 0 201 [(0, .ref v0), (3, .int v3), (5, .int v5), (6, .int v6), (7, .int v7), (8, .int v8), (9, .int v9)] [] σ) {σ : zSt} {v0 : Nat} {v3 : Int32} {v5 : Int32} {v6 : Int32} {v7 : Int32} {v8 : Int32} {v9 : Int32} {s0 : Int32} {z : Int32 × zSt} (h : f_M_ask_274 k186 k201 σ v0 v3 v5 v6 v7 v8 v9 s0 = some z) (hr : zRX X 0 0 (some (.int z.1)) z.2) : zPJ X 0 0 274 [(0, .ref v0), (3, .int v3), (5, .int v5), (6, .int v6), (7, .int v7), (8, .int v8), (9, .int v9)] [.int s0] σ := by
  unfold f_M_ask_274 at h
  refine zj_istore (loc' := [(10, .int s0), (0, .ref v0), (3, .int v3), (5, .int v5), (6, .int v6), (7, .int v7), (8, .int v8), (9, .int v9)]) o (zdd k_M_ask_2 47 rfl) (by decide) rfl ?_
  refine zj_iload o (zdd k_M_ask_2 48 rfl) 0 rfl ?_
  refine zj_iload o (zdd k_M_ask_2 49 rfl) 5 rfl ?_
  refine zj_icmp_lt (tgt := 286) o (zdd k_M_ask_3 0 rfl) (by decide) (fun hc => ?_) (fun hc => ?_)
  · rw [if_pos hc] at h
    refine zj_bipush o (zdd k_M_ask_3 2 rfl) zkb_10 ?_
    refine zj_iload o (zdd k_M_ask_3 3 rfl) 6 rfl ?_
    refine zj_imul o (zdd k_M_ask_3 4 rfl) ?_
    refine zj_iload o (zdd k_M_ask_3 5 rfl) 7 rfl ?_
    refine zj_iadd o (zdd k_M_ask_3 6 rfl) ?_
    refine zj_istore (loc' := [(6, .int ((10 * v8) + v9)), (10, .int s0), (0, .ref v0), (3, .int v3), (5, .int v5), (7, .int v7), (8, .int v8), (9, .int v9)]) o (zdd k_M_ask_3 7 rfl) (by decide) rfl ?_
    refine zj_iload o (zdd k_M_ask_3 8 rfl) 1 rfl ?_
    refine zj_istore (loc' := [(7, .int s0), (6, .int ((10 * v8) + v9)), (10, .int s0), (0, .ref v0), (3, .int v3), (5, .int v5), (8, .int v8), (9, .int v9)]) o (zdd k_M_ask_3 9 rfl) (by decide) rfl ?_
    refine zj_iinc (v := v9 + 1) (loc' := [(9, .int (v9 + 1)), (7, .int s0), (6, .int ((10 * v8) + v9)), (10, .int s0), (0, .ref v0), (3, .int v3), (5, .int v5), (8, .int v8)]) o (zdd k_M_ask_3 10 rfl) 7 rfl (by rw [zki_1]) (by decide) rfl ?_
    refine zj_goto (tgt := 201) o (zdd k_M_ask_3 11 rfl) (by decide) ?_
    exact zj_sub [4, 5, 6, 2, 1, 7, 0] rfl (hk201 h hr)
  · rw [if_neg hc] at h
    refine zj_goto (tgt := 300) o (zdd k_M_ask_3 1 rfl) (by decide) ?_
    refine zj_iinc (v := v9 + 1) (loc' := [(9, .int (v9 + 1)), (10, .int s0), (0, .ref v0), (3, .int v3), (5, .int v5), (6, .int v6), (7, .int v7), (8, .int v8)]) o (zdd k_M_ask_3 10 rfl) 7 rfl (by rw [zki_1]) (by decide) rfl ?_
    refine zj_goto (tgt := 201) o (zdd k_M_ask_3 11 rfl) (by decide) ?_
    exact zj_sub [2, 3, 4, 5, 6, 7, 0] rfl (hk201 h hr)
def f_M_ask_201 (k186 : zSt → Nat → Int32 → Int32 → Int32 → Int32 → Int32 → Option (Int32 × zSt)) (k201 : zSt → Nat → Int32 → Int32 → Int32 → Int32 → Int32 → Int32 → Option (Int32 × zSt)) (σ : zSt) (v0 : Nat) (v3 : Int32) (v5 : Int32) (v6 : Int32) (v7 : Int32) (v8 : Int32) (v9 : Int32) : Option (Int32 × zSt) :=
(zgI σ 12 v0 42).bind fun x1 =>
if x1 ≤ v9 then (
k186 σ v0 v3 v5 v6 v7 (v8 + 1)) else
(zgP σ 12 v0 80).bind fun a2 =>
(zaI σ 1 a2 ((10 * v8) + v9)).bind fun x3 =>
(zgP σ 12 v0 80).bind fun a4 =>
(zaI σ 1 a4 ((10 * v8) + v9)).bind fun x5 =>
if x3 ≤ v5 - x5 then (
(zgP σ 12 v0 80).bind fun a6 =>
(zaI σ 1 a6 ((10 * v8) + v9)).bind fun x7 =>
f_M_ask_274 k186 k201 σ v0 v3 v5 v6 v7 v8 v9 (v5 - x7)) else
(zgP σ 12 v0 80).bind fun a8 =>
(zaI σ 1 a8 ((10 * v8) + v9)).bind fun x9 =>
f_M_ask_274 k186 k201 σ v0 v3 v5 v6 v7 v8 v9 x9
set_option maxRecDepth 100000 in
set_option maxHeartbeats 4000000 in
theorem r_M_ask_201 {X : zCX} (o : zOK X "WantShelvesModel" c_M_ask n_M_ask 8) {k186 : zSt → Nat → Int32 → Int32 → Int32 → Int32 → Int32 → Option (Int32 × zSt)} {k201 : zSt → Nat → Int32 → Int32 → Int32 → Int32 → Int32 → Int32 → Option (Int32 × zSt)} (hk186 : ∀ {σ : zSt} {v0 : Nat} {v3 : Int32} {v5 : Int32} {v6 : Int32} {v7 : Int32} {v8 : Int32} {z : Int32 × zSt}, k186 σ v0 v3 v5 v6 v7 v8 = some z → zRX X 0 0 (some (.int z.1)) z.2 → zPJ X 0 0 186 [(0, .ref v0), (3, .int v3), (5, .int v5), (6, .int v6), (7, .int v7), (8, .int v8)] [] σ) (hk201 : ∀ {σ : zSt} {v0 : Nat} {v3 : Int32} {v5 : Int32} {v6 : Int32} {v7 : Int32} {v8 : Int32} {v9 : Int32} {z : Int32 × zSt}, k201 σ v0 v3 v5 v6 v7 v8 v9 = some z → zRX X 0 0 (some (.int z.1)) z.2 → zPJ X 0 0 201 [(0, .ref v0), (3, .int v3), (5, .int v5), (6, .int v6), (7, .int v7), (8, .int v8), (9, .int v9)] [] σ) {σ : zSt} {v0 : Nat} {v3 : Int32} {v5 : Int32} {v6 : Int32} {v7 : Int32} {v8 : Int32} {v9 : Int32} {z : Int32 × zSt} (h : f_M_ask_201 k186 k201 σ v0 v3 v5 v6 v7 v8 v9 = some z) (hr : zRX X 0 0 (some (.int z.1)) z.2) : zPJ X 0 0 201 [(0, .ref v0), (3, .int v3), (5, .int v5), (6, .int v6), (7, .int v7), (8, .int v8), (9, .int v9)] [] σ := by
  unfold f_M_ask_201 at h
  refine zj_iload o (zdd k_M_ask_2 5 rfl) 6 rfl ?_
  refine zj_aload_n o (zdd k_M_ask_2 6 rfl) rfl 0 rfl ?_
  obtain ⟨x1, e_x1, h⟩ := zbd h
  refine zj_gI o (zdd k_M_ask_2 7 rfl) fl_M_391 rfl e_x1 ?_
  refine zj_icmp_ge (tgt := 306) o (zdd k_M_ask_2 8 rfl) (by decide) (fun hc => ?_) (fun hc => ?_)
  · rw [if_pos hc] at h
    refine zj_iinc (v := v8 + 1) (loc' := [(8, .int (v8 + 1)), (0, .ref v0), (3, .int v3), (5, .int v5), (6, .int v6), (7, .int v7), (9, .int v9)]) o (zdd k_M_ask_3 12 rfl) 5 rfl (by rw [zki_1]) (by decide) rfl ?_
    refine zj_goto (tgt := 186) o (zdd k_M_ask_3 13 rfl) (by decide) ?_
    exact zj_sub [1, 2, 3, 4, 5, 0] rfl (hk186 h hr)
  · rw [if_neg hc] at h
    refine zj_aload_n o (zdd k_M_ask_2 9 rfl) rfl 0 rfl ?_
    obtain ⟨a2, e_a2, h⟩ := zbd h
    refine zj_gP o (zdd k_M_ask_2 10 rfl) fl_M_139 rfl e_a2 ?_
    refine zj_bipush o (zdd k_M_ask_2 11 rfl) zkb_10 ?_
    refine zj_iload o (zdd k_M_ask_2 12 rfl) 5 rfl ?_
    refine zj_imul o (zdd k_M_ask_2 13 rfl) ?_
    refine zj_iload o (zdd k_M_ask_2 14 rfl) 6 rfl ?_
    refine zj_iadd o (zdd k_M_ask_2 15 rfl) ?_
    obtain ⟨x3, e_x3, h⟩ := zbd h
    refine zj_iald o (zdd k_M_ask_2 16 rfl) e_x3 ?_
    refine zj_iload o (zdd k_M_ask_2 17 rfl) 2 rfl ?_
    refine zj_aload_n o (zdd k_M_ask_2 18 rfl) rfl 0 rfl ?_
    obtain ⟨a4, e_a4, h⟩ := zbd h
    refine zj_gP o (zdd k_M_ask_2 19 rfl) fl_M_139 rfl e_a4 ?_
    refine zj_bipush o (zdd k_M_ask_2 20 rfl) zkb_10 ?_
    refine zj_iload o (zdd k_M_ask_2 21 rfl) 5 rfl ?_
    refine zj_imul o (zdd k_M_ask_2 22 rfl) ?_
    refine zj_iload o (zdd k_M_ask_2 23 rfl) 6 rfl ?_
    refine zj_iadd o (zdd k_M_ask_2 24 rfl) ?_
    obtain ⟨x5, e_x5, h⟩ := zbd h
    refine zj_iald o (zdd k_M_ask_2 25 rfl) e_x5 ?_
    refine zj_isub o (zdd k_M_ask_2 26 rfl) ?_
    refine zj_icmp_le (tgt := 258) o (zdd k_M_ask_2 27 rfl) (by decide) (fun hc => ?_) (fun hc => ?_)
    · rw [if_pos hc] at h
      refine zj_iload o (zdd k_M_ask_2 37 rfl) 2 rfl ?_
      refine zj_aload_n o (zdd k_M_ask_2 38 rfl) rfl 0 rfl ?_
      obtain ⟨a6, e_a6, h⟩ := zbd h
      refine zj_gP o (zdd k_M_ask_2 39 rfl) fl_M_139 rfl e_a6 ?_
      refine zj_bipush o (zdd k_M_ask_2 40 rfl) zkb_10 ?_
      refine zj_iload o (zdd k_M_ask_2 41 rfl) 5 rfl ?_
      refine zj_imul o (zdd k_M_ask_2 42 rfl) ?_
      refine zj_iload o (zdd k_M_ask_2 43 rfl) 6 rfl ?_
      refine zj_iadd o (zdd k_M_ask_2 44 rfl) ?_
      obtain ⟨x7, e_x7, h⟩ := zbd h
      refine zj_iald o (zdd k_M_ask_2 45 rfl) e_x7 ?_
      refine zj_isub o (zdd k_M_ask_2 46 rfl) ?_
      exact zj_sub [0, 1, 2, 3, 4, 5, 6] rfl (r_M_ask_274 o hk186 hk201 h hr)
    · rw [if_neg hc] at h
      refine zj_aload_n o (zdd k_M_ask_2 28 rfl) rfl 0 rfl ?_
      obtain ⟨a8, e_a8, h⟩ := zbd h
      refine zj_gP o (zdd k_M_ask_2 29 rfl) fl_M_139 rfl e_a8 ?_
      refine zj_bipush o (zdd k_M_ask_2 30 rfl) zkb_10 ?_
      refine zj_iload o (zdd k_M_ask_2 31 rfl) 5 rfl ?_
      refine zj_imul o (zdd k_M_ask_2 32 rfl) ?_
      refine zj_iload o (zdd k_M_ask_2 33 rfl) 6 rfl ?_
      refine zj_iadd o (zdd k_M_ask_2 34 rfl) ?_
      obtain ⟨x9, e_x9, h⟩ := zbd h
      refine zj_iald o (zdd k_M_ask_2 35 rfl) e_x9 ?_
      refine zj_goto (tgt := 274) o (zdd k_M_ask_2 36 rfl) (by decide) ?_
      exact zj_sub [0, 1, 2, 3, 4, 5, 6] rfl (r_M_ask_274 o hk186 hk201 h hr)
def f_M_ask_201L (k186 : zSt → Nat → Int32 → Int32 → Int32 → Int32 → Int32 → Option (Int32 × zSt)) : Nat → zSt → Nat → Int32 → Int32 → Int32 → Int32 → Int32 → Int32 → Option (Int32 × zSt)
  | 0 => fun _ _ _ _ _ _ _ _ => none
  | n + 1 => f_M_ask_201  k186 (f_M_ask_201L k186 n)
theorem r_M_ask_201L {X : zCX} (o : zOK X "WantShelvesModel" c_M_ask n_M_ask 8) {k186 : zSt → Nat → Int32 → Int32 → Int32 → Int32 → Int32 → Option (Int32 × zSt)} (hk186 : ∀ {σ : zSt} {v0 : Nat} {v3 : Int32} {v5 : Int32} {v6 : Int32} {v7 : Int32} {v8 : Int32} {z : Int32 × zSt}, k186 σ v0 v3 v5 v6 v7 v8 = some z → zRX X 0 0 (some (.int z.1)) z.2 → zPJ X 0 0 186 [(0, .ref v0), (3, .int v3), (5, .int v5), (6, .int v6), (7, .int v7), (8, .int v8)] [] σ) : ∀ (n : Nat) {σ : zSt} {v0 : Nat} {v3 : Int32} {v5 : Int32} {v6 : Int32} {v7 : Int32} {v8 : Int32} {v9 : Int32} {z : Int32 × zSt}, f_M_ask_201L k186 n σ v0 v3 v5 v6 v7 v8 v9 = some z → zRX X 0 0 (some (.int z.1)) z.2 → zPJ X 0 0 201 [(0, .ref v0), (3, .int v3), (5, .int v5), (6, .int v6), (7, .int v7), (8, .int v8), (9, .int v9)] [] σ
  | 0 => fun h _ => by cases h
  | n + 1 => fun h hr => r_M_ask_201 o hk186 (r_M_ask_201L o hk186 n) h hr
def f_M_ask_312 (σ : zSt) (v3 : Int32) (v6 : Int32) (v7 : Int32) : Option (Int32 × zSt) :=
if v3 = 0 then (
some (v6, σ)) else
some (v7, σ)
set_option maxRecDepth 100000 in
set_option maxHeartbeats 4000000 in
theorem r_M_ask_312 {X : zCX} (o : zOK X "WantShelvesModel" c_M_ask n_M_ask 8) {σ : zSt} {v3 : Int32} {v6 : Int32} {v7 : Int32} {z : Int32 × zSt} (h : f_M_ask_312 σ v3 v6 v7 = some z) (hr : zRX X 0 0 (some (.int z.1)) z.2) : zPJ X 0 0 312 [(3, .int v3), (6, .int v6), (7, .int v7)] [] σ := by
  unfold f_M_ask_312 at h
  refine zj_iload_n o (zdd k_M_ask_3 14 rfl) rfl 0 rfl ?_
  refine zj_if_ne (tgt := 321) o (zdd k_M_ask_3 15 rfl) (by decide) (fun hc => ?_) (fun hc => ?_)
  · rw [if_neg hc] at h
    refine zj_iload o (zdd k_M_ask_3 18 rfl) 2 rfl ?_
    cases h
    exact zr_i o hr (zdd k_M_ask_3 19 rfl)
  · rw [if_pos hc] at h
    refine zj_iload o (zdd k_M_ask_3 16 rfl) 1 rfl ?_
    refine zj_goto (tgt := 323) o (zdd k_M_ask_3 17 rfl) (by decide) ?_
    cases h
    exact zr_i o hr (zdd k_M_ask_3 19 rfl)
def f_M_ask_186 (k186 : zSt → Nat → Int32 → Int32 → Int32 → Int32 → Int32 → Option (Int32 × zSt)) (σ : zSt) (v0 : Nat) (v3 : Int32) (v5 : Int32) (v6 : Int32) (v7 : Int32) (v8 : Int32) : Option (Int32 × zSt) :=
(zgI σ 12 v0 42).bind fun x1 =>
if x1 ≤ v8 then (
f_M_ask_312 σ v3 v6 v7) else
f_M_ask_201L k186 zfu σ v0 v3 v5 v6 v7 v8 (v8 + 1)
set_option maxRecDepth 100000 in
set_option maxHeartbeats 4000000 in
theorem r_M_ask_186 {X : zCX} (o : zOK X "WantShelvesModel" c_M_ask n_M_ask 8) {k186 : zSt → Nat → Int32 → Int32 → Int32 → Int32 → Int32 → Option (Int32 × zSt)} (hk186 : ∀ {σ : zSt} {v0 : Nat} {v3 : Int32} {v5 : Int32} {v6 : Int32} {v7 : Int32} {v8 : Int32} {z : Int32 × zSt}, k186 σ v0 v3 v5 v6 v7 v8 = some z → zRX X 0 0 (some (.int z.1)) z.2 → zPJ X 0 0 186 [(0, .ref v0), (3, .int v3), (5, .int v5), (6, .int v6), (7, .int v7), (8, .int v8)] [] σ) {σ : zSt} {v0 : Nat} {v3 : Int32} {v5 : Int32} {v6 : Int32} {v7 : Int32} {v8 : Int32} {z : Int32 × zSt} (h : f_M_ask_186 k186 σ v0 v3 v5 v6 v7 v8 = some z) (hr : zRX X 0 0 (some (.int z.1)) z.2) : zPJ X 0 0 186 [(0, .ref v0), (3, .int v3), (5, .int v5), (6, .int v6), (7, .int v7), (8, .int v8)] [] σ := by
  unfold f_M_ask_186 at h
  refine zj_iload o (zdd k_M_ask_1 47 rfl) 5 rfl ?_
  refine zj_aload_n o (zdd k_M_ask_1 48 rfl) rfl 0 rfl ?_
  obtain ⟨x1, e_x1, h⟩ := zbd h
  refine zj_gI o (zdd k_M_ask_1 49 rfl) fl_M_391 rfl e_x1 ?_
  refine zj_icmp_ge (tgt := 312) o (zdd k_M_ask_2 0 rfl) (by decide) (fun hc => ?_) (fun hc => ?_)
  · rw [if_pos hc] at h
    exact zj_sub [1, 3, 4] rfl (r_M_ask_312 o  h hr)
  · rw [if_neg hc] at h
    refine zj_iload o (zdd k_M_ask_2 1 rfl) 5 rfl ?_
    refine zj_iconst o (zdd k_M_ask_2 2 rfl) zki_1 ?_
    refine zj_iadd o (zdd k_M_ask_2 3 rfl) ?_
    refine zj_istore (loc' := [(9, .int (v8 + 1)), (0, .ref v0), (3, .int v3), (5, .int v5), (6, .int v6), (7, .int v7), (8, .int v8)]) o (zdd k_M_ask_2 4 rfl) (by decide) rfl ?_
    exact zj_sub [1, 2, 3, 4, 5, 6, 0] rfl (r_M_ask_201L o hk186 zfu h hr)
def f_M_ask_186L : Nat → zSt → Nat → Int32 → Int32 → Int32 → Int32 → Int32 → Option (Int32 × zSt)
  | 0 => fun _ _ _ _ _ _ _ => none
  | n + 1 => f_M_ask_186  (f_M_ask_186L  n)
theorem r_M_ask_186L {X : zCX} (o : zOK X "WantShelvesModel" c_M_ask n_M_ask 8) : ∀ (n : Nat) {σ : zSt} {v0 : Nat} {v3 : Int32} {v5 : Int32} {v6 : Int32} {v7 : Int32} {v8 : Int32} {z : Int32 × zSt}, f_M_ask_186L n σ v0 v3 v5 v6 v7 v8 = some z → zRX X 0 0 (some (.int z.1)) z.2 → zPJ X 0 0 186 [(0, .ref v0), (3, .int v3), (5, .int v5), (6, .int v6), (7, .int v7), (8, .int v8)] [] σ
  | 0 => fun h _ => by cases h
  | n + 1 => fun h hr => r_M_ask_186 o (r_M_ask_186L o  n) h hr
def f_M_ask_168 (σ : zSt) (v0 : Nat) (v3 : Int32) (v5 : Int32) : Option (Int32 × zSt) :=
if v5 = 0 then (
some ((-1), σ)) else
f_M_ask_186L zfu σ v0 v3 v5 (-1) 1000000 0
set_option maxRecDepth 100000 in
set_option maxHeartbeats 4000000 in
theorem r_M_ask_168 {X : zCX} (o : zOK X "WantShelvesModel" c_M_ask n_M_ask 8) {σ : zSt} {v0 : Nat} {v3 : Int32} {v5 : Int32} {z : Int32 × zSt} (h : f_M_ask_168 σ v0 v3 v5 = some z) (hr : zRX X 0 0 (some (.int z.1)) z.2) : zPJ X 0 0 168 [(0, .ref v0), (3, .int v3), (5, .int v5)] [] σ := by
  unfold f_M_ask_168 at h
  refine zj_iload o (zdd k_M_ask_1 37 rfl) 2 rfl ?_
  refine zj_if_ne (tgt := 175) o (zdd k_M_ask_1 38 rfl) (by decide) (fun hc => ?_) (fun hc => ?_)
  · rw [if_neg hc] at h
    refine zj_iconst o (zdd k_M_ask_1 41 rfl) zki_m1 ?_
    refine zj_istore (loc' := [(6, .int (-1)), (0, .ref v0), (3, .int v3), (5, .int v5)]) o (zdd k_M_ask_1 42 rfl) (by decide) rfl ?_
    refine zj_ldcw o (zdd k_M_ask_1 43 rfl) co_M_514 ?_
    refine zj_istore (loc' := [(7, .int 1000000), (6, .int (-1)), (0, .ref v0), (3, .int v3), (5, .int v5)]) o (zdd k_M_ask_1 44 rfl) (by decide) rfl ?_
    refine zj_iconst o (zdd k_M_ask_1 45 rfl) zki_0 ?_
    refine zj_istore (loc' := [(8, .int 0), (7, .int 1000000), (6, .int (-1)), (0, .ref v0), (3, .int v3), (5, .int v5)]) o (zdd k_M_ask_1 46 rfl) (by decide) rfl ?_
    exact zj_sub [3, 4, 5, 2, 1, 0] rfl (r_M_ask_186L o  zfu h hr)
  · rw [if_pos hc] at h
    refine zj_iconst o (zdd k_M_ask_1 39 rfl) zki_m1 ?_
    cases h
    exact zr_i o hr (zdd k_M_ask_1 40 rfl)
def f_M_ask_66 (k66 : zSt → Nat → Int32 → Int32 → Int32 → Int32 → Int32 → Int32 → Option (Int32 × zSt)) (σ : zSt) (v0 : Nat) (v1 : Int32) (v2 : Int32) (v3 : Int32) (v4 : Int32) (v5 : Int32) (v6 : Int32) : Option (Int32 × zSt) :=
(f_M_rows σ v0 v2).bind fun x1 =>
if x1 ≤ v6 then (
f_M_ask_168 σ v0 v3 v5) else
(f_M_fits σ v0 v1 v6 v2 v4).bind fun q2 =>
if q2.1 = 0 then (
k66 q2.2 v0 v1 v2 v3 v4 v5 (v6 + 1)) else
f_M_ask_98L k66 zfu q2.2 v0 v1 v2 v3 v4 (v5 + 1) v6 0
set_option maxRecDepth 100000 in
set_option maxHeartbeats 4000000 in
theorem r_M_ask_66 {X : zCX} (o : zOK X "WantShelvesModel" c_M_ask n_M_ask 8) {k66 : zSt → Nat → Int32 → Int32 → Int32 → Int32 → Int32 → Int32 → Option (Int32 × zSt)} (hk66 : ∀ {σ : zSt} {v0 : Nat} {v1 : Int32} {v2 : Int32} {v3 : Int32} {v4 : Int32} {v5 : Int32} {v6 : Int32} {z : Int32 × zSt}, k66 σ v0 v1 v2 v3 v4 v5 v6 = some z → zRX X 0 0 (some (.int z.1)) z.2 → zPJ X 0 0 66 [(0, .ref v0), (1, .int v1), (2, .int v2), (3, .int v3), (4, .int v4), (5, .int v5), (6, .int v6)] [] σ) {σ : zSt} {v0 : Nat} {v1 : Int32} {v2 : Int32} {v3 : Int32} {v4 : Int32} {v5 : Int32} {v6 : Int32} {z : Int32 × zSt} (h : f_M_ask_66 k66 σ v0 v1 v2 v3 v4 v5 v6 = some z) (hr : zRX X 0 0 (some (.int z.1)) z.2) : zPJ X 0 0 66 [(0, .ref v0), (1, .int v1), (2, .int v2), (3, .int v3), (4, .int v4), (5, .int v5), (6, .int v6)] [] σ := by
  unfold f_M_ask_66 at h
  refine zj_iload o (zdd k_M_ask_0 36 rfl) 6 rfl ?_
  refine zj_aload_n o (zdd k_M_ask_0 37 rfl) rfl 0 rfl ?_
  refine zj_iload_n o (zdd k_M_ask_0 38 rfl) rfl 2 rfl ?_
  obtain ⟨x1, e_x1, h⟩ := zbd h
  refine zc_V o (zdd k_M_ask_0 39 rfl) ml_M_530 mv_M_rows ⟨rfl, by decide⟩ (zg_some e_x1).1 (by decide) [.int v2] [.int v6] rfl (Nat.le_of_ble_eq_true rfl) rfl (m_M_rows e_x1) ?_
  change zPJ X 0 0 _ _ [.int x1, .int v6] _
  refine zj_icmp_ge (tgt := 168) o (zdd k_M_ask_0 40 rfl) (by decide) (fun hc => ?_) (fun hc => ?_)
  · rw [if_pos hc] at h
    exact zj_sub [0, 3, 5] rfl (r_M_ask_168 o  h hr)
  · rw [if_neg hc] at h
    refine zj_aload_n o (zdd k_M_ask_0 41 rfl) rfl 0 rfl ?_
    refine zj_iload_n o (zdd k_M_ask_0 42 rfl) rfl 1 rfl ?_
    refine zj_iload o (zdd k_M_ask_0 43 rfl) 6 rfl ?_
    refine zj_iload_n o (zdd k_M_ask_0 44 rfl) rfl 2 rfl ?_
    refine zj_iload o (zdd k_M_ask_0 45 rfl) 4 rfl ?_
    obtain ⟨q2, e_q2, h⟩ := zbd h
    refine zc_V o (zdd k_M_ask_0 46 rfl) ml_M_586 mv_M_fits ⟨rfl, by decide⟩ (zg_some e_q2).1 (by decide) [.int v1, .int v6, .int v2, .int v4] [] rfl (Nat.le_of_ble_eq_true rfl) rfl (m_M_fits e_q2) ?_
    change zPJ X 0 0 _ _ [.int q2.1] _
    refine zj_if_ne (tgt := 92) o (zdd k_M_ask_0 47 rfl) (by decide) (fun hc => ?_) (fun hc => ?_)
    · rw [if_neg hc] at h
      refine zj_iinc (v := v5 + 1) (loc' := [(5, .int (v5 + 1)), (0, .ref v0), (1, .int v1), (2, .int v2), (3, .int v3), (4, .int v4), (6, .int v6)]) o (zdd k_M_ask_0 49 rfl) 5 rfl (by rw [zki_1]) (by decide) rfl ?_
      refine zj_iconst o (zdd k_M_ask_1 0 rfl) zki_0 ?_
      refine zj_istore (loc' := [(7, .int 0), (5, .int (v5 + 1)), (0, .ref v0), (1, .int v1), (2, .int v2), (3, .int v3), (4, .int v4), (6, .int v6)]) o (zdd k_M_ask_1 1 rfl) (by decide) rfl ?_
      exact zj_sub [2, 3, 4, 5, 6, 1, 7, 0] rfl (r_M_ask_98L o hk66 zfu h hr)
    · rw [if_pos hc] at h
      refine zj_goto (tgt := 162) o (zdd k_M_ask_0 48 rfl) (by decide) ?_
      refine zj_iinc (v := v6 + 1) (loc' := [(6, .int (v6 + 1)), (0, .ref v0), (1, .int v1), (2, .int v2), (3, .int v3), (4, .int v4), (5, .int v5)]) o (zdd k_M_ask_1 35 rfl) 6 rfl (by rw [zki_1]) (by decide) rfl ?_
      refine zj_goto (tgt := 66) o (zdd k_M_ask_1 36 rfl) (by decide) ?_
      exact zj_sub [1, 2, 3, 4, 5, 6, 0] rfl (hk66 h hr)
def f_M_ask_66L : Nat → zSt → Nat → Int32 → Int32 → Int32 → Int32 → Int32 → Int32 → Option (Int32 × zSt)
  | 0 => fun _ _ _ _ _ _ _ _ => none
  | n + 1 => f_M_ask_66  (f_M_ask_66L  n)
theorem r_M_ask_66L {X : zCX} (o : zOK X "WantShelvesModel" c_M_ask n_M_ask 8) : ∀ (n : Nat) {σ : zSt} {v0 : Nat} {v1 : Int32} {v2 : Int32} {v3 : Int32} {v4 : Int32} {v5 : Int32} {v6 : Int32} {z : Int32 × zSt}, f_M_ask_66L n σ v0 v1 v2 v3 v4 v5 v6 = some z → zRX X 0 0 (some (.int z.1)) z.2 → zPJ X 0 0 66 [(0, .ref v0), (1, .int v1), (2, .int v2), (3, .int v3), (4, .int v4), (5, .int v5), (6, .int v6)] [] σ
  | 0 => fun h _ => by cases h
  | n + 1 => fun h hr => r_M_ask_66 o (r_M_ask_66L o  n) h hr
def f_M_ask_39 (k39 : zSt → Nat → Int32 → Int32 → Int32 → Int32 → Int32 → Option (Int32 × zSt)) (σ : zSt) (v0 : Nat) (v1 : Int32) (v2 : Int32) (v3 : Int32) (v4 : Int32) (v5 : Int32) : Option (Int32 × zSt) :=
if 100 ≤ v5 then (
f_M_ask_66L zfu σ v0 v1 v2 v3 v4 0 0) else
(zgP σ 12 v0 80).bind fun a1 =>
(zwI σ 1 a1 v5 0).bind fun σ2 =>
k39 σ2 v0 v1 v2 v3 v4 (v5 + 1)
set_option maxRecDepth 100000 in
set_option maxHeartbeats 4000000 in
theorem r_M_ask_39 {X : zCX} (o : zOK X "WantShelvesModel" c_M_ask n_M_ask 8) {k39 : zSt → Nat → Int32 → Int32 → Int32 → Int32 → Int32 → Option (Int32 × zSt)} (hk39 : ∀ {σ : zSt} {v0 : Nat} {v1 : Int32} {v2 : Int32} {v3 : Int32} {v4 : Int32} {v5 : Int32} {z : Int32 × zSt}, k39 σ v0 v1 v2 v3 v4 v5 = some z → zRX X 0 0 (some (.int z.1)) z.2 → zPJ X 0 0 39 [(0, .ref v0), (1, .int v1), (2, .int v2), (3, .int v3), (4, .int v4), (5, .int v5)] [] σ) {σ : zSt} {v0 : Nat} {v1 : Int32} {v2 : Int32} {v3 : Int32} {v4 : Int32} {v5 : Int32} {z : Int32 × zSt} (h : f_M_ask_39 k39 σ v0 v1 v2 v3 v4 v5 = some z) (hr : zRX X 0 0 (some (.int z.1)) z.2) : zPJ X 0 0 39 [(0, .ref v0), (1, .int v1), (2, .int v2), (3, .int v3), (4, .int v4), (5, .int v5)] [] σ := by
  unfold f_M_ask_39 at h
  refine zj_iload o (zdd k_M_ask_0 22 rfl) 5 rfl ?_
  refine zj_bipush o (zdd k_M_ask_0 23 rfl) zkb_100 ?_
  refine zj_icmp_ge (tgt := 60) o (zdd k_M_ask_0 24 rfl) (by decide) (fun hc => ?_) (fun hc => ?_)
  · rw [if_pos hc] at h
    refine zj_iconst o (zdd k_M_ask_0 32 rfl) zki_0 ?_
    refine zj_istore (loc' := [(5, .int 0), (0, .ref v0), (1, .int v1), (2, .int v2), (3, .int v3), (4, .int v4)]) o (zdd k_M_ask_0 33 rfl) (by decide) rfl ?_
    refine zj_iconst o (zdd k_M_ask_0 34 rfl) zki_0 ?_
    refine zj_istore (loc' := [(6, .int 0), (5, .int 0), (0, .ref v0), (1, .int v1), (2, .int v2), (3, .int v3), (4, .int v4)]) o (zdd k_M_ask_0 35 rfl) (by decide) rfl ?_
    exact zj_sub [2, 3, 4, 5, 6, 1, 0] rfl (r_M_ask_66L o  zfu h hr)
  · rw [if_neg hc] at h
    refine zj_aload_n o (zdd k_M_ask_0 25 rfl) rfl 0 rfl ?_
    obtain ⟨a1, e_a1, h⟩ := zbd h
    refine zj_gP o (zdd k_M_ask_0 26 rfl) fl_M_139 rfl e_a1 ?_
    refine zj_iload o (zdd k_M_ask_0 27 rfl) 5 rfl ?_
    refine zj_iconst o (zdd k_M_ask_0 28 rfl) zki_0 ?_
    obtain ⟨σ2, e_σ2, h⟩ := zbd h
    refine zj_iast o (zdd k_M_ask_0 29 rfl) e_σ2 ?_
    refine zj_iinc (v := v5 + 1) (loc' := [(5, .int (v5 + 1)), (0, .ref v0), (1, .int v1), (2, .int v2), (3, .int v3), (4, .int v4)]) o (zdd k_M_ask_0 30 rfl) 5 rfl (by rw [zki_1]) (by decide) rfl ?_
    refine zj_goto (tgt := 39) o (zdd k_M_ask_0 31 rfl) (by decide) ?_
    exact zj_sub [1, 2, 3, 4, 5, 0] rfl (hk39 h hr)
def f_M_ask_39L : Nat → zSt → Nat → Int32 → Int32 → Int32 → Int32 → Int32 → Option (Int32 × zSt)
  | 0 => fun _ _ _ _ _ _ _ => none
  | n + 1 => f_M_ask_39  (f_M_ask_39L  n)
theorem r_M_ask_39L {X : zCX} (o : zOK X "WantShelvesModel" c_M_ask n_M_ask 8) : ∀ (n : Nat) {σ : zSt} {v0 : Nat} {v1 : Int32} {v2 : Int32} {v3 : Int32} {v4 : Int32} {v5 : Int32} {z : Int32 × zSt}, f_M_ask_39L n σ v0 v1 v2 v3 v4 v5 = some z → zRX X 0 0 (some (.int z.1)) z.2 → zPJ X 0 0 39 [(0, .ref v0), (1, .int v1), (2, .int v2), (3, .int v3), (4, .int v4), (5, .int v5)] [] σ
  | 0 => fun h _ => by cases h
  | n + 1 => fun h hr => r_M_ask_39 o (r_M_ask_39L o  n) h hr
def f_M_ask (σ : zSt) (t : Nat) (p0 : Int32) (p1 : Int32) (p2 : Int32) (p3 : Int32) : Option (Int32 × zSt) :=
zg σ 12 t (
(f_M_isReader σ t p0).bind fun x1 =>
if x1 = 0 then (
some ((-1), σ)) else
(f_M_isIn p1 1 2).bind fun x2 =>
if x2 = 0 then (
some ((-1), σ)) else
(f_M_isIn p2 0 1).bind fun x3 =>
if x3 = 0 then (
some ((-1), σ)) else
(zgI σ 12 t 42).bind fun x4 =>
if 2 ≤ x4 then (
f_M_ask_39L zfu σ t p0 p1 p2 p3 0) else
some ((-1), σ))
set_option maxRecDepth 100000 in
set_option maxHeartbeats 4000000 in
theorem m_M_ask {l : Launch} {b : Nat} {ex : Nat → Value} {D : va_G} {ca : Nat → ClassId} {σ : zSt} {t : Nat} {p0 : Int32} {p1 : Int32} {p2 : Int32} {p3 : Int32} {z : Int32 × zSt} (h : f_M_ask σ t p0 p1 p2 p3 = some z) : zMT l b ex D ca 8 y_M_ask c_M_ask n_M_ask r_ret_M_ask [.ref t, .int p0, .int p1, .int p2, .int p3] σ (some (.int z.1)) z.2 0 0 := by
  obtain ⟨_, hg0⟩ := zg_some h
  have h := hg0
  refine zmt_of (by decide) (Nat.le_of_ble_eq_true rfl) ⟨.int, rfl, rfl⟩ (fun X o hin hrm _ _ _ _ _ hr => ?_)
  have hr := hr 0 0 (by decide) (by decide)
  have o : zOK X "WantShelvesModel" c_M_ask n_M_ask 8 := o
  change zPJ X 0 0 0 [(0, .ref t), (1, .int p0), (2, .int p1), (3, .int p2), (4, .int p3)] [] σ
  refine zj_aload_n o (zdd k_M_ask_0 0 rfl) rfl 0 rfl ?_
  refine zj_iload_n o (zdd k_M_ask_0 1 rfl) rfl 1 rfl ?_
  obtain ⟨x1, e_x1, h⟩ := zbd h
  refine zc_V o (zdd k_M_ask_0 2 rfl) ml_M_441 mv_M_isReader ⟨rfl, by decide⟩ (zg_some e_x1).1 (by decide) [.int p0] [] rfl (Nat.le_of_ble_eq_true rfl) rfl (m_M_isReader e_x1) ?_
  change zPJ X 0 0 _ _ [.int x1] _
  refine zj_if_eq (tgt := 34) o (zdd k_M_ask_0 3 rfl) (by decide) (fun hc => ?_) (fun hc => ?_)
  · rw [if_pos hc] at h
    refine zj_iconst o (zdd k_M_ask_0 18 rfl) zki_m1 ?_
    cases h
    exact zr_i o hr (zdd k_M_ask_0 19 rfl)
  · rw [if_neg hc] at h
    refine zj_iload_n o (zdd k_M_ask_0 4 rfl) rfl 2 rfl ?_
    refine zj_iconst o (zdd k_M_ask_0 5 rfl) zki_1 ?_
    refine zj_iconst o (zdd k_M_ask_0 6 rfl) zki_2 ?_
    obtain ⟨x2, e_x2, h⟩ := zbd h
    refine zc_S o (zdd k_M_ask_0 7 rfl) ml_M_425 ms_M_isIn (by decide) [.int p1, .int 1, .int 2] [] rfl (Nat.le_of_ble_eq_true rfl) rfl (m_M_isIn e_x2) ?_
    change zPJ X 0 0 _ _ [.int x2] _
    refine zj_if_eq (tgt := 34) o (zdd k_M_ask_0 8 rfl) (by decide) (fun hc => ?_) (fun hc => ?_)
    · rw [if_pos hc] at h
      refine zj_iconst o (zdd k_M_ask_0 18 rfl) zki_m1 ?_
      cases h
      exact zr_i o hr (zdd k_M_ask_0 19 rfl)
    · rw [if_neg hc] at h
      refine zj_iload_n o (zdd k_M_ask_0 9 rfl) rfl 3 rfl ?_
      refine zj_iconst o (zdd k_M_ask_0 10 rfl) zki_0 ?_
      refine zj_iconst o (zdd k_M_ask_0 11 rfl) zki_1 ?_
      obtain ⟨x3, e_x3, h⟩ := zbd h
      refine zc_S o (zdd k_M_ask_0 12 rfl) ml_M_425 ms_M_isIn (by decide) [.int p2, .int 0, .int 1] [] rfl (Nat.le_of_ble_eq_true rfl) rfl (m_M_isIn e_x3) ?_
      change zPJ X 0 0 _ _ [.int x3] _
      refine zj_if_eq (tgt := 34) o (zdd k_M_ask_0 13 rfl) (by decide) (fun hc => ?_) (fun hc => ?_)
      · rw [if_pos hc] at h
        refine zj_iconst o (zdd k_M_ask_0 18 rfl) zki_m1 ?_
        cases h
        exact zr_i o hr (zdd k_M_ask_0 19 rfl)
      · rw [if_neg hc] at h
        refine zj_aload_n o (zdd k_M_ask_0 14 rfl) rfl 0 rfl ?_
        obtain ⟨x4, e_x4, h⟩ := zbd h
        refine zj_gI o (zdd k_M_ask_0 15 rfl) fl_M_391 rfl e_x4 ?_
        refine zj_iconst o (zdd k_M_ask_0 16 rfl) zki_2 ?_
        refine zj_icmp_ge (tgt := 36) o (zdd k_M_ask_0 17 rfl) (by decide) (fun hc => ?_) (fun hc => ?_)
        · rw [if_pos hc] at h
          refine zj_iconst o (zdd k_M_ask_0 20 rfl) zki_0 ?_
          refine zj_istore (loc' := [(5, .int 0), (0, .ref t), (1, .int p0), (2, .int p1), (3, .int p2), (4, .int p3)]) o (zdd k_M_ask_0 21 rfl) (by decide) rfl ?_
          exact zj_sub [1, 2, 3, 4, 5, 0] rfl (r_M_ask_39L o  zfu h hr)
        · rw [if_neg hc] at h
          refine zj_iconst o (zdd k_M_ask_0 18 rfl) zki_m1 ?_
          cases h
          exact zr_i o hr (zdd k_M_ask_0 19 rfl)
def f_M_isBox (p0 : Int32) : Option (Int32) :=
(if p0 < 0 then (
some 0) else
if 3 ≤ p0 then (
some 0) else
some 1).bind zbool
set_option maxRecDepth 100000 in
set_option maxHeartbeats 4000000 in
theorem m_M_isBox {l : Launch} {b : Nat} {ex : Nat → Value} {D : va_G} {ca : Nat → ClassId} {σ : zSt} {p0 : Int32} {z : Int32} (h : f_M_isBox p0 = some z) : zMT l b ex D ca 1 y_M_isBox c_M_isBox n_M_isBox r_ret_M_isBox [.int p0] σ (some (.int z)) σ 0 0 := by
  obtain ⟨z0, hbd, hz⟩ := zbd h
  obtain ⟨hzb, rfl⟩ := zbool_some hz
  have h := hbd
  refine zmt_of (by decide) (Nat.le_of_ble_eq_true rfl) ⟨.boolean, rfl, zb_nar hzb⟩ (fun X o hin hrm _ _ _ _ _ hr => ?_)
  have hr := hr 0 0 (by decide) (by decide)
  have o : zOK X "WantShelvesModel" c_M_isBox n_M_isBox 1 := o
  change zPJ X 0 0 0 [(0, .int p0)] [] σ
  refine zj_iload_n o (zdd k_M_isBox 0 rfl) rfl 0 rfl ?_
  refine zj_if_lt (tgt := 13) o (zdd k_M_isBox 1 rfl) (by decide) (fun hc => ?_) (fun hc => ?_)
  · rw [if_pos hc] at h
    refine zj_iconst o (zdd k_M_isBox 7 rfl) zki_0 ?_
    cases h
    exact zr_i o hr (zdd k_M_isBox 8 rfl)
  · rw [if_neg hc] at h
    refine zj_iload_n o (zdd k_M_isBox 2 rfl) rfl 0 rfl ?_
    refine zj_iconst o (zdd k_M_isBox 3 rfl) zki_3 ?_
    refine zj_icmp_ge (tgt := 13) o (zdd k_M_isBox 4 rfl) (by decide) (fun hc => ?_) (fun hc => ?_)
    · rw [if_pos hc] at h
      refine zj_iconst o (zdd k_M_isBox 7 rfl) zki_0 ?_
      cases h
      exact zr_i o hr (zdd k_M_isBox 8 rfl)
    · rw [if_neg hc] at h
      refine zj_iconst o (zdd k_M_isBox 5 rfl) zki_1 ?_
      refine zj_goto (tgt := 14) o (zdd k_M_isBox 6 rfl) (by decide) ?_
      cases h
      exact zr_i o hr (zdd k_M_isBox 8 rfl)
def f_M_image_47 (σ : zSt) (v0 : Nat) : Option (Int32 × zSt) :=
(f_M_readsEver σ v0).bind fun x1 =>
some (x1, σ)
set_option maxRecDepth 100000 in
set_option maxHeartbeats 4000000 in
theorem r_M_image_47 {X : zCX} (o : zOK X "WantShelvesModel" c_M_image n_M_image 4) {σ : zSt} {v0 : Nat} {z : Int32 × zSt} (h : f_M_image_47 σ v0 = some z) (hr : zRX X 0 0 (some (.int z.1)) z.2) : zPJ X 0 0 47 [(0, .ref v0)] [] σ := by
  unfold f_M_image_47 at h
  refine zj_aload_n o (zdd k_M_image 29 rfl) rfl 0 rfl ?_
  obtain ⟨x1, e_x1, h⟩ := zbd h
  refine zc_V o (zdd k_M_image 30 rfl) ml_M_593 mv_M_readsEver ⟨rfl, by decide⟩ (zg_some e_x1).1 (by decide) [] [] rfl (Nat.le_of_ble_eq_true rfl) rfl (m_M_readsEver e_x1) ?_
  change zPJ X 0 0 _ _ [.int x1] _
  cases h
  exact zr_i o hr (zdd k_M_image 31 rfl)
def f_M_image_18 (k18 : zSt → Nat → Int32 → Int32 → Option (Int32 × zSt)) (σ : zSt) (v0 : Nat) (v1 : Int32) (v2 : Int32) : Option (Int32 × zSt) :=
if 92 ≤ v2 then (
f_M_image_47 σ v0) else
(zgP σ 12 v0 82).bind fun a1 =>
(zgP σ 12 v0 49).bind fun a2 =>
(zaI σ 1 a2 v2).bind fun x3 =>
(zwI σ 1 a1 ((96 * v1) + v2) x3).bind fun σ4 =>
k18 σ4 v0 v1 (v2 + 1)
set_option maxRecDepth 100000 in
set_option maxHeartbeats 4000000 in
theorem r_M_image_18 {X : zCX} (o : zOK X "WantShelvesModel" c_M_image n_M_image 4) {k18 : zSt → Nat → Int32 → Int32 → Option (Int32 × zSt)} (hk18 : ∀ {σ : zSt} {v0 : Nat} {v1 : Int32} {v2 : Int32} {z : Int32 × zSt}, k18 σ v0 v1 v2 = some z → zRX X 0 0 (some (.int z.1)) z.2 → zPJ X 0 0 18 [(0, .ref v0), (1, .int v1), (2, .int v2)] [] σ) {σ : zSt} {v0 : Nat} {v1 : Int32} {v2 : Int32} {z : Int32 × zSt} (h : f_M_image_18 k18 σ v0 v1 v2 = some z) (hr : zRX X 0 0 (some (.int z.1)) z.2) : zPJ X 0 0 18 [(0, .ref v0), (1, .int v1), (2, .int v2)] [] σ := by
  unfold f_M_image_18 at h
  refine zj_iload_n o (zdd k_M_image 12 rfl) rfl 2 rfl ?_
  refine zj_bipush o (zdd k_M_image 13 rfl) zkb_92 ?_
  refine zj_icmp_ge (tgt := 47) o (zdd k_M_image 14 rfl) (by decide) (fun hc => ?_) (fun hc => ?_)
  · rw [if_pos hc] at h
    exact zj_sub [0] rfl (r_M_image_47 o  h hr)
  · rw [if_neg hc] at h
    refine zj_aload_n o (zdd k_M_image 15 rfl) rfl 0 rfl ?_
    obtain ⟨a1, e_a1, h⟩ := zbd h
    refine zj_gP o (zdd k_M_image 16 rfl) fl_M_145 rfl e_a1 ?_
    refine zj_bipush o (zdd k_M_image 17 rfl) zkb_96 ?_
    refine zj_iload_n o (zdd k_M_image 18 rfl) rfl 1 rfl ?_
    refine zj_imul o (zdd k_M_image 19 rfl) ?_
    refine zj_iload_n o (zdd k_M_image 20 rfl) rfl 2 rfl ?_
    refine zj_iadd o (zdd k_M_image 21 rfl) ?_
    refine zj_aload_n o (zdd k_M_image 22 rfl) rfl 0 rfl ?_
    obtain ⟨a2, e_a2, h⟩ := zbd h
    refine zj_gP o (zdd k_M_image 23 rfl) fl_M_78 rfl e_a2 ?_
    refine zj_iload_n o (zdd k_M_image 24 rfl) rfl 2 rfl ?_
    obtain ⟨x3, e_x3, h⟩ := zbd h
    refine zj_iald o (zdd k_M_image 25 rfl) e_x3 ?_
    obtain ⟨σ4, e_σ4, h⟩ := zbd h
    refine zj_iast o (zdd k_M_image 26 rfl) e_σ4 ?_
    refine zj_iinc (v := v2 + 1) (loc' := [(2, .int (v2 + 1)), (0, .ref v0), (1, .int v1)]) o (zdd k_M_image 27 rfl) 2 rfl (by rw [zki_1]) (by decide) rfl ?_
    refine zj_goto (tgt := 18) o (zdd k_M_image 28 rfl) (by decide) ?_
    exact zj_sub [1, 2, 0] rfl (hk18 h hr)
def f_M_image_18L : Nat → zSt → Nat → Int32 → Int32 → Option (Int32 × zSt)
  | 0 => fun _ _ _ _ => none
  | n + 1 => f_M_image_18  (f_M_image_18L  n)
theorem r_M_image_18L {X : zCX} (o : zOK X "WantShelvesModel" c_M_image n_M_image 4) : ∀ (n : Nat) {σ : zSt} {v0 : Nat} {v1 : Int32} {v2 : Int32} {z : Int32 × zSt}, f_M_image_18L n σ v0 v1 v2 = some z → zRX X 0 0 (some (.int z.1)) z.2 → zPJ X 0 0 18 [(0, .ref v0), (1, .int v1), (2, .int v2)] [] σ
  | 0 => fun h _ => by cases h
  | n + 1 => fun h hr => r_M_image_18 o (r_M_image_18L o  n) h hr
def f_M_image (σ : zSt) (t : Nat) (p0 : Int32) : Option (Int32 × zSt) :=
zg σ 12 t (
(f_M_isBox p0).bind fun x1 =>
if x1 = 0 then (
some ((-1), σ)) else
(zgP σ 12 t 81).bind fun a2 =>
(zwI σ 3 a2 p0 1).bind fun σ3 =>
f_M_image_18L zfu σ3 t p0 0)
set_option maxRecDepth 100000 in
set_option maxHeartbeats 4000000 in
theorem m_M_image {l : Launch} {b : Nat} {ex : Nat → Value} {D : va_G} {ca : Nat → ClassId} {σ : zSt} {t : Nat} {p0 : Int32} {z : Int32 × zSt} (h : f_M_image σ t p0 = some z) : zMT l b ex D ca 4 y_M_image c_M_image n_M_image r_ret_M_image [.ref t, .int p0] σ (some (.int z.1)) z.2 0 0 := by
  obtain ⟨_, hg0⟩ := zg_some h
  have h := hg0
  refine zmt_of (by decide) (Nat.le_of_ble_eq_true rfl) ⟨.int, rfl, rfl⟩ (fun X o hin hrm _ _ _ _ _ hr => ?_)
  have hr := hr 0 0 (by decide) (by decide)
  have o : zOK X "WantShelvesModel" c_M_image n_M_image 4 := o
  change zPJ X 0 0 0 [(0, .ref t), (1, .int p0)] [] σ
  refine zj_iload_n o (zdd k_M_image 0 rfl) rfl 1 rfl ?_
  obtain ⟨x1, e_x1, h⟩ := zbd h
  refine zc_S o (zdd k_M_image 1 rfl) ml_M_590 ms_M_isBox (by decide) [.int p0] [] rfl (Nat.le_of_ble_eq_true rfl) rfl (m_M_isBox e_x1) ?_
  change zPJ X 0 0 _ _ [.int x1] _
  refine zj_if_ne (tgt := 9) o (zdd k_M_image 2 rfl) (by decide) (fun hc => ?_) (fun hc => ?_)
  · rw [if_neg hc] at h
    refine zj_aload_n o (zdd k_M_image 5 rfl) rfl 0 rfl ?_
    obtain ⟨a2, e_a2, h⟩ := zbd h
    refine zj_gP o (zdd k_M_image 6 rfl) fl_M_142 rfl e_a2 ?_
    refine zj_iload_n o (zdd k_M_image 7 rfl) rfl 1 rfl ?_
    refine zj_iconst o (zdd k_M_image 8 rfl) zki_1 ?_
    obtain ⟨σ3, e_σ3, h⟩ := zbd h
    refine zj_zast o (zdd k_M_image 9 rfl) e_σ3 ?_
    refine zj_iconst o (zdd k_M_image 10 rfl) zki_0 ?_
    refine zj_istore_n (loc' := [(2, .int 0), (0, .ref t), (1, .int p0)]) o (zdd k_M_image 11 rfl) rfl (by decide) rfl ?_
    exact zj_sub [1, 2, 0] rfl (r_M_image_18L o  zfu h hr)
  · rw [if_pos hc] at h
    refine zj_iconst o (zdd k_M_image 3 rfl) zki_m1 ?_
    cases h
    exact zr_i o hr (zdd k_M_image 4 rfl)
def f_M_back_49 (σ : zSt) (v0 : Nat) : Option (Int32 × zSt) :=
(zsI σ 12 v0 56 0).bind fun σ1 =>
(zsI σ1 12 v0 57 0).bind fun σ2 =>
(f_M_readsEver σ2 v0).bind fun x3 =>
some (x3, σ2)
set_option maxRecDepth 100000 in
set_option maxHeartbeats 4000000 in
theorem r_M_back_49 {X : zCX} (o : zOK X "WantShelvesModel" c_M_back n_M_back 4) {σ : zSt} {v0 : Nat} {z : Int32 × zSt} (h : f_M_back_49 σ v0 = some z) (hr : zRX X 0 0 (some (.int z.1)) z.2) : zPJ X 0 0 49 [(0, .ref v0)] [] σ := by
  unfold f_M_back_49 at h
  refine zj_aload_n o (zdd k_M_back 29 rfl) rfl 0 rfl ?_
  refine zj_iconst o (zdd k_M_back 30 rfl) zki_0 ?_
  obtain ⟨σ1, e_σ1, h⟩ := zbd h
  refine zj_pI o (zdd k_M_back 31 rfl) fl_M_410 rfl rfl e_σ1 ?_
  refine zj_aload_n o (zdd k_M_back 32 rfl) rfl 0 rfl ?_
  refine zj_iconst o (zdd k_M_back 33 rfl) zki_0 ?_
  obtain ⟨σ2, e_σ2, h⟩ := zbd h
  refine zj_pI o (zdd k_M_back 34 rfl) fl_M_413 rfl rfl e_σ2 ?_
  refine zj_aload_n o (zdd k_M_back 35 rfl) rfl 0 rfl ?_
  obtain ⟨x3, e_x3, h⟩ := zbd h
  refine zc_V o (zdd k_M_back 36 rfl) ml_M_593 mv_M_readsEver ⟨rfl, by decide⟩ (zg_some e_x3).1 (by decide) [] [] rfl (Nat.le_of_ble_eq_true rfl) rfl (m_M_readsEver e_x3) ?_
  change zPJ X 0 0 _ _ [.int x3] _
  cases h
  exact zr_i o hr (zdd k_M_back 37 rfl)
def f_M_back_20 (k20 : zSt → Nat → Int32 → Int32 → Option (Int32 × zSt)) (σ : zSt) (v0 : Nat) (v1 : Int32) (v2 : Int32) : Option (Int32 × zSt) :=
if 92 ≤ v2 then (
f_M_back_49 σ v0) else
(zgP σ 12 v0 49).bind fun a1 =>
(zgP σ 12 v0 82).bind fun a2 =>
(zaI σ 1 a2 ((96 * v1) + v2)).bind fun x3 =>
(zwI σ 1 a1 v2 x3).bind fun σ4 =>
k20 σ4 v0 v1 (v2 + 1)
set_option maxRecDepth 100000 in
set_option maxHeartbeats 4000000 in
theorem r_M_back_20 {X : zCX} (o : zOK X "WantShelvesModel" c_M_back n_M_back 4) {k20 : zSt → Nat → Int32 → Int32 → Option (Int32 × zSt)} (hk20 : ∀ {σ : zSt} {v0 : Nat} {v1 : Int32} {v2 : Int32} {z : Int32 × zSt}, k20 σ v0 v1 v2 = some z → zRX X 0 0 (some (.int z.1)) z.2 → zPJ X 0 0 20 [(0, .ref v0), (1, .int v1), (2, .int v2)] [] σ) {σ : zSt} {v0 : Nat} {v1 : Int32} {v2 : Int32} {z : Int32 × zSt} (h : f_M_back_20 k20 σ v0 v1 v2 = some z) (hr : zRX X 0 0 (some (.int z.1)) z.2) : zPJ X 0 0 20 [(0, .ref v0), (1, .int v1), (2, .int v2)] [] σ := by
  unfold f_M_back_20 at h
  refine zj_iload_n o (zdd k_M_back 12 rfl) rfl 2 rfl ?_
  refine zj_bipush o (zdd k_M_back 13 rfl) zkb_92 ?_
  refine zj_icmp_ge (tgt := 49) o (zdd k_M_back 14 rfl) (by decide) (fun hc => ?_) (fun hc => ?_)
  · rw [if_pos hc] at h
    exact zj_sub [0] rfl (r_M_back_49 o  h hr)
  · rw [if_neg hc] at h
    refine zj_aload_n o (zdd k_M_back 15 rfl) rfl 0 rfl ?_
    obtain ⟨a1, e_a1, h⟩ := zbd h
    refine zj_gP o (zdd k_M_back 16 rfl) fl_M_78 rfl e_a1 ?_
    refine zj_iload_n o (zdd k_M_back 17 rfl) rfl 2 rfl ?_
    refine zj_aload_n o (zdd k_M_back 18 rfl) rfl 0 rfl ?_
    obtain ⟨a2, e_a2, h⟩ := zbd h
    refine zj_gP o (zdd k_M_back 19 rfl) fl_M_145 rfl e_a2 ?_
    refine zj_bipush o (zdd k_M_back 20 rfl) zkb_96 ?_
    refine zj_iload_n o (zdd k_M_back 21 rfl) rfl 1 rfl ?_
    refine zj_imul o (zdd k_M_back 22 rfl) ?_
    refine zj_iload_n o (zdd k_M_back 23 rfl) rfl 2 rfl ?_
    refine zj_iadd o (zdd k_M_back 24 rfl) ?_
    obtain ⟨x3, e_x3, h⟩ := zbd h
    refine zj_iald o (zdd k_M_back 25 rfl) e_x3 ?_
    obtain ⟨σ4, e_σ4, h⟩ := zbd h
    refine zj_iast o (zdd k_M_back 26 rfl) e_σ4 ?_
    refine zj_iinc (v := v2 + 1) (loc' := [(2, .int (v2 + 1)), (0, .ref v0), (1, .int v1)]) o (zdd k_M_back 27 rfl) 2 rfl (by rw [zki_1]) (by decide) rfl ?_
    refine zj_goto (tgt := 20) o (zdd k_M_back 28 rfl) (by decide) ?_
    exact zj_sub [1, 2, 0] rfl (hk20 h hr)
def f_M_back_20L : Nat → zSt → Nat → Int32 → Int32 → Option (Int32 × zSt)
  | 0 => fun _ _ _ _ => none
  | n + 1 => f_M_back_20  (f_M_back_20L  n)
theorem r_M_back_20L {X : zCX} (o : zOK X "WantShelvesModel" c_M_back n_M_back 4) : ∀ (n : Nat) {σ : zSt} {v0 : Nat} {v1 : Int32} {v2 : Int32} {z : Int32 × zSt}, f_M_back_20L n σ v0 v1 v2 = some z → zRX X 0 0 (some (.int z.1)) z.2 → zPJ X 0 0 20 [(0, .ref v0), (1, .int v1), (2, .int v2)] [] σ
  | 0 => fun h _ => by cases h
  | n + 1 => fun h hr => r_M_back_20 o (r_M_back_20L o  n) h hr
def f_M_back (σ : zSt) (t : Nat) (p0 : Int32) : Option (Int32 × zSt) :=
zg σ 12 t (
(f_M_isBox p0).bind fun x1 =>
if x1 = 0 then (
some ((-1), σ)) else
(zgP σ 12 t 81).bind fun a2 =>
(zaI σ 3 a2 p0).bind fun x3 =>
if x3 = 0 then (
some ((-1), σ)) else
f_M_back_20L zfu σ t p0 0)
set_option maxRecDepth 100000 in
set_option maxHeartbeats 4000000 in
theorem m_M_back {l : Launch} {b : Nat} {ex : Nat → Value} {D : va_G} {ca : Nat → ClassId} {σ : zSt} {t : Nat} {p0 : Int32} {z : Int32 × zSt} (h : f_M_back σ t p0 = some z) : zMT l b ex D ca 4 y_M_back c_M_back n_M_back r_ret_M_back [.ref t, .int p0] σ (some (.int z.1)) z.2 0 0 := by
  obtain ⟨_, hg0⟩ := zg_some h
  have h := hg0
  refine zmt_of (by decide) (Nat.le_of_ble_eq_true rfl) ⟨.int, rfl, rfl⟩ (fun X o hin hrm _ _ _ _ _ hr => ?_)
  have hr := hr 0 0 (by decide) (by decide)
  have o : zOK X "WantShelvesModel" c_M_back n_M_back 4 := o
  change zPJ X 0 0 0 [(0, .ref t), (1, .int p0)] [] σ
  refine zj_iload_n o (zdd k_M_back 0 rfl) rfl 1 rfl ?_
  obtain ⟨x1, e_x1, h⟩ := zbd h
  refine zc_S o (zdd k_M_back 1 rfl) ml_M_590 ms_M_isBox (by decide) [.int p0] [] rfl (Nat.le_of_ble_eq_true rfl) rfl (m_M_isBox e_x1) ?_
  change zPJ X 0 0 _ _ [.int x1] _
  refine zj_if_eq (tgt := 16) o (zdd k_M_back 2 rfl) (by decide) (fun hc => ?_) (fun hc => ?_)
  · rw [if_pos hc] at h
    refine zj_iconst o (zdd k_M_back 8 rfl) zki_m1 ?_
    cases h
    exact zr_i o hr (zdd k_M_back 9 rfl)
  · rw [if_neg hc] at h
    refine zj_aload_n o (zdd k_M_back 3 rfl) rfl 0 rfl ?_
    obtain ⟨a2, e_a2, h⟩ := zbd h
    refine zj_gP o (zdd k_M_back 4 rfl) fl_M_142 rfl e_a2 ?_
    refine zj_iload_n o (zdd k_M_back 5 rfl) rfl 1 rfl ?_
    obtain ⟨x3, e_x3, h⟩ := zbd h
    refine zj_zald o (zdd k_M_back 6 rfl) e_x3 ?_
    refine zj_if_ne (tgt := 18) o (zdd k_M_back 7 rfl) (by decide) (fun hc => ?_) (fun hc => ?_)
    · rw [if_neg hc] at h
      refine zj_iconst o (zdd k_M_back 10 rfl) zki_0 ?_
      refine zj_istore_n (loc' := [(2, .int 0), (0, .ref t), (1, .int p0)]) o (zdd k_M_back 11 rfl) rfl (by decide) rfl ?_
      exact zj_sub [1, 2, 0] rfl (r_M_back_20L o  zfu h hr)
    · rw [if_pos hc] at h
      refine zj_iconst o (zdd k_M_back 8 rfl) zki_m1 ?_
      cases h
      exact zr_i o hr (zdd k_M_back 9 rfl)
def f_M_about (σ : zSt) (t : Nat) (p0 : Int32) : Option (Int32) :=
zg σ 12 t (
if p0 = 0 then (
(zgI σ 12 t 41).bind fun x1 =>
some x1) else
if p0 = 1 then (
(zgI σ 12 t 42).bind fun x2 =>
some x2) else
if p0 = 2 then (
(zgI σ 12 t 43).bind fun x3 =>
some x3) else
if p0 = 3 then (
(zgP σ 12 t 49).bind fun a4 =>
(zaI σ 1 a4 30).bind fun x5 =>
some x5) else
if p0 = 4 then (
(zgP σ 12 t 49).bind fun a6 =>
(zaI σ 1 a6 31).bind fun x7 =>
some x7) else
if p0 = 5 then (
(f_M_readsEver σ t).bind fun x8 =>
some x8) else
if p0 = 6 then (
(zgI σ 12 t 56).bind fun x9 =>
some x9) else
if p0 = 7 then (
(zgI σ 12 t 57).bind fun x10 =>
some x10) else
if p0 = 8 then (
(zgI σ 12 t 78).bind fun x11 =>
some x11) else
if p0 = 9 then (
(zgI σ 12 t 71).bind fun x12 =>
some x12) else
if p0 = 10 then (
(zgI σ 12 t 79).bind fun x13 =>
some x13) else
if p0 = 11 then (
(zgI σ 12 t 1).bind fun x14 =>
some x14) else
if p0 = 12 then (
(zgI σ 12 t 22).bind fun x15 =>
some x15) else
if p0 = 13 then (
(zgI σ 12 t 59).bind fun x16 =>
some x16) else
if p0 = 14 then (
(zgI σ 12 t 44).bind fun x17 =>
some x17) else
some (-1))
set_option maxRecDepth 100000 in
set_option maxHeartbeats 4000000 in
theorem m_M_about {l : Launch} {b : Nat} {ex : Nat → Value} {D : va_G} {ca : Nat → ClassId} {σ : zSt} {t : Nat} {p0 : Int32} {z : Int32} (h : f_M_about σ t p0 = some z) : zMT l b ex D ca 4 y_M_about c_M_about n_M_about r_ret_M_about [.ref t, .int p0] σ (some (.int z)) σ 0 0 := by
  obtain ⟨_, hg0⟩ := zg_some h
  have h := hg0
  refine zmt_of (by decide) (Nat.le_of_ble_eq_true rfl) ⟨.int, rfl, rfl⟩ (fun X o hin hrm _ _ _ _ _ hr => ?_)
  have hr := hr 0 0 (by decide) (by decide)
  have o : zOK X "WantShelvesModel" c_M_about n_M_about 4 := o
  change zPJ X 0 0 0 [(0, .ref t), (1, .int p0)] [] σ
  refine zj_iload_n o (zdd k_M_about 0 rfl) rfl 1 rfl ?_
  refine zj_tableC (dt := 157) o [76, 81, 86, 91, 99, 107, 112, 117, 122, 127, 132, 137, 142, 147, 152] (zdd k_M_about 1 rfl) (by decide) (by decide) (by decide) (by decide) (by decide) [(0, 76), (1, 81), (2, 86), (3, 91), (4, 99), (5, 107), (6, 112), (7, 117), (8, 122), (9, 127), (10, 132), (11, 137), (12, 142), (13, 147), (14, 152)] (by decide) ?_
  by_cases hc : p0 = 0
  · rw [if_pos hc] at h
    rw [zcase_pos hc]
    refine zj_aload_n o (zdd k_M_about 2 rfl) rfl 0 rfl ?_
    obtain ⟨x1, e_x1, h⟩ := zbd h
    refine zj_gI o (zdd k_M_about 3 rfl) fl_M_388 rfl e_x1 ?_
    cases h
    exact zr_i o hr (zdd k_M_about 4 rfl)
  · rw [if_neg hc] at h
    rw [zcase_neg hc]
    by_cases hc : p0 = 1
    · rw [if_pos hc] at h
      rw [zcase_pos hc]
      refine zj_aload_n o (zdd k_M_about 5 rfl) rfl 0 rfl ?_
      obtain ⟨x2, e_x2, h⟩ := zbd h
      refine zj_gI o (zdd k_M_about 6 rfl) fl_M_391 rfl e_x2 ?_
      cases h
      exact zr_i o hr (zdd k_M_about 7 rfl)
    · rw [if_neg hc] at h
      rw [zcase_neg hc]
      by_cases hc : p0 = 2
      · rw [if_pos hc] at h
        rw [zcase_pos hc]
        refine zj_aload_n o (zdd k_M_about 8 rfl) rfl 0 rfl ?_
        obtain ⟨x3, e_x3, h⟩ := zbd h
        refine zj_gI o (zdd k_M_about 9 rfl) fl_M_394 rfl e_x3 ?_
        cases h
        exact zr_i o hr (zdd k_M_about 10 rfl)
      · rw [if_neg hc] at h
        rw [zcase_neg hc]
        by_cases hc : p0 = 3
        · rw [if_pos hc] at h
          rw [zcase_pos hc]
          refine zj_aload_n o (zdd k_M_about 11 rfl) rfl 0 rfl ?_
          obtain ⟨a4, e_a4, h⟩ := zbd h
          refine zj_gP o (zdd k_M_about 12 rfl) fl_M_78 rfl e_a4 ?_
          refine zj_bipush o (zdd k_M_about 13 rfl) zkb_30 ?_
          obtain ⟨x5, e_x5, h⟩ := zbd h
          refine zj_iald o (zdd k_M_about 14 rfl) e_x5 ?_
          cases h
          exact zr_i o hr (zdd k_M_about 15 rfl)
        · rw [if_neg hc] at h
          rw [zcase_neg hc]
          by_cases hc : p0 = 4
          · rw [if_pos hc] at h
            rw [zcase_pos hc]
            refine zj_aload_n o (zdd k_M_about 16 rfl) rfl 0 rfl ?_
            obtain ⟨a6, e_a6, h⟩ := zbd h
            refine zj_gP o (zdd k_M_about 17 rfl) fl_M_78 rfl e_a6 ?_
            refine zj_bipush o (zdd k_M_about 18 rfl) zkb_31 ?_
            obtain ⟨x7, e_x7, h⟩ := zbd h
            refine zj_iald o (zdd k_M_about 19 rfl) e_x7 ?_
            cases h
            exact zr_i o hr (zdd k_M_about 20 rfl)
          · rw [if_neg hc] at h
            rw [zcase_neg hc]
            by_cases hc : p0 = 5
            · rw [if_pos hc] at h
              rw [zcase_pos hc]
              refine zj_aload_n o (zdd k_M_about 21 rfl) rfl 0 rfl ?_
              obtain ⟨x8, e_x8, h⟩ := zbd h
              refine zc_V o (zdd k_M_about 22 rfl) ml_M_593 mv_M_readsEver ⟨rfl, by decide⟩ (zg_some e_x8).1 (by decide) [] [] rfl (Nat.le_of_ble_eq_true rfl) rfl (m_M_readsEver e_x8) ?_
              change zPJ X 0 0 _ _ [.int x8] _
              cases h
              exact zr_i o hr (zdd k_M_about 23 rfl)
            · rw [if_neg hc] at h
              rw [zcase_neg hc]
              by_cases hc : p0 = 6
              · rw [if_pos hc] at h
                rw [zcase_pos hc]
                refine zj_aload_n o (zdd k_M_about 24 rfl) rfl 0 rfl ?_
                obtain ⟨x9, e_x9, h⟩ := zbd h
                refine zj_gI o (zdd k_M_about 25 rfl) fl_M_410 rfl e_x9 ?_
                cases h
                exact zr_i o hr (zdd k_M_about 26 rfl)
              · rw [if_neg hc] at h
                rw [zcase_neg hc]
                by_cases hc : p0 = 7
                · rw [if_pos hc] at h
                  rw [zcase_pos hc]
                  refine zj_aload_n o (zdd k_M_about 27 rfl) rfl 0 rfl ?_
                  obtain ⟨x10, e_x10, h⟩ := zbd h
                  refine zj_gI o (zdd k_M_about 28 rfl) fl_M_413 rfl e_x10 ?_
                  cases h
                  exact zr_i o hr (zdd k_M_about 29 rfl)
                · rw [if_neg hc] at h
                  rw [zcase_neg hc]
                  by_cases hc : p0 = 8
                  · rw [if_pos hc] at h
                    rw [zcase_pos hc]
                    refine zj_aload_n o (zdd k_M_about 30 rfl) rfl 0 rfl ?_
                    obtain ⟨x11, e_x11, h⟩ := zbd h
                    refine zj_gI o (zdd k_M_about 31 rfl) fl_M_416 rfl e_x11 ?_
                    cases h
                    exact zr_i o hr (zdd k_M_about 32 rfl)
                  · rw [if_neg hc] at h
                    rw [zcase_neg hc]
                    by_cases hc : p0 = 9
                    · rw [if_pos hc] at h
                      rw [zcase_pos hc]
                      refine zj_aload_n o (zdd k_M_about 33 rfl) rfl 0 rfl ?_
                      obtain ⟨x12, e_x12, h⟩ := zbd h
                      refine zj_gI o (zdd k_M_about 34 rfl) fl_M_419 rfl e_x12 ?_
                      cases h
                      exact zr_i o hr (zdd k_M_about 35 rfl)
                    · rw [if_neg hc] at h
                      rw [zcase_neg hc]
                      by_cases hc : p0 = 10
                      · rw [if_pos hc] at h
                        rw [zcase_pos hc]
                        refine zj_aload_n o (zdd k_M_about 36 rfl) rfl 0 rfl ?_
                        obtain ⟨x13, e_x13, h⟩ := zbd h
                        refine zj_gI o (zdd k_M_about 37 rfl) fl_M_582 rfl e_x13 ?_
                        cases h
                        exact zr_i o hr (zdd k_M_about 38 rfl)
                      · rw [if_neg hc] at h
                        rw [zcase_neg hc]
                        by_cases hc : p0 = 11
                        · rw [if_pos hc] at h
                          rw [zcase_pos hc]
                          refine zj_aload_n o (zdd k_M_about 39 rfl) rfl 0 rfl ?_
                          obtain ⟨x14, e_x14, h⟩ := zbd h
                          refine zj_gI o (zdd k_M_about 40 rfl) fl_M_148 rfl e_x14 ?_
                          cases h
                          exact zr_i o hr (zdd k_M_about 41 rfl)
                        · rw [if_neg hc] at h
                          rw [zcase_neg hc]
                          by_cases hc : p0 = 12
                          · rw [if_pos hc] at h
                            rw [zcase_pos hc]
                            refine zj_aload_n o (zdd k_M_about 42 rfl) rfl 0 rfl ?_
                            obtain ⟨x15, e_x15, h⟩ := zbd h
                            refine zj_gI o (zdd k_M_about 43 rfl) fl_M_407 rfl e_x15 ?_
                            cases h
                            exact zr_i o hr (zdd k_M_about 44 rfl)
                          · rw [if_neg hc] at h
                            rw [zcase_neg hc]
                            by_cases hc : p0 = 13
                            · rw [if_pos hc] at h
                              rw [zcase_pos hc]
                              refine zj_aload_n o (zdd k_M_about 45 rfl) rfl 0 rfl ?_
                              obtain ⟨x16, e_x16, h⟩ := zbd h
                              refine zj_gI o (zdd k_M_about 46 rfl) fl_M_422 rfl e_x16 ?_
                              cases h
                              exact zr_i o hr (zdd k_M_about 47 rfl)
                            · rw [if_neg hc] at h
                              rw [zcase_neg hc]
                              by_cases hc : p0 = 14
                              · rw [if_pos hc] at h
                                rw [zcase_pos hc]
                                refine zj_aload_n o (zdd k_M_about 48 rfl) rfl 0 rfl ?_
                                obtain ⟨x17, e_x17, h⟩ := zbd h
                                refine zj_gI o (zdd k_M_about 49 rfl) fl_M_397 rfl e_x17 ?_
                                cases h
                                exact zr_i o hr (zdd k_M_about 50 rfl)
                              · rw [if_neg hc] at h
                                rw [zcase_neg hc]
                                change zPJ X 0 0 157 _ _ _
                                refine zj_iconst o (zdd k_M_about 51 rfl) zki_m1 ?_
                                cases h
                                exact zr_i o hr (zdd k_M_about 52 rfl)
