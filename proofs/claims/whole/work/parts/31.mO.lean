def f_O_init (σ : zSt) (t : Nat) : Option (zSt) :=
zg σ 5 t (
(some (znew σ (4, 625))).bind fun (σ1 : zSt) =>
(some σ.1.length).bind fun (a2 : Nat) =>
(zsP σ1 5 t 0 a2).bind fun σ3 =>
(some (znew σ3 (1, 625))).bind fun (σ4 : zSt) =>
(some σ3.1.length).bind fun (a5 : Nat) =>
(zsP σ4 5 t 1 a5).bind fun σ6 =>
(some (znew σ6 (1, 625))).bind fun (σ7 : zSt) =>
(some σ6.1.length).bind fun (a8 : Nat) =>
(zsP σ7 5 t 2 a8).bind fun σ9 =>
some σ9)
set_option maxRecDepth 100000 in
set_option maxHeartbeats 4000000 in
theorem m_O_init {l : Launch} {b : Nat} {ex : Nat → Value} {D : va_G} {ca : Nat → ClassId} {σ : zSt} {t : Nat} {z : zSt} (h : f_O_init σ t = some z) : zMT l b ex D ca 1 y_O_init c_O_init n_O_init r_ret_O_init [.ref t] σ none z 3 1875 := by
  obtain ⟨_, hg0⟩ := zg_some h
  have h := hg0
  refine zmt_of (by decide) (Nat.le_of_ble_eq_true rfl) rfl (fun X o hin hrm _ _ _ _ _ hr => ?_)
  have hin := hin rfl
  have hr := hr 3 1875 (by decide) (by decide)
  have o : zOK X "WantShelves$Orders" c_O_init n_O_init 1 := o
  change zPJ X 0 0 0 [(0, .ref t)] [] σ
  refine zj_aload_n o (zdd k_O_init 0 rfl) rfl 0 rfl ?_
  refine zj_objInit o (zdd k_O_init 1 rfl) ml_O_3 ob_im ob_code (by decide) (Nat.le_of_ble_eq_true rfl) ?_
  refine zj_aload_n o (zdd k_O_init 2 rfl) rfl 0 rfl ?_
  refine zj_sipush o (zdd k_O_init 3 rfl) zks_625 ?_
  obtain ⟨σ1, e_σ1, h⟩ := zbd h
  refine zj_newa_long (N := 625) (mc := 3) (ms := 1875) o (zdd k_O_init 4 rfl) ac_long (by decide) (by decide) (by decide) hrm (by decide) (by decide) ?_
  rw [Option.some.inj e_σ1]
  change zPJ X 1 625 _ _ _ _
  obtain ⟨a2, e_a2, h⟩ := zbd h
  rw [Option.some.inj e_a2]
  obtain ⟨σ3, e_σ3, h⟩ := zbd h
  refine zj_fP o (zdd k_O_init 5 rfl) fl_O_11 (Or.inr ⟨_, rfl⟩) hin rfl rfl e_σ3 ?_
  refine zj_aload_n o (zdd k_O_init 6 rfl) rfl 0 rfl ?_
  refine zj_sipush o (zdd k_O_init 7 rfl) zks_625 ?_
  obtain ⟨σ4, e_σ4, h⟩ := zbd h
  refine zj_newa_int (N := 625) (mc := 3) (ms := 1875) o (zdd k_O_init 8 rfl) ac_int (by decide) (by decide) (by decide) hrm (by decide) (by decide) ?_
  rw [Option.some.inj e_σ4]
  change zPJ X 2 1250 _ _ _ _
  obtain ⟨a5, e_a5, h⟩ := zbd h
  rw [Option.some.inj e_a5]
  obtain ⟨σ6, e_σ6, h⟩ := zbd h
  refine zj_fP o (zdd k_O_init 9 rfl) fl_O_17 (Or.inr ⟨_, rfl⟩) hin rfl rfl e_σ6 ?_
  refine zj_aload_n o (zdd k_O_init 10 rfl) rfl 0 rfl ?_
  refine zj_sipush o (zdd k_O_init 11 rfl) zks_625 ?_
  obtain ⟨σ7, e_σ7, h⟩ := zbd h
  refine zj_newa_int (N := 625) (mc := 3) (ms := 1875) o (zdd k_O_init 12 rfl) ac_int (by decide) (by decide) (by decide) hrm (by decide) (by decide) ?_
  rw [Option.some.inj e_σ7]
  change zPJ X 3 1875 _ _ _ _
  obtain ⟨a8, e_a8, h⟩ := zbd h
  rw [Option.some.inj e_a8]
  obtain ⟨σ9, e_σ9, h⟩ := zbd h
  refine zj_fP o (zdd k_O_init 13 rfl) fl_O_21 (Or.inr ⟨_, rfl⟩) hin rfl rfl e_σ9 ?_
  cases h
  exact zr_v o hr (zdd k_O_init 14 rfl)
def f_O_count_24 (σ : zSt) (v0 : Nat) (v4 : Int32) : Option (zSt) :=
(zgP σ 5 v0 2).bind fun a1 =>
(zaI σ 1 a1 v4).bind fun x2 =>
(zwI σ 1 a1 v4 (x2 + 1)).bind fun σ3 =>
some σ3
set_option maxRecDepth 100000 in
set_option maxHeartbeats 4000000 in
theorem r_O_count_24 {X : zCX} (o : zOK X "WantShelves$Orders" c_O_count n_O_count 1) {σ : zSt} {v0 : Nat} {v4 : Int32} {z : zSt} (h : f_O_count_24 σ v0 v4 = some z) (hr : zRX X 0 0 none z) : zPJ X 0 0 24 [(0, .ref v0), (4, .int v4)] [] σ := by
  unfold f_O_count_24 at h
  refine zj_aload_n o (zdd k_O_count 13 rfl) rfl 0 rfl ?_
  obtain ⟨a1, e_a1, h⟩ := zbd h
  refine zj_gP o (zdd k_O_count 14 rfl) fl_O_21 rfl e_a1 ?_
  refine zj_iload o (zdd k_O_count 15 rfl) 1 rfl ?_
  refine zj_dup2 o (zdd k_O_count 16 rfl) rfl rfl ?_
  obtain ⟨x2, e_x2, h⟩ := zbd h
  refine zj_iald o (zdd k_O_count 17 rfl) e_x2 ?_
  refine zj_iconst o (zdd k_O_count 18 rfl) zki_1 ?_
  refine zj_iadd o (zdd k_O_count 19 rfl) ?_
  obtain ⟨σ3, e_σ3, h⟩ := zbd h
  refine zj_iast o (zdd k_O_count 20 rfl) e_σ3 ?_
  cases h
  exact zr_v o hr (zdd k_O_count 21 rfl)
def f_O_count_42 (σ : zSt) (v0 : Nat) (v1 : Int64) (v3 : Int32) : Option (zSt) :=
(zgI σ 5 v0 3).bind fun x1 =>
if 625 ≤ x1 then (
some σ) else
(zgP σ 5 v0 0).bind fun a2 =>
(zgI σ 5 v0 3).bind fun x3 =>
(zwJ σ a2 x3 v1).bind fun σ4 =>
(zgP σ4 5 v0 1).bind fun a5 =>
(zgI σ4 5 v0 3).bind fun x6 =>
(zwI σ4 1 a5 x6 v3).bind fun σ7 =>
(zgP σ7 5 v0 2).bind fun a8 =>
(zgI σ7 5 v0 3).bind fun x9 =>
(zwI σ7 1 a8 x9 1).bind fun σ10 =>
(zgI σ10 5 v0 3).bind fun x11 =>
(zsI σ10 5 v0 3 (x11 + 1)).bind fun σ12 =>
some σ12
set_option maxRecDepth 100000 in
set_option maxHeartbeats 4000000 in
theorem r_O_count_42 {X : zCX} (o : zOK X "WantShelves$Orders" c_O_count n_O_count 1) {σ : zSt} {v0 : Nat} {v1 : Int64} {v3 : Int32} {z : zSt} (h : f_O_count_42 σ v0 v1 v3 = some z) (hr : zRX X 0 0 none z) : zPJ X 0 0 42 [(0, .ref v0), (1, .long v1), (3, .int v3)] [] σ := by
  unfold f_O_count_42 at h
  refine zj_aload_n o (zdd k_O_count 24 rfl) rfl 0 rfl ?_
  obtain ⟨x1, e_x1, h⟩ := zbd h
  refine zj_gI o (zdd k_O_count 25 rfl) fl_O_24 rfl e_x1 ?_
  refine zj_sipush o (zdd k_O_count 26 rfl) zks_625 ?_
  refine zj_icmp_ge (tgt := 92) o (zdd k_O_count 27 rfl) (by decide) (fun hc => ?_) (fun hc => ?_)
  · rw [if_pos hc] at h
    cases h
    exact zr_v o hr (zdd k_O_count 52 rfl)
  · rw [if_neg hc] at h
    refine zj_aload_n o (zdd k_O_count 28 rfl) rfl 0 rfl ?_
    obtain ⟨a2, e_a2, h⟩ := zbd h
    refine zj_gP o (zdd k_O_count 29 rfl) fl_O_11 rfl e_a2 ?_
    refine zj_aload_n o (zdd k_O_count 30 rfl) rfl 0 rfl ?_
    obtain ⟨x3, e_x3, h⟩ := zbd h
    refine zj_gI o (zdd k_O_count 31 rfl) fl_O_24 rfl e_x3 ?_
    refine zj_lload_n o (zdd k_O_count 32 rfl) rfl 1 rfl ?_
    obtain ⟨σ4, e_σ4, h⟩ := zbd h
    refine zj_last o (zdd k_O_count 33 rfl) e_σ4 ?_
    refine zj_aload_n o (zdd k_O_count 34 rfl) rfl 0 rfl ?_
    obtain ⟨a5, e_a5, h⟩ := zbd h
    refine zj_gP o (zdd k_O_count 35 rfl) fl_O_17 rfl e_a5 ?_
    refine zj_aload_n o (zdd k_O_count 36 rfl) rfl 0 rfl ?_
    obtain ⟨x6, e_x6, h⟩ := zbd h
    refine zj_gI o (zdd k_O_count 37 rfl) fl_O_24 rfl e_x6 ?_
    refine zj_iload_n o (zdd k_O_count 38 rfl) rfl 2 rfl ?_
    obtain ⟨σ7, e_σ7, h⟩ := zbd h
    refine zj_iast o (zdd k_O_count 39 rfl) e_σ7 ?_
    refine zj_aload_n o (zdd k_O_count 40 rfl) rfl 0 rfl ?_
    obtain ⟨a8, e_a8, h⟩ := zbd h
    refine zj_gP o (zdd k_O_count 41 rfl) fl_O_21 rfl e_a8 ?_
    refine zj_aload_n o (zdd k_O_count 42 rfl) rfl 0 rfl ?_
    obtain ⟨x9, e_x9, h⟩ := zbd h
    refine zj_gI o (zdd k_O_count 43 rfl) fl_O_24 rfl e_x9 ?_
    refine zj_iconst o (zdd k_O_count 44 rfl) zki_1 ?_
    obtain ⟨σ10, e_σ10, h⟩ := zbd h
    refine zj_iast o (zdd k_O_count 45 rfl) e_σ10 ?_
    refine zj_aload_n o (zdd k_O_count 46 rfl) rfl 0 rfl ?_
    refine zj_dup o (zdd k_O_count 47 rfl) rfl ?_
    obtain ⟨x11, e_x11, h⟩ := zbd h
    refine zj_gI o (zdd k_O_count 48 rfl) fl_O_24 rfl e_x11 ?_
    refine zj_iconst o (zdd k_O_count 49 rfl) zki_1 ?_
    refine zj_iadd o (zdd k_O_count 50 rfl) ?_
    obtain ⟨σ12, e_σ12, h⟩ := zbd h
    refine zj_pI o (zdd k_O_count 51 rfl) fl_O_24 rfl rfl e_σ12 ?_
    cases h
    exact zr_v o hr (zdd k_O_count 52 rfl)
def f_O_count_3 (k3 : zSt → Nat → Int64 → Int32 → Int32 → Option (zSt)) (σ : zSt) (v0 : Nat) (v1 : Int64) (v3 : Int32) (v4 : Int32) : Option (zSt) :=
(zgI σ 5 v0 3).bind fun x1 =>
if x1 ≤ v4 then (
f_O_count_42 σ v0 v1 v3) else
(zgP σ 5 v0 0).bind fun a2 =>
(zaJ σ a2 v4).bind fun x3 =>
if lg_cmp x3 v1 = 0 then (
f_O_count_24 σ v0 v4) else
k3 σ v0 v1 v3 (v4 + 1)
set_option maxRecDepth 100000 in
set_option maxHeartbeats 4000000 in
theorem r_O_count_3 {X : zCX} (o : zOK X "WantShelves$Orders" c_O_count n_O_count 1) {k3 : zSt → Nat → Int64 → Int32 → Int32 → Option (zSt)} (hk3 : ∀ {σ : zSt} {v0 : Nat} {v1 : Int64} {v3 : Int32} {v4 : Int32} {z : zSt}, k3 σ v0 v1 v3 v4 = some z → zRX X 0 0 none z → zPJ X 0 0 3 [(0, .ref v0), (1, .long v1), (3, .int v3), (4, .int v4)] [] σ) {σ : zSt} {v0 : Nat} {v1 : Int64} {v3 : Int32} {v4 : Int32} {z : zSt} (h : f_O_count_3 k3 σ v0 v1 v3 v4 = some z) (hr : zRX X 0 0 none z) : zPJ X 0 0 3 [(0, .ref v0), (1, .long v1), (3, .int v3), (4, .int v4)] [] σ := by
  unfold f_O_count_3 at h
  refine zj_iload o (zdd k_O_count 2 rfl) 3 rfl ?_
  refine zj_aload_n o (zdd k_O_count 3 rfl) rfl 0 rfl ?_
  obtain ⟨x1, e_x1, h⟩ := zbd h
  refine zj_gI o (zdd k_O_count 4 rfl) fl_O_24 rfl e_x1 ?_
  refine zj_icmp_ge (tgt := 42) o (zdd k_O_count 5 rfl) (by decide) (fun hc => ?_) (fun hc => ?_)
  · rw [if_pos hc] at h
    exact zj_sub [0, 1, 2] rfl (r_O_count_42 o  h hr)
  · rw [if_neg hc] at h
    refine zj_aload_n o (zdd k_O_count 6 rfl) rfl 0 rfl ?_
    obtain ⟨a2, e_a2, h⟩ := zbd h
    refine zj_gP o (zdd k_O_count 7 rfl) fl_O_11 rfl e_a2 ?_
    refine zj_iload o (zdd k_O_count 8 rfl) 3 rfl ?_
    obtain ⟨x3, e_x3, h⟩ := zbd h
    refine zj_lald o (zdd k_O_count 9 rfl) e_x3 ?_
    refine zj_lload_n o (zdd k_O_count 10 rfl) rfl 1 rfl ?_
    refine zj_lcmp o (zdd k_O_count 11 rfl) ?_
    refine zj_if_ne (tgt := 36) o (zdd k_O_count 12 rfl) (by decide) (fun hc => ?_) (fun hc => ?_)
    · rw [if_neg hc] at h
      refine zj_iinc (v := v4 + 1) (loc' := [(4, .int (v4 + 1)), (0, .ref v0), (1, .long v1), (3, .int v3)]) o (zdd k_O_count 22 rfl) 3 rfl (by rw [zki_1]) (by decide) rfl ?_
      refine zj_goto (tgt := 3) o (zdd k_O_count 23 rfl) (by decide) ?_
      exact zj_sub [1, 2, 3, 0] rfl (hk3 h hr)
    · rw [if_pos hc] at h
      exact zj_sub [0, 3] rfl (r_O_count_24 o  h hr)
def f_O_count_3L : Nat → zSt → Nat → Int64 → Int32 → Int32 → Option (zSt)
  | 0 => fun _ _ _ _ _ => none
  | n + 1 => f_O_count_3  (f_O_count_3L  n)
theorem r_O_count_3L {X : zCX} (o : zOK X "WantShelves$Orders" c_O_count n_O_count 1) : ∀ (n : Nat) {σ : zSt} {v0 : Nat} {v1 : Int64} {v3 : Int32} {v4 : Int32} {z : zSt}, f_O_count_3L n σ v0 v1 v3 v4 = some z → zRX X 0 0 none z → zPJ X 0 0 3 [(0, .ref v0), (1, .long v1), (3, .int v3), (4, .int v4)] [] σ
  | 0 => fun h _ => by cases h
  | n + 1 => fun h hr => r_O_count_3 o (r_O_count_3L o  n) h hr
def f_O_count (σ : zSt) (t : Nat) (p0 : Int64) (p1 : Int32) : Option (zSt) :=
zg σ 5 t (
f_O_count_3L zfu σ t p0 p1 0)
set_option maxRecDepth 100000 in
set_option maxHeartbeats 4000000 in
theorem m_O_count {l : Launch} {b : Nat} {ex : Nat → Value} {D : va_G} {ca : Nat → ClassId} {σ : zSt} {t : Nat} {p0 : Int64} {p1 : Int32} {z : zSt} (h : f_O_count σ t p0 p1 = some z) : zMT l b ex D ca 1 y_O_count c_O_count n_O_count r_ret_O_count [.ref t, .long p0, .int p1] σ none z 0 0 := by
  obtain ⟨_, hg0⟩ := zg_some h
  have h := hg0
  refine zmt_of (by decide) (Nat.le_of_ble_eq_true rfl) rfl (fun X o hin hrm _ _ _ _ _ hr => ?_)
  have hr := hr 0 0 (by decide) (by decide)
  have o : zOK X "WantShelves$Orders" c_O_count n_O_count 1 := o
  change zPJ X 0 0 0 [(0, .ref t), (1, .long p0), (3, .int p1)] [] σ
  refine zj_iconst o (zdd k_O_count 0 rfl) zki_0 ?_
  refine zj_istore (loc' := [(4, .int 0), (0, .ref t), (1, .long p0), (3, .int p1)]) o (zdd k_O_count 1 rfl) (by decide) rfl ?_
  exact zj_sub [1, 2, 3, 0] rfl (r_O_count_3L o  zfu h hr)
def f_O_collect_16 (k16 : zSt → Nat → Nat → Nat → Int32 → Int32 → Option (zSt)) (σ : zSt) (v0 : Nat) (v1 : Nat) (v2 : Nat) (v3 : Int32) (v4 : Int32) : Option (zSt) :=
(f_R_size σ v2).bind fun x1 =>
if x1 ≤ v4 then (
some σ) else
(f_R_wear σ v2 v1 v4).bind fun σ2 =>
(f_S_lay σ2 v1 (1 <<< (v3 &&& 31))).bind fun σ3 =>
(f_S_laidAsNumber σ3 v1).bind fun x4 =>
(f_O_count σ3 v0 x4 v4).bind fun σ5 =>
k16 σ5 v0 v1 v2 v3 (v4 + 1)
set_option maxRecDepth 100000 in
set_option maxHeartbeats 4000000 in
theorem r_O_collect_16 {X : zCX} (o : zOK X "WantShelves$Orders" c_O_collect n_O_collect 5) {k16 : zSt → Nat → Nat → Nat → Int32 → Int32 → Option (zSt)} (hk16 : ∀ {σ : zSt} {v0 : Nat} {v1 : Nat} {v2 : Nat} {v3 : Int32} {v4 : Int32} {z : zSt}, k16 σ v0 v1 v2 v3 v4 = some z → zRX X 0 0 none z → zPJ X 0 0 16 [(0, .ref v0), (1, .ref v1), (2, .ref v2), (3, .int v3), (4, .int v4)] [] σ) {σ : zSt} {v0 : Nat} {v1 : Nat} {v2 : Nat} {v3 : Int32} {v4 : Int32} {z : zSt} (h : f_O_collect_16 k16 σ v0 v1 v2 v3 v4 = some z) (hr : zRX X 0 0 none z) : zPJ X 0 0 16 [(0, .ref v0), (1, .ref v1), (2, .ref v2), (3, .int v3), (4, .int v4)] [] σ := by
  unfold f_O_collect_16 at h
  refine zj_iload o (zdd k_O_collect 9 rfl) 4 rfl ?_
  refine zj_aload_n o (zdd k_O_collect 10 rfl) rfl 2 rfl ?_
  obtain ⟨x1, e_x1, h⟩ := zbd h
  refine zc_V o (zdd k_O_collect 11 rfl) ml_O_37 mv_R_size ⟨rfl, by decide⟩ (zg_some e_x1).1 (by decide) [] [.int v4] rfl (Nat.le_of_ble_eq_true rfl) rfl (m_R_size e_x1) ?_
  change zPJ X 0 0 _ _ [.int x1, .int v4] _
  refine zj_icmp_ge (tgt := 55) o (zdd k_O_collect 12 rfl) (by decide) (fun hc => ?_) (fun hc => ?_)
  · rw [if_pos hc] at h
    cases h
    exact zr_v o hr (zdd k_O_collect 29 rfl)
  · rw [if_neg hc] at h
    refine zj_aload_n o (zdd k_O_collect 13 rfl) rfl 2 rfl ?_
    refine zj_aload_n o (zdd k_O_collect 14 rfl) rfl 1 rfl ?_
    refine zj_iload o (zdd k_O_collect 15 rfl) 4 rfl ?_
    obtain ⟨σ2, e_σ2, h⟩ := zbd h
    refine zc_V o (zdd k_O_collect 16 rfl) ml_O_39 mv_R_wear ⟨rfl, by decide⟩ (zg_some e_σ2).1 (by decide) [.ref v1, .int v4] [] rfl (Nat.le_of_ble_eq_true rfl) rfl (m_R_wear e_σ2) ?_
    change zPJ X 0 0 _ _ [] _
    refine zj_aload_n o (zdd k_O_collect 17 rfl) rfl 1 rfl ?_
    refine zj_iconst o (zdd k_O_collect 18 rfl) zki_1 ?_
    refine zj_iload_n o (zdd k_O_collect 19 rfl) rfl 3 rfl ?_
    refine zj_ishl o (zdd k_O_collect 20 rfl) ?_
    obtain ⟨σ3, e_σ3, h⟩ := zbd h
    refine zc_V o (zdd k_O_collect 21 rfl) ml_O_43 mv_S_lay ⟨rfl, by decide⟩ (zg_some e_σ3).1 (by decide) [.int (1 <<< (v3 &&& 31))] [] rfl (Nat.le_of_ble_eq_true rfl) rfl (m_S_lay e_σ3) ?_
    change zPJ X 0 0 _ _ [] _
    refine zj_aload_n o (zdd k_O_collect 22 rfl) rfl 0 rfl ?_
    refine zj_aload_n o (zdd k_O_collect 23 rfl) rfl 1 rfl ?_
    obtain ⟨x4, e_x4, h⟩ := zbd h
    refine zc_V o (zdd k_O_collect 24 rfl) ml_O_47 mv_S_laidAsNumber ⟨rfl, by decide⟩ (zg_some e_x4).1 (by decide) [] [.ref v0] rfl (Nat.le_of_ble_eq_true rfl) rfl (m_S_laidAsNumber e_x4) ?_
    change zPJ X 0 0 _ _ [.long x4, .ref v0] _
    refine zj_iload o (zdd k_O_collect 25 rfl) 4 rfl ?_
    obtain ⟨σ5, e_σ5, h⟩ := zbd h
    refine zc_V o (zdd k_O_collect 26 rfl) ml_O_51 mv_O_count ⟨rfl, by decide⟩ (zg_some e_σ5).1 (by decide) [.long x4, .int v4] [] rfl (Nat.le_of_ble_eq_true rfl) rfl (m_O_count e_σ5) ?_
    change zPJ X 0 0 _ _ [] _
    refine zj_iinc (v := v4 + 1) (loc' := [(4, .int (v4 + 1)), (0, .ref v0), (1, .ref v1), (2, .ref v2), (3, .int v3)]) o (zdd k_O_collect 27 rfl) 4 rfl (by rw [zki_1]) (by decide) rfl ?_
    refine zj_goto (tgt := 16) o (zdd k_O_collect 28 rfl) (by decide) ?_
    exact zj_sub [1, 2, 3, 4, 0] rfl (hk16 h hr)
def f_O_collect_16L : Nat → zSt → Nat → Nat → Nat → Int32 → Int32 → Option (zSt)
  | 0 => fun _ _ _ _ _ _ => none
  | n + 1 => f_O_collect_16  (f_O_collect_16L  n)
theorem r_O_collect_16L {X : zCX} (o : zOK X "WantShelves$Orders" c_O_collect n_O_collect 5) : ∀ (n : Nat) {σ : zSt} {v0 : Nat} {v1 : Nat} {v2 : Nat} {v3 : Int32} {v4 : Int32} {z : zSt}, f_O_collect_16L n σ v0 v1 v2 v3 v4 = some z → zRX X 0 0 none z → zPJ X 0 0 16 [(0, .ref v0), (1, .ref v1), (2, .ref v2), (3, .int v3), (4, .int v4)] [] σ
  | 0 => fun h _ => by cases h
  | n + 1 => fun h hr => r_O_collect_16 o (r_O_collect_16L o  n) h hr
def f_O_collect (σ : zSt) (t : Nat) (p0 : Nat) (p1 : Nat) (p2 : Int32) : Option (zSt) :=
zg σ 5 t (
(zsI σ 5 t 3 0).bind fun σ1 =>
(f_S_countHere σ1 p0).bind fun x2 =>
(zsI σ1 5 t 4 x2).bind fun σ3 =>
f_O_collect_16L zfu σ3 t p0 p1 p2 0)
set_option maxRecDepth 100000 in
set_option maxHeartbeats 4000000 in
theorem m_O_collect {l : Launch} {b : Nat} {ex : Nat → Value} {D : va_G} {ca : Nat → ClassId} {σ : zSt} {t : Nat} {p0 : Nat} {p1 : Nat} {p2 : Int32} {z : zSt} (h : f_O_collect σ t p0 p1 p2 = some z) : zMT l b ex D ca 5 y_O_collect c_O_collect n_O_collect r_ret_O_collect [.ref t, .ref p0, .ref p1, .int p2] σ none z 0 0 := by
  obtain ⟨_, hg0⟩ := zg_some h
  have h := hg0
  refine zmt_of (by decide) (Nat.le_of_ble_eq_true rfl) rfl (fun X o hin hrm _ _ _ _ _ hr => ?_)
  have hr := hr 0 0 (by decide) (by decide)
  have o : zOK X "WantShelves$Orders" c_O_collect n_O_collect 5 := o
  change zPJ X 0 0 0 [(0, .ref t), (1, .ref p0), (2, .ref p1), (3, .int p2)] [] σ
  refine zj_aload_n o (zdd k_O_collect 0 rfl) rfl 0 rfl ?_
  refine zj_iconst o (zdd k_O_collect 1 rfl) zki_0 ?_
  obtain ⟨σ1, e_σ1, h⟩ := zbd h
  refine zj_pI o (zdd k_O_collect 2 rfl) fl_O_24 rfl rfl e_σ1 ?_
  refine zj_aload_n o (zdd k_O_collect 3 rfl) rfl 0 rfl ?_
  refine zj_aload_n o (zdd k_O_collect 4 rfl) rfl 1 rfl ?_
  obtain ⟨x2, e_x2, h⟩ := zbd h
  refine zc_V o (zdd k_O_collect 5 rfl) ml_O_28 mv_S_countHere ⟨rfl, by decide⟩ (zg_some e_x2).1 (by decide) [] [.ref t] rfl (Nat.le_of_ble_eq_true rfl) rfl (m_S_countHere e_x2) ?_
  change zPJ X 0 0 _ _ [.int x2, .ref t] _
  obtain ⟨σ3, e_σ3, h⟩ := zbd h
  refine zj_pI o (zdd k_O_collect 6 rfl) fl_O_34 rfl rfl e_σ3 ?_
  refine zj_iconst o (zdd k_O_collect 7 rfl) zki_0 ?_
  refine zj_istore (loc' := [(4, .int 0), (0, .ref t), (1, .ref p0), (2, .ref p1), (3, .int p2)]) o (zdd k_O_collect 8 rfl) (by decide) rfl ?_
  exact zj_sub [1, 2, 3, 4, 0] rfl (r_O_collect_16L o  zfu h hr)
def f_O_placeIn_11 (k11 : zSt → Int32 → Int64 → Int32 → Option (Int32)) (σ : zSt) (v3 : Int32) (v4 : Int64) (v6 : Int32) : Option (Int32) :=
if v6 < 0 then (
some 10) else
if lg_cmp (zremL v4 16) (Int32.toInt64 v3) = 0 then (
some v6) else
k11 σ v3 (v4 / 16) (v6 + (-1))
set_option maxRecDepth 100000 in
set_option maxHeartbeats 4000000 in
theorem r_O_placeIn_11 {X : zCX} (o : zOK X "WantShelves$Orders" c_O_placeIn n_O_placeIn 1) {k11 : zSt → Int32 → Int64 → Int32 → Option (Int32)} (hk11 : ∀ {σ : zSt} {v3 : Int32} {v4 : Int64} {v6 : Int32} {z : Int32}, k11 σ v3 v4 v6 = some z → zRX X 0 0 (some (.int z)) σ → zPJ X 0 0 11 [(3, .int v3), (4, .long v4), (6, .int v6)] [] σ) {σ : zSt} {v3 : Int32} {v4 : Int64} {v6 : Int32} {z : Int32} (h : f_O_placeIn_11 k11 σ v3 v4 v6 = some z) (hr : zRX X 0 0 (some (.int z)) σ) : zPJ X 0 0 11 [(3, .int v3), (4, .long v4), (6, .int v6)] [] σ := by
  unfold f_O_placeIn_11 at h
  refine zj_iload o (zdd k_O_placeIn 7 rfl) 2 rfl ?_
  refine zj_if_lt (tgt := 45) o (zdd k_O_placeIn 8 rfl) (by decide) (fun hc => ?_) (fun hc => ?_)
  · rw [if_pos hc] at h
    refine zj_bipush o (zdd k_O_placeIn 24 rfl) zkb_10 ?_
    cases h
    exact zr_i o hr (zdd k_O_placeIn 25 rfl)
  · rw [if_neg hc] at h
    refine zj_lload o (zdd k_O_placeIn 9 rfl) 1 rfl ?_
    refine zj_ldc2 o (zdd k_O_placeIn 10 rfl) lc_O_59 ?_
    refine zj_lrem o (zdd k_O_placeIn 11 rfl) (by decide) ?_
    change zPJ X 0 0 _ _ [.long (zremL v4 16)] _
    refine zj_iload_n o (zdd k_O_placeIn 12 rfl) rfl 0 rfl ?_
    refine zj_i2l o (zdd k_O_placeIn 13 rfl) ?_
    refine zj_lcmp o (zdd k_O_placeIn 14 rfl) ?_
    refine zj_if_ne (tgt := 31) o (zdd k_O_placeIn 15 rfl) (by decide) (fun hc => ?_) (fun hc => ?_)
    · rw [if_neg hc] at h
      refine zj_lload o (zdd k_O_placeIn 18 rfl) 1 rfl ?_
      refine zj_ldc2 o (zdd k_O_placeIn 19 rfl) lc_O_59 ?_
      refine zj_ldiv o (zdd k_O_placeIn 20 rfl) (by decide) ?_
      refine zj_lstore (loc' := [(4, .long (v4 / 16)), (3, .int v3), (6, .int v6)]) o (zdd k_O_placeIn 21 rfl) (by decide) rfl ?_
      refine zj_iinc (v := v6 + (-1)) (loc' := [(6, .int (v6 + (-1))), (4, .long (v4 / 16)), (3, .int v3)]) o (zdd k_O_placeIn 22 rfl) 2 rfl (by rw [zki_m1]) (by decide) rfl ?_
      refine zj_goto (tgt := 11) o (zdd k_O_placeIn 23 rfl) (by decide) ?_
      exact zj_sub [2, 1, 0] rfl (hk11 h hr)
    · rw [if_pos hc] at h
      refine zj_iload o (zdd k_O_placeIn 16 rfl) 2 rfl ?_
      cases h
      exact zr_i o hr (zdd k_O_placeIn 17 rfl)
def f_O_placeIn_11L : Nat → zSt → Int32 → Int64 → Int32 → Option (Int32)
  | 0 => fun _ _ _ _ => none
  | n + 1 => f_O_placeIn_11  (f_O_placeIn_11L  n)
theorem r_O_placeIn_11L {X : zCX} (o : zOK X "WantShelves$Orders" c_O_placeIn n_O_placeIn 1) : ∀ (n : Nat) {σ : zSt} {v3 : Int32} {v4 : Int64} {v6 : Int32} {z : Int32}, f_O_placeIn_11L n σ v3 v4 v6 = some z → zRX X 0 0 (some (.int z)) σ → zPJ X 0 0 11 [(3, .int v3), (4, .long v4), (6, .int v6)] [] σ
  | 0 => fun h _ => by cases h
  | n + 1 => fun h hr => r_O_placeIn_11 o (r_O_placeIn_11L o  n) h hr
def f_O_placeIn (σ : zSt) (t : Nat) (p0 : Int64) (p1 : Int32) : Option (Int32) :=
zg σ 5 t (
(zgI σ 5 t 4).bind fun x1 =>
f_O_placeIn_11L zfu σ p1 p0 (x1 - 1))
set_option maxRecDepth 100000 in
set_option maxHeartbeats 4000000 in
theorem m_O_placeIn {l : Launch} {b : Nat} {ex : Nat → Value} {D : va_G} {ca : Nat → ClassId} {σ : zSt} {t : Nat} {p0 : Int64} {p1 : Int32} {z : Int32} (h : f_O_placeIn σ t p0 p1 = some z) : zMT l b ex D ca 1 y_O_placeIn c_O_placeIn n_O_placeIn r_ret_O_placeIn [.ref t, .long p0, .int p1] σ (some (.int z)) σ 0 0 := by
  obtain ⟨_, hg0⟩ := zg_some h
  have h := hg0
  refine zmt_of (by decide) (Nat.le_of_ble_eq_true rfl) ⟨.int, rfl, rfl⟩ (fun X o hin hrm _ _ _ _ _ hr => ?_)
  have hr := hr 0 0 (by decide) (by decide)
  have o : zOK X "WantShelves$Orders" c_O_placeIn n_O_placeIn 1 := o
  change zPJ X 0 0 0 [(0, .ref t), (1, .long p0), (3, .int p1)] [] σ
  refine zj_lload_n o (zdd k_O_placeIn 0 rfl) rfl 1 rfl ?_
  refine zj_lstore (loc' := [(4, .long p0), (0, .ref t), (1, .long p0), (3, .int p1)]) o (zdd k_O_placeIn 1 rfl) (by decide) rfl ?_
  refine zj_aload_n o (zdd k_O_placeIn 2 rfl) rfl 1 rfl ?_
  obtain ⟨x1, e_x1, h⟩ := zbd h
  refine zj_gI o (zdd k_O_placeIn 3 rfl) fl_O_34 rfl e_x1 ?_
  refine zj_iconst o (zdd k_O_placeIn 4 rfl) zki_1 ?_
  refine zj_isub o (zdd k_O_placeIn 5 rfl) ?_
  refine zj_istore (loc' := [(6, .int (x1 - 1)), (4, .long p0), (0, .ref t), (1, .long p0), (3, .int p1)]) o (zdd k_O_placeIn 6 rfl) (by decide) rfl ?_
  exact zj_sub [4, 1, 0] rfl (r_O_placeIn_11L o  zfu h hr)
def f_O_mostHad_5 (k5 : zSt → Nat → Int32 → Int32 → Int32 → Int32 → Option (Int32)) (σ : zSt) (v0 : Nat) (v1 : Int32) (v2 : Int32) (v3 : Int32) (v4 : Int32) : Option (Int32) :=
(zgI σ 5 v0 3).bind fun x1 =>
if x1 ≤ v4 then (
some v3) else
(zgP σ 5 v0 0).bind fun a2 =>
(zaJ σ a2 v4).bind fun x3 =>
(f_O_placeIn σ v0 x3 v1).bind fun x4 =>
if v2 < x4 then (
k5 σ v0 v1 v2 v3 (v4 + 1)) else
if v3 = (-1) then (
k5 σ v0 v1 v2 v4 (v4 + 1)) else
(zgP σ 5 v0 2).bind fun a5 =>
(zaI σ 1 a5 v4).bind fun x6 =>
(zgP σ 5 v0 2).bind fun a7 =>
(zaI σ 1 a7 v3).bind fun x8 =>
if x6 ≤ x8 then (
k5 σ v0 v1 v2 v3 (v4 + 1)) else
k5 σ v0 v1 v2 v4 (v4 + 1)
set_option maxRecDepth 100000 in
set_option maxHeartbeats 4000000 in
theorem r_O_mostHad_5 {X : zCX} (o : zOK X "WantShelves$Orders" c_O_mostHad n_O_mostHad 2) {k5 : zSt → Nat → Int32 → Int32 → Int32 → Int32 → Option (Int32)} (hk5 : ∀ {σ : zSt} {v0 : Nat} {v1 : Int32} {v2 : Int32} {v3 : Int32} {v4 : Int32} {z : Int32}, k5 σ v0 v1 v2 v3 v4 = some z → zRX X 0 0 (some (.int z)) σ → zPJ X 0 0 5 [(0, .ref v0), (1, .int v1), (2, .int v2), (3, .int v3), (4, .int v4)] [] σ) {σ : zSt} {v0 : Nat} {v1 : Int32} {v2 : Int32} {v3 : Int32} {v4 : Int32} {z : Int32} (h : f_O_mostHad_5 k5 σ v0 v1 v2 v3 v4 = some z) (hr : zRX X 0 0 (some (.int z)) σ) : zPJ X 0 0 5 [(0, .ref v0), (1, .int v1), (2, .int v2), (3, .int v3), (4, .int v4)] [] σ := by
  unfold f_O_mostHad_5 at h
  refine zj_iload o (zdd k_O_mostHad 4 rfl) 4 rfl ?_
  refine zj_aload_n o (zdd k_O_mostHad 5 rfl) rfl 0 rfl ?_
  obtain ⟨x1, e_x1, h⟩ := zbd h
  refine zj_gI o (zdd k_O_mostHad 6 rfl) fl_O_24 rfl e_x1 ?_
  refine zj_icmp_ge (tgt := 60) o (zdd k_O_mostHad 7 rfl) (by decide) (fun hc => ?_) (fun hc => ?_)
  · rw [if_pos hc] at h
    refine zj_iload_n o (zdd k_O_mostHad 33 rfl) rfl 3 rfl ?_
    cases h
    exact zr_i o hr (zdd k_O_mostHad 34 rfl)
  · rw [if_neg hc] at h
    refine zj_aload_n o (zdd k_O_mostHad 8 rfl) rfl 0 rfl ?_
    refine zj_aload_n o (zdd k_O_mostHad 9 rfl) rfl 0 rfl ?_
    obtain ⟨a2, e_a2, h⟩ := zbd h
    refine zj_gP o (zdd k_O_mostHad 10 rfl) fl_O_11 rfl e_a2 ?_
    refine zj_iload o (zdd k_O_mostHad 11 rfl) 4 rfl ?_
    obtain ⟨x3, e_x3, h⟩ := zbd h
    refine zj_lald o (zdd k_O_mostHad 12 rfl) e_x3 ?_
    refine zj_iload_n o (zdd k_O_mostHad 13 rfl) rfl 1 rfl ?_
    obtain ⟨x4, e_x4, h⟩ := zbd h
    refine zc_V o (zdd k_O_mostHad 14 rfl) ml_O_55 mv_O_placeIn ⟨rfl, by decide⟩ (zg_some e_x4).1 (by decide) [.long x3, .int v1] [] rfl (Nat.le_of_ble_eq_true rfl) rfl (m_O_placeIn e_x4) ?_
    change zPJ X 0 0 _ _ [.int x4] _
    refine zj_iload_n o (zdd k_O_mostHad 15 rfl) rfl 2 rfl ?_
    refine zj_icmp_gt (tgt := 54) o (zdd k_O_mostHad 16 rfl) (by decide) (fun hc => ?_) (fun hc => ?_)
    · rw [if_pos hc] at h
      refine zj_iinc (v := v4 + 1) (loc' := [(4, .int (v4 + 1)), (0, .ref v0), (1, .int v1), (2, .int v2), (3, .int v3)]) o (zdd k_O_mostHad 31 rfl) 4 rfl (by rw [zki_1]) (by decide) rfl ?_
      refine zj_goto (tgt := 5) o (zdd k_O_mostHad 32 rfl) (by decide) ?_
      exact zj_sub [1, 2, 3, 4, 0] rfl (hk5 h hr)
    · rw [if_neg hc] at h
      refine zj_iload_n o (zdd k_O_mostHad 17 rfl) rfl 3 rfl ?_
      refine zj_iconst o (zdd k_O_mostHad 18 rfl) zki_m1 ?_
      refine zj_icmp_eq (tgt := 51) o (zdd k_O_mostHad 19 rfl) (by decide) (fun hc => ?_) (fun hc => ?_)
      · rw [if_pos hc] at h
        refine zj_iload o (zdd k_O_mostHad 29 rfl) 4 rfl ?_
        refine zj_istore_n (loc' := [(3, .int v4), (0, .ref v0), (1, .int v1), (2, .int v2), (4, .int v4)]) o (zdd k_O_mostHad 30 rfl) rfl (by decide) rfl ?_
        refine zj_iinc (v := v4 + 1) (loc' := [(4, .int (v4 + 1)), (3, .int v4), (0, .ref v0), (1, .int v1), (2, .int v2)]) o (zdd k_O_mostHad 31 rfl) 4 rfl (by rw [zki_1]) (by decide) rfl ?_
        refine zj_goto (tgt := 5) o (zdd k_O_mostHad 32 rfl) (by decide) ?_
        exact zj_sub [2, 3, 4, 1, 0] rfl (hk5 h hr)
      · rw [if_neg hc] at h
        refine zj_aload_n o (zdd k_O_mostHad 20 rfl) rfl 0 rfl ?_
        obtain ⟨a5, e_a5, h⟩ := zbd h
        refine zj_gP o (zdd k_O_mostHad 21 rfl) fl_O_21 rfl e_a5 ?_
        refine zj_iload o (zdd k_O_mostHad 22 rfl) 4 rfl ?_
        obtain ⟨x6, e_x6, h⟩ := zbd h
        refine zj_iald o (zdd k_O_mostHad 23 rfl) e_x6 ?_
        refine zj_aload_n o (zdd k_O_mostHad 24 rfl) rfl 0 rfl ?_
        obtain ⟨a7, e_a7, h⟩ := zbd h
        refine zj_gP o (zdd k_O_mostHad 25 rfl) fl_O_21 rfl e_a7 ?_
        refine zj_iload_n o (zdd k_O_mostHad 26 rfl) rfl 3 rfl ?_
        obtain ⟨x8, e_x8, h⟩ := zbd h
        refine zj_iald o (zdd k_O_mostHad 27 rfl) e_x8 ?_
        refine zj_icmp_le (tgt := 54) o (zdd k_O_mostHad 28 rfl) (by decide) (fun hc => ?_) (fun hc => ?_)
        · rw [if_pos hc] at h
          refine zj_iinc (v := v4 + 1) (loc' := [(4, .int (v4 + 1)), (0, .ref v0), (1, .int v1), (2, .int v2), (3, .int v3)]) o (zdd k_O_mostHad 31 rfl) 4 rfl (by rw [zki_1]) (by decide) rfl ?_
          refine zj_goto (tgt := 5) o (zdd k_O_mostHad 32 rfl) (by decide) ?_
          exact zj_sub [1, 2, 3, 4, 0] rfl (hk5 h hr)
        · rw [if_neg hc] at h
          refine zj_iload o (zdd k_O_mostHad 29 rfl) 4 rfl ?_
          refine zj_istore_n (loc' := [(3, .int v4), (0, .ref v0), (1, .int v1), (2, .int v2), (4, .int v4)]) o (zdd k_O_mostHad 30 rfl) rfl (by decide) rfl ?_
          refine zj_iinc (v := v4 + 1) (loc' := [(4, .int (v4 + 1)), (3, .int v4), (0, .ref v0), (1, .int v1), (2, .int v2)]) o (zdd k_O_mostHad 31 rfl) 4 rfl (by rw [zki_1]) (by decide) rfl ?_
          refine zj_goto (tgt := 5) o (zdd k_O_mostHad 32 rfl) (by decide) ?_
          exact zj_sub [2, 3, 4, 1, 0] rfl (hk5 h hr)
def f_O_mostHad_5L : Nat → zSt → Nat → Int32 → Int32 → Int32 → Int32 → Option (Int32)
  | 0 => fun _ _ _ _ _ _ => none
  | n + 1 => f_O_mostHad_5  (f_O_mostHad_5L  n)
theorem r_O_mostHad_5L {X : zCX} (o : zOK X "WantShelves$Orders" c_O_mostHad n_O_mostHad 2) : ∀ (n : Nat) {σ : zSt} {v0 : Nat} {v1 : Int32} {v2 : Int32} {v3 : Int32} {v4 : Int32} {z : Int32}, f_O_mostHad_5L n σ v0 v1 v2 v3 v4 = some z → zRX X 0 0 (some (.int z)) σ → zPJ X 0 0 5 [(0, .ref v0), (1, .int v1), (2, .int v2), (3, .int v3), (4, .int v4)] [] σ
  | 0 => fun h _ => by cases h
  | n + 1 => fun h hr => r_O_mostHad_5 o (r_O_mostHad_5L o  n) h hr
def f_O_mostHad (σ : zSt) (t : Nat) (p0 : Int32) (p1 : Int32) : Option (Int32) :=
zg σ 5 t (
f_O_mostHad_5L zfu σ t p0 p1 (-1) 0)
set_option maxRecDepth 100000 in
set_option maxHeartbeats 4000000 in
theorem m_O_mostHad {l : Launch} {b : Nat} {ex : Nat → Value} {D : va_G} {ca : Nat → ClassId} {σ : zSt} {t : Nat} {p0 : Int32} {p1 : Int32} {z : Int32} (h : f_O_mostHad σ t p0 p1 = some z) : zMT l b ex D ca 2 y_O_mostHad c_O_mostHad n_O_mostHad r_ret_O_mostHad [.ref t, .int p0, .int p1] σ (some (.int z)) σ 0 0 := by
  obtain ⟨_, hg0⟩ := zg_some h
  have h := hg0
  refine zmt_of (by decide) (Nat.le_of_ble_eq_true rfl) ⟨.int, rfl, rfl⟩ (fun X o hin hrm _ _ _ _ _ hr => ?_)
  have hr := hr 0 0 (by decide) (by decide)
  have o : zOK X "WantShelves$Orders" c_O_mostHad n_O_mostHad 2 := o
  change zPJ X 0 0 0 [(0, .ref t), (1, .int p0), (2, .int p1)] [] σ
  refine zj_iconst o (zdd k_O_mostHad 0 rfl) zki_m1 ?_
  refine zj_istore_n (loc' := [(3, .int (-1)), (0, .ref t), (1, .int p0), (2, .int p1)]) o (zdd k_O_mostHad 1 rfl) rfl (by decide) rfl ?_
  refine zj_iconst o (zdd k_O_mostHad 2 rfl) zki_0 ?_
  refine zj_istore (loc' := [(4, .int 0), (3, .int (-1)), (0, .ref t), (1, .int p0), (2, .int p1)]) o (zdd k_O_mostHad 3 rfl) (by decide) rfl ?_
  exact zj_sub [2, 3, 4, 1, 0] rfl (r_O_mostHad_5L o  zfu h hr)
def f_O_firstRow (σ : zSt) (t : Nat) (p0 : Int32) : Option (Int32) :=
zg σ 5 t (
(zgP σ 5 t 1).bind fun a1 =>
(zaI σ 1 a1 p0).bind fun x2 =>
some x2)
set_option maxRecDepth 100000 in
set_option maxHeartbeats 4000000 in
theorem m_O_firstRow {l : Launch} {b : Nat} {ex : Nat → Value} {D : va_G} {ca : Nat → ClassId} {σ : zSt} {t : Nat} {p0 : Int32} {z : Int32} (h : f_O_firstRow σ t p0 = some z) : zMT l b ex D ca 1 y_O_firstRow c_O_firstRow n_O_firstRow r_ret_O_firstRow [.ref t, .int p0] σ (some (.int z)) σ 0 0 := by
  obtain ⟨_, hg0⟩ := zg_some h
  have h := hg0
  refine zmt_of (by decide) (Nat.le_of_ble_eq_true rfl) ⟨.int, rfl, rfl⟩ (fun X o hin hrm _ _ _ _ _ hr => ?_)
  have hr := hr 0 0 (by decide) (by decide)
  have o : zOK X "WantShelves$Orders" c_O_firstRow n_O_firstRow 1 := o
  change zPJ X 0 0 0 [(0, .ref t), (1, .int p0)] [] σ
  refine zj_aload_n o (zdd k_O_firstRow 0 rfl) rfl 0 rfl ?_
  obtain ⟨a1, e_a1, h⟩ := zbd h
  refine zj_gP o (zdd k_O_firstRow 1 rfl) fl_O_17 rfl e_a1 ?_
  refine zj_iload_n o (zdd k_O_firstRow 2 rfl) rfl 1 rfl ?_
  obtain ⟨x2, e_x2, h⟩ := zbd h
  refine zj_iald o (zdd k_O_firstRow 3 rfl) e_x2 ?_
  cases h
  exact zr_i o hr (zdd k_O_firstRow 4 rfl)
def f_O_howMany (σ : zSt) (t : Nat) (p0 : Int32) : Option (Int32) :=
zg σ 5 t (
(zgP σ 5 t 2).bind fun a1 =>
(zaI σ 1 a1 p0).bind fun x2 =>
some x2)
set_option maxRecDepth 100000 in
set_option maxHeartbeats 4000000 in
theorem m_O_howMany {l : Launch} {b : Nat} {ex : Nat → Value} {D : va_G} {ca : Nat → ClassId} {σ : zSt} {t : Nat} {p0 : Int32} {z : Int32} (h : f_O_howMany σ t p0 = some z) : zMT l b ex D ca 1 y_O_howMany c_O_howMany n_O_howMany r_ret_O_howMany [.ref t, .int p0] σ (some (.int z)) σ 0 0 := by
  obtain ⟨_, hg0⟩ := zg_some h
  have h := hg0
  refine zmt_of (by decide) (Nat.le_of_ble_eq_true rfl) ⟨.int, rfl, rfl⟩ (fun X o hin hrm _ _ _ _ _ hr => ?_)
  have hr := hr 0 0 (by decide) (by decide)
  have o : zOK X "WantShelves$Orders" c_O_howMany n_O_howMany 1 := o
  change zPJ X 0 0 0 [(0, .ref t), (1, .int p0)] [] σ
  refine zj_aload_n o (zdd k_O_howMany 0 rfl) rfl 0 rfl ?_
  obtain ⟨a1, e_a1, h⟩ := zbd h
  refine zj_gP o (zdd k_O_howMany 1 rfl) fl_O_21 rfl e_a1 ?_
  refine zj_iload_n o (zdd k_O_howMany 2 rfl) rfl 1 rfl ?_
  obtain ⟨x2, e_x2, h⟩ := zbd h
  refine zj_iald o (zdd k_O_howMany 3 rfl) e_x2 ?_
  cases h
  exact zr_i o hr (zdd k_O_howMany 4 rfl)
