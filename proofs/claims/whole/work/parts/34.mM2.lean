def f_M_hasBracket_4 (k4 : zSt → Nat → Int32 → Int32 → Option (Int32)) (σ : zSt) (v0 : Nat) (v1 : Int32) (v2 : Int32) : Option (Int32) :=
(zgI σ 12 v0 20).bind fun x1 =>
if x1 ≤ v2 then (
some v1) else
if v1 = 0 then (
(zgP σ 12 v0 17).bind fun a2 =>
(zaI σ 1 a2 v2).bind fun x3 =>
if x3 = 20 then (
k4 σ v0 1 (v2 + 1)) else
k4 σ v0 0 (v2 + 1)) else
k4 σ v0 1 (v2 + 1)
set_option maxRecDepth 100000 in
set_option maxHeartbeats 4000000 in
theorem r_M_hasBracket_4 {X : zCX} (o : zOK X "WantShelvesModel" c_M_hasBracket n_M_hasBracket 1) {k4 : zSt → Nat → Int32 → Int32 → Option (Int32)} (hk4 : ∀ {σ : zSt} {v0 : Nat} {v1 : Int32} {v2 : Int32} {z : Int32}, k4 σ v0 v1 v2 = some z → zRX X 0 0 (some (.int z)) σ → zPJ X 0 0 4 [(0, .ref v0), (1, .int v1), (2, .int v2)] [] σ) {σ : zSt} {v0 : Nat} {v1 : Int32} {v2 : Int32} {z : Int32} (h : f_M_hasBracket_4 k4 σ v0 v1 v2 = some z) (hr : zRX X 0 0 (some (.int z)) σ) : zPJ X 0 0 4 [(0, .ref v0), (1, .int v1), (2, .int v2)] [] σ := by
  unfold f_M_hasBracket_4 at h
  refine zj_iload_n o (zdd k_M_hasBracket 4 rfl) rfl 2 rfl ?_
  refine zj_aload_n o (zdd k_M_hasBracket 5 rfl) rfl 0 rfl ?_
  obtain ⟨x1, e_x1, h⟩ := zbd h
  refine zj_gI o (zdd k_M_hasBracket 6 rfl) fl_M_275 rfl e_x1 ?_
  refine zj_icmp_ge (tgt := 39) o (zdd k_M_hasBracket 7 rfl) (by decide) (fun hc => ?_) (fun hc => ?_)
  · rw [if_pos hc] at h
    refine zj_iload_n o (zdd k_M_hasBracket 22 rfl) rfl 1 rfl ?_
    cases h
    exact zr_i o hr (zdd k_M_hasBracket 23 rfl)
  · rw [if_neg hc] at h
    refine zj_iload_n o (zdd k_M_hasBracket 8 rfl) rfl 1 rfl ?_
    refine zj_if_ne (tgt := 27) o (zdd k_M_hasBracket 9 rfl) (by decide) (fun hc => ?_) (fun hc => ?_)
    · rw [if_neg hc] at h
      refine zj_iconst o (zdd k_M_hasBracket 16 rfl) zki_1 ?_
      refine zj_goto (tgt := 32) o (zdd k_M_hasBracket 17 rfl) (by decide) ?_
      refine zj_istore_n (loc' := [(1, .int 1), (0, .ref v0), (2, .int v2)]) o (zdd k_M_hasBracket 19 rfl) rfl (by decide) rfl ?_
      refine zj_iinc (v := v2 + 1) (loc' := [(2, .int (v2 + 1)), (1, .int 1), (0, .ref v0)]) o (zdd k_M_hasBracket 20 rfl) 2 rfl (by rw [zki_1]) (by decide) rfl ?_
      refine zj_goto (tgt := 4) o (zdd k_M_hasBracket 21 rfl) (by decide) ?_
      exact zj_sub [2, 1, 0] rfl (hk4 h hr)
    · rw [if_pos hc] at h
      refine zj_aload_n o (zdd k_M_hasBracket 10 rfl) rfl 0 rfl ?_
      obtain ⟨a2, e_a2, h⟩ := zbd h
      refine zj_gP o (zdd k_M_hasBracket 11 rfl) fl_M_39 rfl e_a2 ?_
      refine zj_iload_n o (zdd k_M_hasBracket 12 rfl) rfl 2 rfl ?_
      obtain ⟨x3, e_x3, h⟩ := zbd h
      refine zj_iald o (zdd k_M_hasBracket 13 rfl) e_x3 ?_
      refine zj_bipush o (zdd k_M_hasBracket 14 rfl) zkb_20 ?_
      refine zj_icmp_ne (tgt := 31) o (zdd k_M_hasBracket 15 rfl) (by decide) (fun hc => ?_) (fun hc => ?_)
      · rw [if_neg hc] at h
        refine zj_iconst o (zdd k_M_hasBracket 18 rfl) zki_0 ?_
        refine zj_istore_n (loc' := [(1, .int 0), (0, .ref v0), (2, .int v2)]) o (zdd k_M_hasBracket 19 rfl) rfl (by decide) rfl ?_
        refine zj_iinc (v := v2 + 1) (loc' := [(2, .int (v2 + 1)), (1, .int 0), (0, .ref v0)]) o (zdd k_M_hasBracket 20 rfl) 2 rfl (by rw [zki_1]) (by decide) rfl ?_
        refine zj_goto (tgt := 4) o (zdd k_M_hasBracket 21 rfl) (by decide) ?_
        exact zj_sub [2, 1, 0] rfl (hk4 h hr)
      · rw [if_pos hc] at h
        refine zj_iconst o (zdd k_M_hasBracket 16 rfl) zki_1 ?_
        refine zj_goto (tgt := 32) o (zdd k_M_hasBracket 17 rfl) (by decide) ?_
        refine zj_istore_n (loc' := [(1, .int 1), (0, .ref v0), (2, .int v2)]) o (zdd k_M_hasBracket 19 rfl) rfl (by decide) rfl ?_
        refine zj_iinc (v := v2 + 1) (loc' := [(2, .int (v2 + 1)), (1, .int 1), (0, .ref v0)]) o (zdd k_M_hasBracket 20 rfl) 2 rfl (by rw [zki_1]) (by decide) rfl ?_
        refine zj_goto (tgt := 4) o (zdd k_M_hasBracket 21 rfl) (by decide) ?_
        exact zj_sub [2, 1, 0] rfl (hk4 h hr)
def f_M_hasBracket_4L : Nat → zSt → Nat → Int32 → Int32 → Option (Int32)
  | 0 => fun _ _ _ _ => none
  | n + 1 => f_M_hasBracket_4  (f_M_hasBracket_4L  n)
theorem r_M_hasBracket_4L {X : zCX} (o : zOK X "WantShelvesModel" c_M_hasBracket n_M_hasBracket 1) : ∀ (n : Nat) {σ : zSt} {v0 : Nat} {v1 : Int32} {v2 : Int32} {z : Int32}, f_M_hasBracket_4L n σ v0 v1 v2 = some z → zRX X 0 0 (some (.int z)) σ → zPJ X 0 0 4 [(0, .ref v0), (1, .int v1), (2, .int v2)] [] σ
  | 0 => fun h _ => by cases h
  | n + 1 => fun h hr => r_M_hasBracket_4 o (r_M_hasBracket_4L o  n) h hr
def f_M_hasBracket (σ : zSt) (t : Nat) : Option (Int32) :=
zg σ 12 t (
(f_M_hasBracket_4L zfu σ t 0 0).bind zbool)
set_option maxRecDepth 100000 in
set_option maxHeartbeats 4000000 in
theorem m_M_hasBracket {l : Launch} {b : Nat} {ex : Nat → Value} {D : va_G} {ca : Nat → ClassId} {σ : zSt} {t : Nat} {z : Int32} (h : f_M_hasBracket σ t = some z) : zMT l b ex D ca 1 y_M_hasBracket c_M_hasBracket n_M_hasBracket r_ret_M_hasBracket [.ref t] σ (some (.int z)) σ 0 0 := by
  obtain ⟨_, hg0⟩ := zg_some h
  obtain ⟨z0, hbd, hz⟩ := zbd hg0
  obtain ⟨hzb, rfl⟩ := zbool_some hz
  have h := hbd
  refine zmt_of (by decide) (Nat.le_of_ble_eq_true rfl) ⟨.boolean, rfl, zb_nar hzb⟩ (fun X o hin hrm _ _ _ _ _ hr => ?_)
  have hr := hr 0 0 (by decide) (by decide)
  have o : zOK X "WantShelvesModel" c_M_hasBracket n_M_hasBracket 1 := o
  change zPJ X 0 0 0 [(0, .ref t)] [] σ
  refine zj_iconst o (zdd k_M_hasBracket 0 rfl) zki_0 ?_
  refine zj_istore_n (loc' := [(1, .int 0), (0, .ref t)]) o (zdd k_M_hasBracket 1 rfl) rfl (by decide) rfl ?_
  refine zj_iconst o (zdd k_M_hasBracket 2 rfl) zki_0 ?_
  refine zj_istore_n (loc' := [(2, .int 0), (1, .int 0), (0, .ref t)]) o (zdd k_M_hasBracket 3 rfl) rfl (by decide) rfl ?_
  exact zj_sub [2, 1, 0] rfl (r_M_hasBracket_4L o  zfu h hr)
def f_M_formula_123 (k40 : zSt → Nat → Int32 → Option (zSt)) (σ : zSt) (v0 : Nat) (v2 : Int32) (v3 : Int32) : Option (zSt) :=
(f_M_tight v3).bind fun x1 =>
(f_M_close σ v0 x1).bind fun σ2 =>
(zgP σ2 12 v0 17).bind fun a3 =>
(zgI σ2 12 v0 20).bind fun x4 =>
(zwI σ2 1 a3 x4 v3).bind fun σ5 =>
(zgI σ5 12 v0 20).bind fun x6 =>
(zsI σ5 12 v0 20 (x6 + 1)).bind fun σ7 =>
(f_M_token σ7 v0).bind fun σ8 =>
(f_M_unit σ8 v0).bind fun σ9 =>
k40 σ9 v0 v2
set_option maxRecDepth 100000 in
set_option maxHeartbeats 4000000 in
theorem r_M_formula_123 {X : zCX} (o : zOK X "WantShelvesModel" c_M_formula n_M_formula 5) {k40 : zSt → Nat → Int32 → Option (zSt)} (hk40 : ∀ {σ : zSt} {v0 : Nat} {v2 : Int32} {z : zSt}, k40 σ v0 v2 = some z → zRX X 0 0 none z → zPJ X 0 0 40 [(0, .ref v0), (2, .int v2)] [] σ) {σ : zSt} {v0 : Nat} {v2 : Int32} {v3 : Int32} {z : zSt} (h : f_M_formula_123 k40 σ v0 v2 v3 = some z) (hr : zRX X 0 0 none z) : zPJ X 0 0 123 [(0, .ref v0), (2, .int v2), (3, .int v3)] [] σ := by
  unfold f_M_formula_123 at h
  refine zj_aload_n o (zdd k_M_formula 66 rfl) rfl 0 rfl ?_
  refine zj_iload_n o (zdd k_M_formula 67 rfl) rfl 2 rfl ?_
  obtain ⟨x1, e_x1, h⟩ := zbd h
  refine zc_S o (zdd k_M_formula 68 rfl) ml_M_278 ms_M_tight (by decide) [.int v3] [.ref v0] rfl (Nat.le_of_ble_eq_true rfl) rfl (m_M_tight e_x1) ?_
  change zPJ X 0 0 _ _ [.int x1, .ref v0] _
  obtain ⟨σ2, e_σ2, h⟩ := zbd h
  refine zc_V o (zdd k_M_formula 69 rfl) ml_M_318 mv_M_close ⟨rfl, by decide⟩ (zg_some e_σ2).1 (by decide) [.int x1] [] rfl (Nat.le_of_ble_eq_true rfl) rfl (m_M_close e_σ2) ?_
  change zPJ X 0 0 _ _ [] _
  refine zj_aload_n o (zdd k_M_formula 70 rfl) rfl 0 rfl ?_
  obtain ⟨a3, e_a3, h⟩ := zbd h
  refine zj_gP o (zdd k_M_formula 71 rfl) fl_M_39 rfl e_a3 ?_
  refine zj_aload_n o (zdd k_M_formula 72 rfl) rfl 0 rfl ?_
  obtain ⟨x4, e_x4, h⟩ := zbd h
  refine zj_gI o (zdd k_M_formula 73 rfl) fl_M_275 rfl e_x4 ?_
  refine zj_iload_n o (zdd k_M_formula 74 rfl) rfl 2 rfl ?_
  obtain ⟨σ5, e_σ5, h⟩ := zbd h
  refine zj_iast o (zdd k_M_formula 75 rfl) e_σ5 ?_
  refine zj_aload_n o (zdd k_M_formula 76 rfl) rfl 0 rfl ?_
  refine zj_dup o (zdd k_M_formula 77 rfl) rfl ?_
  obtain ⟨x6, e_x6, h⟩ := zbd h
  refine zj_gI o (zdd k_M_formula 78 rfl) fl_M_275 rfl e_x6 ?_
  refine zj_iconst o (zdd k_M_formula 79 rfl) zki_1 ?_
  refine zj_iadd o (zdd k_M_formula 80 rfl) ?_
  obtain ⟨σ7, e_σ7, h⟩ := zbd h
  refine zj_pI o (zdd k_M_formula 81 rfl) fl_M_275 rfl rfl e_σ7 ?_
  refine zj_aload_n o (zdd k_M_formula 82 rfl) rfl 0 rfl ?_
  obtain ⟨σ8, e_σ8, h⟩ := zbd h
  refine zc_V o (zdd k_M_formula 83 rfl) ml_M_248 mv_M_token ⟨rfl, by decide⟩ (zg_some e_σ8).1 (by decide) [] [] rfl (Nat.le_of_ble_eq_true rfl) rfl (m_M_token e_σ8) ?_
  change zPJ X 0 0 _ _ [] _
  refine zj_aload_n o (zdd k_M_formula 84 rfl) rfl 0 rfl ?_
  obtain ⟨σ9, e_σ9, h⟩ := zbd h
  refine zc_V o (zdd k_M_formula 85 rfl) ml_M_309 mv_M_unit ⟨rfl, by decide⟩ (zg_some e_σ9).1 (by decide) [] [] rfl (Nat.le_of_ble_eq_true rfl) rfl (m_M_unit e_σ9) ?_
  change zPJ X 0 0 _ _ [] _
  refine zj_goto (tgt := 164) o (zdd k_M_formula 86 rfl) (by decide) ?_
  refine zj_goto (tgt := 40) o (zdd k_M_formula 89 rfl) (by decide) ?_
  exact zj_sub [0, 1] rfl (hk40 h hr)
def f_M_formula_104 (k40 : zSt → Nat → Int32 → Option (zSt)) (σ : zSt) (v0 : Nat) (v2 : Int32) (v3 : Int32) : Option (zSt) :=
if v3 = 0 then (
k40 σ v0 0) else
(f_M_tight v3).bind fun x1 =>
if x1 = 4 then (
(f_M_hasRelation σ v0).bind fun x2 =>
if x2 = 0 then (
f_M_formula_123 k40 σ v0 v2 v3) else
k40 σ v0 0) else
f_M_formula_123 k40 σ v0 v2 v3
set_option maxRecDepth 100000 in
set_option maxHeartbeats 4000000 in
theorem r_M_formula_104 {X : zCX} (o : zOK X "WantShelvesModel" c_M_formula n_M_formula 5) {k40 : zSt → Nat → Int32 → Option (zSt)} (hk40 : ∀ {σ : zSt} {v0 : Nat} {v2 : Int32} {z : zSt}, k40 σ v0 v2 = some z → zRX X 0 0 none z → zPJ X 0 0 40 [(0, .ref v0), (2, .int v2)] [] σ) {σ : zSt} {v0 : Nat} {v2 : Int32} {v3 : Int32} {z : zSt} (h : f_M_formula_104 k40 σ v0 v2 v3 = some z) (hr : zRX X 0 0 none z) : zPJ X 0 0 104 [(0, .ref v0), (2, .int v2), (3, .int v3)] [] σ := by
  unfold f_M_formula_104 at h
  refine zj_iload_n o (zdd k_M_formula 57 rfl) rfl 2 rfl ?_
  refine zj_if_eq (tgt := 162) o (zdd k_M_formula 58 rfl) (by decide) (fun hc => ?_) (fun hc => ?_)
  · rw [if_pos hc] at h
    refine zj_iconst o (zdd k_M_formula 87 rfl) zki_0 ?_
    refine zj_istore_n (loc' := [(2, .int 0), (0, .ref v0), (3, .int v3)]) o (zdd k_M_formula 88 rfl) rfl (by decide) rfl ?_
    refine zj_goto (tgt := 40) o (zdd k_M_formula 89 rfl) (by decide) ?_
    exact zj_sub [1, 0] rfl (hk40 h hr)
  · rw [if_neg hc] at h
    refine zj_iload_n o (zdd k_M_formula 59 rfl) rfl 2 rfl ?_
    obtain ⟨x1, e_x1, h⟩ := zbd h
    refine zc_S o (zdd k_M_formula 60 rfl) ml_M_278 ms_M_tight (by decide) [.int v3] [] rfl (Nat.le_of_ble_eq_true rfl) rfl (m_M_tight e_x1) ?_
    change zPJ X 0 0 _ _ [.int x1] _
    refine zj_iconst o (zdd k_M_formula 61 rfl) zki_4 ?_
    refine zj_icmp_ne (tgt := 123) o (zdd k_M_formula 62 rfl) (by decide) (fun hc => ?_) (fun hc => ?_)
    · rw [if_neg hc] at h
      exact zj_sub [0, 1, 2] rfl (r_M_formula_123 o hk40 h hr)
    · rw [if_pos hc] at h
      refine zj_aload_n o (zdd k_M_formula 63 rfl) rfl 0 rfl ?_
      obtain ⟨x2, e_x2, h⟩ := zbd h
      refine zc_V o (zdd k_M_formula 64 rfl) ml_M_321 mv_M_hasRelation ⟨rfl, by decide⟩ (zg_some e_x2).1 (by decide) [] [] rfl (Nat.le_of_ble_eq_true rfl) rfl (m_M_hasRelation e_x2) ?_
      change zPJ X 0 0 _ _ [.int x2] _
      refine zj_if_ne (tgt := 162) o (zdd k_M_formula 65 rfl) (by decide) (fun hc => ?_) (fun hc => ?_)
      · rw [if_neg hc] at h
        refine zj_iconst o (zdd k_M_formula 87 rfl) zki_0 ?_
        refine zj_istore_n (loc' := [(2, .int 0), (0, .ref v0), (3, .int v3)]) o (zdd k_M_formula 88 rfl) rfl (by decide) rfl ?_
        refine zj_goto (tgt := 40) o (zdd k_M_formula 89 rfl) (by decide) ?_
        exact zj_sub [1, 0] rfl (hk40 h hr)
      · rw [if_pos hc] at h
        exact zj_sub [0, 1, 2] rfl (r_M_formula_123 o hk40 h hr)
def f_M_formula_186 (σ : zSt) (v0 : Nat) : Option (zSt) :=
(zgI σ 12 v0 2).bind fun x1 =>
if x1 = 0 then (
(f_M_close σ v0 0).bind fun σ2 =>
some σ2) else
some σ
set_option maxRecDepth 100000 in
set_option maxHeartbeats 4000000 in
theorem r_M_formula_186 {X : zCX} (o : zOK X "WantShelvesModel" c_M_formula n_M_formula 5) {σ : zSt} {v0 : Nat} {z : zSt} (h : f_M_formula_186 σ v0 = some z) (hr : zRX X 0 0 none z) : zPJ X 0 0 186 [(0, .ref v0)] [] σ := by
  unfold f_M_formula_186 at h
  refine zj_aload_n o (zdd k_M_formula 99 rfl) rfl 0 rfl ?_
  obtain ⟨x1, e_x1, h⟩ := zbd h
  refine zj_gI o (zdd k_M_formula 100 rfl) fl_M_188 rfl e_x1 ?_
  refine zj_if_ne (tgt := 198) o (zdd k_M_formula 101 rfl) (by decide) (fun hc => ?_) (fun hc => ?_)
  · rw [if_neg hc] at h
    cases h
    exact zr_v o hr (zdd k_M_formula 105 rfl)
  · rw [if_pos hc] at h
    refine zj_aload_n o (zdd k_M_formula 102 rfl) rfl 0 rfl ?_
    refine zj_iconst o (zdd k_M_formula 103 rfl) zki_0 ?_
    obtain ⟨σ2, e_σ2, h⟩ := zbd h
    refine zc_V o (zdd k_M_formula 104 rfl) ml_M_318 mv_M_close ⟨rfl, by decide⟩ (zg_some e_σ2).1 (by decide) [.int 0] [] rfl (Nat.le_of_ble_eq_true rfl) rfl (m_M_close e_σ2) ?_
    change zPJ X 0 0 _ _ [] _
    cases h
    exact zr_v o hr (zdd k_M_formula 105 rfl)
def f_M_formula_167 (σ : zSt) (v0 : Nat) : Option (zSt) :=
(zgI σ 12 v0 2).bind fun x1 =>
if x1 = 0 then (
(f_M_hasBracket σ v0).bind fun x2 =>
if x2 = 0 then (
f_M_formula_186 σ v0) else
(f_M_wrong σ v0 2).bind fun σ3 =>
f_M_formula_186 σ3 v0) else
f_M_formula_186 σ v0
set_option maxRecDepth 100000 in
set_option maxHeartbeats 4000000 in
theorem r_M_formula_167 {X : zCX} (o : zOK X "WantShelvesModel" c_M_formula n_M_formula 5) {σ : zSt} {v0 : Nat} {z : zSt} (h : f_M_formula_167 σ v0 = some z) (hr : zRX X 0 0 none z) : zPJ X 0 0 167 [(0, .ref v0)] [] σ := by
  unfold f_M_formula_167 at h
  refine zj_aload_n o (zdd k_M_formula 90 rfl) rfl 0 rfl ?_
  obtain ⟨x1, e_x1, h⟩ := zbd h
  refine zj_gI o (zdd k_M_formula 91 rfl) fl_M_188 rfl e_x1 ?_
  refine zj_if_ne (tgt := 186) o (zdd k_M_formula 92 rfl) (by decide) (fun hc => ?_) (fun hc => ?_)
  · rw [if_neg hc] at h
    exact zj_sub [0] rfl (r_M_formula_186 o  h hr)
  · rw [if_pos hc] at h
    refine zj_aload_n o (zdd k_M_formula 93 rfl) rfl 0 rfl ?_
    obtain ⟨x2, e_x2, h⟩ := zbd h
    refine zc_V o (zdd k_M_formula 94 rfl) ml_M_315 mv_M_hasBracket ⟨rfl, by decide⟩ (zg_some e_x2).1 (by decide) [] [] rfl (Nat.le_of_ble_eq_true rfl) rfl (m_M_hasBracket e_x2) ?_
    change zPJ X 0 0 _ _ [.int x2] _
    refine zj_if_eq (tgt := 186) o (zdd k_M_formula 95 rfl) (by decide) (fun hc => ?_) (fun hc => ?_)
    · rw [if_pos hc] at h
      exact zj_sub [0] rfl (r_M_formula_186 o  h hr)
    · rw [if_neg hc] at h
      refine zj_aload_n o (zdd k_M_formula 96 rfl) rfl 0 rfl ?_
      refine zj_iconst o (zdd k_M_formula 97 rfl) zki_2 ?_
      obtain ⟨σ3, e_σ3, h⟩ := zbd h
      refine zc_V o (zdd k_M_formula 98 rfl) ml_M_245 mv_M_wrong ⟨rfl, by decide⟩ (zg_some e_σ3).1 (by decide) [.int 2] [] rfl (Nat.le_of_ble_eq_true rfl) rfl (m_M_wrong e_σ3) ?_
      change zPJ X 0 0 _ _ [] _
      exact zj_sub [0] rfl (r_M_formula_186 o  h hr)
def f_M_formula_40 (k40 : zSt → Nat → Int32 → Option (zSt)) (σ : zSt) (v0 : Nat) (v2 : Int32) : Option (zSt) :=
if v2 = 0 then (
f_M_formula_167 σ v0) else
(zgI σ 12 v0 2).bind fun x1 =>
if x1 = 0 then (
(f_M_sign σ v0).bind fun x2 =>
(zgI σ 12 v0 6).bind fun x3 =>
if x3 = 41 then (
(f_M_hasBracket σ v0).bind fun x4 =>
if x4 = 0 then (
f_M_formula_104 k40 σ v0 v2 x2) else
(f_M_close σ v0 0).bind fun σ5 =>
(zgI σ5 12 v0 20).bind fun x6 =>
(zsI σ5 12 v0 20 (x6 - 1)).bind fun σ7 =>
(zgI σ7 12 v0 24).bind fun x8 =>
(zsI σ7 12 v0 24 (x8 - 1)).bind fun σ9 =>
(f_M_token σ9 v0).bind fun σ10 =>
k40 σ10 v0 v2) else
f_M_formula_104 k40 σ v0 v2 x2) else
f_M_formula_167 σ v0
set_option maxRecDepth 100000 in
set_option maxHeartbeats 4000000 in
theorem r_M_formula_40 {X : zCX} (o : zOK X "WantShelvesModel" c_M_formula n_M_formula 5) {k40 : zSt → Nat → Int32 → Option (zSt)} (hk40 : ∀ {σ : zSt} {v0 : Nat} {v2 : Int32} {z : zSt}, k40 σ v0 v2 = some z → zRX X 0 0 none z → zPJ X 0 0 40 [(0, .ref v0), (2, .int v2)] [] σ) {σ : zSt} {v0 : Nat} {v2 : Int32} {z : zSt} (h : f_M_formula_40 k40 σ v0 v2 = some z) (hr : zRX X 0 0 none z) : zPJ X 0 0 40 [(0, .ref v0), (2, .int v2)] [] σ := by
  unfold f_M_formula_40 at h
  refine zj_iload_n o (zdd k_M_formula 24 rfl) rfl 1 rfl ?_
  refine zj_if_eq (tgt := 167) o (zdd k_M_formula 25 rfl) (by decide) (fun hc => ?_) (fun hc => ?_)
  · rw [if_pos hc] at h
    exact zj_sub [0] rfl (r_M_formula_167 o  h hr)
  · rw [if_neg hc] at h
    refine zj_aload_n o (zdd k_M_formula 26 rfl) rfl 0 rfl ?_
    obtain ⟨x1, e_x1, h⟩ := zbd h
    refine zj_gI o (zdd k_M_formula 27 rfl) fl_M_188 rfl e_x1 ?_
    refine zj_if_ne (tgt := 167) o (zdd k_M_formula 28 rfl) (by decide) (fun hc => ?_) (fun hc => ?_)
    · rw [if_neg hc] at h
      exact zj_sub [0] rfl (r_M_formula_167 o  h hr)
    · rw [if_pos hc] at h
      refine zj_aload_n o (zdd k_M_formula 29 rfl) rfl 0 rfl ?_
      obtain ⟨x2, e_x2, h⟩ := zbd h
      refine zc_V o (zdd k_M_formula 30 rfl) ml_M_312 mv_M_sign ⟨rfl, by decide⟩ (zg_some e_x2).1 (by decide) [] [] rfl (Nat.le_of_ble_eq_true rfl) rfl (m_M_sign e_x2) ?_
      change zPJ X 0 0 _ _ [.int x2] _
      refine zj_istore_n (loc' := [(3, .int x2), (0, .ref v0), (2, .int v2)]) o (zdd k_M_formula 31 rfl) rfl (by decide) rfl ?_
      refine zj_aload_n o (zdd k_M_formula 32 rfl) rfl 1 rfl ?_
      obtain ⟨x3, e_x3, h⟩ := zbd h
      refine zj_gI o (zdd k_M_formula 33 rfl) fl_M_175 rfl e_x3 ?_
      refine zj_bipush o (zdd k_M_formula 34 rfl) zkb_41 ?_
      refine zj_icmp_ne (tgt := 104) o (zdd k_M_formula 35 rfl) (by decide) (fun hc => ?_) (fun hc => ?_)
      · rw [if_neg hc] at h
        exact zj_sub [1, 2, 0] rfl (r_M_formula_104 o hk40 h hr)
      · rw [if_pos hc] at h
        refine zj_aload_n o (zdd k_M_formula 36 rfl) rfl 1 rfl ?_
        obtain ⟨x4, e_x4, h⟩ := zbd h
        refine zc_V o (zdd k_M_formula 37 rfl) ml_M_315 mv_M_hasBracket ⟨rfl, by decide⟩ (zg_some e_x4).1 (by decide) [] [] rfl (Nat.le_of_ble_eq_true rfl) rfl (m_M_hasBracket e_x4) ?_
        change zPJ X 0 0 _ _ [.int x4] _
        refine zj_if_eq (tgt := 104) o (zdd k_M_formula 38 rfl) (by decide) (fun hc => ?_) (fun hc => ?_)
        · rw [if_pos hc] at h
          exact zj_sub [1, 2, 0] rfl (r_M_formula_104 o hk40 h hr)
        · rw [if_neg hc] at h
          refine zj_aload_n o (zdd k_M_formula 39 rfl) rfl 1 rfl ?_
          refine zj_iconst o (zdd k_M_formula 40 rfl) zki_0 ?_
          obtain ⟨σ5, e_σ5, h⟩ := zbd h
          refine zc_V o (zdd k_M_formula 41 rfl) ml_M_318 mv_M_close ⟨rfl, by decide⟩ (zg_some e_σ5).1 (by decide) [.int 0] [] rfl (Nat.le_of_ble_eq_true rfl) rfl (m_M_close e_σ5) ?_
          change zPJ X 0 0 _ _ [] _
          refine zj_aload_n o (zdd k_M_formula 42 rfl) rfl 1 rfl ?_
          refine zj_dup o (zdd k_M_formula 43 rfl) rfl ?_
          obtain ⟨x6, e_x6, h⟩ := zbd h
          refine zj_gI o (zdd k_M_formula 44 rfl) fl_M_275 rfl e_x6 ?_
          refine zj_iconst o (zdd k_M_formula 45 rfl) zki_1 ?_
          refine zj_isub o (zdd k_M_formula 46 rfl) ?_
          obtain ⟨σ7, e_σ7, h⟩ := zbd h
          refine zj_pI o (zdd k_M_formula 47 rfl) fl_M_275 rfl rfl e_σ7 ?_
          refine zj_aload_n o (zdd k_M_formula 48 rfl) rfl 1 rfl ?_
          refine zj_dup o (zdd k_M_formula 49 rfl) rfl ?_
          obtain ⟨x8, e_x8, h⟩ := zbd h
          refine zj_gI o (zdd k_M_formula 50 rfl) fl_M_284 rfl e_x8 ?_
          refine zj_iconst o (zdd k_M_formula 51 rfl) zki_1 ?_
          refine zj_isub o (zdd k_M_formula 52 rfl) ?_
          obtain ⟨σ9, e_σ9, h⟩ := zbd h
          refine zj_pI o (zdd k_M_formula 53 rfl) fl_M_284 rfl rfl e_σ9 ?_
          refine zj_aload_n o (zdd k_M_formula 54 rfl) rfl 1 rfl ?_
          obtain ⟨σ10, e_σ10, h⟩ := zbd h
          refine zc_V o (zdd k_M_formula 55 rfl) ml_M_248 mv_M_token ⟨rfl, by decide⟩ (zg_some e_σ10).1 (by decide) [] [] rfl (Nat.le_of_ble_eq_true rfl) rfl (m_M_token e_σ10) ?_
          change zPJ X 0 0 _ _ [] _
          refine zj_goto (tgt := 164) o (zdd k_M_formula 56 rfl) (by decide) ?_
          refine zj_goto (tgt := 40) o (zdd k_M_formula 89 rfl) (by decide) ?_
          exact zj_sub [1, 2] rfl (hk40 h hr)
def f_M_formula_40L : Nat → zSt → Nat → Int32 → Option (zSt)
  | 0 => fun _ _ _ => none
  | n + 1 => f_M_formula_40  (f_M_formula_40L  n)
theorem r_M_formula_40L {X : zCX} (o : zOK X "WantShelvesModel" c_M_formula n_M_formula 5) : ∀ (n : Nat) {σ : zSt} {v0 : Nat} {v2 : Int32} {z : zSt}, f_M_formula_40L n σ v0 v2 = some z → zRX X 0 0 none z → zPJ X 0 0 40 [(0, .ref v0), (2, .int v2)] [] σ
  | 0 => fun h _ => by cases h
  | n + 1 => fun h hr => r_M_formula_40 o (r_M_formula_40L o  n) h hr
def f_M_formula (σ : zSt) (t : Nat) (p0 : Int32) : Option (zSt) :=
zg σ 12 t (
(f_M_token σ t).bind fun σ1 =>
(zsI σ1 12 t 19 p0).bind fun σ2 =>
(zgP σ2 12 t 13).bind fun a3 =>
(zgI σ2 12 t 19).bind fun x4 =>
(zwI σ2 1 a3 x4 0).bind fun σ5 =>
(zsI σ5 12 t 20 0).bind fun σ6 =>
(zsI σ6 12 t 24 0).bind fun σ7 =>
(zsI σ7 12 t 23 0).bind fun σ8 =>
(f_M_unit σ8 t).bind fun σ9 =>
f_M_formula_40L zfu σ9 t 1)
set_option maxRecDepth 100000 in
set_option maxHeartbeats 4000000 in
theorem m_M_formula {l : Launch} {b : Nat} {ex : Nat → Value} {D : va_G} {ca : Nat → ClassId} {σ : zSt} {t : Nat} {p0 : Int32} {z : zSt} (h : f_M_formula σ t p0 = some z) : zMT l b ex D ca 5 y_M_formula c_M_formula n_M_formula r_ret_M_formula [.ref t, .int p0] σ none z 0 0 := by
  obtain ⟨_, hg0⟩ := zg_some h
  have h := hg0
  refine zmt_of (by decide) (Nat.le_of_ble_eq_true rfl) rfl (fun X o hin hrm _ _ _ _ _ hr => ?_)
  have hr := hr 0 0 (by decide) (by decide)
  have o : zOK X "WantShelvesModel" c_M_formula n_M_formula 5 := o
  change zPJ X 0 0 0 [(0, .ref t), (1, .int p0)] [] σ
  refine zj_aload_n o (zdd k_M_formula 0 rfl) rfl 0 rfl ?_
  obtain ⟨σ1, e_σ1, h⟩ := zbd h
  refine zc_V o (zdd k_M_formula 1 rfl) ml_M_248 mv_M_token ⟨rfl, by decide⟩ (zg_some e_σ1).1 (by decide) [] [] rfl (Nat.le_of_ble_eq_true rfl) rfl (m_M_token e_σ1) ?_
  change zPJ X 0 0 _ _ [] _
  refine zj_aload_n o (zdd k_M_formula 2 rfl) rfl 0 rfl ?_
  refine zj_iload_n o (zdd k_M_formula 3 rfl) rfl 1 rfl ?_
  obtain ⟨σ2, e_σ2, h⟩ := zbd h
  refine zj_pI o (zdd k_M_formula 4 rfl) fl_M_272 rfl rfl e_σ2 ?_
  refine zj_aload_n o (zdd k_M_formula 5 rfl) rfl 0 rfl ?_
  obtain ⟨a3, e_a3, h⟩ := zbd h
  refine zj_gP o (zdd k_M_formula 6 rfl) fl_M_27 rfl e_a3 ?_
  refine zj_aload_n o (zdd k_M_formula 7 rfl) rfl 0 rfl ?_
  obtain ⟨x4, e_x4, h⟩ := zbd h
  refine zj_gI o (zdd k_M_formula 8 rfl) fl_M_272 rfl e_x4 ?_
  refine zj_iconst o (zdd k_M_formula 9 rfl) zki_0 ?_
  obtain ⟨σ5, e_σ5, h⟩ := zbd h
  refine zj_iast o (zdd k_M_formula 10 rfl) e_σ5 ?_
  refine zj_aload_n o (zdd k_M_formula 11 rfl) rfl 0 rfl ?_
  refine zj_iconst o (zdd k_M_formula 12 rfl) zki_0 ?_
  obtain ⟨σ6, e_σ6, h⟩ := zbd h
  refine zj_pI o (zdd k_M_formula 13 rfl) fl_M_275 rfl rfl e_σ6 ?_
  refine zj_aload_n o (zdd k_M_formula 14 rfl) rfl 0 rfl ?_
  refine zj_iconst o (zdd k_M_formula 15 rfl) zki_0 ?_
  obtain ⟨σ7, e_σ7, h⟩ := zbd h
  refine zj_pI o (zdd k_M_formula 16 rfl) fl_M_284 rfl rfl e_σ7 ?_
  refine zj_aload_n o (zdd k_M_formula 17 rfl) rfl 0 rfl ?_
  refine zj_iconst o (zdd k_M_formula 18 rfl) zki_0 ?_
  obtain ⟨σ8, e_σ8, h⟩ := zbd h
  refine zj_pI o (zdd k_M_formula 19 rfl) fl_M_290 rfl rfl e_σ8 ?_
  refine zj_aload_n o (zdd k_M_formula 20 rfl) rfl 0 rfl ?_
  obtain ⟨σ9, e_σ9, h⟩ := zbd h
  refine zc_V o (zdd k_M_formula 21 rfl) ml_M_309 mv_M_unit ⟨rfl, by decide⟩ (zg_some e_σ9).1 (by decide) [] [] rfl (Nat.le_of_ble_eq_true rfl) rfl (m_M_unit e_σ9) ?_
  change zPJ X 0 0 _ _ [] _
  refine zj_iconst o (zdd k_M_formula 22 rfl) zki_1 ?_
  refine zj_istore_n (loc' := [(2, .int 1), (0, .ref t), (1, .int p0)]) o (zdd k_M_formula 23 rfl) rfl (by decide) rfl ?_
  exact zj_sub [1, 0] rfl (r_M_formula_40L o  zfu h hr)
def f_M_truth (p0 : Int32) : Option (Int32) :=
if p0 = 0 then (
some 0) else
some 1
set_option maxRecDepth 100000 in
set_option maxHeartbeats 4000000 in
theorem m_M_truth {l : Launch} {b : Nat} {ex : Nat → Value} {D : va_G} {ca : Nat → ClassId} {σ : zSt} {p0 : Int32} {z : Int32} (h : f_M_truth p0 = some z) : zMT l b ex D ca 1 y_M_truth c_M_truth n_M_truth r_ret_M_truth [.int p0] σ (some (.int z)) σ 0 0 := by
  unfold f_M_truth at h
  refine zmt_of (by decide) (Nat.le_of_ble_eq_true rfl) ⟨.int, rfl, rfl⟩ (fun X o hin hrm _ _ _ _ _ hr => ?_)
  have hr := hr 0 0 (by decide) (by decide)
  have o : zOK X "WantShelvesModel" c_M_truth n_M_truth 1 := o
  change zPJ X 0 0 0 [(0, .int p0)] [] σ
  refine zj_iload_n o (zdd k_M_truth 0 rfl) rfl 0 rfl ?_
  refine zj_if_eq (tgt := 8) o (zdd k_M_truth 1 rfl) (by decide) (fun hc => ?_) (fun hc => ?_)
  · rw [if_pos hc] at h
    refine zj_iconst o (zdd k_M_truth 4 rfl) zki_0 ?_
    cases h
    exact zr_i o hr (zdd k_M_truth 5 rfl)
  · rw [if_neg hc] at h
    refine zj_iconst o (zdd k_M_truth 2 rfl) zki_1 ?_
    refine zj_goto (tgt := 9) o (zdd k_M_truth 3 rfl) (by decide) ?_
    cases h
    exact zr_i o hr (zdd k_M_truth 5 rfl)
def f_M_done_180 (s0 : Int32) : Option (Int32) :=
(f_M_truth s0).bind fun x1 =>
some x1
set_option maxRecDepth 100000 in
set_option maxHeartbeats 4000000 in
theorem r_M_done_180 {X : zCX} (o : zOK X "WantShelvesModel" c_M_done n_M_done 2) {σ : zSt} {s0 : Int32} {z : Int32} (h : f_M_done_180 s0 = some z) (hr : zRX X 0 0 (some (.int z)) σ) : zPJ X 0 0 180 [] [.int s0] σ := by
  unfold f_M_done_180 at h
  obtain ⟨x1, e_x1, h⟩ := zbd h
  refine zc_S o (zdd k_M_done 44 rfl) ml_M_324 ms_M_truth (by decide) [.int s0] [] rfl (Nat.le_of_ble_eq_true rfl) rfl (m_M_truth e_x1) ?_
  change zPJ X 0 0 _ _ [.int x1] _
  cases h
  exact zr_i o hr (zdd k_M_done 45 rfl)
def f_M_done_194 (s0 : Int32) : Option (Int32) :=
(f_M_truth s0).bind fun x1 =>
some x1
set_option maxRecDepth 100000 in
set_option maxHeartbeats 4000000 in
theorem r_M_done_194 {X : zCX} (o : zOK X "WantShelvesModel" c_M_done n_M_done 2) {σ : zSt} {s0 : Int32} {z : Int32} (h : f_M_done_194 s0 = some z) (hr : zRX X 0 0 (some (.int z)) σ) : zPJ X 0 0 194 [] [.int s0] σ := by
  unfold f_M_done_194 at h
  obtain ⟨x1, e_x1, h⟩ := zbd h
  refine zc_S o (zdd k_M_done 52 rfl) ml_M_324 ms_M_truth (by decide) [.int s0] [] rfl (Nat.le_of_ble_eq_true rfl) rfl (m_M_truth e_x1) ?_
  change zPJ X 0 0 _ _ [.int x1] _
  cases h
  exact zr_i o hr (zdd k_M_done 53 rfl)
def f_M_done_166 (s0 : Int32) : Option (Int32) :=
(f_M_truth s0).bind fun x1 =>
some x1
set_option maxRecDepth 100000 in
set_option maxHeartbeats 4000000 in
theorem r_M_done_166 {X : zCX} (o : zOK X "WantShelvesModel" c_M_done n_M_done 2) {σ : zSt} {s0 : Int32} {z : Int32} (h : f_M_done_166 s0 = some z) (hr : zRX X 0 0 (some (.int z)) σ) : zPJ X 0 0 166 [] [.int s0] σ := by
  unfold f_M_done_166 at h
  obtain ⟨x1, e_x1, h⟩ := zbd h
  refine zc_S o (zdd k_M_done 36 rfl) ml_M_324 ms_M_truth (by decide) [.int s0] [] rfl (Nat.le_of_ble_eq_true rfl) rfl (m_M_truth e_x1) ?_
  change zPJ X 0 0 _ _ [.int x1] _
  cases h
  exact zr_i o hr (zdd k_M_done 37 rfl)
def f_M_done_228 (s0 : Int32) : Option (Int32) :=
(f_M_truth s0).bind fun x1 =>
some x1
set_option maxRecDepth 100000 in
set_option maxHeartbeats 4000000 in
theorem r_M_done_228 {X : zCX} (o : zOK X "WantShelvesModel" c_M_done n_M_done 2) {σ : zSt} {s0 : Int32} {z : Int32} (h : f_M_done_228 s0 = some z) (hr : zRX X 0 0 (some (.int z)) σ) : zPJ X 0 0 228 [] [.int s0] σ := by
  unfold f_M_done_228 at h
  obtain ⟨x1, e_x1, h⟩ := zbd h
  refine zc_S o (zdd k_M_done 70 rfl) ml_M_324 ms_M_truth (by decide) [.int s0] [] rfl (Nat.le_of_ble_eq_true rfl) rfl (m_M_truth e_x1) ?_
  change zPJ X 0 0 _ _ [.int x1] _
  cases h
  exact zr_i o hr (zdd k_M_done 71 rfl)
def f_M_done_223 : Option (Int32) :=
f_M_done_228 1
set_option maxRecDepth 100000 in
set_option maxHeartbeats 4000000 in
theorem r_M_done_223 {X : zCX} (o : zOK X "WantShelvesModel" c_M_done n_M_done 2) {σ : zSt} {z : Int32} (h : f_M_done_223 = some z) (hr : zRX X 0 0 (some (.int z)) σ) : zPJ X 0 0 223 [] [] σ := by
  unfold f_M_done_223 at h
  refine zj_iconst o (zdd k_M_done 67 rfl) zki_1 ?_
  refine zj_goto (tgt := 228) o (zdd k_M_done 68 rfl) (by decide) ?_
  exact zj_sub [] rfl (r_M_done_228 o  h hr)
def f_M_done_215 (v1 : Int32) (v2 : Int32) : Option (Int32) :=
if v1 = 0 then (
if v2 = 0 then (
f_M_done_228 0) else
f_M_done_223) else
f_M_done_223
set_option maxRecDepth 100000 in
set_option maxHeartbeats 4000000 in
theorem r_M_done_215 {X : zCX} (o : zOK X "WantShelvesModel" c_M_done n_M_done 2) {σ : zSt} {v1 : Int32} {v2 : Int32} {z : Int32} (h : f_M_done_215 v1 v2 = some z) (hr : zRX X 0 0 (some (.int z)) σ) : zPJ X 0 0 215 [(1, .int v1), (2, .int v2)] [] σ := by
  unfold f_M_done_215 at h
  refine zj_iload_n o (zdd k_M_done 63 rfl) rfl 0 rfl ?_
  refine zj_if_ne (tgt := 223) o (zdd k_M_done 64 rfl) (by decide) (fun hc => ?_) (fun hc => ?_)
  · rw [if_neg hc] at h
    exact zj_sub [] rfl (r_M_done_223 o  h hr)
  · rw [if_pos hc] at h
    refine zj_iload_n o (zdd k_M_done 65 rfl) rfl 1 rfl ?_
    refine zj_if_eq (tgt := 227) o (zdd k_M_done 66 rfl) (by decide) (fun hc => ?_) (fun hc => ?_)
    · rw [if_pos hc] at h
      refine zj_iconst o (zdd k_M_done 69 rfl) zki_0 ?_
      exact zj_sub [] rfl (r_M_done_228 o  h hr)
    · rw [if_neg hc] at h
      exact zj_sub [] rfl (r_M_done_223 o  h hr)
def f_M_done_211 (s0 : Int32) : Option (Int32) :=
(f_M_truth s0).bind fun x1 =>
some x1
set_option maxRecDepth 100000 in
set_option maxHeartbeats 4000000 in
theorem r_M_done_211 {X : zCX} (o : zOK X "WantShelvesModel" c_M_done n_M_done 2) {σ : zSt} {s0 : Int32} {z : Int32} (h : f_M_done_211 s0 = some z) (hr : zRX X 0 0 (some (.int z)) σ) : zPJ X 0 0 211 [] [.int s0] σ := by
  unfold f_M_done_211 at h
  obtain ⟨x1, e_x1, h⟩ := zbd h
  refine zc_S o (zdd k_M_done 61 rfl) ml_M_324 ms_M_truth (by decide) [.int s0] [] rfl (Nat.le_of_ble_eq_true rfl) rfl (m_M_truth e_x1) ?_
  change zPJ X 0 0 _ _ [.int x1] _
  cases h
  exact zr_i o hr (zdd k_M_done 62 rfl)
def f_M_done_210 : Option (Int32) :=
f_M_done_211 0
set_option maxRecDepth 100000 in
set_option maxHeartbeats 4000000 in
theorem r_M_done_210 {X : zCX} (o : zOK X "WantShelvesModel" c_M_done n_M_done 2) {σ : zSt} {z : Int32} (h : f_M_done_210 = some z) (hr : zRX X 0 0 (some (.int z)) σ) : zPJ X 0 0 210 [] [] σ := by
  unfold f_M_done_210 at h
  refine zj_iconst o (zdd k_M_done 60 rfl) zki_0 ?_
  exact zj_sub [] rfl (r_M_done_211 o  h hr)
def f_M_done (p0 : Int32) (p1 : Int32) (p2 : Int32) : Option (Int32) :=
if p0 = 37 then (
if p2 = 0 then (
some 0) else
(znz p2).bind fun n1 =>
some (zrem p1 p2)) else
if p0 = 38 then (
if p1 = 0 then (
f_M_done_210) else
if p2 = 0 then (
f_M_done_210) else
f_M_done_211 1) else
if p0 = 39 then (
f_M_done_215 p1 p2) else
if p0 = 40 then (
f_M_done_215 p1 p2) else
if p0 = 41 then (
f_M_done_215 p1 p2) else
if p0 = 42 then (
some (p1 * p2)) else
if p0 = 43 then (
some (p1 + p2)) else
if p0 = 44 then (
f_M_done_215 p1 p2) else
if p0 = 45 then (
some (p1 - p2)) else
if p0 = 46 then (
f_M_done_215 p1 p2) else
if p0 = 47 then (
if p2 = 0 then (
some 0) else
(znz p2).bind fun n2 =>
some (p1 / p2)) else
if p0 = 48 then (
f_M_done_215 p1 p2) else
if p0 = 49 then (
f_M_done_215 p1 p2) else
if p0 = 50 then (
f_M_done_215 p1 p2) else
if p0 = 51 then (
f_M_done_215 p1 p2) else
if p0 = 52 then (
f_M_done_215 p1 p2) else
if p0 = 53 then (
f_M_done_215 p1 p2) else
if p0 = 54 then (
f_M_done_215 p1 p2) else
if p0 = 55 then (
f_M_done_215 p1 p2) else
if p0 = 56 then (
f_M_done_215 p1 p2) else
if p0 = 57 then (
f_M_done_215 p1 p2) else
if p0 = 58 then (
f_M_done_215 p1 p2) else
if p0 = 59 then (
f_M_done_215 p1 p2) else
if p0 = 60 then (
if p2 ≤ p1 then (
f_M_done_166 0) else
f_M_done_166 1) else
if p0 = 61 then (
if p1 = p2 then (
f_M_done_194 1) else
f_M_done_194 0) else
if p0 = 62 then (
if p1 ≤ p2 then (
f_M_done_180 0) else
f_M_done_180 1) else
f_M_done_215 p1 p2
set_option maxRecDepth 100000 in
set_option maxHeartbeats 4000000 in
theorem m_M_done {l : Launch} {b : Nat} {ex : Nat → Value} {D : va_G} {ca : Nat → ClassId} {σ : zSt} {p0 : Int32} {p1 : Int32} {p2 : Int32} {z : Int32} (h : f_M_done p0 p1 p2 = some z) : zMT l b ex D ca 2 y_M_done c_M_done n_M_done r_ret_M_done [.int p0, .int p1, .int p2] σ (some (.int z)) σ 0 0 := by
  unfold f_M_done at h
  refine zmt_of (by decide) (Nat.le_of_ble_eq_true rfl) ⟨.int, rfl, rfl⟩ (fun X o hin hrm _ _ _ _ _ hr => ?_)
  have hr := hr 0 0 (by decide) (by decide)
  have o : zOK X "WantShelvesModel" c_M_done n_M_done 2 := o
  change zPJ X 0 0 0 [(0, .int p0), (1, .int p1), (2, .int p2)] [] σ
  refine zj_iload_n o (zdd k_M_done 0 rfl) rfl 0 rfl ?_
  refine zj_tableC (dt := 215) o [144, 198, 215, 215, 215, 128, 120, 215, 124, 215, 132, 215, 215, 215, 215, 215, 215, 215, 215, 215, 215, 215, 215, 156, 184, 170] (zdd k_M_done 1 rfl) (by decide) (by decide) (by decide) (by decide) (by decide) [(37, 144), (38, 198), (39, 215), (40, 215), (41, 215), (42, 128), (43, 120), (44, 215), (45, 124), (46, 215), (47, 132), (48, 215), (49, 215), (50, 215), (51, 215), (52, 215), (53, 215), (54, 215), (55, 215), (56, 215), (57, 215), (58, 215), (59, 215), (60, 156), (61, 184), (62, 170)] (by decide) ?_
  by_cases hc : p0 = 37
  · rw [if_pos hc] at h
    rw [zcase_pos hc]
    refine zj_iload_n o (zdd k_M_done 22 rfl) rfl 2 rfl ?_
    refine zj_if_ne (tgt := 152) o (zdd k_M_done 23 rfl) (by decide) (fun hc => ?_) (fun hc => ?_)
    · rw [if_neg hc] at h
      refine zj_iload_n o (zdd k_M_done 26 rfl) rfl 1 rfl ?_
      refine zj_iload_n o (zdd k_M_done 27 rfl) rfl 2 rfl ?_
      obtain ⟨n1, e_n1, h⟩ := zbd h
      refine zj_irem o (zdd k_M_done 28 rfl) (znz_some e_n1).1 ?_
      change zPJ X 0 0 _ _ [.int (zrem p1 p2)] _
      cases h
      exact zr_i o hr (zdd k_M_done 29 rfl)
    · rw [if_pos hc] at h
      refine zj_iconst o (zdd k_M_done 24 rfl) zki_0 ?_
      refine zj_goto (tgt := 155) o (zdd k_M_done 25 rfl) (by decide) ?_
      cases h
      exact zr_i o hr (zdd k_M_done 29 rfl)
  · rw [if_neg hc] at h
    rw [zcase_neg hc]
    by_cases hc : p0 = 38
    · rw [if_pos hc] at h
      rw [zcase_pos hc]
      refine zj_iload_n o (zdd k_M_done 54 rfl) rfl 1 rfl ?_
      refine zj_if_eq (tgt := 210) o (zdd k_M_done 55 rfl) (by decide) (fun hc => ?_) (fun hc => ?_)
      · rw [if_pos hc] at h
        exact zj_sub [] rfl (r_M_done_210 o  h hr)
      · rw [if_neg hc] at h
        refine zj_iload_n o (zdd k_M_done 56 rfl) rfl 2 rfl ?_
        refine zj_if_eq (tgt := 210) o (zdd k_M_done 57 rfl) (by decide) (fun hc => ?_) (fun hc => ?_)
        · rw [if_pos hc] at h
          exact zj_sub [] rfl (r_M_done_210 o  h hr)
        · rw [if_neg hc] at h
          refine zj_iconst o (zdd k_M_done 58 rfl) zki_1 ?_
          refine zj_goto (tgt := 211) o (zdd k_M_done 59 rfl) (by decide) ?_
          exact zj_sub [] rfl (r_M_done_211 o  h hr)
    · rw [if_neg hc] at h
      rw [zcase_neg hc]
      by_cases hc : p0 = 39
      · rw [if_pos hc] at h
        rw [zcase_pos hc]
        exact zj_sub [1, 2] rfl (r_M_done_215 o  h hr)
      · rw [if_neg hc] at h
        rw [zcase_neg hc]
        by_cases hc : p0 = 40
        · rw [if_pos hc] at h
          rw [zcase_pos hc]
          exact zj_sub [1, 2] rfl (r_M_done_215 o  h hr)
        · rw [if_neg hc] at h
          rw [zcase_neg hc]
          by_cases hc : p0 = 41
          · rw [if_pos hc] at h
            rw [zcase_pos hc]
            exact zj_sub [1, 2] rfl (r_M_done_215 o  h hr)
          · rw [if_neg hc] at h
            rw [zcase_neg hc]
            by_cases hc : p0 = 42
            · rw [if_pos hc] at h
              rw [zcase_pos hc]
              refine zj_iload_n o (zdd k_M_done 10 rfl) rfl 1 rfl ?_
              refine zj_iload_n o (zdd k_M_done 11 rfl) rfl 2 rfl ?_
              refine zj_imul o (zdd k_M_done 12 rfl) ?_
              cases h
              exact zr_i o hr (zdd k_M_done 13 rfl)
            · rw [if_neg hc] at h
              rw [zcase_neg hc]
              by_cases hc : p0 = 43
              · rw [if_pos hc] at h
                rw [zcase_pos hc]
                refine zj_iload_n o (zdd k_M_done 2 rfl) rfl 1 rfl ?_
                refine zj_iload_n o (zdd k_M_done 3 rfl) rfl 2 rfl ?_
                refine zj_iadd o (zdd k_M_done 4 rfl) ?_
                cases h
                exact zr_i o hr (zdd k_M_done 5 rfl)
              · rw [if_neg hc] at h
                rw [zcase_neg hc]
                by_cases hc : p0 = 44
                · rw [if_pos hc] at h
                  rw [zcase_pos hc]
                  exact zj_sub [1, 2] rfl (r_M_done_215 o  h hr)
                · rw [if_neg hc] at h
                  rw [zcase_neg hc]
                  by_cases hc : p0 = 45
                  · rw [if_pos hc] at h
                    rw [zcase_pos hc]
                    refine zj_iload_n o (zdd k_M_done 6 rfl) rfl 1 rfl ?_
                    refine zj_iload_n o (zdd k_M_done 7 rfl) rfl 2 rfl ?_
                    refine zj_isub o (zdd k_M_done 8 rfl) ?_
                    cases h
                    exact zr_i o hr (zdd k_M_done 9 rfl)
                  · rw [if_neg hc] at h
                    rw [zcase_neg hc]
                    by_cases hc : p0 = 46
                    · rw [if_pos hc] at h
                      rw [zcase_pos hc]
                      exact zj_sub [1, 2] rfl (r_M_done_215 o  h hr)
                    · rw [if_neg hc] at h
                      rw [zcase_neg hc]
                      by_cases hc : p0 = 47
                      · rw [if_pos hc] at h
                        rw [zcase_pos hc]
                        refine zj_iload_n o (zdd k_M_done 14 rfl) rfl 2 rfl ?_
                        refine zj_if_ne (tgt := 140) o (zdd k_M_done 15 rfl) (by decide) (fun hc => ?_) (fun hc => ?_)
                        · rw [if_neg hc] at h
                          refine zj_iload_n o (zdd k_M_done 18 rfl) rfl 1 rfl ?_
                          refine zj_iload_n o (zdd k_M_done 19 rfl) rfl 2 rfl ?_
                          obtain ⟨n2, e_n2, h⟩ := zbd h
                          refine zj_idiv o (zdd k_M_done 20 rfl) (znz_some e_n2).1 ?_
                          cases h
                          exact zr_i o hr (zdd k_M_done 21 rfl)
                        · rw [if_pos hc] at h
                          refine zj_iconst o (zdd k_M_done 16 rfl) zki_0 ?_
                          refine zj_goto (tgt := 143) o (zdd k_M_done 17 rfl) (by decide) ?_
                          cases h
                          exact zr_i o hr (zdd k_M_done 21 rfl)
                      · rw [if_neg hc] at h
                        rw [zcase_neg hc]
                        by_cases hc : p0 = 48
                        · rw [if_pos hc] at h
                          rw [zcase_pos hc]
                          exact zj_sub [1, 2] rfl (r_M_done_215 o  h hr)
                        · rw [if_neg hc] at h
                          rw [zcase_neg hc]
                          by_cases hc : p0 = 49
                          · rw [if_pos hc] at h
                            rw [zcase_pos hc]
                            exact zj_sub [1, 2] rfl (r_M_done_215 o  h hr)
                          · rw [if_neg hc] at h
                            rw [zcase_neg hc]
                            by_cases hc : p0 = 50
                            · rw [if_pos hc] at h
                              rw [zcase_pos hc]
                              exact zj_sub [1, 2] rfl (r_M_done_215 o  h hr)
                            · rw [if_neg hc] at h
                              rw [zcase_neg hc]
                              by_cases hc : p0 = 51
                              · rw [if_pos hc] at h
                                rw [zcase_pos hc]
                                exact zj_sub [1, 2] rfl (r_M_done_215 o  h hr)
                              · rw [if_neg hc] at h
                                rw [zcase_neg hc]
                                by_cases hc : p0 = 52
                                · rw [if_pos hc] at h
                                  rw [zcase_pos hc]
                                  exact zj_sub [1, 2] rfl (r_M_done_215 o  h hr)
                                · rw [if_neg hc] at h
                                  rw [zcase_neg hc]
                                  by_cases hc : p0 = 53
                                  · rw [if_pos hc] at h
                                    rw [zcase_pos hc]
                                    exact zj_sub [1, 2] rfl (r_M_done_215 o  h hr)
                                  · rw [if_neg hc] at h
                                    rw [zcase_neg hc]
                                    by_cases hc : p0 = 54
                                    · rw [if_pos hc] at h
                                      rw [zcase_pos hc]
                                      exact zj_sub [1, 2] rfl (r_M_done_215 o  h hr)
                                    · rw [if_neg hc] at h
                                      rw [zcase_neg hc]
                                      by_cases hc : p0 = 55
                                      · rw [if_pos hc] at h
                                        rw [zcase_pos hc]
                                        exact zj_sub [1, 2] rfl (r_M_done_215 o  h hr)
                                      · rw [if_neg hc] at h
                                        rw [zcase_neg hc]
                                        by_cases hc : p0 = 56
                                        · rw [if_pos hc] at h
                                          rw [zcase_pos hc]
                                          exact zj_sub [1, 2] rfl (r_M_done_215 o  h hr)
                                        · rw [if_neg hc] at h
                                          rw [zcase_neg hc]
                                          by_cases hc : p0 = 57
                                          · rw [if_pos hc] at h
                                            rw [zcase_pos hc]
                                            exact zj_sub [1, 2] rfl (r_M_done_215 o  h hr)
                                          · rw [if_neg hc] at h
                                            rw [zcase_neg hc]
                                            by_cases hc : p0 = 58
                                            · rw [if_pos hc] at h
                                              rw [zcase_pos hc]
                                              exact zj_sub [1, 2] rfl (r_M_done_215 o  h hr)
                                            · rw [if_neg hc] at h
                                              rw [zcase_neg hc]
                                              by_cases hc : p0 = 59
                                              · rw [if_pos hc] at h
                                                rw [zcase_pos hc]
                                                exact zj_sub [1, 2] rfl (r_M_done_215 o  h hr)
                                              · rw [if_neg hc] at h
                                                rw [zcase_neg hc]
                                                by_cases hc : p0 = 60
                                                · rw [if_pos hc] at h
                                                  rw [zcase_pos hc]
                                                  refine zj_iload_n o (zdd k_M_done 30 rfl) rfl 1 rfl ?_
                                                  refine zj_iload_n o (zdd k_M_done 31 rfl) rfl 2 rfl ?_
                                                  refine zj_icmp_ge (tgt := 165) o (zdd k_M_done 32 rfl) (by decide) (fun hc => ?_) (fun hc => ?_)
                                                  · rw [if_pos hc] at h
                                                    refine zj_iconst o (zdd k_M_done 35 rfl) zki_0 ?_
                                                    exact zj_sub [] rfl (r_M_done_166 o  h hr)
                                                  · rw [if_neg hc] at h
                                                    refine zj_iconst o (zdd k_M_done 33 rfl) zki_1 ?_
                                                    refine zj_goto (tgt := 166) o (zdd k_M_done 34 rfl) (by decide) ?_
                                                    exact zj_sub [] rfl (r_M_done_166 o  h hr)
                                                · rw [if_neg hc] at h
                                                  rw [zcase_neg hc]
                                                  by_cases hc : p0 = 61
                                                  · rw [if_pos hc] at h
                                                    rw [zcase_pos hc]
                                                    refine zj_iload_n o (zdd k_M_done 46 rfl) rfl 1 rfl ?_
                                                    refine zj_iload_n o (zdd k_M_done 47 rfl) rfl 2 rfl ?_
                                                    refine zj_icmp_ne (tgt := 193) o (zdd k_M_done 48 rfl) (by decide) (fun hc => ?_) (fun hc => ?_)
                                                    · rw [if_neg hc] at h
                                                      refine zj_iconst o (zdd k_M_done 51 rfl) zki_0 ?_
                                                      exact zj_sub [] rfl (r_M_done_194 o  h hr)
                                                    · rw [if_pos hc] at h
                                                      refine zj_iconst o (zdd k_M_done 49 rfl) zki_1 ?_
                                                      refine zj_goto (tgt := 194) o (zdd k_M_done 50 rfl) (by decide) ?_
                                                      exact zj_sub [] rfl (r_M_done_194 o  h hr)
                                                  · rw [if_neg hc] at h
                                                    rw [zcase_neg hc]
                                                    by_cases hc : p0 = 62
                                                    · rw [if_pos hc] at h
                                                      rw [zcase_pos hc]
                                                      refine zj_iload_n o (zdd k_M_done 38 rfl) rfl 1 rfl ?_
                                                      refine zj_iload_n o (zdd k_M_done 39 rfl) rfl 2 rfl ?_
                                                      refine zj_icmp_le (tgt := 179) o (zdd k_M_done 40 rfl) (by decide) (fun hc => ?_) (fun hc => ?_)
                                                      · rw [if_pos hc] at h
                                                        refine zj_iconst o (zdd k_M_done 43 rfl) zki_0 ?_
                                                        exact zj_sub [] rfl (r_M_done_180 o  h hr)
                                                      · rw [if_neg hc] at h
                                                        refine zj_iconst o (zdd k_M_done 41 rfl) zki_1 ?_
                                                        refine zj_goto (tgt := 180) o (zdd k_M_done 42 rfl) (by decide) ?_
                                                        exact zj_sub [] rfl (r_M_done_180 o  h hr)
                                                    · rw [if_neg hc] at h
                                                      rw [zcase_neg hc]
                                                      change zPJ X 0 0 215 _ _ _
                                                      exact zj_sub [1, 2] rfl (r_M_done_215 o  h hr)
def f_M_worked_43 (k8 : zSt → Nat → Int32 → Int32 → Int32 → Option (Int32 × zSt)) (σ : zSt) (v0 : Nat) (v1 : Int32) (v2 : Int32) (v3 : Int32) : Option (Int32 × zSt) :=
(zgP σ 12 v0 18).bind fun a1 =>
(zgP σ 12 v0 14).bind fun a2 =>
(zaI σ 1 a2 v3).bind fun x3 =>
if x3 = 0 then (
(zgP σ 12 v0 15).bind fun a9 =>
(zaI σ 1 a9 v3).bind fun x10 =>
(zwI σ 1 a1 v2 x10).bind fun σ11 =>
k8 σ11 v0 v1 (v2 + 1) (v3 + 1)) else
(zgP σ 12 v0 25).bind fun a4 =>
(zgP σ 12 v0 15).bind fun a5 =>
(zaI σ 1 a5 v3).bind fun x6 =>
(zaI σ 1 a4 x6).bind fun x7 =>
(zwI σ 1 a1 v2 x7).bind fun σ8 =>
k8 σ8 v0 v1 (v2 + 1) (v3 + 1)
set_option maxRecDepth 100000 in
set_option maxHeartbeats 4000000 in
theorem r_M_worked_43 {X : zCX} (o : zOK X "WantShelvesModel" c_M_worked n_M_worked 3) {k8 : zSt → Nat → Int32 → Int32 → Int32 → Option (Int32 × zSt)} (hk8 : ∀ {σ : zSt} {v0 : Nat} {v1 : Int32} {v2 : Int32} {v3 : Int32} {z : Int32 × zSt}, k8 σ v0 v1 v2 v3 = some z → zRX X 0 0 (some (.int z.1)) z.2 → zPJ X 0 0 8 [(0, .ref v0), (1, .int v1), (2, .int v2), (3, .int v3)] [] σ) {σ : zSt} {v0 : Nat} {v1 : Int32} {v2 : Int32} {v3 : Int32} {z : Int32 × zSt} (h : f_M_worked_43 k8 σ v0 v1 v2 v3 = some z) (hr : zRX X 0 0 (some (.int z.1)) z.2) : zPJ X 0 0 43 [(0, .ref v0), (1, .int v1), (2, .int v2), (3, .int v3)] [] σ := by
  unfold f_M_worked_43 at h
  refine zj_aload_n o (zdd k_M_worked 27 rfl) rfl 0 rfl ?_
  obtain ⟨a1, e_a1, h⟩ := zbd h
  refine zj_gP o (zdd k_M_worked 28 rfl) fl_M_42 rfl e_a1 ?_
  refine zj_iload_n o (zdd k_M_worked 29 rfl) rfl 2 rfl ?_
  refine zj_aload_n o (zdd k_M_worked 30 rfl) rfl 0 rfl ?_
  obtain ⟨a2, e_a2, h⟩ := zbd h
  refine zj_gP o (zdd k_M_worked 31 rfl) fl_M_30 rfl e_a2 ?_
  refine zj_iload_n o (zdd k_M_worked 32 rfl) rfl 3 rfl ?_
  obtain ⟨x3, e_x3, h⟩ := zbd h
  refine zj_iald o (zdd k_M_worked 33 rfl) e_x3 ?_
  refine zj_if_ne (tgt := 66) o (zdd k_M_worked 34 rfl) (by decide) (fun hc => ?_) (fun hc => ?_)
  · rw [if_neg hc] at h
    refine zj_aload_n o (zdd k_M_worked 40 rfl) rfl 0 rfl ?_
    obtain ⟨a4, e_a4, h⟩ := zbd h
    refine zj_gP o (zdd k_M_worked 41 rfl) fl_M_45 rfl e_a4 ?_
    refine zj_aload_n o (zdd k_M_worked 42 rfl) rfl 0 rfl ?_
    obtain ⟨a5, e_a5, h⟩ := zbd h
    refine zj_gP o (zdd k_M_worked 43 rfl) fl_M_33 rfl e_a5 ?_
    refine zj_iload_n o (zdd k_M_worked 44 rfl) rfl 3 rfl ?_
    obtain ⟨x6, e_x6, h⟩ := zbd h
    refine zj_iald o (zdd k_M_worked 45 rfl) e_x6 ?_
    obtain ⟨x7, e_x7, h⟩ := zbd h
    refine zj_iald o (zdd k_M_worked 46 rfl) e_x7 ?_
    obtain ⟨σ8, e_σ8, h⟩ := zbd h
    refine zj_iast o (zdd k_M_worked 47 rfl) e_σ8 ?_
    refine zj_iinc (v := v2 + 1) (loc' := [(2, .int (v2 + 1)), (0, .ref v0), (1, .int v1), (3, .int v3)]) o (zdd k_M_worked 48 rfl) 2 rfl (by rw [zki_1]) (by decide) rfl ?_
    refine zj_goto (tgt := 158) o (zdd k_M_worked 49 rfl) (by decide) ?_
    refine zj_iinc (v := v3 + 1) (loc' := [(3, .int (v3 + 1)), (2, .int (v2 + 1)), (0, .ref v0), (1, .int v1)]) o (zdd k_M_worked 96 rfl) 3 rfl (by rw [zki_1]) (by decide) rfl ?_
    refine zj_goto (tgt := 8) o (zdd k_M_worked 97 rfl) (by decide) ?_
    exact zj_sub [2, 3, 1, 0] rfl (hk8 h hr)
  · rw [if_pos hc] at h
    refine zj_aload_n o (zdd k_M_worked 35 rfl) rfl 0 rfl ?_
    obtain ⟨a9, e_a9, h⟩ := zbd h
    refine zj_gP o (zdd k_M_worked 36 rfl) fl_M_33 rfl e_a9 ?_
    refine zj_iload_n o (zdd k_M_worked 37 rfl) rfl 3 rfl ?_
    obtain ⟨x10, e_x10, h⟩ := zbd h
    refine zj_iald o (zdd k_M_worked 38 rfl) e_x10 ?_
    refine zj_goto (tgt := 77) o (zdd k_M_worked 39 rfl) (by decide) ?_
    obtain ⟨σ11, e_σ11, h⟩ := zbd h
    refine zj_iast o (zdd k_M_worked 47 rfl) e_σ11 ?_
    refine zj_iinc (v := v2 + 1) (loc' := [(2, .int (v2 + 1)), (0, .ref v0), (1, .int v1), (3, .int v3)]) o (zdd k_M_worked 48 rfl) 2 rfl (by rw [zki_1]) (by decide) rfl ?_
    refine zj_goto (tgt := 158) o (zdd k_M_worked 49 rfl) (by decide) ?_
    refine zj_iinc (v := v3 + 1) (loc' := [(3, .int (v3 + 1)), (2, .int (v2 + 1)), (0, .ref v0), (1, .int v1)]) o (zdd k_M_worked 96 rfl) 3 rfl (by rw [zki_1]) (by decide) rfl ?_
    refine zj_goto (tgt := 8) o (zdd k_M_worked 97 rfl) (by decide) ?_
    exact zj_sub [2, 3, 1, 0] rfl (hk8 h hr)
def f_M_worked_117 (k8 : zSt → Nat → Int32 → Int32 → Int32 → Option (Int32 × zSt)) (σ : zSt) (v0 : Nat) (v1 : Int32) (v2 : Int32) (v3 : Int32) (s0 : Int32) (s1 : Int32) (s2 : Nat) : Option (Int32 × zSt) :=
(f_M_truth s0).bind fun x1 =>
(zwI σ 1 s2 s1 x1).bind fun σ2 =>
k8 σ2 v0 v1 v2 (v3 + 1)
set_option maxRecDepth 100000 in
set_option maxHeartbeats 4000000 in
theorem r_M_worked_117 {X : zCX} (o : zOK X "WantShelvesModel" c_M_worked n_M_worked 3) {k8 : zSt → Nat → Int32 → Int32 → Int32 → Option (Int32 × zSt)} (hk8 : ∀ {σ : zSt} {v0 : Nat} {v1 : Int32} {v2 : Int32} {v3 : Int32} {z : Int32 × zSt}, k8 σ v0 v1 v2 v3 = some z → zRX X 0 0 (some (.int z.1)) z.2 → zPJ X 0 0 8 [(0, .ref v0), (1, .int v1), (2, .int v2), (3, .int v3)] [] σ) {σ : zSt} {v0 : Nat} {v1 : Int32} {v2 : Int32} {v3 : Int32} {s0 : Int32} {s1 : Int32} {s2 : Nat} {z : Int32 × zSt} (h : f_M_worked_117 k8 σ v0 v1 v2 v3 s0 s1 s2 = some z) (hr : zRX X 0 0 (some (.int z.1)) z.2) : zPJ X 0 0 117 [(0, .ref v0), (1, .int v1), (2, .int v2), (3, .int v3)] [.int s0, .int s1, .ref s2] σ := by
  unfold f_M_worked_117 at h
  obtain ⟨x1, e_x1, h⟩ := zbd h
  refine zc_S o (zdd k_M_worked 71 rfl) ml_M_324 ms_M_truth (by decide) [.int s0] [.int s1, .ref s2] rfl (Nat.le_of_ble_eq_true rfl) rfl (m_M_truth e_x1) ?_
  change zPJ X 0 0 _ _ [.int x1, .int s1, .ref s2] _
  obtain ⟨σ2, e_σ2, h⟩ := zbd h
  refine zj_iast o (zdd k_M_worked 72 rfl) e_σ2 ?_
  refine zj_goto (tgt := 158) o (zdd k_M_worked 73 rfl) (by decide) ?_
  refine zj_iinc (v := v3 + 1) (loc' := [(3, .int (v3 + 1)), (0, .ref v0), (1, .int v1), (2, .int v2)]) o (zdd k_M_worked 96 rfl) 3 rfl (by rw [zki_1]) (by decide) rfl ?_
  refine zj_goto (tgt := 8) o (zdd k_M_worked 97 rfl) (by decide) ?_
  exact zj_sub [1, 2, 3, 0] rfl (hk8 h hr)
def f_M_worked_8 (k8 : zSt → Nat → Int32 → Int32 → Int32 → Option (Int32 × zSt)) (σ : zSt) (v0 : Nat) (v1 : Int32) (v2 : Int32) (v3 : Int32) : Option (Int32 × zSt) :=
(zgP σ 12 v0 16).bind fun a1 =>
(zaI σ 1 a1 v1).bind fun x2 =>
if (320 * v1) + x2 ≤ v3 then (
(zgP σ 12 v0 18).bind fun a3 =>
(zaI σ 1 a3 0).bind fun x4 =>
some (x4, σ)) else
(zgP σ 12 v0 14).bind fun a5 =>
(zaI σ 1 a5 v3).bind fun x6 =>
if x6 = 0 then (
f_M_worked_43 k8 σ v0 v1 v2 v3) else
(zgP σ 12 v0 14).bind fun a7 =>
(zaI σ 1 a7 v3).bind fun x8 =>
if x8 = 1 then (
f_M_worked_43 k8 σ v0 v1 v2 v3) else
(zgP σ 12 v0 14).bind fun a9 =>
(zaI σ 1 a9 v3).bind fun x10 =>
if x10 = 2 then (
(zgP σ 12 v0 18).bind fun a20 =>
(zgP σ 12 v0 18).bind fun a21 =>
(zaI σ 1 a21 (v2 - 1)).bind fun x22 =>
if x22 = 0 then (
f_M_worked_117 k8 σ v0 v1 v2 v3 1 (v2 - 1) a20) else
f_M_worked_117 k8 σ v0 v1 v2 v3 0 (v2 - 1) a20) else
(zgP σ 12 v0 18).bind fun a11 =>
(zgP σ 12 v0 15).bind fun a12 =>
(zaI σ 1 a12 v3).bind fun x13 =>
(zgP σ 12 v0 18).bind fun a14 =>
(zaI σ 1 a14 ((v2 + (-1)) - 1)).bind fun x15 =>
(zgP σ 12 v0 18).bind fun a16 =>
(zaI σ 1 a16 (v2 + (-1))).bind fun x17 =>
(f_M_done x13 x15 x17).bind fun x18 =>
(zwI σ 1 a11 ((v2 + (-1)) - 1) x18).bind fun σ19 =>
k8 σ19 v0 v1 (v2 + (-1)) (v3 + 1)
set_option maxRecDepth 100000 in
set_option maxHeartbeats 4000000 in
theorem r_M_worked_8 {X : zCX} (o : zOK X "WantShelvesModel" c_M_worked n_M_worked 3) {k8 : zSt → Nat → Int32 → Int32 → Int32 → Option (Int32 × zSt)} (hk8 : ∀ {σ : zSt} {v0 : Nat} {v1 : Int32} {v2 : Int32} {v3 : Int32} {z : Int32 × zSt}, k8 σ v0 v1 v2 v3 = some z → zRX X 0 0 (some (.int z.1)) z.2 → zPJ X 0 0 8 [(0, .ref v0), (1, .int v1), (2, .int v2), (3, .int v3)] [] σ) {σ : zSt} {v0 : Nat} {v1 : Int32} {v2 : Int32} {v3 : Int32} {z : Int32 × zSt} (h : f_M_worked_8 k8 σ v0 v1 v2 v3 = some z) (hr : zRX X 0 0 (some (.int z.1)) z.2) : zPJ X 0 0 8 [(0, .ref v0), (1, .int v1), (2, .int v2), (3, .int v3)] [] σ := by
  unfold f_M_worked_8 at h
  refine zj_iload_n o (zdd k_M_worked 6 rfl) rfl 3 rfl ?_
  refine zj_sipush o (zdd k_M_worked 7 rfl) zks_320 ?_
  refine zj_iload_n o (zdd k_M_worked 8 rfl) rfl 1 rfl ?_
  refine zj_imul o (zdd k_M_worked 9 rfl) ?_
  refine zj_aload_n o (zdd k_M_worked 10 rfl) rfl 0 rfl ?_
  obtain ⟨a1, e_a1, h⟩ := zbd h
  refine zj_gP o (zdd k_M_worked 11 rfl) fl_M_36 rfl e_a1 ?_
  refine zj_iload_n o (zdd k_M_worked 12 rfl) rfl 1 rfl ?_
  obtain ⟨x2, e_x2, h⟩ := zbd h
  refine zj_iald o (zdd k_M_worked 13 rfl) e_x2 ?_
  refine zj_iadd o (zdd k_M_worked 14 rfl) ?_
  refine zj_icmp_ge (tgt := 164) o (zdd k_M_worked 15 rfl) (by decide) (fun hc => ?_) (fun hc => ?_)
  · rw [if_pos hc] at h
    refine zj_aload_n o (zdd k_M_worked 98 rfl) rfl 0 rfl ?_
    obtain ⟨a3, e_a3, h⟩ := zbd h
    refine zj_gP o (zdd k_M_worked 99 rfl) fl_M_42 rfl e_a3 ?_
    refine zj_iconst o (zdd k_M_worked 100 rfl) zki_0 ?_
    obtain ⟨x4, e_x4, h⟩ := zbd h
    refine zj_iald o (zdd k_M_worked 101 rfl) e_x4 ?_
    cases h
    exact zr_i o hr (zdd k_M_worked 102 rfl)
  · rw [if_neg hc] at h
    refine zj_aload_n o (zdd k_M_worked 16 rfl) rfl 0 rfl ?_
    obtain ⟨a5, e_a5, h⟩ := zbd h
    refine zj_gP o (zdd k_M_worked 17 rfl) fl_M_30 rfl e_a5 ?_
    refine zj_iload_n o (zdd k_M_worked 18 rfl) rfl 3 rfl ?_
    obtain ⟨x6, e_x6, h⟩ := zbd h
    refine zj_iald o (zdd k_M_worked 19 rfl) e_x6 ?_
    refine zj_if_eq (tgt := 43) o (zdd k_M_worked 20 rfl) (by decide) (fun hc => ?_) (fun hc => ?_)
    · rw [if_pos hc] at h
      exact zj_sub [0, 1, 2, 3] rfl (r_M_worked_43 o hk8 h hr)
    · rw [if_neg hc] at h
      refine zj_aload_n o (zdd k_M_worked 21 rfl) rfl 0 rfl ?_
      obtain ⟨a7, e_a7, h⟩ := zbd h
      refine zj_gP o (zdd k_M_worked 22 rfl) fl_M_30 rfl e_a7 ?_
      refine zj_iload_n o (zdd k_M_worked 23 rfl) rfl 3 rfl ?_
      obtain ⟨x8, e_x8, h⟩ := zbd h
      refine zj_iald o (zdd k_M_worked 24 rfl) e_x8 ?_
      refine zj_iconst o (zdd k_M_worked 25 rfl) zki_1 ?_
      refine zj_icmp_ne (tgt := 84) o (zdd k_M_worked 26 rfl) (by decide) (fun hc => ?_) (fun hc => ?_)
      · rw [if_neg hc] at h
        refine zj_aload_n o (zdd k_M_worked 50 rfl) rfl 0 rfl ?_
        obtain ⟨a9, e_a9, h⟩ := zbd h
        refine zj_gP o (zdd k_M_worked 51 rfl) fl_M_30 rfl e_a9 ?_
        refine zj_iload_n o (zdd k_M_worked 52 rfl) rfl 3 rfl ?_
        obtain ⟨x10, e_x10, h⟩ := zbd h
        refine zj_iald o (zdd k_M_worked 53 rfl) e_x10 ?_
        refine zj_iconst o (zdd k_M_worked 54 rfl) zki_2 ?_
        refine zj_icmp_ne (tgt := 124) o (zdd k_M_worked 55 rfl) (by decide) (fun hc => ?_) (fun hc => ?_)
        · rw [if_neg hc] at h
          refine zj_iinc (v := v2 + (-1)) (loc' := [(2, .int (v2 + (-1))), (0, .ref v0), (1, .int v1), (3, .int v3)]) o (zdd k_M_worked 74 rfl) 2 rfl (by rw [zki_m1]) (by decide) rfl ?_
          refine zj_aload_n o (zdd k_M_worked 75 rfl) rfl 1 rfl ?_
          obtain ⟨a11, e_a11, h⟩ := zbd h
          refine zj_gP o (zdd k_M_worked 76 rfl) fl_M_42 rfl e_a11 ?_
          refine zj_iload_n o (zdd k_M_worked 77 rfl) rfl 0 rfl ?_
          refine zj_iconst o (zdd k_M_worked 78 rfl) zki_1 ?_
          refine zj_isub o (zdd k_M_worked 79 rfl) ?_
          refine zj_aload_n o (zdd k_M_worked 80 rfl) rfl 1 rfl ?_
          obtain ⟨a12, e_a12, h⟩ := zbd h
          refine zj_gP o (zdd k_M_worked 81 rfl) fl_M_33 rfl e_a12 ?_
          refine zj_iload_n o (zdd k_M_worked 82 rfl) rfl 3 rfl ?_
          obtain ⟨x13, e_x13, h⟩ := zbd h
          refine zj_iald o (zdd k_M_worked 83 rfl) e_x13 ?_
          refine zj_aload_n o (zdd k_M_worked 84 rfl) rfl 1 rfl ?_
          obtain ⟨a14, e_a14, h⟩ := zbd h
          refine zj_gP o (zdd k_M_worked 85 rfl) fl_M_42 rfl e_a14 ?_
          refine zj_iload_n o (zdd k_M_worked 86 rfl) rfl 0 rfl ?_
          refine zj_iconst o (zdd k_M_worked 87 rfl) zki_1 ?_
          refine zj_isub o (zdd k_M_worked 88 rfl) ?_
          obtain ⟨x15, e_x15, h⟩ := zbd h
          refine zj_iald o (zdd k_M_worked 89 rfl) e_x15 ?_
          refine zj_aload_n o (zdd k_M_worked 90 rfl) rfl 1 rfl ?_
          obtain ⟨a16, e_a16, h⟩ := zbd h
          refine zj_gP o (zdd k_M_worked 91 rfl) fl_M_42 rfl e_a16 ?_
          refine zj_iload_n o (zdd k_M_worked 92 rfl) rfl 0 rfl ?_
          obtain ⟨x17, e_x17, h⟩ := zbd h
          refine zj_iald o (zdd k_M_worked 93 rfl) e_x17 ?_
          obtain ⟨x18, e_x18, h⟩ := zbd h
          refine zc_S o (zdd k_M_worked 94 rfl) ml_M_328 ms_M_done (by decide) [.int x13, .int x15, .int x17] [.int ((v2 + (-1)) - 1), .ref a11] rfl (Nat.le_of_ble_eq_true rfl) rfl (m_M_done e_x18) ?_
          change zPJ X 0 0 _ _ [.int x18, .int ((v2 + (-1)) - 1), .ref a11] _
          obtain ⟨σ19, e_σ19, h⟩ := zbd h
          refine zj_iast o (zdd k_M_worked 95 rfl) e_σ19 ?_
          refine zj_iinc (v := v3 + 1) (loc' := [(3, .int (v3 + 1)), (2, .int (v2 + (-1))), (0, .ref v0), (1, .int v1)]) o (zdd k_M_worked 96 rfl) 3 rfl (by rw [zki_1]) (by decide) rfl ?_
          refine zj_goto (tgt := 8) o (zdd k_M_worked 97 rfl) (by decide) ?_
          exact zj_sub [2, 3, 1, 0] rfl (hk8 h hr)
        · rw [if_pos hc] at h
          refine zj_aload_n o (zdd k_M_worked 56 rfl) rfl 0 rfl ?_
          obtain ⟨a20, e_a20, h⟩ := zbd h
          refine zj_gP o (zdd k_M_worked 57 rfl) fl_M_42 rfl e_a20 ?_
          refine zj_iload_n o (zdd k_M_worked 58 rfl) rfl 2 rfl ?_
          refine zj_iconst o (zdd k_M_worked 59 rfl) zki_1 ?_
          refine zj_isub o (zdd k_M_worked 60 rfl) ?_
          refine zj_aload_n o (zdd k_M_worked 61 rfl) rfl 0 rfl ?_
          obtain ⟨a21, e_a21, h⟩ := zbd h
          refine zj_gP o (zdd k_M_worked 62 rfl) fl_M_42 rfl e_a21 ?_
          refine zj_iload_n o (zdd k_M_worked 63 rfl) rfl 2 rfl ?_
          refine zj_iconst o (zdd k_M_worked 64 rfl) zki_1 ?_
          refine zj_isub o (zdd k_M_worked 65 rfl) ?_
          obtain ⟨x22, e_x22, h⟩ := zbd h
          refine zj_iald o (zdd k_M_worked 66 rfl) e_x22 ?_
          refine zj_if_ne (tgt := 116) o (zdd k_M_worked 67 rfl) (by decide) (fun hc => ?_) (fun hc => ?_)
          · rw [if_neg hc] at h
            refine zj_iconst o (zdd k_M_worked 70 rfl) zki_0 ?_
            exact zj_sub [0, 1, 2, 3] rfl (r_M_worked_117 o hk8 h hr)
          · rw [if_pos hc] at h
            refine zj_iconst o (zdd k_M_worked 68 rfl) zki_1 ?_
            refine zj_goto (tgt := 117) o (zdd k_M_worked 69 rfl) (by decide) ?_
            exact zj_sub [0, 1, 2, 3] rfl (r_M_worked_117 o hk8 h hr)
      · rw [if_pos hc] at h
        exact zj_sub [0, 1, 2, 3] rfl (r_M_worked_43 o hk8 h hr)
def f_M_worked_8L : Nat → zSt → Nat → Int32 → Int32 → Int32 → Option (Int32 × zSt)
  | 0 => fun _ _ _ _ _ => none
  | n + 1 => f_M_worked_8  (f_M_worked_8L  n)
theorem r_M_worked_8L {X : zCX} (o : zOK X "WantShelvesModel" c_M_worked n_M_worked 3) : ∀ (n : Nat) {σ : zSt} {v0 : Nat} {v1 : Int32} {v2 : Int32} {v3 : Int32} {z : Int32 × zSt}, f_M_worked_8L n σ v0 v1 v2 v3 = some z → zRX X 0 0 (some (.int z.1)) z.2 → zPJ X 0 0 8 [(0, .ref v0), (1, .int v1), (2, .int v2), (3, .int v3)] [] σ
  | 0 => fun h _ => by cases h
  | n + 1 => fun h hr => r_M_worked_8 o (r_M_worked_8L o  n) h hr
def f_M_worked (σ : zSt) (t : Nat) (p0 : Int32) : Option (Int32 × zSt) :=
zg σ 12 t (
f_M_worked_8L zfu σ t p0 0 (320 * p0))
set_option maxRecDepth 100000 in
set_option maxHeartbeats 4000000 in
theorem m_M_worked {l : Launch} {b : Nat} {ex : Nat → Value} {D : va_G} {ca : Nat → ClassId} {σ : zSt} {t : Nat} {p0 : Int32} {z : Int32 × zSt} (h : f_M_worked σ t p0 = some z) : zMT l b ex D ca 3 y_M_worked c_M_worked n_M_worked r_ret_M_worked [.ref t, .int p0] σ (some (.int z.1)) z.2 0 0 := by
  obtain ⟨_, hg0⟩ := zg_some h
  have h := hg0
  refine zmt_of (by decide) (Nat.le_of_ble_eq_true rfl) ⟨.int, rfl, rfl⟩ (fun X o hin hrm _ _ _ _ _ hr => ?_)
  have hr := hr 0 0 (by decide) (by decide)
  have o : zOK X "WantShelvesModel" c_M_worked n_M_worked 3 := o
  change zPJ X 0 0 0 [(0, .ref t), (1, .int p0)] [] σ
  refine zj_iconst o (zdd k_M_worked 0 rfl) zki_0 ?_
  refine zj_istore_n (loc' := [(2, .int 0), (0, .ref t), (1, .int p0)]) o (zdd k_M_worked 1 rfl) rfl (by decide) rfl ?_
  refine zj_sipush o (zdd k_M_worked 2 rfl) zks_320 ?_
  refine zj_iload_n o (zdd k_M_worked 3 rfl) rfl 2 rfl ?_
  refine zj_imul o (zdd k_M_worked 4 rfl) ?_
  refine zj_istore_n (loc' := [(3, .int (320 * p0)), (2, .int 0), (0, .ref t), (1, .int p0)]) o (zdd k_M_worked 5 rfl) rfl (by decide) rfl ?_
  exact zj_sub [2, 3, 1, 0] rfl (r_M_worked_8L o  zfu h hr)
def f_M_readTopic (σ : zSt) (t : Nat) : Option (zSt) :=
zg σ 12 t (
(zgI σ 12 t 34).bind fun x1 =>
(f_M_newName σ t 0 x1).bind fun σ2 =>
(zgI σ2 12 t 2).bind fun x3 =>
if x3 = 0 then (
(zgI σ2 12 t 34).bind fun x4 =>
(zsI σ2 12 t 34 (x4 + 1)).bind fun σ5 =>
some σ5) else
some σ2)
set_option maxRecDepth 100000 in
set_option maxHeartbeats 4000000 in
theorem m_M_readTopic {l : Launch} {b : Nat} {ex : Nat → Value} {D : va_G} {ca : Nat → ClassId} {σ : zSt} {t : Nat} {z : zSt} (h : f_M_readTopic σ t = some z) : zMT l b ex D ca 4 y_M_readTopic c_M_readTopic n_M_readTopic r_ret_M_readTopic [.ref t] σ none z 0 0 := by
  obtain ⟨_, hg0⟩ := zg_some h
  have h := hg0
  refine zmt_of (by decide) (Nat.le_of_ble_eq_true rfl) rfl (fun X o hin hrm _ _ _ _ _ hr => ?_)
  have hr := hr 0 0 (by decide) (by decide)
  have o : zOK X "WantShelvesModel" c_M_readTopic n_M_readTopic 4 := o
  change zPJ X 0 0 0 [(0, .ref t)] [] σ
  refine zj_aload_n o (zdd k_M_readTopic 0 rfl) rfl 0 rfl ?_
  refine zj_iconst o (zdd k_M_readTopic 1 rfl) zki_0 ?_
  refine zj_aload_n o (zdd k_M_readTopic 2 rfl) rfl 0 rfl ?_
  obtain ⟨x1, e_x1, h⟩ := zbd h
  refine zj_gI o (zdd k_M_readTopic 3 rfl) fl_M_269 rfl e_x1 ?_
  obtain ⟨σ2, e_σ2, h⟩ := zbd h
  refine zc_V o (zdd k_M_readTopic 4 rfl) ml_M_332 mv_M_newName ⟨rfl, by decide⟩ (zg_some e_σ2).1 (by decide) [.int 0, .int x1] [] rfl (Nat.le_of_ble_eq_true rfl) rfl (m_M_newName e_σ2) ?_
  change zPJ X 0 0 _ _ [] _
  refine zj_aload_n o (zdd k_M_readTopic 5 rfl) rfl 0 rfl ?_
  obtain ⟨x3, e_x3, h⟩ := zbd h
  refine zj_gI o (zdd k_M_readTopic 6 rfl) fl_M_188 rfl e_x3 ?_
  refine zj_if_ne (tgt := 26) o (zdd k_M_readTopic 7 rfl) (by decide) (fun hc => ?_) (fun hc => ?_)
  · rw [if_neg hc] at h
    cases h
    exact zr_v o hr (zdd k_M_readTopic 14 rfl)
  · rw [if_pos hc] at h
    refine zj_aload_n o (zdd k_M_readTopic 8 rfl) rfl 0 rfl ?_
    refine zj_dup o (zdd k_M_readTopic 9 rfl) rfl ?_
    obtain ⟨x4, e_x4, h⟩ := zbd h
    refine zj_gI o (zdd k_M_readTopic 10 rfl) fl_M_269 rfl e_x4 ?_
    refine zj_iconst o (zdd k_M_readTopic 11 rfl) zki_1 ?_
    refine zj_iadd o (zdd k_M_readTopic 12 rfl) ?_
    obtain ⟨σ5, e_σ5, h⟩ := zbd h
    refine zj_pI o (zdd k_M_readTopic 13 rfl) fl_M_269 rfl rfl e_σ5 ?_
    cases h
    exact zr_v o hr (zdd k_M_readTopic 14 rfl)
def f_M_readBook_87 (σ : zSt) (v0 : Nat) : Option (zSt) :=
(zgI σ 12 v0 2).bind fun x1 =>
if x1 = 0 then (
(zgI σ 12 v0 35).bind fun x2 =>
(zsI σ 12 v0 35 (x2 + 1)).bind fun σ3 =>
some σ3) else
some σ
set_option maxRecDepth 100000 in
set_option maxHeartbeats 4000000 in
theorem r_M_readBook_87 {X : zCX} (o : zOK X "WantShelvesModel" c_M_readBook n_M_readBook 4) {σ : zSt} {v0 : Nat} {z : zSt} (h : f_M_readBook_87 σ v0 = some z) (hr : zRX X 0 0 none z) : zPJ X 0 0 87 [(0, .ref v0)] [] σ := by
  unfold f_M_readBook_87 at h
  refine zj_aload_n o (zdd k_M_readBook 54 rfl) rfl 0 rfl ?_
  obtain ⟨x1, e_x1, h⟩ := zbd h
  refine zj_gI o (zdd k_M_readBook 55 rfl) fl_M_188 rfl e_x1 ?_
  refine zj_if_ne (tgt := 104) o (zdd k_M_readBook 56 rfl) (by decide) (fun hc => ?_) (fun hc => ?_)
  · rw [if_neg hc] at h
    cases h
    exact zr_v o hr (zdd k_M_readBook 63 rfl)
  · rw [if_pos hc] at h
    refine zj_aload_n o (zdd k_M_readBook 57 rfl) rfl 0 rfl ?_
    refine zj_dup o (zdd k_M_readBook 58 rfl) rfl ?_
    obtain ⟨x2, e_x2, h⟩ := zbd h
    refine zj_gI o (zdd k_M_readBook 59 rfl) fl_M_335 rfl e_x2 ?_
    refine zj_iconst o (zdd k_M_readBook 60 rfl) zki_1 ?_
    refine zj_iadd o (zdd k_M_readBook 61 rfl) ?_
    obtain ⟨σ3, e_σ3, h⟩ := zbd h
    refine zj_pI o (zdd k_M_readBook 62 rfl) fl_M_335 rfl rfl e_σ3 ?_
    cases h
    exact zr_v o hr (zdd k_M_readBook 63 rfl)
def f_M_readBook_38 (k38 : zSt → Nat → Int32 → Option (zSt)) (σ : zSt) (v0 : Nat) (v1 : Int32) : Option (zSt) :=
(zgI σ 12 v0 2).bind fun x1 =>
if x1 = 0 then (
(f_M_isName σ v0).bind fun x2 =>
if x2 = 0 then (
f_M_readBook_87 σ v0) else
(f_M_topic σ v0 v1).bind fun q3 =>
(zgP q3.2 12 v0 26).bind fun a4 =>
(zgI q3.2 12 v0 35).bind fun x5 =>
(f_M_toldNumber q3.2 v0 0 9).bind fun q6 =>
(zwI q6.2 1 a4 ((4 * x5) + q3.1) q6.1).bind fun σ7 =>
k38 σ7 v0 (v1 ||| (1 <<< (q3.1 &&& 31)))) else
f_M_readBook_87 σ v0
set_option maxRecDepth 100000 in
set_option maxHeartbeats 4000000 in
theorem r_M_readBook_38 {X : zCX} (o : zOK X "WantShelvesModel" c_M_readBook n_M_readBook 4) {k38 : zSt → Nat → Int32 → Option (zSt)} (hk38 : ∀ {σ : zSt} {v0 : Nat} {v1 : Int32} {z : zSt}, k38 σ v0 v1 = some z → zRX X 0 0 none z → zPJ X 0 0 38 [(0, .ref v0), (1, .int v1)] [] σ) {σ : zSt} {v0 : Nat} {v1 : Int32} {z : zSt} (h : f_M_readBook_38 k38 σ v0 v1 = some z) (hr : zRX X 0 0 none z) : zPJ X 0 0 38 [(0, .ref v0), (1, .int v1)] [] σ := by
  unfold f_M_readBook_38 at h
  refine zj_aload_n o (zdd k_M_readBook 24 rfl) rfl 0 rfl ?_
  obtain ⟨x1, e_x1, h⟩ := zbd h
  refine zj_gI o (zdd k_M_readBook 25 rfl) fl_M_188 rfl e_x1 ?_
  refine zj_if_ne (tgt := 87) o (zdd k_M_readBook 26 rfl) (by decide) (fun hc => ?_) (fun hc => ?_)
  · rw [if_neg hc] at h
    exact zj_sub [0] rfl (r_M_readBook_87 o  h hr)
  · rw [if_pos hc] at h
    refine zj_aload_n o (zdd k_M_readBook 27 rfl) rfl 0 rfl ?_
    obtain ⟨x2, e_x2, h⟩ := zbd h
    refine zc_V o (zdd k_M_readBook 28 rfl) ml_M_263 mv_M_isName ⟨rfl, by decide⟩ (zg_some e_x2).1 (by decide) [] [] rfl (Nat.le_of_ble_eq_true rfl) rfl (m_M_isName e_x2) ?_
    change zPJ X 0 0 _ _ [.int x2] _
    refine zj_if_eq (tgt := 87) o (zdd k_M_readBook 29 rfl) (by decide) (fun hc => ?_) (fun hc => ?_)
    · rw [if_pos hc] at h
      exact zj_sub [0] rfl (r_M_readBook_87 o  h hr)
    · rw [if_neg hc] at h
      refine zj_aload_n o (zdd k_M_readBook 30 rfl) rfl 0 rfl ?_
      refine zj_iload_n o (zdd k_M_readBook 31 rfl) rfl 1 rfl ?_
      obtain ⟨q3, e_q3, h⟩ := zbd h
      refine zc_V o (zdd k_M_readBook 32 rfl) ml_M_338 mv_M_topic ⟨rfl, by decide⟩ (zg_some e_q3).1 (by decide) [.int v1] [] rfl (Nat.le_of_ble_eq_true rfl) rfl (m_M_topic e_q3) ?_
      change zPJ X 0 0 _ _ [.int q3.1] _
      refine zj_istore_n (loc' := [(2, .int q3.1), (0, .ref v0), (1, .int v1)]) o (zdd k_M_readBook 33 rfl) rfl (by decide) rfl ?_
      refine zj_iload_n o (zdd k_M_readBook 34 rfl) rfl 2 rfl ?_
      refine zj_iconst o (zdd k_M_readBook 35 rfl) zki_1 ?_
      refine zj_iload_n o (zdd k_M_readBook 36 rfl) rfl 0 rfl ?_
      refine zj_ishl o (zdd k_M_readBook 37 rfl) ?_
      refine zj_ior o (zdd k_M_readBook 38 rfl) ?_
      refine zj_istore_n (loc' := [(1, .int (v1 ||| (1 <<< (q3.1 &&& 31)))), (2, .int q3.1), (0, .ref v0)]) o (zdd k_M_readBook 39 rfl) rfl (by decide) rfl ?_
      refine zj_aload_n o (zdd k_M_readBook 40 rfl) rfl 2 rfl ?_
      obtain ⟨a4, e_a4, h⟩ := zbd h
      refine zj_gP o (zdd k_M_readBook 41 rfl) fl_M_48 rfl e_a4 ?_
      refine zj_iconst o (zdd k_M_readBook 42 rfl) zki_4 ?_
      refine zj_aload_n o (zdd k_M_readBook 43 rfl) rfl 2 rfl ?_
      obtain ⟨x5, e_x5, h⟩ := zbd h
      refine zj_gI o (zdd k_M_readBook 44 rfl) fl_M_335 rfl e_x5 ?_
      refine zj_imul o (zdd k_M_readBook 45 rfl) ?_
      refine zj_iload_n o (zdd k_M_readBook 46 rfl) rfl 1 rfl ?_
      refine zj_iadd o (zdd k_M_readBook 47 rfl) ?_
      refine zj_aload_n o (zdd k_M_readBook 48 rfl) rfl 2 rfl ?_
      refine zj_iconst o (zdd k_M_readBook 49 rfl) zki_0 ?_
      refine zj_bipush o (zdd k_M_readBook 50 rfl) zkb_9 ?_
      obtain ⟨q6, e_q6, h⟩ := zbd h
      refine zc_V o (zdd k_M_readBook 51 rfl) ml_M_255 mv_M_toldNumber ⟨rfl, by decide⟩ (zg_some e_q6).1 (by decide) [.int 0, .int 9] [.int ((4 * x5) + q3.1), .ref a4] rfl (Nat.le_of_ble_eq_true rfl) rfl (m_M_toldNumber e_q6) ?_
      change zPJ X 0 0 _ _ [.int q6.1, .int ((4 * x5) + q3.1), .ref a4] _
      obtain ⟨σ7, e_σ7, h⟩ := zbd h
      refine zj_iast o (zdd k_M_readBook 52 rfl) e_σ7 ?_
      refine zj_goto (tgt := 38) o (zdd k_M_readBook 53 rfl) (by decide) ?_
      exact zj_sub [2, 0] rfl (hk38 h hr)
def f_M_readBook_38L : Nat → zSt → Nat → Int32 → Option (zSt)
  | 0 => fun _ _ _ => none
  | n + 1 => f_M_readBook_38  (f_M_readBook_38L  n)
theorem r_M_readBook_38L {X : zCX} (o : zOK X "WantShelvesModel" c_M_readBook n_M_readBook 4) : ∀ (n : Nat) {σ : zSt} {v0 : Nat} {v1 : Int32} {z : zSt}, f_M_readBook_38L n σ v0 v1 = some z → zRX X 0 0 none z → zPJ X 0 0 38 [(0, .ref v0), (1, .int v1)] [] σ
  | 0 => fun h _ => by cases h
  | n + 1 => fun h hr => r_M_readBook_38 o (r_M_readBook_38L o  n) h hr
def f_M_readBook_11 (k11 : zSt → Nat → Int32 → Option (zSt)) (σ : zSt) (v0 : Nat) (v1 : Int32) : Option (zSt) :=
if 4 ≤ v1 then (
f_M_readBook_38L zfu σ v0 0) else
(zgP σ 12 v0 26).bind fun a1 =>
(zgI σ 12 v0 35).bind fun x2 =>
(zwI σ 1 a1 ((4 * x2) + v1) 0).bind fun σ3 =>
k11 σ3 v0 (v1 + 1)
set_option maxRecDepth 100000 in
set_option maxHeartbeats 4000000 in
theorem r_M_readBook_11 {X : zCX} (o : zOK X "WantShelvesModel" c_M_readBook n_M_readBook 4) {k11 : zSt → Nat → Int32 → Option (zSt)} (hk11 : ∀ {σ : zSt} {v0 : Nat} {v1 : Int32} {z : zSt}, k11 σ v0 v1 = some z → zRX X 0 0 none z → zPJ X 0 0 11 [(0, .ref v0), (1, .int v1)] [] σ) {σ : zSt} {v0 : Nat} {v1 : Int32} {z : zSt} (h : f_M_readBook_11 k11 σ v0 v1 = some z) (hr : zRX X 0 0 none z) : zPJ X 0 0 11 [(0, .ref v0), (1, .int v1)] [] σ := by
  unfold f_M_readBook_11 at h
  refine zj_iload_n o (zdd k_M_readBook 7 rfl) rfl 1 rfl ?_
  refine zj_iconst o (zdd k_M_readBook 8 rfl) zki_4 ?_
  refine zj_icmp_ge (tgt := 36) o (zdd k_M_readBook 9 rfl) (by decide) (fun hc => ?_) (fun hc => ?_)
  · rw [if_pos hc] at h
    refine zj_iconst o (zdd k_M_readBook 22 rfl) zki_0 ?_
    refine zj_istore_n (loc' := [(1, .int 0), (0, .ref v0)]) o (zdd k_M_readBook 23 rfl) rfl (by decide) rfl ?_
    exact zj_sub [1, 0] rfl (r_M_readBook_38L o  zfu h hr)
  · rw [if_neg hc] at h
    refine zj_aload_n o (zdd k_M_readBook 10 rfl) rfl 0 rfl ?_
    obtain ⟨a1, e_a1, h⟩ := zbd h
    refine zj_gP o (zdd k_M_readBook 11 rfl) fl_M_48 rfl e_a1 ?_
    refine zj_iconst o (zdd k_M_readBook 12 rfl) zki_4 ?_
    refine zj_aload_n o (zdd k_M_readBook 13 rfl) rfl 0 rfl ?_
    obtain ⟨x2, e_x2, h⟩ := zbd h
    refine zj_gI o (zdd k_M_readBook 14 rfl) fl_M_335 rfl e_x2 ?_
    refine zj_imul o (zdd k_M_readBook 15 rfl) ?_
    refine zj_iload_n o (zdd k_M_readBook 16 rfl) rfl 1 rfl ?_
    refine zj_iadd o (zdd k_M_readBook 17 rfl) ?_
    refine zj_iconst o (zdd k_M_readBook 18 rfl) zki_0 ?_
    obtain ⟨σ3, e_σ3, h⟩ := zbd h
    refine zj_iast o (zdd k_M_readBook 19 rfl) e_σ3 ?_
    refine zj_iinc (v := v1 + 1) (loc' := [(1, .int (v1 + 1)), (0, .ref v0)]) o (zdd k_M_readBook 20 rfl) 1 rfl (by rw [zki_1]) (by decide) rfl ?_
    refine zj_goto (tgt := 11) o (zdd k_M_readBook 21 rfl) (by decide) ?_
    exact zj_sub [1, 0] rfl (hk11 h hr)
def f_M_readBook_11L : Nat → zSt → Nat → Int32 → Option (zSt)
  | 0 => fun _ _ _ => none
  | n + 1 => f_M_readBook_11  (f_M_readBook_11L  n)
theorem r_M_readBook_11L {X : zCX} (o : zOK X "WantShelvesModel" c_M_readBook n_M_readBook 4) : ∀ (n : Nat) {σ : zSt} {v0 : Nat} {v1 : Int32} {z : zSt}, f_M_readBook_11L n σ v0 v1 = some z → zRX X 0 0 none z → zPJ X 0 0 11 [(0, .ref v0), (1, .int v1)] [] σ
  | 0 => fun h _ => by cases h
  | n + 1 => fun h hr => r_M_readBook_11 o (r_M_readBook_11L o  n) h hr
def f_M_readBook (σ : zSt) (t : Nat) : Option (zSt) :=
zg σ 12 t (
(zgI σ 12 t 35).bind fun x1 =>
(f_M_newName σ t 4 x1).bind fun σ2 =>
f_M_readBook_11L zfu σ2 t 0)
set_option maxRecDepth 100000 in
set_option maxHeartbeats 4000000 in
theorem m_M_readBook {l : Launch} {b : Nat} {ex : Nat → Value} {D : va_G} {ca : Nat → ClassId} {σ : zSt} {t : Nat} {z : zSt} (h : f_M_readBook σ t = some z) : zMT l b ex D ca 4 y_M_readBook c_M_readBook n_M_readBook r_ret_M_readBook [.ref t] σ none z 0 0 := by
  obtain ⟨_, hg0⟩ := zg_some h
  have h := hg0
  refine zmt_of (by decide) (Nat.le_of_ble_eq_true rfl) rfl (fun X o hin hrm _ _ _ _ _ hr => ?_)
  have hr := hr 0 0 (by decide) (by decide)
  have o : zOK X "WantShelvesModel" c_M_readBook n_M_readBook 4 := o
  change zPJ X 0 0 0 [(0, .ref t)] [] σ
  refine zj_aload_n o (zdd k_M_readBook 0 rfl) rfl 0 rfl ?_
  refine zj_iconst o (zdd k_M_readBook 1 rfl) zki_4 ?_
  refine zj_aload_n o (zdd k_M_readBook 2 rfl) rfl 0 rfl ?_
  obtain ⟨x1, e_x1, h⟩ := zbd h
  refine zj_gI o (zdd k_M_readBook 3 rfl) fl_M_335 rfl e_x1 ?_
  obtain ⟨σ2, e_σ2, h⟩ := zbd h
  refine zc_V o (zdd k_M_readBook 4 rfl) ml_M_332 mv_M_newName ⟨rfl, by decide⟩ (zg_some e_σ2).1 (by decide) [.int 4, .int x1] [] rfl (Nat.le_of_ble_eq_true rfl) rfl (m_M_newName e_σ2) ?_
  change zPJ X 0 0 _ _ [] _
  refine zj_iconst o (zdd k_M_readBook 5 rfl) zki_0 ?_
  refine zj_istore_n (loc' := [(1, .int 0), (0, .ref t)]) o (zdd k_M_readBook 6 rfl) rfl (by decide) rfl ?_
  exact zj_sub [1, 0] rfl (r_M_readBook_11L o  zfu h hr)
def f_M_readReader_123 (k74 : zSt → Nat → Int32 → Int32 → Option (zSt)) (σ : zSt) (v0 : Nat) (v1 : Int32) (v2 : Int32) (v3 : Int32) (s0 : Int32) (s1 : Nat) : Option (zSt) :=
(f_M_topic σ s1 s0).bind fun q1 =>
if v3 = 0 then (
(zgP q1.2 12 v0 28).bind fun a2 =>
(zgI q1.2 12 v0 36).bind fun x3 =>
(f_M_toldNumber q1.2 v0 0 9).bind fun q4 =>
(zwI q4.2 1 a2 ((4 * x3) + q1.1) q4.1).bind fun σ5 =>
k74 σ5 v0 v1 (v2 ||| (1 <<< (q1.1 &&& 31)))) else
(zgP q1.2 12 v0 27).bind fun a6 =>
(zgI q1.2 12 v0 36).bind fun x7 =>
(f_M_signed q1.2 v0).bind fun q8 =>
(zwI q8.2 1 a6 ((4 * x7) + q1.1) q8.1).bind fun σ9 =>
k74 σ9 v0 (v1 ||| (1 <<< (q1.1 &&& 31))) v2
set_option maxRecDepth 100000 in
set_option maxHeartbeats 4000000 in
theorem r_M_readReader_123 {X : zCX} (o : zOK X "WantShelvesModel" c_M_readReader n_M_readReader 5) {k74 : zSt → Nat → Int32 → Int32 → Option (zSt)} (hk74 : ∀ {σ : zSt} {v0 : Nat} {v1 : Int32} {v2 : Int32} {z : zSt}, k74 σ v0 v1 v2 = some z → zRX X 0 0 none z → zPJ X 0 0 74 [(0, .ref v0), (1, .int v1), (2, .int v2)] [] σ) {σ : zSt} {v0 : Nat} {v1 : Int32} {v2 : Int32} {v3 : Int32} {s0 : Int32} {s1 : Nat} {z : zSt} (h : f_M_readReader_123 k74 σ v0 v1 v2 v3 s0 s1 = some z) (hr : zRX X 0 0 none z) : zPJ X 0 0 123 [(0, .ref v0), (1, .int v1), (2, .int v2), (3, .int v3)] [.int s0, .ref s1] σ := by
  unfold f_M_readReader_123 at h
  obtain ⟨q1, e_q1, h⟩ := zbd h
  refine zc_V o (zdd k_M_readReader 69 rfl) ml_M_338 mv_M_topic ⟨rfl, by decide⟩ (zg_some e_q1).1 (by decide) [.int s0] [] rfl (Nat.le_of_ble_eq_true rfl) rfl (m_M_topic e_q1) ?_
  change zPJ X 0 0 _ _ [.int q1.1] _
  refine zj_istore (loc' := [(4, .int q1.1), (0, .ref v0), (1, .int v1), (2, .int v2), (3, .int v3)]) o (zdd k_M_readReader 70 rfl) (by decide) rfl ?_
  refine zj_iload_n o (zdd k_M_readReader 71 rfl) rfl 4 rfl ?_
  refine zj_if_eq (tgt := 160) o (zdd k_M_readReader 72 rfl) (by decide) (fun hc => ?_) (fun hc => ?_)
  · rw [if_pos hc] at h
    refine zj_iload_n o (zdd k_M_readReader 91 rfl) rfl 3 rfl ?_
    refine zj_iconst o (zdd k_M_readReader 92 rfl) zki_1 ?_
    refine zj_iload o (zdd k_M_readReader 93 rfl) 0 rfl ?_
    refine zj_ishl o (zdd k_M_readReader 94 rfl) ?_
    refine zj_ior o (zdd k_M_readReader 95 rfl) ?_
    refine zj_istore_n (loc' := [(2, .int (v2 ||| (1 <<< (q1.1 &&& 31)))), (4, .int q1.1), (0, .ref v0), (1, .int v1), (3, .int v3)]) o (zdd k_M_readReader 96 rfl) rfl (by decide) rfl ?_
    refine zj_aload_n o (zdd k_M_readReader 97 rfl) rfl 2 rfl ?_
    obtain ⟨a2, e_a2, h⟩ := zbd h
    refine zj_gP o (zdd k_M_readReader 98 rfl) fl_M_54 rfl e_a2 ?_
    refine zj_iconst o (zdd k_M_readReader 99 rfl) zki_4 ?_
    refine zj_aload_n o (zdd k_M_readReader 100 rfl) rfl 2 rfl ?_
    obtain ⟨x3, e_x3, h⟩ := zbd h
    refine zj_gI o (zdd k_M_readReader 101 rfl) fl_M_341 rfl e_x3 ?_
    refine zj_imul o (zdd k_M_readReader 102 rfl) ?_
    refine zj_iload o (zdd k_M_readReader 103 rfl) 1 rfl ?_
    refine zj_iadd o (zdd k_M_readReader 104 rfl) ?_
    refine zj_aload_n o (zdd k_M_readReader 105 rfl) rfl 2 rfl ?_
    refine zj_iconst o (zdd k_M_readReader 106 rfl) zki_0 ?_
    refine zj_bipush o (zdd k_M_readReader 107 rfl) zkb_9 ?_
    obtain ⟨q4, e_q4, h⟩ := zbd h
    refine zc_V o (zdd k_M_readReader 108 rfl) ml_M_255 mv_M_toldNumber ⟨rfl, by decide⟩ (zg_some e_q4).1 (by decide) [.int 0, .int 9] [.int ((4 * x3) + q1.1), .ref a2] rfl (Nat.le_of_ble_eq_true rfl) rfl (m_M_toldNumber e_q4) ?_
    change zPJ X 0 0 _ _ [.int q4.1, .int ((4 * x3) + q1.1), .ref a2] _
    obtain ⟨σ5, e_σ5, h⟩ := zbd h
    refine zj_iast o (zdd k_M_readReader 109 rfl) e_σ5 ?_
    refine zj_goto (tgt := 74) o (zdd k_M_readReader 110 rfl) (by decide) ?_
    exact zj_sub [2, 3, 0] rfl (hk74 h hr)
  · rw [if_neg hc] at h
    refine zj_iload_n o (zdd k_M_readReader 73 rfl) rfl 2 rfl ?_
    refine zj_iconst o (zdd k_M_readReader 74 rfl) zki_1 ?_
    refine zj_iload o (zdd k_M_readReader 75 rfl) 0 rfl ?_
    refine zj_ishl o (zdd k_M_readReader 76 rfl) ?_
    refine zj_ior o (zdd k_M_readReader 77 rfl) ?_
    refine zj_istore_n (loc' := [(1, .int (v1 ||| (1 <<< (q1.1 &&& 31)))), (4, .int q1.1), (0, .ref v0), (2, .int v2), (3, .int v3)]) o (zdd k_M_readReader 78 rfl) rfl (by decide) rfl ?_
    refine zj_aload_n o (zdd k_M_readReader 79 rfl) rfl 2 rfl ?_
    obtain ⟨a6, e_a6, h⟩ := zbd h
    refine zj_gP o (zdd k_M_readReader 80 rfl) fl_M_51 rfl e_a6 ?_
    refine zj_iconst o (zdd k_M_readReader 81 rfl) zki_4 ?_
    refine zj_aload_n o (zdd k_M_readReader 82 rfl) rfl 2 rfl ?_
    obtain ⟨x7, e_x7, h⟩ := zbd h
    refine zj_gI o (zdd k_M_readReader 83 rfl) fl_M_341 rfl e_x7 ?_
    refine zj_imul o (zdd k_M_readReader 84 rfl) ?_
    refine zj_iload o (zdd k_M_readReader 85 rfl) 1 rfl ?_
    refine zj_iadd o (zdd k_M_readReader 86 rfl) ?_
    refine zj_aload_n o (zdd k_M_readReader 87 rfl) rfl 2 rfl ?_
    obtain ⟨q8, e_q8, h⟩ := zbd h
    refine zc_V o (zdd k_M_readReader 88 rfl) ml_M_348 mv_M_signed ⟨rfl, by decide⟩ (zg_some e_q8).1 (by decide) [] [.int ((4 * x7) + q1.1), .ref a6] rfl (Nat.le_of_ble_eq_true rfl) rfl (m_M_signed e_q8) ?_
    change zPJ X 0 0 _ _ [.int q8.1, .int ((4 * x7) + q1.1), .ref a6] _
    obtain ⟨σ9, e_σ9, h⟩ := zbd h
    refine zj_iast o (zdd k_M_readReader 89 rfl) e_σ9 ?_
    refine zj_goto (tgt := 188) o (zdd k_M_readReader 90 rfl) (by decide) ?_
    refine zj_goto (tgt := 74) o (zdd k_M_readReader 110 rfl) (by decide) ?_
    exact zj_sub [2, 0, 3] rfl (hk74 h hr)
def f_M_readReader_101 (k74 : zSt → Nat → Int32 → Int32 → Option (zSt)) (σ : zSt) (v0 : Nat) (v1 : Int32) (v2 : Int32) : Option (zSt) :=
(f_M_isWord σ v0 512735736947).bind fun x1 =>
(f_M_token σ v0).bind fun σ2 =>
if x1 = 0 then (
f_M_readReader_123 k74 σ2 v0 v1 v2 x1 v2 v0) else
f_M_readReader_123 k74 σ2 v0 v1 v2 x1 v1 v0
set_option maxRecDepth 100000 in
set_option maxHeartbeats 4000000 in
theorem r_M_readReader_101 {X : zCX} (o : zOK X "WantShelvesModel" c_M_readReader n_M_readReader 5) {k74 : zSt → Nat → Int32 → Int32 → Option (zSt)} (hk74 : ∀ {σ : zSt} {v0 : Nat} {v1 : Int32} {v2 : Int32} {z : zSt}, k74 σ v0 v1 v2 = some z → zRX X 0 0 none z → zPJ X 0 0 74 [(0, .ref v0), (1, .int v1), (2, .int v2)] [] σ) {σ : zSt} {v0 : Nat} {v1 : Int32} {v2 : Int32} {z : zSt} (h : f_M_readReader_101 k74 σ v0 v1 v2 = some z) (hr : zRX X 0 0 none z) : zPJ X 0 0 101 [(0, .ref v0), (1, .int v1), (2, .int v2)] [] σ := by
  unfold f_M_readReader_101 at h
  refine zj_aload_n o (zdd k_M_readReader 57 rfl) rfl 0 rfl ?_
  refine zj_ldc2 o (zdd k_M_readReader 58 rfl) lc_M_199 ?_
  obtain ⟨x1, e_x1, h⟩ := zbd h
  refine zc_V o (zdd k_M_readReader 59 rfl) ml_M_241 mv_M_isWord ⟨rfl, by decide⟩ (zg_some e_x1).1 (by decide) [.long 512735736947] [] rfl (Nat.le_of_ble_eq_true rfl) rfl (m_M_isWord e_x1) ?_
  change zPJ X 0 0 _ _ [.int x1] _
  refine zj_istore_n (loc' := [(3, .int x1), (0, .ref v0), (1, .int v1), (2, .int v2)]) o (zdd k_M_readReader 60 rfl) rfl (by decide) rfl ?_
  refine zj_aload_n o (zdd k_M_readReader 61 rfl) rfl 1 rfl ?_
  obtain ⟨σ2, e_σ2, h⟩ := zbd h
  refine zc_V o (zdd k_M_readReader 62 rfl) ml_M_248 mv_M_token ⟨rfl, by decide⟩ (zg_some e_σ2).1 (by decide) [] [] rfl (Nat.le_of_ble_eq_true rfl) rfl (m_M_token e_σ2) ?_
  change zPJ X 0 0 _ _ [] _
  refine zj_aload_n o (zdd k_M_readReader 63 rfl) rfl 1 rfl ?_
  refine zj_iload_n o (zdd k_M_readReader 64 rfl) rfl 0 rfl ?_
  refine zj_if_eq (tgt := 122) o (zdd k_M_readReader 65 rfl) (by decide) (fun hc => ?_) (fun hc => ?_)
  · rw [if_pos hc] at h
    refine zj_iload_n o (zdd k_M_readReader 68 rfl) rfl 3 rfl ?_
    exact zj_sub [1, 2, 3, 0] rfl (r_M_readReader_123 o hk74 h hr)
  · rw [if_neg hc] at h
    refine zj_iload_n o (zdd k_M_readReader 66 rfl) rfl 2 rfl ?_
    refine zj_goto (tgt := 123) o (zdd k_M_readReader 67 rfl) (by decide) ?_
    exact zj_sub [1, 2, 3, 0] rfl (r_M_readReader_123 o hk74 h hr)
def f_M_readReader_191 (σ : zSt) (v0 : Nat) : Option (zSt) :=
(zgI σ 12 v0 2).bind fun x1 =>
if x1 = 0 then (
(zgI σ 12 v0 36).bind fun x2 =>
(zsI σ 12 v0 36 (x2 + 1)).bind fun σ3 =>
some σ3) else
some σ
set_option maxRecDepth 100000 in
set_option maxHeartbeats 4000000 in
theorem r_M_readReader_191 {X : zCX} (o : zOK X "WantShelvesModel" c_M_readReader n_M_readReader 5) {σ : zSt} {v0 : Nat} {z : zSt} (h : f_M_readReader_191 σ v0 = some z) (hr : zRX X 0 0 none z) : zPJ X 0 0 191 [(0, .ref v0)] [] σ := by
  unfold f_M_readReader_191 at h
  refine zj_aload_n o (zdd k_M_readReader 111 rfl) rfl 0 rfl ?_
  obtain ⟨x1, e_x1, h⟩ := zbd h
  refine zj_gI o (zdd k_M_readReader 112 rfl) fl_M_188 rfl e_x1 ?_
  refine zj_if_ne (tgt := 208) o (zdd k_M_readReader 113 rfl) (by decide) (fun hc => ?_) (fun hc => ?_)
  · rw [if_neg hc] at h
    cases h
    exact zr_v o hr (zdd k_M_readReader 120 rfl)
  · rw [if_pos hc] at h
    refine zj_aload_n o (zdd k_M_readReader 114 rfl) rfl 0 rfl ?_
    refine zj_dup o (zdd k_M_readReader 115 rfl) rfl ?_
    obtain ⟨x2, e_x2, h⟩ := zbd h
    refine zj_gI o (zdd k_M_readReader 116 rfl) fl_M_341 rfl e_x2 ?_
    refine zj_iconst o (zdd k_M_readReader 117 rfl) zki_1 ?_
    refine zj_iadd o (zdd k_M_readReader 118 rfl) ?_
    obtain ⟨σ3, e_σ3, h⟩ := zbd h
    refine zj_pI o (zdd k_M_readReader 119 rfl) fl_M_341 rfl rfl e_σ3 ?_
    cases h
    exact zr_v o hr (zdd k_M_readReader 120 rfl)
def f_M_readReader_74 (k74 : zSt → Nat → Int32 → Int32 → Option (zSt)) (σ : zSt) (v0 : Nat) (v1 : Int32) (v2 : Int32) : Option (zSt) :=
(zgI σ 12 v0 2).bind fun x1 =>
if x1 = 0 then (
(f_M_isWord σ v0 512735736947).bind fun x2 =>
if x2 = 0 then (
(f_M_isWord σ v0 478711081076).bind fun x3 =>
if x3 = 0 then (
f_M_readReader_191 σ v0) else
f_M_readReader_101 k74 σ v0 v1 v2) else
f_M_readReader_101 k74 σ v0 v1 v2) else
f_M_readReader_191 σ v0
set_option maxRecDepth 100000 in
set_option maxHeartbeats 4000000 in
theorem r_M_readReader_74 {X : zCX} (o : zOK X "WantShelvesModel" c_M_readReader n_M_readReader 5) {k74 : zSt → Nat → Int32 → Int32 → Option (zSt)} (hk74 : ∀ {σ : zSt} {v0 : Nat} {v1 : Int32} {v2 : Int32} {z : zSt}, k74 σ v0 v1 v2 = some z → zRX X 0 0 none z → zPJ X 0 0 74 [(0, .ref v0), (1, .int v1), (2, .int v2)] [] σ) {σ : zSt} {v0 : Nat} {v1 : Int32} {v2 : Int32} {z : zSt} (h : f_M_readReader_74 k74 σ v0 v1 v2 = some z) (hr : zRX X 0 0 none z) : zPJ X 0 0 74 [(0, .ref v0), (1, .int v1), (2, .int v2)] [] σ := by
  unfold f_M_readReader_74 at h
  refine zj_aload_n o (zdd k_M_readReader 46 rfl) rfl 0 rfl ?_
  obtain ⟨x1, e_x1, h⟩ := zbd h
  refine zj_gI o (zdd k_M_readReader 47 rfl) fl_M_188 rfl e_x1 ?_
  refine zj_if_ne (tgt := 191) o (zdd k_M_readReader 48 rfl) (by decide) (fun hc => ?_) (fun hc => ?_)
  · rw [if_neg hc] at h
    exact zj_sub [0] rfl (r_M_readReader_191 o  h hr)
  · rw [if_pos hc] at h
    refine zj_aload_n o (zdd k_M_readReader 49 rfl) rfl 0 rfl ?_
    refine zj_ldc2 o (zdd k_M_readReader 50 rfl) lc_M_199 ?_
    obtain ⟨x2, e_x2, h⟩ := zbd h
    refine zc_V o (zdd k_M_readReader 51 rfl) ml_M_241 mv_M_isWord ⟨rfl, by decide⟩ (zg_some e_x2).1 (by decide) [.long 512735736947] [] rfl (Nat.le_of_ble_eq_true rfl) rfl (m_M_isWord e_x2) ?_
    change zPJ X 0 0 _ _ [.int x2] _
    refine zj_if_ne (tgt := 101) o (zdd k_M_readReader 52 rfl) (by decide) (fun hc => ?_) (fun hc => ?_)
    · rw [if_neg hc] at h
      exact zj_sub [0, 1, 2] rfl (r_M_readReader_101 o hk74 h hr)
    · rw [if_pos hc] at h
      refine zj_aload_n o (zdd k_M_readReader 53 rfl) rfl 0 rfl ?_
      refine zj_ldc2 o (zdd k_M_readReader 54 rfl) lc_M_201 ?_
      obtain ⟨x3, e_x3, h⟩ := zbd h
      refine zc_V o (zdd k_M_readReader 55 rfl) ml_M_241 mv_M_isWord ⟨rfl, by decide⟩ (zg_some e_x3).1 (by decide) [.long 478711081076] [] rfl (Nat.le_of_ble_eq_true rfl) rfl (m_M_isWord e_x3) ?_
      change zPJ X 0 0 _ _ [.int x3] _
      refine zj_if_eq (tgt := 191) o (zdd k_M_readReader 56 rfl) (by decide) (fun hc => ?_) (fun hc => ?_)
      · rw [if_pos hc] at h
        exact zj_sub [0] rfl (r_M_readReader_191 o  h hr)
      · rw [if_neg hc] at h
        exact zj_sub [0, 1, 2] rfl (r_M_readReader_101 o hk74 h hr)
def f_M_readReader_74L : Nat → zSt → Nat → Int32 → Int32 → Option (zSt)
  | 0 => fun _ _ _ _ => none
  | n + 1 => f_M_readReader_74  (f_M_readReader_74L  n)
theorem r_M_readReader_74L {X : zCX} (o : zOK X "WantShelvesModel" c_M_readReader n_M_readReader 5) : ∀ (n : Nat) {σ : zSt} {v0 : Nat} {v1 : Int32} {v2 : Int32} {z : zSt}, f_M_readReader_74L n σ v0 v1 v2 = some z → zRX X 0 0 none z → zPJ X 0 0 74 [(0, .ref v0), (1, .int v1), (2, .int v2)] [] σ
  | 0 => fun h _ => by cases h
  | n + 1 => fun h hr => r_M_readReader_74 o (r_M_readReader_74L o  n) h hr
def f_M_readReader_31 (k31 : zSt → Nat → Int32 → Option (zSt)) (σ : zSt) (v0 : Nat) (v1 : Int32) : Option (zSt) :=
if 4 ≤ v1 then (
f_M_readReader_74L zfu σ v0 0 0) else
(zgP σ 12 v0 27).bind fun a1 =>
(zgI σ 12 v0 36).bind fun x2 =>
(zwI σ 1 a1 ((4 * x2) + v1) 0).bind fun σ3 =>
(zgP σ3 12 v0 28).bind fun a4 =>
(zgI σ3 12 v0 36).bind fun x5 =>
(zwI σ3 1 a4 ((4 * x5) + v1) 0).bind fun σ6 =>
k31 σ6 v0 (v1 + 1)
set_option maxRecDepth 100000 in
set_option maxHeartbeats 4000000 in
theorem r_M_readReader_31 {X : zCX} (o : zOK X "WantShelvesModel" c_M_readReader n_M_readReader 5) {k31 : zSt → Nat → Int32 → Option (zSt)} (hk31 : ∀ {σ : zSt} {v0 : Nat} {v1 : Int32} {z : zSt}, k31 σ v0 v1 = some z → zRX X 0 0 none z → zPJ X 0 0 31 [(0, .ref v0), (1, .int v1)] [] σ) {σ : zSt} {v0 : Nat} {v1 : Int32} {z : zSt} (h : f_M_readReader_31 k31 σ v0 v1 = some z) (hr : zRX X 0 0 none z) : zPJ X 0 0 31 [(0, .ref v0), (1, .int v1)] [] σ := by
  unfold f_M_readReader_31 at h
  refine zj_iload_n o (zdd k_M_readReader 17 rfl) rfl 1 rfl ?_
  refine zj_iconst o (zdd k_M_readReader 18 rfl) zki_4 ?_
  refine zj_icmp_ge (tgt := 70) o (zdd k_M_readReader 19 rfl) (by decide) (fun hc => ?_) (fun hc => ?_)
  · rw [if_pos hc] at h
    refine zj_iconst o (zdd k_M_readReader 42 rfl) zki_0 ?_
    refine zj_istore_n (loc' := [(1, .int 0), (0, .ref v0)]) o (zdd k_M_readReader 43 rfl) rfl (by decide) rfl ?_
    refine zj_iconst o (zdd k_M_readReader 44 rfl) zki_0 ?_
    refine zj_istore_n (loc' := [(2, .int 0), (1, .int 0), (0, .ref v0)]) o (zdd k_M_readReader 45 rfl) rfl (by decide) rfl ?_
    exact zj_sub [2, 1, 0] rfl (r_M_readReader_74L o  zfu h hr)
  · rw [if_neg hc] at h
    refine zj_aload_n o (zdd k_M_readReader 20 rfl) rfl 0 rfl ?_
    obtain ⟨a1, e_a1, h⟩ := zbd h
    refine zj_gP o (zdd k_M_readReader 21 rfl) fl_M_51 rfl e_a1 ?_
    refine zj_iconst o (zdd k_M_readReader 22 rfl) zki_4 ?_
    refine zj_aload_n o (zdd k_M_readReader 23 rfl) rfl 0 rfl ?_
    obtain ⟨x2, e_x2, h⟩ := zbd h
    refine zj_gI o (zdd k_M_readReader 24 rfl) fl_M_341 rfl e_x2 ?_
    refine zj_imul o (zdd k_M_readReader 25 rfl) ?_
    refine zj_iload_n o (zdd k_M_readReader 26 rfl) rfl 1 rfl ?_
    refine zj_iadd o (zdd k_M_readReader 27 rfl) ?_
    refine zj_iconst o (zdd k_M_readReader 28 rfl) zki_0 ?_
    obtain ⟨σ3, e_σ3, h⟩ := zbd h
    refine zj_iast o (zdd k_M_readReader 29 rfl) e_σ3 ?_
    refine zj_aload_n o (zdd k_M_readReader 30 rfl) rfl 0 rfl ?_
    obtain ⟨a4, e_a4, h⟩ := zbd h
    refine zj_gP o (zdd k_M_readReader 31 rfl) fl_M_54 rfl e_a4 ?_
    refine zj_iconst o (zdd k_M_readReader 32 rfl) zki_4 ?_
    refine zj_aload_n o (zdd k_M_readReader 33 rfl) rfl 0 rfl ?_
    obtain ⟨x5, e_x5, h⟩ := zbd h
    refine zj_gI o (zdd k_M_readReader 34 rfl) fl_M_341 rfl e_x5 ?_
    refine zj_imul o (zdd k_M_readReader 35 rfl) ?_
    refine zj_iload_n o (zdd k_M_readReader 36 rfl) rfl 1 rfl ?_
    refine zj_iadd o (zdd k_M_readReader 37 rfl) ?_
    refine zj_iconst o (zdd k_M_readReader 38 rfl) zki_0 ?_
    obtain ⟨σ6, e_σ6, h⟩ := zbd h
    refine zj_iast o (zdd k_M_readReader 39 rfl) e_σ6 ?_
    refine zj_iinc (v := v1 + 1) (loc' := [(1, .int (v1 + 1)), (0, .ref v0)]) o (zdd k_M_readReader 40 rfl) 1 rfl (by rw [zki_1]) (by decide) rfl ?_
    refine zj_goto (tgt := 31) o (zdd k_M_readReader 41 rfl) (by decide) ?_
    exact zj_sub [1, 0] rfl (hk31 h hr)
def f_M_readReader_31L : Nat → zSt → Nat → Int32 → Option (zSt)
  | 0 => fun _ _ _ => none
  | n + 1 => f_M_readReader_31  (f_M_readReader_31L  n)
theorem r_M_readReader_31L {X : zCX} (o : zOK X "WantShelvesModel" c_M_readReader n_M_readReader 5) : ∀ (n : Nat) {σ : zSt} {v0 : Nat} {v1 : Int32} {z : zSt}, f_M_readReader_31L n σ v0 v1 = some z → zRX X 0 0 none z → zPJ X 0 0 31 [(0, .ref v0), (1, .int v1)] [] σ
  | 0 => fun h _ => by cases h
  | n + 1 => fun h hr => r_M_readReader_31 o (r_M_readReader_31L o  n) h hr
def f_M_readReader (σ : zSt) (t : Nat) : Option (zSt) :=
zg σ 12 t (
(zgI σ 12 t 36).bind fun x1 =>
(f_M_newName σ t 14 x1).bind fun σ2 =>
(zgP σ2 12 t 29).bind fun a3 =>
(zgI σ2 12 t 36).bind fun x4 =>
(f_M_told σ2 t 1868850291 0 100).bind fun q5 =>
(zwI q5.2 1 a3 x4 q5.1).bind fun σ6 =>
f_M_readReader_31L zfu σ6 t 0)
set_option maxRecDepth 100000 in
set_option maxHeartbeats 4000000 in
theorem m_M_readReader {l : Launch} {b : Nat} {ex : Nat → Value} {D : va_G} {ca : Nat → ClassId} {σ : zSt} {t : Nat} {z : zSt} (h : f_M_readReader σ t = some z) : zMT l b ex D ca 5 y_M_readReader c_M_readReader n_M_readReader r_ret_M_readReader [.ref t] σ none z 0 0 := by
  obtain ⟨_, hg0⟩ := zg_some h
  have h := hg0
  refine zmt_of (by decide) (Nat.le_of_ble_eq_true rfl) rfl (fun X o hin hrm _ _ _ _ _ hr => ?_)
  have hr := hr 0 0 (by decide) (by decide)
  have o : zOK X "WantShelvesModel" c_M_readReader n_M_readReader 5 := o
  change zPJ X 0 0 0 [(0, .ref t)] [] σ
  refine zj_aload_n o (zdd k_M_readReader 0 rfl) rfl 0 rfl ?_
  refine zj_bipush o (zdd k_M_readReader 1 rfl) zkb_14 ?_
  refine zj_aload_n o (zdd k_M_readReader 2 rfl) rfl 0 rfl ?_
  obtain ⟨x1, e_x1, h⟩ := zbd h
  refine zj_gI o (zdd k_M_readReader 3 rfl) fl_M_341 rfl e_x1 ?_
  obtain ⟨σ2, e_σ2, h⟩ := zbd h
  refine zc_V o (zdd k_M_readReader 4 rfl) ml_M_332 mv_M_newName ⟨rfl, by decide⟩ (zg_some e_σ2).1 (by decide) [.int 14, .int x1] [] rfl (Nat.le_of_ble_eq_true rfl) rfl (m_M_newName e_σ2) ?_
  change zPJ X 0 0 _ _ [] _
  refine zj_aload_n o (zdd k_M_readReader 5 rfl) rfl 0 rfl ?_
  obtain ⟨a3, e_a3, h⟩ := zbd h
  refine zj_gP o (zdd k_M_readReader 6 rfl) fl_M_57 rfl e_a3 ?_
  refine zj_aload_n o (zdd k_M_readReader 7 rfl) rfl 0 rfl ?_
  obtain ⟨x4, e_x4, h⟩ := zbd h
  refine zj_gI o (zdd k_M_readReader 8 rfl) fl_M_341 rfl e_x4 ?_
  refine zj_aload_n o (zdd k_M_readReader 9 rfl) rfl 0 rfl ?_
  refine zj_ldc2 o (zdd k_M_readReader 10 rfl) lc_M_197 ?_
  refine zj_iconst o (zdd k_M_readReader 11 rfl) zki_0 ?_
  refine zj_bipush o (zdd k_M_readReader 12 rfl) zkb_100 ?_
  obtain ⟨q5, e_q5, h⟩ := zbd h
  refine zc_V o (zdd k_M_readReader 13 rfl) ml_M_344 mv_M_told ⟨rfl, by decide⟩ (zg_some e_q5).1 (by decide) [.long 1868850291, .int 0, .int 100] [.int x4, .ref a3] rfl (Nat.le_of_ble_eq_true rfl) rfl (m_M_told e_q5) ?_
  change zPJ X 0 0 _ _ [.int q5.1, .int x4, .ref a3] _
  obtain ⟨σ6, e_σ6, h⟩ := zbd h
  refine zj_iast o (zdd k_M_readReader 14 rfl) e_σ6 ?_
  refine zj_iconst o (zdd k_M_readReader 15 rfl) zki_0 ?_
  refine zj_istore_n (loc' := [(1, .int 0), (0, .ref t)]) o (zdd k_M_readReader 16 rfl) rfl (by decide) rfl ?_
  exact zj_sub [1, 0] rfl (r_M_readReader_31L o  zfu h hr)
def f_M_readQuarrel_74 (σ : zSt) (v0 : Nat) : Option (zSt) :=
(zgI σ 12 v0 2).bind fun x1 =>
if x1 = 0 then (
(f_M_token σ v0).bind fun σ2 =>
some σ2) else
some σ
set_option maxRecDepth 100000 in
set_option maxHeartbeats 4000000 in
theorem r_M_readQuarrel_74 {X : zCX} (o : zOK X "WantShelvesModel" c_M_readQuarrel n_M_readQuarrel 3) {σ : zSt} {v0 : Nat} {z : zSt} (h : f_M_readQuarrel_74 σ v0 = some z) (hr : zRX X 0 0 none z) : zPJ X 0 0 74 [(0, .ref v0)] [] σ := by
  unfold f_M_readQuarrel_74 at h
  refine zj_aload_n o (zdd k_M_readQuarrel 34 rfl) rfl 0 rfl ?_
  obtain ⟨x1, e_x1, h⟩ := zbd h
  refine zj_gI o (zdd k_M_readQuarrel 35 rfl) fl_M_188 rfl e_x1 ?_
  refine zj_if_ne (tgt := 85) o (zdd k_M_readQuarrel 36 rfl) (by decide) (fun hc => ?_) (fun hc => ?_)
  · rw [if_neg hc] at h
    cases h
    exact zr_v o hr (zdd k_M_readQuarrel 39 rfl)
  · rw [if_pos hc] at h
    refine zj_aload_n o (zdd k_M_readQuarrel 37 rfl) rfl 0 rfl ?_
    obtain ⟨σ2, e_σ2, h⟩ := zbd h
    refine zc_V o (zdd k_M_readQuarrel 38 rfl) ml_M_248 mv_M_token ⟨rfl, by decide⟩ (zg_some e_σ2).1 (by decide) [] [] rfl (Nat.le_of_ble_eq_true rfl) rfl (m_M_token e_σ2) ?_
    change zPJ X 0 0 _ _ [] _
    cases h
    exact zr_v o hr (zdd k_M_readQuarrel 39 rfl)
def f_M_readQuarrel_48 (σ : zSt) (v0 : Nat) (s0 : Int32) (s1 : Nat) : Option (zSt) :=
(zsI σ 12 s1 37 s0).bind fun σ1 =>
(zgI σ1 12 v0 37).bind fun x2 =>
if x2 = 3 then (
(f_M_isWord σ1 v0 500186639987).bind fun x3 =>
if x3 = 0 then (
(f_M_wrong σ1 v0 2).bind fun σ4 =>
f_M_readQuarrel_74 σ4 v0) else
f_M_readQuarrel_74 σ1 v0) else
f_M_readQuarrel_74 σ1 v0
set_option maxRecDepth 100000 in
set_option maxHeartbeats 4000000 in
theorem r_M_readQuarrel_48 {X : zCX} (o : zOK X "WantShelvesModel" c_M_readQuarrel n_M_readQuarrel 3) {σ : zSt} {v0 : Nat} {s0 : Int32} {s1 : Nat} {z : zSt} (h : f_M_readQuarrel_48 σ v0 s0 s1 = some z) (hr : zRX X 0 0 none z) : zPJ X 0 0 48 [(0, .ref v0)] [.int s0, .ref s1] σ := by
  unfold f_M_readQuarrel_48 at h
  obtain ⟨σ1, e_σ1, h⟩ := zbd h
  refine zj_pI o (zdd k_M_readQuarrel 22 rfl) fl_M_351 rfl rfl e_σ1 ?_
  refine zj_aload_n o (zdd k_M_readQuarrel 23 rfl) rfl 0 rfl ?_
  obtain ⟨x2, e_x2, h⟩ := zbd h
  refine zj_gI o (zdd k_M_readQuarrel 24 rfl) fl_M_351 rfl e_x2 ?_
  refine zj_iconst o (zdd k_M_readQuarrel 25 rfl) zki_3 ?_
  refine zj_icmp_ne (tgt := 74) o (zdd k_M_readQuarrel 26 rfl) (by decide) (fun hc => ?_) (fun hc => ?_)
  · rw [if_neg hc] at h
    exact zj_sub [0] rfl (r_M_readQuarrel_74 o  h hr)
  · rw [if_pos hc] at h
    refine zj_aload_n o (zdd k_M_readQuarrel 27 rfl) rfl 0 rfl ?_
    refine zj_ldc2 o (zdd k_M_readQuarrel 28 rfl) lc_M_215 ?_
    obtain ⟨x3, e_x3, h⟩ := zbd h
    refine zc_V o (zdd k_M_readQuarrel 29 rfl) ml_M_241 mv_M_isWord ⟨rfl, by decide⟩ (zg_some e_x3).1 (by decide) [.long 500186639987] [] rfl (Nat.le_of_ble_eq_true rfl) rfl (m_M_isWord e_x3) ?_
    change zPJ X 0 0 _ _ [.int x3] _
    refine zj_if_ne (tgt := 74) o (zdd k_M_readQuarrel 30 rfl) (by decide) (fun hc => ?_) (fun hc => ?_)
    · rw [if_neg hc] at h
      exact zj_sub [0] rfl (r_M_readQuarrel_74 o  h hr)
    · rw [if_pos hc] at h
      refine zj_aload_n o (zdd k_M_readQuarrel 31 rfl) rfl 0 rfl ?_
      refine zj_iconst o (zdd k_M_readQuarrel 32 rfl) zki_2 ?_
      obtain ⟨σ4, e_σ4, h⟩ := zbd h
      refine zc_V o (zdd k_M_readQuarrel 33 rfl) ml_M_245 mv_M_wrong ⟨rfl, by decide⟩ (zg_some e_σ4).1 (by decide) [.int 2] [] rfl (Nat.le_of_ble_eq_true rfl) rfl (m_M_wrong e_σ4) ?_
      change zPJ X 0 0 _ _ [] _
      exact zj_sub [0] rfl (r_M_readQuarrel_74 o  h hr)
def f_M_readQuarrel (σ : zSt) (t : Nat) : Option (zSt) :=
zg σ 12 t (
(f_M_token σ t).bind fun σ1 =>
(f_M_isWord σ1 t 7566701).bind fun x2 =>
if x2 = 0 then (
(f_M_isWord σ1 t 465557353332).bind fun x3 =>
if x3 = 0 then (
(f_M_isWord σ1 t 1836020596).bind fun x4 =>
if x4 = 0 then (
f_M_readQuarrel_48 σ1 t 3 t) else
f_M_readQuarrel_48 σ1 t 2 t) else
f_M_readQuarrel_48 σ1 t 1 t) else
f_M_readQuarrel_48 σ1 t 0 t)
set_option maxRecDepth 100000 in
set_option maxHeartbeats 4000000 in
theorem m_M_readQuarrel {l : Launch} {b : Nat} {ex : Nat → Value} {D : va_G} {ca : Nat → ClassId} {σ : zSt} {t : Nat} {z : zSt} (h : f_M_readQuarrel σ t = some z) : zMT l b ex D ca 3 y_M_readQuarrel c_M_readQuarrel n_M_readQuarrel r_ret_M_readQuarrel [.ref t] σ none z 0 0 := by
  obtain ⟨_, hg0⟩ := zg_some h
  have h := hg0
  refine zmt_of (by decide) (Nat.le_of_ble_eq_true rfl) rfl (fun X o hin hrm _ _ _ _ _ hr => ?_)
  have hr := hr 0 0 (by decide) (by decide)
  have o : zOK X "WantShelvesModel" c_M_readQuarrel n_M_readQuarrel 3 := o
  change zPJ X 0 0 0 [(0, .ref t)] [] σ
  refine zj_aload_n o (zdd k_M_readQuarrel 0 rfl) rfl 0 rfl ?_
  obtain ⟨σ1, e_σ1, h⟩ := zbd h
  refine zc_V o (zdd k_M_readQuarrel 1 rfl) ml_M_248 mv_M_token ⟨rfl, by decide⟩ (zg_some e_σ1).1 (by decide) [] [] rfl (Nat.le_of_ble_eq_true rfl) rfl (m_M_token e_σ1) ?_
  change zPJ X 0 0 _ _ [] _
  refine zj_aload_n o (zdd k_M_readQuarrel 2 rfl) rfl 0 rfl ?_
  refine zj_aload_n o (zdd k_M_readQuarrel 3 rfl) rfl 0 rfl ?_
  refine zj_ldc2 o (zdd k_M_readQuarrel 4 rfl) lc_M_209 ?_
  obtain ⟨x2, e_x2, h⟩ := zbd h
  refine zc_V o (zdd k_M_readQuarrel 5 rfl) ml_M_241 mv_M_isWord ⟨rfl, by decide⟩ (zg_some e_x2).1 (by decide) [.long 7566701] [.ref t] rfl (Nat.le_of_ble_eq_true rfl) rfl (m_M_isWord e_x2) ?_
  change zPJ X 0 0 _ _ [.int x2, .ref t] _
  refine zj_if_eq (tgt := 19) o (zdd k_M_readQuarrel 6 rfl) (by decide) (fun hc => ?_) (fun hc => ?_)
  · rw [if_pos hc] at h
    refine zj_aload_n o (zdd k_M_readQuarrel 9 rfl) rfl 0 rfl ?_
    refine zj_ldc2 o (zdd k_M_readQuarrel 10 rfl) lc_M_211 ?_
    obtain ⟨x3, e_x3, h⟩ := zbd h
    refine zc_V o (zdd k_M_readQuarrel 11 rfl) ml_M_241 mv_M_isWord ⟨rfl, by decide⟩ (zg_some e_x3).1 (by decide) [.long 465557353332] [.ref t] rfl (Nat.le_of_ble_eq_true rfl) rfl (m_M_isWord e_x3) ?_
    change zPJ X 0 0 _ _ [.int x3, .ref t] _
    refine zj_if_eq (tgt := 33) o (zdd k_M_readQuarrel 12 rfl) (by decide) (fun hc => ?_) (fun hc => ?_)
    · rw [if_pos hc] at h
      refine zj_aload_n o (zdd k_M_readQuarrel 15 rfl) rfl 0 rfl ?_
      refine zj_ldc2 o (zdd k_M_readQuarrel 16 rfl) lc_M_213 ?_
      obtain ⟨x4, e_x4, h⟩ := zbd h
      refine zc_V o (zdd k_M_readQuarrel 17 rfl) ml_M_241 mv_M_isWord ⟨rfl, by decide⟩ (zg_some e_x4).1 (by decide) [.long 1836020596] [.ref t] rfl (Nat.le_of_ble_eq_true rfl) rfl (m_M_isWord e_x4) ?_
      change zPJ X 0 0 _ _ [.int x4, .ref t] _
      refine zj_if_eq (tgt := 47) o (zdd k_M_readQuarrel 18 rfl) (by decide) (fun hc => ?_) (fun hc => ?_)
      · rw [if_pos hc] at h
        refine zj_iconst o (zdd k_M_readQuarrel 21 rfl) zki_3 ?_
        exact zj_sub [0] rfl (r_M_readQuarrel_48 o  h hr)
      · rw [if_neg hc] at h
        refine zj_iconst o (zdd k_M_readQuarrel 19 rfl) zki_2 ?_
        refine zj_goto (tgt := 48) o (zdd k_M_readQuarrel 20 rfl) (by decide) ?_
        exact zj_sub [0] rfl (r_M_readQuarrel_48 o  h hr)
    · rw [if_neg hc] at h
      refine zj_iconst o (zdd k_M_readQuarrel 13 rfl) zki_1 ?_
      refine zj_goto (tgt := 48) o (zdd k_M_readQuarrel 14 rfl) (by decide) ?_
      exact zj_sub [0] rfl (r_M_readQuarrel_48 o  h hr)
  · rw [if_neg hc] at h
    refine zj_iconst o (zdd k_M_readQuarrel 7 rfl) zki_0 ?_
    refine zj_goto (tgt := 48) o (zdd k_M_readQuarrel 8 rfl) (by decide) ?_
    exact zj_sub [0] rfl (r_M_readQuarrel_48 o  h hr)
def f_M_isOnce_22 (σ : zSt) (v0 : Nat) (v3 : Int32) (s0 : Int32) : Option (Int32 × zSt) :=
if s0 = 0 then (
some (s0, σ)) else
(zgI σ 12 v0 40).bind fun x1 =>
(zsI σ 12 v0 40 (x1 ||| v3)).bind fun σ2 =>
some (s0, σ2)
set_option maxRecDepth 100000 in
set_option maxHeartbeats 4000000 in
theorem r_M_isOnce_22 {X : zCX} (o : zOK X "WantShelvesModel" c_M_isOnce n_M_isOnce 2) {σ : zSt} {v0 : Nat} {v3 : Int32} {s0 : Int32} {z : Int32 × zSt} (h : f_M_isOnce_22 σ v0 v3 s0 = some z) (hr : zRX X 0 0 (some (.int z.1)) z.2) : zPJ X 0 0 22 [(0, .ref v0), (3, .int v3)] [.int s0] σ := by
  unfold f_M_isOnce_22 at h
  refine zj_istore (loc' := [(4, .int s0), (0, .ref v0), (3, .int v3)]) o (zdd k_M_isOnce 12 rfl) (by decide) rfl ?_
  refine zj_iload o (zdd k_M_isOnce 13 rfl) 0 rfl ?_
  refine zj_if_eq (tgt := 39) o (zdd k_M_isOnce 14 rfl) (by decide) (fun hc => ?_) (fun hc => ?_)
  · rw [if_pos hc] at h
    refine zj_iload o (zdd k_M_isOnce 21 rfl) 0 rfl ?_
    cases h
    exact zr_i o hr (zdd k_M_isOnce 22 rfl)
  · rw [if_neg hc] at h
    refine zj_aload_n o (zdd k_M_isOnce 15 rfl) rfl 1 rfl ?_
    refine zj_dup o (zdd k_M_isOnce 16 rfl) rfl ?_
    obtain ⟨x1, e_x1, h⟩ := zbd h
    refine zj_gI o (zdd k_M_isOnce 17 rfl) fl_M_354 rfl e_x1 ?_
    refine zj_iload_n o (zdd k_M_isOnce 18 rfl) rfl 2 rfl ?_
    refine zj_ior o (zdd k_M_isOnce 19 rfl) ?_
    obtain ⟨σ2, e_σ2, h⟩ := zbd h
    refine zj_pI o (zdd k_M_isOnce 20 rfl) fl_M_354 rfl rfl e_σ2 ?_
    refine zj_iload o (zdd k_M_isOnce 21 rfl) 0 rfl ?_
    cases h
    exact zr_i o hr (zdd k_M_isOnce 22 rfl)
def f_M_isOnce_21 (σ : zSt) (v0 : Nat) (v3 : Int32) : Option (Int32 × zSt) :=
f_M_isOnce_22 σ v0 v3 0
set_option maxRecDepth 100000 in
set_option maxHeartbeats 4000000 in
theorem r_M_isOnce_21 {X : zCX} (o : zOK X "WantShelvesModel" c_M_isOnce n_M_isOnce 2) {σ : zSt} {v0 : Nat} {v3 : Int32} {z : Int32 × zSt} (h : f_M_isOnce_21 σ v0 v3 = some z) (hr : zRX X 0 0 (some (.int z.1)) z.2) : zPJ X 0 0 21 [(0, .ref v0), (3, .int v3)] [] σ := by
  unfold f_M_isOnce_21 at h
  refine zj_iconst o (zdd k_M_isOnce 11 rfl) zki_0 ?_
  exact zj_sub [0, 1] rfl (r_M_isOnce_22 o  h hr)
def f_M_isOnce (σ : zSt) (t : Nat) (p0 : Int64) (p1 : Int32) : Option (Int32 × zSt) :=
zg σ 12 t (
((f_M_isWord σ t p0).bind fun x1 =>
if x1 = 0 then (
f_M_isOnce_21 σ t p1) else
(zgI σ 12 t 40).bind fun x2 =>
if x2 &&& p1 = 0 then (
f_M_isOnce_22 σ t p1 1) else
f_M_isOnce_21 σ t p1).bind fun q => (zbool q.1).bind fun x => some (x, q.2))
set_option maxRecDepth 100000 in
set_option maxHeartbeats 4000000 in
theorem m_M_isOnce {l : Launch} {b : Nat} {ex : Nat → Value} {D : va_G} {ca : Nat → ClassId} {σ : zSt} {t : Nat} {p0 : Int64} {p1 : Int32} {z : Int32 × zSt} (h : f_M_isOnce σ t p0 p1 = some z) : zMT l b ex D ca 2 y_M_isOnce c_M_isOnce n_M_isOnce r_ret_M_isOnce [.ref t, .long p0, .int p1] σ (some (.int z.1)) z.2 0 0 := by
  obtain ⟨_, hg0⟩ := zg_some h
  obtain ⟨z0, hbd, hz⟩ := zbd hg0
  obtain ⟨z1, hz1, hzz⟩ := zbd hz
  obtain ⟨hzb, rfl⟩ := zbool_some hz1
  cases hzz
  have h := hbd
  refine zmt_of (by decide) (Nat.le_of_ble_eq_true rfl) ⟨.boolean, rfl, zb_nar hzb⟩ (fun X o hin hrm _ _ _ _ _ hr => ?_)
  have hr := hr 0 0 (by decide) (by decide)
  have o : zOK X "WantShelvesModel" c_M_isOnce n_M_isOnce 2 := o
  change zPJ X 0 0 0 [(0, .ref t), (1, .long p0), (3, .int p1)] [] σ
  refine zj_aload_n o (zdd k_M_isOnce 0 rfl) rfl 0 rfl ?_
  refine zj_lload_n o (zdd k_M_isOnce 1 rfl) rfl 1 rfl ?_
  obtain ⟨x1, e_x1, h⟩ := zbd h
  refine zc_V o (zdd k_M_isOnce 2 rfl) ml_M_241 mv_M_isWord ⟨rfl, by decide⟩ (zg_some e_x1).1 (by decide) [.long p0] [] rfl (Nat.le_of_ble_eq_true rfl) rfl (m_M_isWord e_x1) ?_
  change zPJ X 0 0 _ _ [.int x1] _
  refine zj_if_eq (tgt := 21) o (zdd k_M_isOnce 3 rfl) (by decide) (fun hc => ?_) (fun hc => ?_)
  · rw [if_pos hc] at h
    exact zj_sub [0, 2] rfl (r_M_isOnce_21 o  h hr)
  · rw [if_neg hc] at h
    refine zj_aload_n o (zdd k_M_isOnce 4 rfl) rfl 0 rfl ?_
    obtain ⟨x2, e_x2, h⟩ := zbd h
    refine zj_gI o (zdd k_M_isOnce 5 rfl) fl_M_354 rfl e_x2 ?_
    refine zj_iload_n o (zdd k_M_isOnce 6 rfl) rfl 2 rfl ?_
    refine zj_iand o (zdd k_M_isOnce 7 rfl) ?_
    refine zj_if_ne (tgt := 21) o (zdd k_M_isOnce 8 rfl) (by decide) (fun hc => ?_) (fun hc => ?_)
    · rw [if_neg hc] at h
      exact zj_sub [0, 2] rfl (r_M_isOnce_21 o  h hr)
    · rw [if_pos hc] at h
      refine zj_iconst o (zdd k_M_isOnce 9 rfl) zki_1 ?_
      refine zj_goto (tgt := 22) o (zdd k_M_isOnce 10 rfl) (by decide) ?_
      exact zj_sub [0, 2] rfl (r_M_isOnce_22 o  h hr)
def f_M_readLine_217 (σ : zSt) (v0 : Nat) : Option (zSt) :=
(zgI σ 12 v0 2).bind fun x1 =>
if x1 = 0 then (
(f_M_token σ v0).bind fun σ2 =>
some σ2) else
some σ
set_option maxRecDepth 100000 in
set_option maxHeartbeats 4000000 in
theorem r_M_readLine_217 {X : zCX} (o : zOK X "WantShelvesModel" c_M_readLine n_M_readLine 6) {σ : zSt} {v0 : Nat} {z : zSt} (h : f_M_readLine_217 σ v0 = some z) (hr : zRX X 0 0 none z) : zPJ X 0 0 217 [(0, .ref v0)] [] σ := by
  unfold f_M_readLine_217 at h
  refine zj_aload_n o (zdd k_M_readLine 98 rfl) rfl 0 rfl ?_
  obtain ⟨x1, e_x1, h⟩ := zbd h
  refine zj_gI o (zdd k_M_readLine 99 rfl) fl_M_188 rfl e_x1 ?_
  refine zj_if_ne (tgt := 228) o (zdd k_M_readLine 100 rfl) (by decide) (fun hc => ?_) (fun hc => ?_)
  · rw [if_neg hc] at h
    cases h
    exact zr_v o hr (zdd k_M_readLine 103 rfl)
  · rw [if_pos hc] at h
    refine zj_aload_n o (zdd k_M_readLine 101 rfl) rfl 0 rfl ?_
    obtain ⟨σ2, e_σ2, h⟩ := zbd h
    refine zc_V o (zdd k_M_readLine 102 rfl) ml_M_248 mv_M_token ⟨rfl, by decide⟩ (zg_some e_σ2).1 (by decide) [] [] rfl (Nat.le_of_ble_eq_true rfl) rfl (m_M_token e_σ2) ?_
    change zPJ X 0 0 _ _ [] _
    cases h
    exact zr_v o hr (zdd k_M_readLine 103 rfl)
def f_M_readLine_196 (σ : zSt) (v0 : Nat) : Option (zSt) :=
(zgI σ 12 v0 2).bind fun x1 =>
if x1 = 0 then (
(zgI σ 12 v0 6).bind fun x2 =>
if x2 = 59 then (
f_M_readLine_217 σ v0) else
(f_M_wrong σ v0 2).bind fun σ3 =>
f_M_readLine_217 σ3 v0) else
f_M_readLine_217 σ v0
set_option maxRecDepth 100000 in
set_option maxHeartbeats 4000000 in
theorem r_M_readLine_196 {X : zCX} (o : zOK X "WantShelvesModel" c_M_readLine n_M_readLine 6) {σ : zSt} {v0 : Nat} {z : zSt} (h : f_M_readLine_196 σ v0 = some z) (hr : zRX X 0 0 none z) : zPJ X 0 0 196 [(0, .ref v0)] [] σ := by
  unfold f_M_readLine_196 at h
  refine zj_aload_n o (zdd k_M_readLine 88 rfl) rfl 0 rfl ?_
  obtain ⟨x1, e_x1, h⟩ := zbd h
  refine zj_gI o (zdd k_M_readLine 89 rfl) fl_M_188 rfl e_x1 ?_
  refine zj_if_ne (tgt := 217) o (zdd k_M_readLine 90 rfl) (by decide) (fun hc => ?_) (fun hc => ?_)
  · rw [if_neg hc] at h
    exact zj_sub [0] rfl (r_M_readLine_217 o  h hr)
  · rw [if_pos hc] at h
    refine zj_aload_n o (zdd k_M_readLine 91 rfl) rfl 0 rfl ?_
    obtain ⟨x2, e_x2, h⟩ := zbd h
    refine zj_gI o (zdd k_M_readLine 92 rfl) fl_M_175 rfl e_x2 ?_
    refine zj_bipush o (zdd k_M_readLine 93 rfl) zkb_59 ?_
    refine zj_icmp_eq (tgt := 217) o (zdd k_M_readLine 94 rfl) (by decide) (fun hc => ?_) (fun hc => ?_)
    · rw [if_pos hc] at h
      exact zj_sub [0] rfl (r_M_readLine_217 o  h hr)
    · rw [if_neg hc] at h
      refine zj_aload_n o (zdd k_M_readLine 95 rfl) rfl 0 rfl ?_
      refine zj_iconst o (zdd k_M_readLine 96 rfl) zki_2 ?_
      obtain ⟨σ3, e_σ3, h⟩ := zbd h
      refine zc_V o (zdd k_M_readLine 97 rfl) ml_M_245 mv_M_wrong ⟨rfl, by decide⟩ (zg_some e_σ3).1 (by decide) [.int 2] [] rfl (Nat.le_of_ble_eq_true rfl) rfl (m_M_wrong e_σ3) ?_
      change zPJ X 0 0 _ _ [] _
      exact zj_sub [0] rfl (r_M_readLine_217 o  h hr)
def f_M_readLine_77 (σ : zSt) (v0 : Nat) : Option (zSt) :=
(f_M_isOnce σ v0 7102839 1).bind fun q1 =>
if q1.1 = 0 then (
(f_M_isOnce q1.2 v0 1650814564 2).bind fun q2 =>
if q2.1 = 0 then (
(f_M_isOnce q2.2 v0 31935733760681324 4).bind fun q3 =>
if q3.1 = 0 then (
(f_M_isOnce q3.2 v0 495672716390 8).bind fun q4 =>
if q4.1 = 0 then (
(f_M_isOnce q4.2 v0 1836019556 16).bind fun q5 =>
if q5.1 = 0 then (
(f_M_wrong q5.2 v0 2).bind fun σ6 =>
f_M_readLine_196 σ6 v0) else
(f_M_told q5.2 v0 1836019556 0 9).bind fun q7 =>
(zsI q7.2 12 v0 39 q7.1).bind fun σ8 =>
f_M_readLine_196 σ8 v0) else
(f_M_told q4.2 v0 495672716390 1 9).bind fun q9 =>
(zsI q9.2 12 v0 38 q9.1).bind fun σ10 =>
f_M_readLine_196 σ10 v0) else
(f_M_readQuarrel q3.2 v0).bind fun σ11 =>
f_M_readLine_196 σ11 v0) else
(f_M_formula q2.2 v0 1).bind fun σ12 =>
f_M_readLine_196 σ12 v0) else
(f_M_formula q1.2 v0 0).bind fun σ13 =>
f_M_readLine_196 σ13 v0
set_option maxRecDepth 100000 in
set_option maxHeartbeats 4000000 in
theorem r_M_readLine_77 {X : zCX} (o : zOK X "WantShelvesModel" c_M_readLine n_M_readLine 6) {σ : zSt} {v0 : Nat} {z : zSt} (h : f_M_readLine_77 σ v0 = some z) (hr : zRX X 0 0 none z) : zPJ X 0 0 77 [(0, .ref v0)] [] σ := by
  unfold f_M_readLine_77 at h
  refine zj_aload_n o (zdd k_M_readLine 33 rfl) rfl 0 rfl ?_
  refine zj_ldc2 o (zdd k_M_readLine 34 rfl) lc_M_203 ?_
  refine zj_iconst o (zdd k_M_readLine 35 rfl) zki_1 ?_
  obtain ⟨q1, e_q1, h⟩ := zbd h
  refine zc_V o (zdd k_M_readLine 36 rfl) ml_M_366 mv_M_isOnce ⟨rfl, by decide⟩ (zg_some e_q1).1 (by decide) [.long 7102839, .int 1] [] rfl (Nat.le_of_ble_eq_true rfl) rfl (m_M_isOnce e_q1) ?_
  change zPJ X 0 0 _ _ [.int q1.1] _
  refine zj_if_eq (tgt := 96) o (zdd k_M_readLine 37 rfl) (by decide) (fun hc => ?_) (fun hc => ?_)
  · rw [if_pos hc] at h
    refine zj_aload_n o (zdd k_M_readLine 42 rfl) rfl 0 rfl ?_
    refine zj_ldc2 o (zdd k_M_readLine 43 rfl) lc_M_205 ?_
    refine zj_iconst o (zdd k_M_readLine 44 rfl) zki_2 ?_
    obtain ⟨q2, e_q2, h⟩ := zbd h
    refine zc_V o (zdd k_M_readLine 45 rfl) ml_M_366 mv_M_isOnce ⟨rfl, by decide⟩ (zg_some e_q2).1 (by decide) [.long 1650814564, .int 2] [] rfl (Nat.le_of_ble_eq_true rfl) rfl (m_M_isOnce e_q2) ?_
    change zPJ X 0 0 _ _ [.int q2.1] _
    refine zj_if_eq (tgt := 115) o (zdd k_M_readLine 46 rfl) (by decide) (fun hc => ?_) (fun hc => ?_)
    · rw [if_pos hc] at h
      refine zj_aload_n o (zdd k_M_readLine 51 rfl) rfl 0 rfl ?_
      refine zj_ldc2 o (zdd k_M_readLine 52 rfl) lc_M_207 ?_
      refine zj_iconst o (zdd k_M_readLine 53 rfl) zki_4 ?_
      obtain ⟨q3, e_q3, h⟩ := zbd h
      refine zc_V o (zdd k_M_readLine 54 rfl) ml_M_366 mv_M_isOnce ⟨rfl, by decide⟩ (zg_some e_q3).1 (by decide) [.long 31935733760681324, .int 4] [] rfl (Nat.le_of_ble_eq_true rfl) rfl (m_M_isOnce e_q3) ?_
      change zPJ X 0 0 _ _ [.int q3.1] _
      refine zj_if_eq (tgt := 133) o (zdd k_M_readLine 55 rfl) (by decide) (fun hc => ?_) (fun hc => ?_)
      · rw [if_pos hc] at h
        refine zj_aload_n o (zdd k_M_readLine 59 rfl) rfl 0 rfl ?_
        refine zj_ldc2 o (zdd k_M_readLine 60 rfl) lc_M_217 ?_
        refine zj_bipush o (zdd k_M_readLine 61 rfl) zkb_8 ?_
        obtain ⟨q4, e_q4, h⟩ := zbd h
        refine zc_V o (zdd k_M_readLine 62 rfl) ml_M_366 mv_M_isOnce ⟨rfl, by decide⟩ (zg_some e_q4).1 (by decide) [.long 495672716390, .int 8] [] rfl (Nat.le_of_ble_eq_true rfl) rfl (m_M_isOnce e_q4) ?_
        change zPJ X 0 0 _ _ [.int q4.1] _
        refine zj_if_eq (tgt := 162) o (zdd k_M_readLine 63 rfl) (by decide) (fun hc => ?_) (fun hc => ?_)
        · rw [if_pos hc] at h
          refine zj_aload_n o (zdd k_M_readLine 72 rfl) rfl 0 rfl ?_
          refine zj_ldc2 o (zdd k_M_readLine 73 rfl) lc_M_219 ?_
          refine zj_bipush o (zdd k_M_readLine 74 rfl) zkb_16 ?_
          obtain ⟨q5, e_q5, h⟩ := zbd h
          refine zc_V o (zdd k_M_readLine 75 rfl) ml_M_366 mv_M_isOnce ⟨rfl, by decide⟩ (zg_some e_q5).1 (by decide) [.long 1836019556, .int 16] [] rfl (Nat.le_of_ble_eq_true rfl) rfl (m_M_isOnce e_q5) ?_
          change zPJ X 0 0 _ _ [.int q5.1] _
          refine zj_if_eq (tgt := 191) o (zdd k_M_readLine 76 rfl) (by decide) (fun hc => ?_) (fun hc => ?_)
          · rw [if_pos hc] at h
            refine zj_aload_n o (zdd k_M_readLine 85 rfl) rfl 0 rfl ?_
            refine zj_iconst o (zdd k_M_readLine 86 rfl) zki_2 ?_
            obtain ⟨σ6, e_σ6, h⟩ := zbd h
            refine zc_V o (zdd k_M_readLine 87 rfl) ml_M_245 mv_M_wrong ⟨rfl, by decide⟩ (zg_some e_σ6).1 (by decide) [.int 2] [] rfl (Nat.le_of_ble_eq_true rfl) rfl (m_M_wrong e_σ6) ?_
            change zPJ X 0 0 _ _ [] _
            exact zj_sub [0] rfl (r_M_readLine_196 o  h hr)
          · rw [if_neg hc] at h
            refine zj_aload_n o (zdd k_M_readLine 77 rfl) rfl 0 rfl ?_
            refine zj_aload_n o (zdd k_M_readLine 78 rfl) rfl 0 rfl ?_
            refine zj_ldc2 o (zdd k_M_readLine 79 rfl) lc_M_219 ?_
            refine zj_iconst o (zdd k_M_readLine 80 rfl) zki_0 ?_
            refine zj_bipush o (zdd k_M_readLine 81 rfl) zkb_9 ?_
            obtain ⟨q7, e_q7, h⟩ := zbd h
            refine zc_V o (zdd k_M_readLine 82 rfl) ml_M_344 mv_M_told ⟨rfl, by decide⟩ (zg_some e_q7).1 (by decide) [.long 1836019556, .int 0, .int 9] [.ref v0] rfl (Nat.le_of_ble_eq_true rfl) rfl (m_M_told e_q7) ?_
            change zPJ X 0 0 _ _ [.int q7.1, .ref v0] _
            obtain ⟨σ8, e_σ8, h⟩ := zbd h
            refine zj_pI o (zdd k_M_readLine 83 rfl) fl_M_379 rfl rfl e_σ8 ?_
            refine zj_goto (tgt := 196) o (zdd k_M_readLine 84 rfl) (by decide) ?_
            exact zj_sub [0] rfl (r_M_readLine_196 o  h hr)
        · rw [if_neg hc] at h
          refine zj_aload_n o (zdd k_M_readLine 64 rfl) rfl 0 rfl ?_
          refine zj_aload_n o (zdd k_M_readLine 65 rfl) rfl 0 rfl ?_
          refine zj_ldc2 o (zdd k_M_readLine 66 rfl) lc_M_217 ?_
          refine zj_iconst o (zdd k_M_readLine 67 rfl) zki_1 ?_
          refine zj_bipush o (zdd k_M_readLine 68 rfl) zkb_9 ?_
          obtain ⟨q9, e_q9, h⟩ := zbd h
          refine zc_V o (zdd k_M_readLine 69 rfl) ml_M_344 mv_M_told ⟨rfl, by decide⟩ (zg_some e_q9).1 (by decide) [.long 495672716390, .int 1, .int 9] [.ref v0] rfl (Nat.le_of_ble_eq_true rfl) rfl (m_M_told e_q9) ?_
          change zPJ X 0 0 _ _ [.int q9.1, .ref v0] _
          obtain ⟨σ10, e_σ10, h⟩ := zbd h
          refine zj_pI o (zdd k_M_readLine 70 rfl) fl_M_376 rfl rfl e_σ10 ?_
          refine zj_goto (tgt := 196) o (zdd k_M_readLine 71 rfl) (by decide) ?_
          exact zj_sub [0] rfl (r_M_readLine_196 o  h hr)
      · rw [if_neg hc] at h
        refine zj_aload_n o (zdd k_M_readLine 56 rfl) rfl 0 rfl ?_
        obtain ⟨σ11, e_σ11, h⟩ := zbd h
        refine zc_V o (zdd k_M_readLine 57 rfl) ml_M_373 mv_M_readQuarrel ⟨rfl, by decide⟩ (zg_some e_σ11).1 (by decide) [] [] rfl (Nat.le_of_ble_eq_true rfl) rfl (m_M_readQuarrel e_σ11) ?_
        change zPJ X 0 0 _ _ [] _
        refine zj_goto (tgt := 196) o (zdd k_M_readLine 58 rfl) (by decide) ?_
        exact zj_sub [0] rfl (r_M_readLine_196 o  h hr)
    · rw [if_neg hc] at h
      refine zj_aload_n o (zdd k_M_readLine 47 rfl) rfl 0 rfl ?_
      refine zj_iconst o (zdd k_M_readLine 48 rfl) zki_1 ?_
      obtain ⟨σ12, e_σ12, h⟩ := zbd h
      refine zc_V o (zdd k_M_readLine 49 rfl) ml_M_370 mv_M_formula ⟨rfl, by decide⟩ (zg_some e_σ12).1 (by decide) [.int 1] [] rfl (Nat.le_of_ble_eq_true rfl) rfl (m_M_formula e_σ12) ?_
      change zPJ X 0 0 _ _ [] _
      refine zj_goto (tgt := 196) o (zdd k_M_readLine 50 rfl) (by decide) ?_
      exact zj_sub [0] rfl (r_M_readLine_196 o  h hr)
  · rw [if_neg hc] at h
    refine zj_aload_n o (zdd k_M_readLine 38 rfl) rfl 0 rfl ?_
    refine zj_iconst o (zdd k_M_readLine 39 rfl) zki_0 ?_
    obtain ⟨σ13, e_σ13, h⟩ := zbd h
    refine zc_V o (zdd k_M_readLine 40 rfl) ml_M_370 mv_M_formula ⟨rfl, by decide⟩ (zg_some e_σ13).1 (by decide) [.int 0] [] rfl (Nat.le_of_ble_eq_true rfl) rfl (m_M_formula e_σ13) ?_
    change zPJ X 0 0 _ _ [] _
    refine zj_goto (tgt := 196) o (zdd k_M_readLine 41 rfl) (by decide) ?_
    exact zj_sub [0] rfl (r_M_readLine_196 o  h hr)
def f_M_readLine_51 (σ : zSt) (v0 : Nat) : Option (zSt) :=
(f_M_isWord σ v0 125779751232882).bind fun x1 =>
if x1 = 0 then (
f_M_readLine_77 σ v0) else
(zgI σ 12 v0 36).bind fun x2 =>
if 6 ≤ x2 then (
f_M_readLine_77 σ v0) else
(f_M_readReader σ v0).bind fun σ3 =>
f_M_readLine_196 σ3 v0
set_option maxRecDepth 100000 in
set_option maxHeartbeats 4000000 in
theorem r_M_readLine_51 {X : zCX} (o : zOK X "WantShelvesModel" c_M_readLine n_M_readLine 6) {σ : zSt} {v0 : Nat} {z : zSt} (h : f_M_readLine_51 σ v0 = some z) (hr : zRX X 0 0 none z) : zPJ X 0 0 51 [(0, .ref v0)] [] σ := by
  unfold f_M_readLine_51 at h
  refine zj_aload_n o (zdd k_M_readLine 22 rfl) rfl 0 rfl ?_
  refine zj_ldc2 o (zdd k_M_readLine 23 rfl) lc_M_195 ?_
  obtain ⟨x1, e_x1, h⟩ := zbd h
  refine zc_V o (zdd k_M_readLine 24 rfl) ml_M_241 mv_M_isWord ⟨rfl, by decide⟩ (zg_some e_x1).1 (by decide) [.long 125779751232882] [] rfl (Nat.le_of_ble_eq_true rfl) rfl (m_M_isWord e_x1) ?_
  change zPJ X 0 0 _ _ [.int x1] _
  refine zj_if_eq (tgt := 77) o (zdd k_M_readLine 25 rfl) (by decide) (fun hc => ?_) (fun hc => ?_)
  · rw [if_pos hc] at h
    exact zj_sub [0] rfl (r_M_readLine_77 o  h hr)
  · rw [if_neg hc] at h
    refine zj_aload_n o (zdd k_M_readLine 26 rfl) rfl 0 rfl ?_
    obtain ⟨x2, e_x2, h⟩ := zbd h
    refine zj_gI o (zdd k_M_readLine 27 rfl) fl_M_341 rfl e_x2 ?_
    refine zj_bipush o (zdd k_M_readLine 28 rfl) zkb_6 ?_
    refine zj_icmp_ge (tgt := 77) o (zdd k_M_readLine 29 rfl) (by decide) (fun hc => ?_) (fun hc => ?_)
    · rw [if_pos hc] at h
      exact zj_sub [0] rfl (r_M_readLine_77 o  h hr)
    · rw [if_neg hc] at h
      refine zj_aload_n o (zdd k_M_readLine 30 rfl) rfl 0 rfl ?_
      obtain ⟨σ3, e_σ3, h⟩ := zbd h
      refine zc_V o (zdd k_M_readLine 31 rfl) ml_M_363 mv_M_readReader ⟨rfl, by decide⟩ (zg_some e_σ3).1 (by decide) [] [] rfl (Nat.le_of_ble_eq_true rfl) rfl (m_M_readReader e_σ3) ?_
      change zPJ X 0 0 _ _ [] _
      refine zj_goto (tgt := 196) o (zdd k_M_readLine 32 rfl) (by decide) ?_
      exact zj_sub [0] rfl (r_M_readLine_196 o  h hr)
def f_M_readLine_25 (σ : zSt) (v0 : Nat) : Option (zSt) :=
(f_M_isWord σ v0 1651470187).bind fun x1 =>
if x1 = 0 then (
f_M_readLine_51 σ v0) else
(zgI σ 12 v0 35).bind fun x2 =>
if 10 ≤ x2 then (
f_M_readLine_51 σ v0) else
(f_M_readBook σ v0).bind fun σ3 =>
f_M_readLine_196 σ3 v0
set_option maxRecDepth 100000 in
set_option maxHeartbeats 4000000 in
theorem r_M_readLine_25 {X : zCX} (o : zOK X "WantShelvesModel" c_M_readLine n_M_readLine 6) {σ : zSt} {v0 : Nat} {z : zSt} (h : f_M_readLine_25 σ v0 = some z) (hr : zRX X 0 0 none z) : zPJ X 0 0 25 [(0, .ref v0)] [] σ := by
  unfold f_M_readLine_25 at h
  refine zj_aload_n o (zdd k_M_readLine 11 rfl) rfl 0 rfl ?_
  refine zj_ldc2 o (zdd k_M_readLine 12 rfl) lc_M_193 ?_
  obtain ⟨x1, e_x1, h⟩ := zbd h
  refine zc_V o (zdd k_M_readLine 13 rfl) ml_M_241 mv_M_isWord ⟨rfl, by decide⟩ (zg_some e_x1).1 (by decide) [.long 1651470187] [] rfl (Nat.le_of_ble_eq_true rfl) rfl (m_M_isWord e_x1) ?_
  change zPJ X 0 0 _ _ [.int x1] _
  refine zj_if_eq (tgt := 51) o (zdd k_M_readLine 14 rfl) (by decide) (fun hc => ?_) (fun hc => ?_)
  · rw [if_pos hc] at h
    exact zj_sub [0] rfl (r_M_readLine_51 o  h hr)
  · rw [if_neg hc] at h
    refine zj_aload_n o (zdd k_M_readLine 15 rfl) rfl 0 rfl ?_
    obtain ⟨x2, e_x2, h⟩ := zbd h
    refine zj_gI o (zdd k_M_readLine 16 rfl) fl_M_335 rfl e_x2 ?_
    refine zj_bipush o (zdd k_M_readLine 17 rfl) zkb_10 ?_
    refine zj_icmp_ge (tgt := 51) o (zdd k_M_readLine 18 rfl) (by decide) (fun hc => ?_) (fun hc => ?_)
    · rw [if_pos hc] at h
      exact zj_sub [0] rfl (r_M_readLine_51 o  h hr)
    · rw [if_neg hc] at h
      refine zj_aload_n o (zdd k_M_readLine 19 rfl) rfl 0 rfl ?_
      obtain ⟨σ3, e_σ3, h⟩ := zbd h
      refine zc_V o (zdd k_M_readLine 20 rfl) ml_M_360 mv_M_readBook ⟨rfl, by decide⟩ (zg_some e_σ3).1 (by decide) [] [] rfl (Nat.le_of_ble_eq_true rfl) rfl (m_M_readBook e_σ3) ?_
      change zPJ X 0 0 _ _ [] _
      refine zj_goto (tgt := 196) o (zdd k_M_readLine 21 rfl) (by decide) ?_
      exact zj_sub [0] rfl (r_M_readLine_196 o  h hr)
def f_M_readLine (σ : zSt) (t : Nat) : Option (zSt) :=
zg σ 12 t (
(f_M_isWord σ t 500085844323).bind fun x1 =>
if x1 = 0 then (
f_M_readLine_25 σ t) else
(zgI σ 12 t 34).bind fun x2 =>
if 4 ≤ x2 then (
f_M_readLine_25 σ t) else
(f_M_readTopic σ t).bind fun σ3 =>
f_M_readLine_196 σ3 t)
set_option maxRecDepth 100000 in
set_option maxHeartbeats 4000000 in
theorem m_M_readLine {l : Launch} {b : Nat} {ex : Nat → Value} {D : va_G} {ca : Nat → ClassId} {σ : zSt} {t : Nat} {z : zSt} (h : f_M_readLine σ t = some z) : zMT l b ex D ca 6 y_M_readLine c_M_readLine n_M_readLine r_ret_M_readLine [.ref t] σ none z 0 0 := by
  obtain ⟨_, hg0⟩ := zg_some h
  have h := hg0
  refine zmt_of (by decide) (Nat.le_of_ble_eq_true rfl) rfl (fun X o hin hrm _ _ _ _ _ hr => ?_)
  have hr := hr 0 0 (by decide) (by decide)
  have o : zOK X "WantShelvesModel" c_M_readLine n_M_readLine 6 := o
  change zPJ X 0 0 0 [(0, .ref t)] [] σ
  refine zj_aload_n o (zdd k_M_readLine 0 rfl) rfl 0 rfl ?_
  refine zj_ldc2 o (zdd k_M_readLine 1 rfl) lc_M_191 ?_
  obtain ⟨x1, e_x1, h⟩ := zbd h
  refine zc_V o (zdd k_M_readLine 2 rfl) ml_M_241 mv_M_isWord ⟨rfl, by decide⟩ (zg_some e_x1).1 (by decide) [.long 500085844323] [] rfl (Nat.le_of_ble_eq_true rfl) rfl (m_M_isWord e_x1) ?_
  change zPJ X 0 0 _ _ [.int x1] _
  refine zj_if_eq (tgt := 25) o (zdd k_M_readLine 3 rfl) (by decide) (fun hc => ?_) (fun hc => ?_)
  · rw [if_pos hc] at h
    exact zj_sub [0] rfl (r_M_readLine_25 o  h hr)
  · rw [if_neg hc] at h
    refine zj_aload_n o (zdd k_M_readLine 4 rfl) rfl 0 rfl ?_
    obtain ⟨x2, e_x2, h⟩ := zbd h
    refine zj_gI o (zdd k_M_readLine 5 rfl) fl_M_269 rfl e_x2 ?_
    refine zj_iconst o (zdd k_M_readLine 6 rfl) zki_4 ?_
    refine zj_icmp_ge (tgt := 25) o (zdd k_M_readLine 7 rfl) (by decide) (fun hc => ?_) (fun hc => ?_)
    · rw [if_pos hc] at h
      exact zj_sub [0] rfl (r_M_readLine_25 o  h hr)
    · rw [if_neg hc] at h
      refine zj_aload_n o (zdd k_M_readLine 8 rfl) rfl 0 rfl ?_
      obtain ⟨σ3, e_σ3, h⟩ := zbd h
      refine zc_V o (zdd k_M_readLine 9 rfl) ml_M_357 mv_M_readTopic ⟨rfl, by decide⟩ (zg_some e_σ3).1 (by decide) [] [] rfl (Nat.le_of_ble_eq_true rfl) rfl (m_M_readTopic e_σ3) ?_
      change zPJ X 0 0 _ _ [] _
      refine zj_goto (tgt := 196) o (zdd k_M_readLine 10 rfl) (by decide) ?_
      exact zj_sub [0] rfl (r_M_readLine_196 o  h hr)
def f_M_readAll_72 (k72 : zSt → Nat → Option (zSt)) (σ : zSt) (v0 : Nat) : Option (zSt) :=
(zgI σ 12 v0 2).bind fun x1 =>
if x1 = 0 then (
(zgI σ 12 v0 6).bind fun x2 =>
if x2 = 0 then (
some σ) else
(f_M_readLine σ v0).bind fun σ3 =>
k72 σ3 v0) else
some σ
set_option maxRecDepth 100000 in
set_option maxHeartbeats 4000000 in
theorem r_M_readAll_72 {X : zCX} (o : zOK X "WantShelvesModel" c_M_readAll n_M_readAll 7) {k72 : zSt → Nat → Option (zSt)} (hk72 : ∀ {σ : zSt} {v0 : Nat} {z : zSt}, k72 σ v0 = some z → zRX X 0 0 none z → zPJ X 0 0 72 [(0, .ref v0)] [] σ) {σ : zSt} {v0 : Nat} {z : zSt} (h : f_M_readAll_72 k72 σ v0 = some z) (hr : zRX X 0 0 none z) : zPJ X 0 0 72 [(0, .ref v0)] [] σ := by
  unfold f_M_readAll_72 at h
  refine zj_aload_n o (zdd k_M_readAll 42 rfl) rfl 0 rfl ?_
  obtain ⟨x1, e_x1, h⟩ := zbd h
  refine zj_gI o (zdd k_M_readAll 43 rfl) fl_M_188 rfl e_x1 ?_
  refine zj_if_ne (tgt := 93) o (zdd k_M_readAll 44 rfl) (by decide) (fun hc => ?_) (fun hc => ?_)
  · rw [if_neg hc] at h
    cases h
    exact zr_v o hr (zdd k_M_readAll 51 rfl)
  · rw [if_pos hc] at h
    refine zj_aload_n o (zdd k_M_readAll 45 rfl) rfl 0 rfl ?_
    obtain ⟨x2, e_x2, h⟩ := zbd h
    refine zj_gI o (zdd k_M_readAll 46 rfl) fl_M_175 rfl e_x2 ?_
    refine zj_if_eq (tgt := 93) o (zdd k_M_readAll 47 rfl) (by decide) (fun hc => ?_) (fun hc => ?_)
    · rw [if_pos hc] at h
      cases h
      exact zr_v o hr (zdd k_M_readAll 51 rfl)
    · rw [if_neg hc] at h
      refine zj_aload_n o (zdd k_M_readAll 48 rfl) rfl 0 rfl ?_
      obtain ⟨σ3, e_σ3, h⟩ := zbd h
      refine zc_V o (zdd k_M_readAll 49 rfl) ml_M_382 mv_M_readLine ⟨rfl, by decide⟩ (zg_some e_σ3).1 (by decide) [] [] rfl (Nat.le_of_ble_eq_true rfl) rfl (m_M_readLine e_σ3) ?_
      change zPJ X 0 0 _ _ [] _
      refine zj_goto (tgt := 72) o (zdd k_M_readAll 50 rfl) (by decide) ?_
      exact zj_sub [0] rfl (hk72 h hr)
def f_M_readAll_72L : Nat → zSt → Nat → Option (zSt)
  | 0 => fun _ _ => none
  | n + 1 => f_M_readAll_72  (f_M_readAll_72L  n)
theorem r_M_readAll_72L {X : zCX} (o : zOK X "WantShelvesModel" c_M_readAll n_M_readAll 7) : ∀ (n : Nat) {σ : zSt} {v0 : Nat} {z : zSt}, f_M_readAll_72L n σ v0 = some z → zRX X 0 0 none z → zPJ X 0 0 72 [(0, .ref v0)] [] σ
  | 0 => fun h _ => by cases h
  | n + 1 => fun h hr => r_M_readAll_72 o (r_M_readAll_72L o  n) h hr
def f_M_readAll (σ : zSt) (t : Nat) : Option (zSt) :=
zg σ 12 t (
(zgI σ 12 t 1).bind fun x1 =>
(zsI σ 12 t 5 x1).bind fun σ2 =>
(zsI σ2 12 t 1 0).bind fun σ3 =>
(zsI σ3 12 t 4 0).bind fun σ4 =>
(zsI σ4 12 t 2 0).bind fun σ5 =>
(zsI σ5 12 t 3 (-1)).bind fun σ6 =>
(zsI σ6 12 t 34 0).bind fun σ7 =>
(zsI σ7 12 t 35 0).bind fun σ8 =>
(zsI σ8 12 t 36 0).bind fun σ9 =>
(zsI σ9 12 t 37 0).bind fun σ10 =>
(zsI σ10 12 t 38 5).bind fun σ11 =>
(zsI σ11 12 t 39 3).bind fun σ12 =>
(zsI σ12 12 t 40 0).bind fun σ13 =>
(zsI σ13 12 t 21 0).bind fun σ14 =>
(f_M_token σ14 t).bind fun σ15 =>
f_M_readAll_72L zfu σ15 t)
set_option maxRecDepth 100000 in
set_option maxHeartbeats 4000000 in
theorem m_M_readAll {l : Launch} {b : Nat} {ex : Nat → Value} {D : va_G} {ca : Nat → ClassId} {σ : zSt} {t : Nat} {z : zSt} (h : f_M_readAll σ t = some z) : zMT l b ex D ca 7 y_M_readAll c_M_readAll n_M_readAll r_ret_M_readAll [.ref t] σ none z 0 0 := by
  obtain ⟨_, hg0⟩ := zg_some h
  have h := hg0
  refine zmt_of (by decide) (Nat.le_of_ble_eq_true rfl) rfl (fun X o hin hrm _ _ _ _ _ hr => ?_)
  have hr := hr 0 0 (by decide) (by decide)
  have o : zOK X "WantShelvesModel" c_M_readAll n_M_readAll 7 := o
  change zPJ X 0 0 0 [(0, .ref t)] [] σ
  refine zj_aload_n o (zdd k_M_readAll 0 rfl) rfl 0 rfl ?_
  refine zj_aload_n o (zdd k_M_readAll 1 rfl) rfl 0 rfl ?_
  obtain ⟨x1, e_x1, h⟩ := zbd h
  refine zj_gI o (zdd k_M_readAll 2 rfl) fl_M_148 rfl e_x1 ?_
  obtain ⟨σ2, e_σ2, h⟩ := zbd h
  refine zj_pI o (zdd k_M_readAll 3 rfl) fl_M_158 rfl rfl e_σ2 ?_
  refine zj_aload_n o (zdd k_M_readAll 4 rfl) rfl 0 rfl ?_
  refine zj_iconst o (zdd k_M_readAll 5 rfl) zki_0 ?_
  obtain ⟨σ3, e_σ3, h⟩ := zbd h
  refine zj_pI o (zdd k_M_readAll 6 rfl) fl_M_148 rfl rfl e_σ3 ?_
  refine zj_aload_n o (zdd k_M_readAll 7 rfl) rfl 0 rfl ?_
  refine zj_iconst o (zdd k_M_readAll 8 rfl) zki_0 ?_
  obtain ⟨σ4, e_σ4, h⟩ := zbd h
  refine zj_pI o (zdd k_M_readAll 9 rfl) fl_M_155 rfl rfl e_σ4 ?_
  refine zj_aload_n o (zdd k_M_readAll 10 rfl) rfl 0 rfl ?_
  refine zj_iconst o (zdd k_M_readAll 11 rfl) zki_0 ?_
  obtain ⟨σ5, e_σ5, h⟩ := zbd h
  refine zj_pI o (zdd k_M_readAll 12 rfl) fl_M_188 rfl rfl e_σ5 ?_
  refine zj_aload_n o (zdd k_M_readAll 13 rfl) rfl 0 rfl ?_
  refine zj_iconst o (zdd k_M_readAll 14 rfl) zki_m1 ?_
  obtain ⟨σ6, e_σ6, h⟩ := zbd h
  refine zj_pI o (zdd k_M_readAll 15 rfl) fl_M_13 rfl rfl e_σ6 ?_
  refine zj_aload_n o (zdd k_M_readAll 16 rfl) rfl 0 rfl ?_
  refine zj_iconst o (zdd k_M_readAll 17 rfl) zki_0 ?_
  obtain ⟨σ7, e_σ7, h⟩ := zbd h
  refine zj_pI o (zdd k_M_readAll 18 rfl) fl_M_269 rfl rfl e_σ7 ?_
  refine zj_aload_n o (zdd k_M_readAll 19 rfl) rfl 0 rfl ?_
  refine zj_iconst o (zdd k_M_readAll 20 rfl) zki_0 ?_
  obtain ⟨σ8, e_σ8, h⟩ := zbd h
  refine zj_pI o (zdd k_M_readAll 21 rfl) fl_M_335 rfl rfl e_σ8 ?_
  refine zj_aload_n o (zdd k_M_readAll 22 rfl) rfl 0 rfl ?_
  refine zj_iconst o (zdd k_M_readAll 23 rfl) zki_0 ?_
  obtain ⟨σ9, e_σ9, h⟩ := zbd h
  refine zj_pI o (zdd k_M_readAll 24 rfl) fl_M_341 rfl rfl e_σ9 ?_
  refine zj_aload_n o (zdd k_M_readAll 25 rfl) rfl 0 rfl ?_
  refine zj_iconst o (zdd k_M_readAll 26 rfl) zki_0 ?_
  obtain ⟨σ10, e_σ10, h⟩ := zbd h
  refine zj_pI o (zdd k_M_readAll 27 rfl) fl_M_351 rfl rfl e_σ10 ?_
  refine zj_aload_n o (zdd k_M_readAll 28 rfl) rfl 0 rfl ?_
  refine zj_iconst o (zdd k_M_readAll 29 rfl) zki_5 ?_
  obtain ⟨σ11, e_σ11, h⟩ := zbd h
  refine zj_pI o (zdd k_M_readAll 30 rfl) fl_M_376 rfl rfl e_σ11 ?_
  refine zj_aload_n o (zdd k_M_readAll 31 rfl) rfl 0 rfl ?_
  refine zj_iconst o (zdd k_M_readAll 32 rfl) zki_3 ?_
  obtain ⟨σ12, e_σ12, h⟩ := zbd h
  refine zj_pI o (zdd k_M_readAll 33 rfl) fl_M_379 rfl rfl e_σ12 ?_
  refine zj_aload_n o (zdd k_M_readAll 34 rfl) rfl 0 rfl ?_
  refine zj_iconst o (zdd k_M_readAll 35 rfl) zki_0 ?_
  obtain ⟨σ13, e_σ13, h⟩ := zbd h
  refine zj_pI o (zdd k_M_readAll 36 rfl) fl_M_354 rfl rfl e_σ13 ?_
  refine zj_aload_n o (zdd k_M_readAll 37 rfl) rfl 0 rfl ?_
  refine zj_iconst o (zdd k_M_readAll 38 rfl) zki_0 ?_
  obtain ⟨σ14, e_σ14, h⟩ := zbd h
  refine zj_pI o (zdd k_M_readAll 39 rfl) fl_M_287 rfl rfl e_σ14 ?_
  refine zj_aload_n o (zdd k_M_readAll 40 rfl) rfl 0 rfl ?_
  obtain ⟨σ15, e_σ15, h⟩ := zbd h
  refine zc_V o (zdd k_M_readAll 41 rfl) ml_M_248 mv_M_token ⟨rfl, by decide⟩ (zg_some e_σ15).1 (by decide) [] [] rfl (Nat.le_of_ble_eq_true rfl) rfl (m_M_token e_σ15) ?_
  change zPJ X 0 0 _ _ [] _
  exact zj_sub [0] rfl (r_M_readAll_72L o  zfu h hr)
def f_M_library_130 (k107 : zSt → Nat → Int32 → Option (Int32 × zSt)) (k130 : zSt → Nat → Int32 → Int32 → Option (Int32 × zSt)) (σ : zSt) (v0 : Nat) (v1 : Int32) (v2 : Int32) : Option (Int32 × zSt) :=
(zgP σ 12 v0 16).bind fun a1 =>
(zaI σ 1 a1 v1).bind fun x2 =>
if (320 * v1) + x2 ≤ v2 then (
k107 σ v0 (v1 + 1)) else
(zgP σ 12 v0 14).bind fun a3 =>
(zgP σ 12 v0 11).bind fun a4 =>
(zaI σ 1 a4 v2).bind fun x5 =>
(zwI σ 1 a3 v2 x5).bind fun σ6 =>
(zgP σ6 12 v0 15).bind fun a7 =>
(zgP σ6 12 v0 12).bind fun a8 =>
(zaI σ6 1 a8 v2).bind fun x9 =>
(zwI σ6 1 a7 v2 x9).bind fun σ10 =>
k130 σ10 v0 v1 (v2 + 1)
set_option maxRecDepth 100000 in
set_option maxHeartbeats 4000000 in
theorem r_M_library_130 {X : zCX} (o : zOK X "WantShelvesModel" c_M_library n_M_library 8) {k107 : zSt → Nat → Int32 → Option (Int32 × zSt)} {k130 : zSt → Nat → Int32 → Int32 → Option (Int32 × zSt)} (hk107 : ∀ {σ : zSt} {v0 : Nat} {v1 : Int32} {z : Int32 × zSt}, k107 σ v0 v1 = some z → zRX X 0 0 (some (.int z.1)) z.2 → zPJ X 0 0 107 [(0, .ref v0), (1, .int v1)] [] σ) (hk130 : ∀ {σ : zSt} {v0 : Nat} {v1 : Int32} {v2 : Int32} {z : Int32 × zSt}, k130 σ v0 v1 v2 = some z → zRX X 0 0 (some (.int z.1)) z.2 → zPJ X 0 0 130 [(0, .ref v0), (1, .int v1), (2, .int v2)] [] σ) {σ : zSt} {v0 : Nat} {v1 : Int32} {v2 : Int32} {z : Int32 × zSt} (h : f_M_library_130 k107 k130 σ v0 v1 v2 = some z) (hr : zRX X 0 0 (some (.int z.1)) z.2) : zPJ X 0 0 130 [(0, .ref v0), (1, .int v1), (2, .int v2)] [] σ := by
  unfold f_M_library_130 at h
  refine zj_iload_n o (zdd k_M_library_1 22 rfl) rfl 2 rfl ?_
  refine zj_sipush o (zdd k_M_library_1 23 rfl) zks_320 ?_
  refine zj_iload_n o (zdd k_M_library_1 24 rfl) rfl 1 rfl ?_
  refine zj_imul o (zdd k_M_library_1 25 rfl) ?_
  refine zj_aload_n o (zdd k_M_library_1 26 rfl) rfl 0 rfl ?_
  obtain ⟨a1, e_a1, h⟩ := zbd h
  refine zj_gP o (zdd k_M_library_1 27 rfl) fl_M_36 rfl e_a1 ?_
  refine zj_iload_n o (zdd k_M_library_1 28 rfl) rfl 1 rfl ?_
  obtain ⟨x2, e_x2, h⟩ := zbd h
  refine zj_iald o (zdd k_M_library_1 29 rfl) e_x2 ?_
  refine zj_iadd o (zdd k_M_library_1 30 rfl) ?_
  refine zj_icmp_ge (tgt := 176) o (zdd k_M_library_1 31 rfl) (by decide) (fun hc => ?_) (fun hc => ?_)
  · rw [if_pos hc] at h
    refine zj_iinc (v := v1 + 1) (loc' := [(1, .int (v1 + 1)), (0, .ref v0), (2, .int v2)]) o (zdd k_M_library_2 0 rfl) 1 rfl (by rw [zki_1]) (by decide) rfl ?_
    refine zj_goto (tgt := 107) o (zdd k_M_library_2 1 rfl) (by decide) ?_
    exact zj_sub [1, 0] rfl (hk107 h hr)
  · rw [if_neg hc] at h
    refine zj_aload_n o (zdd k_M_library_1 32 rfl) rfl 0 rfl ?_
    obtain ⟨a3, e_a3, h⟩ := zbd h
    refine zj_gP o (zdd k_M_library_1 33 rfl) fl_M_30 rfl e_a3 ?_
    refine zj_iload_n o (zdd k_M_library_1 34 rfl) rfl 2 rfl ?_
    refine zj_aload_n o (zdd k_M_library_1 35 rfl) rfl 0 rfl ?_
    obtain ⟨a4, e_a4, h⟩ := zbd h
    refine zj_gP o (zdd k_M_library_1 36 rfl) fl_M_21 rfl e_a4 ?_
    refine zj_iload_n o (zdd k_M_library_1 37 rfl) rfl 2 rfl ?_
    obtain ⟨x5, e_x5, h⟩ := zbd h
    refine zj_iald o (zdd k_M_library_1 38 rfl) e_x5 ?_
    obtain ⟨σ6, e_σ6, h⟩ := zbd h
    refine zj_iast o (zdd k_M_library_1 39 rfl) e_σ6 ?_
    refine zj_aload_n o (zdd k_M_library_1 40 rfl) rfl 0 rfl ?_
    obtain ⟨a7, e_a7, h⟩ := zbd h
    refine zj_gP o (zdd k_M_library_1 41 rfl) fl_M_33 rfl e_a7 ?_
    refine zj_iload_n o (zdd k_M_library_1 42 rfl) rfl 2 rfl ?_
    refine zj_aload_n o (zdd k_M_library_1 43 rfl) rfl 0 rfl ?_
    obtain ⟨a8, e_a8, h⟩ := zbd h
    refine zj_gP o (zdd k_M_library_1 44 rfl) fl_M_24 rfl e_a8 ?_
    refine zj_iload_n o (zdd k_M_library_1 45 rfl) rfl 2 rfl ?_
    obtain ⟨x9, e_x9, h⟩ := zbd h
    refine zj_iald o (zdd k_M_library_1 46 rfl) e_x9 ?_
    obtain ⟨σ10, e_σ10, h⟩ := zbd h
    refine zj_iast o (zdd k_M_library_1 47 rfl) e_σ10 ?_
    refine zj_iinc (v := v2 + 1) (loc' := [(2, .int (v2 + 1)), (0, .ref v0), (1, .int v1)]) o (zdd k_M_library_1 48 rfl) 2 rfl (by rw [zki_1]) (by decide) rfl ?_
    refine zj_goto (tgt := 130) o (zdd k_M_library_1 49 rfl) (by decide) ?_
    exact zj_sub [1, 2, 0] rfl (hk130 h hr)
def f_M_library_130L (k107 : zSt → Nat → Int32 → Option (Int32 × zSt)) : Nat → zSt → Nat → Int32 → Int32 → Option (Int32 × zSt)
  | 0 => fun _ _ _ _ => none
  | n + 1 => f_M_library_130  k107 (f_M_library_130L k107 n)
theorem r_M_library_130L {X : zCX} (o : zOK X "WantShelvesModel" c_M_library n_M_library 8) {k107 : zSt → Nat → Int32 → Option (Int32 × zSt)} (hk107 : ∀ {σ : zSt} {v0 : Nat} {v1 : Int32} {z : Int32 × zSt}, k107 σ v0 v1 = some z → zRX X 0 0 (some (.int z.1)) z.2 → zPJ X 0 0 107 [(0, .ref v0), (1, .int v1)] [] σ) : ∀ (n : Nat) {σ : zSt} {v0 : Nat} {v1 : Int32} {v2 : Int32} {z : Int32 × zSt}, f_M_library_130L k107 n σ v0 v1 v2 = some z → zRX X 0 0 (some (.int z.1)) z.2 → zPJ X 0 0 130 [(0, .ref v0), (1, .int v1), (2, .int v2)] [] σ
  | 0 => fun h _ => by cases h
  | n + 1 => fun h hr => r_M_library_130 o hk107 (r_M_library_130L o hk107 n) h hr
def f_M_library_374 (k374 : zSt → Nat → Int32 → Option (Int32 × zSt)) (σ : zSt) (v0 : Nat) (v1 : Int32) : Option (Int32 × zSt) :=
if 3 ≤ v1 then (
(zgI σ 12 v0 42).bind fun x1 =>
some (x1, σ)) else
(zgP σ 12 v0 81).bind fun a2 =>
(zwI σ 3 a2 v1 0).bind fun σ3 =>
k374 σ3 v0 (v1 + 1)
set_option maxRecDepth 100000 in
set_option maxHeartbeats 4000000 in
theorem r_M_library_374 {X : zCX} (o : zOK X "WantShelvesModel" c_M_library n_M_library 8) {k374 : zSt → Nat → Int32 → Option (Int32 × zSt)} (hk374 : ∀ {σ : zSt} {v0 : Nat} {v1 : Int32} {z : Int32 × zSt}, k374 σ v0 v1 = some z → zRX X 0 0 (some (.int z.1)) z.2 → zPJ X 0 0 374 [(0, .ref v0), (1, .int v1)] [] σ) {σ : zSt} {v0 : Nat} {v1 : Int32} {z : Int32 × zSt} (h : f_M_library_374 k374 σ v0 v1 = some z) (hr : zRX X 0 0 (some (.int z.1)) z.2) : zPJ X 0 0 374 [(0, .ref v0), (1, .int v1)] [] σ := by
  unfold f_M_library_374 at h
  refine zj_iload_n o (zdd k_M_library_4 16 rfl) rfl 1 rfl ?_
  refine zj_iconst o (zdd k_M_library_4 17 rfl) zki_3 ?_
  refine zj_icmp_ge (tgt := 392) o (zdd k_M_library_4 18 rfl) (by decide) (fun hc => ?_) (fun hc => ?_)
  · rw [if_pos hc] at h
    refine zj_aload_n o (zdd k_M_library_4 26 rfl) rfl 0 rfl ?_
    obtain ⟨x1, e_x1, h⟩ := zbd h
    refine zj_gI o (zdd k_M_library_4 27 rfl) fl_M_391 rfl e_x1 ?_
    cases h
    exact zr_i o hr (zdd k_M_library_4 28 rfl)
  · rw [if_neg hc] at h
    refine zj_aload_n o (zdd k_M_library_4 19 rfl) rfl 0 rfl ?_
    obtain ⟨a2, e_a2, h⟩ := zbd h
    refine zj_gP o (zdd k_M_library_4 20 rfl) fl_M_142 rfl e_a2 ?_
    refine zj_iload_n o (zdd k_M_library_4 21 rfl) rfl 1 rfl ?_
    refine zj_iconst o (zdd k_M_library_4 22 rfl) zki_0 ?_
    obtain ⟨σ3, e_σ3, h⟩ := zbd h
    refine zj_zast o (zdd k_M_library_4 23 rfl) e_σ3 ?_
    refine zj_iinc (v := v1 + 1) (loc' := [(1, .int (v1 + 1)), (0, .ref v0)]) o (zdd k_M_library_4 24 rfl) 1 rfl (by rw [zki_1]) (by decide) rfl ?_
    refine zj_goto (tgt := 374) o (zdd k_M_library_4 25 rfl) (by decide) ?_
    exact zj_sub [1, 0] rfl (hk374 h hr)
def f_M_library_374L : Nat → zSt → Nat → Int32 → Option (Int32 × zSt)
  | 0 => fun _ _ _ => none
  | n + 1 => f_M_library_374  (f_M_library_374L  n)
theorem r_M_library_374L {X : zCX} (o : zOK X "WantShelvesModel" c_M_library n_M_library 8) : ∀ (n : Nat) {σ : zSt} {v0 : Nat} {v1 : Int32} {z : Int32 × zSt}, f_M_library_374L n σ v0 v1 = some z → zRX X 0 0 (some (.int z.1)) z.2 → zPJ X 0 0 374 [(0, .ref v0), (1, .int v1)] [] σ
  | 0 => fun h _ => by cases h
  | n + 1 => fun h hr => r_M_library_374 o (r_M_library_374L o  n) h hr
def f_M_library_347 (σ : zSt) (v0 : Nat) : Option (Int32 × zSt) :=
(zsI σ 12 v0 56 0).bind fun σ1 =>
(zsI σ1 12 v0 57 0).bind fun σ2 =>
(zsI σ2 12 v0 78 0).bind fun σ3 =>
(zsI σ3 12 v0 71 0).bind fun σ4 =>
(zsI σ4 12 v0 59 0).bind fun σ5 =>
f_M_library_374L zfu σ5 v0 0
set_option maxRecDepth 100000 in
set_option maxHeartbeats 4000000 in
theorem r_M_library_347 {X : zCX} (o : zOK X "WantShelvesModel" c_M_library n_M_library 8) {σ : zSt} {v0 : Nat} {z : Int32 × zSt} (h : f_M_library_347 σ v0 = some z) (hr : zRX X 0 0 (some (.int z.1)) z.2) : zPJ X 0 0 347 [(0, .ref v0)] [] σ := by
  unfold f_M_library_347 at h
  refine zj_aload_n o (zdd k_M_library_3 49 rfl) rfl 0 rfl ?_
  refine zj_iconst o (zdd k_M_library_4 0 rfl) zki_0 ?_
  obtain ⟨σ1, e_σ1, h⟩ := zbd h
  refine zj_pI o (zdd k_M_library_4 1 rfl) fl_M_410 rfl rfl e_σ1 ?_
  refine zj_aload_n o (zdd k_M_library_4 2 rfl) rfl 0 rfl ?_
  refine zj_iconst o (zdd k_M_library_4 3 rfl) zki_0 ?_
  obtain ⟨σ2, e_σ2, h⟩ := zbd h
  refine zj_pI o (zdd k_M_library_4 4 rfl) fl_M_413 rfl rfl e_σ2 ?_
  refine zj_aload_n o (zdd k_M_library_4 5 rfl) rfl 0 rfl ?_
  refine zj_iconst o (zdd k_M_library_4 6 rfl) zki_0 ?_
  obtain ⟨σ3, e_σ3, h⟩ := zbd h
  refine zj_pI o (zdd k_M_library_4 7 rfl) fl_M_416 rfl rfl e_σ3 ?_
  refine zj_aload_n o (zdd k_M_library_4 8 rfl) rfl 0 rfl ?_
  refine zj_iconst o (zdd k_M_library_4 9 rfl) zki_0 ?_
  obtain ⟨σ4, e_σ4, h⟩ := zbd h
  refine zj_pI o (zdd k_M_library_4 10 rfl) fl_M_419 rfl rfl e_σ4 ?_
  refine zj_aload_n o (zdd k_M_library_4 11 rfl) rfl 0 rfl ?_
  refine zj_iconst o (zdd k_M_library_4 12 rfl) zki_0 ?_
  obtain ⟨σ5, e_σ5, h⟩ := zbd h
  refine zj_pI o (zdd k_M_library_4 13 rfl) fl_M_422 rfl rfl e_σ5 ?_
  refine zj_iconst o (zdd k_M_library_4 14 rfl) zki_0 ?_
  refine zj_istore_n (loc' := [(1, .int 0), (0, .ref v0)]) o (zdd k_M_library_4 15 rfl) rfl (by decide) rfl ?_
  exact zj_sub [1, 0] rfl (r_M_library_374L o  zfu h hr)
def f_M_library_325 (k325 : zSt → Nat → Int32 → Option (Int32 × zSt)) (σ : zSt) (v0 : Nat) (v1 : Int32) : Option (Int32 × zSt) :=
if 6 ≤ v1 then (
f_M_library_347 σ v0) else
(zgP σ 12 v0 49).bind fun a1 =>
(zwI σ 1 a1 (24 + v1) (-1)).bind fun σ2 =>
k325 σ2 v0 (v1 + 1)
set_option maxRecDepth 100000 in
set_option maxHeartbeats 4000000 in
theorem r_M_library_325 {X : zCX} (o : zOK X "WantShelvesModel" c_M_library n_M_library 8) {k325 : zSt → Nat → Int32 → Option (Int32 × zSt)} (hk325 : ∀ {σ : zSt} {v0 : Nat} {v1 : Int32} {z : Int32 × zSt}, k325 σ v0 v1 = some z → zRX X 0 0 (some (.int z.1)) z.2 → zPJ X 0 0 325 [(0, .ref v0), (1, .int v1)] [] σ) {σ : zSt} {v0 : Nat} {v1 : Int32} {z : Int32 × zSt} (h : f_M_library_325 k325 σ v0 v1 = some z) (hr : zRX X 0 0 (some (.int z.1)) z.2) : zPJ X 0 0 325 [(0, .ref v0), (1, .int v1)] [] σ := by
  unfold f_M_library_325 at h
  refine zj_iload_n o (zdd k_M_library_3 37 rfl) rfl 1 rfl ?_
  refine zj_bipush o (zdd k_M_library_3 38 rfl) zkb_6 ?_
  refine zj_icmp_ge (tgt := 347) o (zdd k_M_library_3 39 rfl) (by decide) (fun hc => ?_) (fun hc => ?_)
  · rw [if_pos hc] at h
    exact zj_sub [0] rfl (r_M_library_347 o  h hr)
  · rw [if_neg hc] at h
    refine zj_aload_n o (zdd k_M_library_3 40 rfl) rfl 0 rfl ?_
    obtain ⟨a1, e_a1, h⟩ := zbd h
    refine zj_gP o (zdd k_M_library_3 41 rfl) fl_M_78 rfl e_a1 ?_
    refine zj_bipush o (zdd k_M_library_3 42 rfl) zkb_24 ?_
    refine zj_iload_n o (zdd k_M_library_3 43 rfl) rfl 1 rfl ?_
    refine zj_iadd o (zdd k_M_library_3 44 rfl) ?_
    refine zj_iconst o (zdd k_M_library_3 45 rfl) zki_m1 ?_
    obtain ⟨σ2, e_σ2, h⟩ := zbd h
    refine zj_iast o (zdd k_M_library_3 46 rfl) e_σ2 ?_
    refine zj_iinc (v := v1 + 1) (loc' := [(1, .int (v1 + 1)), (0, .ref v0)]) o (zdd k_M_library_3 47 rfl) 1 rfl (by rw [zki_1]) (by decide) rfl ?_
    refine zj_goto (tgt := 325) o (zdd k_M_library_3 48 rfl) (by decide) ?_
    exact zj_sub [1, 0] rfl (hk325 h hr)
def f_M_library_325L : Nat → zSt → Nat → Int32 → Option (Int32 × zSt)
  | 0 => fun _ _ _ => none
  | n + 1 => f_M_library_325  (f_M_library_325L  n)
theorem r_M_library_325L {X : zCX} (o : zOK X "WantShelvesModel" c_M_library n_M_library 8) : ∀ (n : Nat) {σ : zSt} {v0 : Nat} {v1 : Int32} {z : Int32 × zSt}, f_M_library_325L n σ v0 v1 = some z → zRX X 0 0 (some (.int z.1)) z.2 → zPJ X 0 0 325 [(0, .ref v0), (1, .int v1)] [] σ
  | 0 => fun h _ => by cases h
  | n + 1 => fun h hr => r_M_library_325 o (r_M_library_325L o  n) h hr
def f_M_library_295 (k295 : zSt → Nat → Int32 → Option (Int32 × zSt)) (σ : zSt) (v0 : Nat) (v1 : Int32) : Option (Int32 × zSt) :=
(zgI σ 12 v0 43).bind fun x1 =>
if 4 * x1 ≤ v1 then (
f_M_library_325L zfu σ v0 0) else
(zgP σ 12 v0 49).bind fun a2 =>
(zgP σ 12 v0 31).bind fun a3 =>
(zaI σ 1 a3 v1).bind fun x4 =>
(zwI σ 1 a2 v1 x4).bind fun σ5 =>
k295 σ5 v0 (v1 + 1)
set_option maxRecDepth 100000 in
set_option maxHeartbeats 4000000 in
theorem r_M_library_295 {X : zCX} (o : zOK X "WantShelvesModel" c_M_library n_M_library 8) {k295 : zSt → Nat → Int32 → Option (Int32 × zSt)} (hk295 : ∀ {σ : zSt} {v0 : Nat} {v1 : Int32} {z : Int32 × zSt}, k295 σ v0 v1 = some z → zRX X 0 0 (some (.int z.1)) z.2 → zPJ X 0 0 295 [(0, .ref v0), (1, .int v1)] [] σ) {σ : zSt} {v0 : Nat} {v1 : Int32} {z : Int32 × zSt} (h : f_M_library_295 k295 σ v0 v1 = some z) (hr : zRX X 0 0 (some (.int z.1)) z.2) : zPJ X 0 0 295 [(0, .ref v0), (1, .int v1)] [] σ := by
  unfold f_M_library_295 at h
  refine zj_iload_n o (zdd k_M_library_3 19 rfl) rfl 1 rfl ?_
  refine zj_iconst o (zdd k_M_library_3 20 rfl) zki_4 ?_
  refine zj_aload_n o (zdd k_M_library_3 21 rfl) rfl 0 rfl ?_
  obtain ⟨x1, e_x1, h⟩ := zbd h
  refine zj_gI o (zdd k_M_library_3 22 rfl) fl_M_394 rfl e_x1 ?_
  refine zj_imul o (zdd k_M_library_3 23 rfl) ?_
  refine zj_icmp_ge (tgt := 323) o (zdd k_M_library_3 24 rfl) (by decide) (fun hc => ?_) (fun hc => ?_)
  · rw [if_pos hc] at h
    refine zj_iconst o (zdd k_M_library_3 35 rfl) zki_0 ?_
    refine zj_istore_n (loc' := [(1, .int 0), (0, .ref v0)]) o (zdd k_M_library_3 36 rfl) rfl (by decide) rfl ?_
    exact zj_sub [1, 0] rfl (r_M_library_325L o  zfu h hr)
  · rw [if_neg hc] at h
    refine zj_aload_n o (zdd k_M_library_3 25 rfl) rfl 0 rfl ?_
    obtain ⟨a2, e_a2, h⟩ := zbd h
    refine zj_gP o (zdd k_M_library_3 26 rfl) fl_M_78 rfl e_a2 ?_
    refine zj_iload_n o (zdd k_M_library_3 27 rfl) rfl 1 rfl ?_
    refine zj_aload_n o (zdd k_M_library_3 28 rfl) rfl 0 rfl ?_
    obtain ⟨a3, e_a3, h⟩ := zbd h
    refine zj_gP o (zdd k_M_library_3 29 rfl) fl_M_63 rfl e_a3 ?_
    refine zj_iload_n o (zdd k_M_library_3 30 rfl) rfl 1 rfl ?_
    obtain ⟨x4, e_x4, h⟩ := zbd h
    refine zj_iald o (zdd k_M_library_3 31 rfl) e_x4 ?_
    obtain ⟨σ5, e_σ5, h⟩ := zbd h
    refine zj_iast o (zdd k_M_library_3 32 rfl) e_σ5 ?_
    refine zj_iinc (v := v1 + 1) (loc' := [(1, .int (v1 + 1)), (0, .ref v0)]) o (zdd k_M_library_3 33 rfl) 1 rfl (by rw [zki_1]) (by decide) rfl ?_
    refine zj_goto (tgt := 295) o (zdd k_M_library_3 34 rfl) (by decide) ?_
    exact zj_sub [1, 0] rfl (hk295 h hr)
def f_M_library_295L : Nat → zSt → Nat → Int32 → Option (Int32 × zSt)
  | 0 => fun _ _ _ => none
  | n + 1 => f_M_library_295  (f_M_library_295L  n)
theorem r_M_library_295L {X : zCX} (o : zOK X "WantShelvesModel" c_M_library n_M_library 8) : ∀ (n : Nat) {σ : zSt} {v0 : Nat} {v1 : Int32} {z : Int32 × zSt}, f_M_library_295L n σ v0 v1 = some z → zRX X 0 0 (some (.int z.1)) z.2 → zPJ X 0 0 295 [(0, .ref v0), (1, .int v1)] [] σ
  | 0 => fun h _ => by cases h
  | n + 1 => fun h hr => r_M_library_295 o (r_M_library_295L o  n) h hr
def f_M_library_274 (k274 : zSt → Nat → Int32 → Option (Int32 × zSt)) (σ : zSt) (v0 : Nat) (v1 : Int32) : Option (Int32 × zSt) :=
if 92 ≤ v1 then (
f_M_library_295L zfu σ v0 0) else
(zgP σ 12 v0 49).bind fun a1 =>
(zwI σ 1 a1 v1 0).bind fun σ2 =>
k274 σ2 v0 (v1 + 1)
set_option maxRecDepth 100000 in
set_option maxHeartbeats 4000000 in
theorem r_M_library_274 {X : zCX} (o : zOK X "WantShelvesModel" c_M_library n_M_library 8) {k274 : zSt → Nat → Int32 → Option (Int32 × zSt)} (hk274 : ∀ {σ : zSt} {v0 : Nat} {v1 : Int32} {z : Int32 × zSt}, k274 σ v0 v1 = some z → zRX X 0 0 (some (.int z.1)) z.2 → zPJ X 0 0 274 [(0, .ref v0), (1, .int v1)] [] σ) {σ : zSt} {v0 : Nat} {v1 : Int32} {z : Int32 × zSt} (h : f_M_library_274 k274 σ v0 v1 = some z) (hr : zRX X 0 0 (some (.int z.1)) z.2) : zPJ X 0 0 274 [(0, .ref v0), (1, .int v1)] [] σ := by
  unfold f_M_library_274 at h
  refine zj_iload_n o (zdd k_M_library_3 7 rfl) rfl 1 rfl ?_
  refine zj_bipush o (zdd k_M_library_3 8 rfl) zkb_92 ?_
  refine zj_icmp_ge (tgt := 293) o (zdd k_M_library_3 9 rfl) (by decide) (fun hc => ?_) (fun hc => ?_)
  · rw [if_pos hc] at h
    refine zj_iconst o (zdd k_M_library_3 17 rfl) zki_0 ?_
    refine zj_istore_n (loc' := [(1, .int 0), (0, .ref v0)]) o (zdd k_M_library_3 18 rfl) rfl (by decide) rfl ?_
    exact zj_sub [1, 0] rfl (r_M_library_295L o  zfu h hr)
  · rw [if_neg hc] at h
    refine zj_aload_n o (zdd k_M_library_3 10 rfl) rfl 0 rfl ?_
    obtain ⟨a1, e_a1, h⟩ := zbd h
    refine zj_gP o (zdd k_M_library_3 11 rfl) fl_M_78 rfl e_a1 ?_
    refine zj_iload_n o (zdd k_M_library_3 12 rfl) rfl 1 rfl ?_
    refine zj_iconst o (zdd k_M_library_3 13 rfl) zki_0 ?_
    obtain ⟨σ2, e_σ2, h⟩ := zbd h
    refine zj_iast o (zdd k_M_library_3 14 rfl) e_σ2 ?_
    refine zj_iinc (v := v1 + 1) (loc' := [(1, .int (v1 + 1)), (0, .ref v0)]) o (zdd k_M_library_3 15 rfl) 1 rfl (by rw [zki_1]) (by decide) rfl ?_
    refine zj_goto (tgt := 274) o (zdd k_M_library_3 16 rfl) (by decide) ?_
    exact zj_sub [1, 0] rfl (hk274 h hr)
def f_M_library_274L : Nat → zSt → Nat → Int32 → Option (Int32 × zSt)
  | 0 => fun _ _ _ => none
  | n + 1 => f_M_library_274  (f_M_library_274L  n)
theorem r_M_library_274L {X : zCX} (o : zOK X "WantShelvesModel" c_M_library n_M_library 8) : ∀ (n : Nat) {σ : zSt} {v0 : Nat} {v1 : Int32} {z : Int32 × zSt}, f_M_library_274L n σ v0 v1 = some z → zRX X 0 0 (some (.int z.1)) z.2 → zPJ X 0 0 274 [(0, .ref v0), (1, .int v1)] [] σ
  | 0 => fun h _ => by cases h
  | n + 1 => fun h hr => r_M_library_274 o (r_M_library_274L o  n) h hr
def f_M_library_248 (k248 : zSt → Nat → Int32 → Option (Int32 × zSt)) (σ : zSt) (v0 : Nat) (v1 : Int32) : Option (Int32 × zSt) :=
if 6 ≤ v1 then (
f_M_library_274L zfu σ v0 0) else
(zgP σ 12 v0 33).bind fun a1 =>
(zgP σ 12 v0 29).bind fun a2 =>
(zaI σ 1 a2 v1).bind fun x3 =>
(zwI σ 1 a1 v1 x3).bind fun σ4 =>
k248 σ4 v0 (v1 + 1)
set_option maxRecDepth 100000 in
set_option maxHeartbeats 4000000 in
theorem r_M_library_248 {X : zCX} (o : zOK X "WantShelvesModel" c_M_library n_M_library 8) {k248 : zSt → Nat → Int32 → Option (Int32 × zSt)} (hk248 : ∀ {σ : zSt} {v0 : Nat} {v1 : Int32} {z : Int32 × zSt}, k248 σ v0 v1 = some z → zRX X 0 0 (some (.int z.1)) z.2 → zPJ X 0 0 248 [(0, .ref v0), (1, .int v1)] [] σ) {σ : zSt} {v0 : Nat} {v1 : Int32} {z : Int32 × zSt} (h : f_M_library_248 k248 σ v0 v1 = some z) (hr : zRX X 0 0 (some (.int z.1)) z.2) : zPJ X 0 0 248 [(0, .ref v0), (1, .int v1)] [] σ := by
  unfold f_M_library_248 at h
  refine zj_iload_n o (zdd k_M_library_2 42 rfl) rfl 1 rfl ?_
  refine zj_bipush o (zdd k_M_library_2 43 rfl) zkb_6 ?_
  refine zj_icmp_ge (tgt := 272) o (zdd k_M_library_2 44 rfl) (by decide) (fun hc => ?_) (fun hc => ?_)
  · rw [if_pos hc] at h
    refine zj_iconst o (zdd k_M_library_3 5 rfl) zki_0 ?_
    refine zj_istore_n (loc' := [(1, .int 0), (0, .ref v0)]) o (zdd k_M_library_3 6 rfl) rfl (by decide) rfl ?_
    exact zj_sub [1, 0] rfl (r_M_library_274L o  zfu h hr)
  · rw [if_neg hc] at h
    refine zj_aload_n o (zdd k_M_library_2 45 rfl) rfl 0 rfl ?_
    obtain ⟨a1, e_a1, h⟩ := zbd h
    refine zj_gP o (zdd k_M_library_2 46 rfl) fl_M_69 rfl e_a1 ?_
    refine zj_iload_n o (zdd k_M_library_2 47 rfl) rfl 1 rfl ?_
    refine zj_aload_n o (zdd k_M_library_2 48 rfl) rfl 0 rfl ?_
    obtain ⟨a2, e_a2, h⟩ := zbd h
    refine zj_gP o (zdd k_M_library_2 49 rfl) fl_M_57 rfl e_a2 ?_
    refine zj_iload_n o (zdd k_M_library_3 0 rfl) rfl 1 rfl ?_
    obtain ⟨x3, e_x3, h⟩ := zbd h
    refine zj_iald o (zdd k_M_library_3 1 rfl) e_x3 ?_
    obtain ⟨σ4, e_σ4, h⟩ := zbd h
    refine zj_iast o (zdd k_M_library_3 2 rfl) e_σ4 ?_
    refine zj_iinc (v := v1 + 1) (loc' := [(1, .int (v1 + 1)), (0, .ref v0)]) o (zdd k_M_library_3 3 rfl) 1 rfl (by rw [zki_1]) (by decide) rfl ?_
    refine zj_goto (tgt := 248) o (zdd k_M_library_3 4 rfl) (by decide) ?_
    exact zj_sub [1, 0] rfl (hk248 h hr)
def f_M_library_248L : Nat → zSt → Nat → Int32 → Option (Int32 × zSt)
  | 0 => fun _ _ _ => none
  | n + 1 => f_M_library_248  (f_M_library_248L  n)
theorem r_M_library_248L {X : zCX} (o : zOK X "WantShelvesModel" c_M_library n_M_library 8) : ∀ (n : Nat) {σ : zSt} {v0 : Nat} {v1 : Int32} {z : Int32 × zSt}, f_M_library_248L n σ v0 v1 = some z → zRX X 0 0 (some (.int z.1)) z.2 → zPJ X 0 0 248 [(0, .ref v0), (1, .int v1)] [] σ
  | 0 => fun h _ => by cases h
  | n + 1 => fun h hr => r_M_library_248 o (r_M_library_248L o  n) h hr
def f_M_library_210 (k210 : zSt → Nat → Int32 → Option (Int32 × zSt)) (σ : zSt) (v0 : Nat) (v1 : Int32) : Option (Int32 × zSt) :=
if 24 ≤ v1 then (
f_M_library_248L zfu σ v0 0) else
(zgP σ 12 v0 31).bind fun a1 =>
(zgP σ 12 v0 27).bind fun a2 =>
(zaI σ 1 a2 v1).bind fun x3 =>
(zwI σ 1 a1 v1 x3).bind fun σ4 =>
(zgP σ4 12 v0 32).bind fun a5 =>
(zgP σ4 12 v0 28).bind fun a6 =>
(zaI σ4 1 a6 v1).bind fun x7 =>
(zwI σ4 1 a5 v1 x7).bind fun σ8 =>
k210 σ8 v0 (v1 + 1)
set_option maxRecDepth 100000 in
set_option maxHeartbeats 4000000 in
theorem r_M_library_210 {X : zCX} (o : zOK X "WantShelvesModel" c_M_library n_M_library 8) {k210 : zSt → Nat → Int32 → Option (Int32 × zSt)} (hk210 : ∀ {σ : zSt} {v0 : Nat} {v1 : Int32} {z : Int32 × zSt}, k210 σ v0 v1 = some z → zRX X 0 0 (some (.int z.1)) z.2 → zPJ X 0 0 210 [(0, .ref v0), (1, .int v1)] [] σ) {σ : zSt} {v0 : Nat} {v1 : Int32} {z : Int32 × zSt} (h : f_M_library_210 k210 σ v0 v1 = some z) (hr : zRX X 0 0 (some (.int z.1)) z.2) : zPJ X 0 0 210 [(0, .ref v0), (1, .int v1)] [] σ := by
  unfold f_M_library_210 at h
  refine zj_iload_n o (zdd k_M_library_2 19 rfl) rfl 1 rfl ?_
  refine zj_bipush o (zdd k_M_library_2 20 rfl) zkb_24 ?_
  refine zj_icmp_ge (tgt := 246) o (zdd k_M_library_2 21 rfl) (by decide) (fun hc => ?_) (fun hc => ?_)
  · rw [if_pos hc] at h
    refine zj_iconst o (zdd k_M_library_2 40 rfl) zki_0 ?_
    refine zj_istore_n (loc' := [(1, .int 0), (0, .ref v0)]) o (zdd k_M_library_2 41 rfl) rfl (by decide) rfl ?_
    exact zj_sub [1, 0] rfl (r_M_library_248L o  zfu h hr)
  · rw [if_neg hc] at h
    refine zj_aload_n o (zdd k_M_library_2 22 rfl) rfl 0 rfl ?_
    obtain ⟨a1, e_a1, h⟩ := zbd h
    refine zj_gP o (zdd k_M_library_2 23 rfl) fl_M_63 rfl e_a1 ?_
    refine zj_iload_n o (zdd k_M_library_2 24 rfl) rfl 1 rfl ?_
    refine zj_aload_n o (zdd k_M_library_2 25 rfl) rfl 0 rfl ?_
    obtain ⟨a2, e_a2, h⟩ := zbd h
    refine zj_gP o (zdd k_M_library_2 26 rfl) fl_M_51 rfl e_a2 ?_
    refine zj_iload_n o (zdd k_M_library_2 27 rfl) rfl 1 rfl ?_
    obtain ⟨x3, e_x3, h⟩ := zbd h
    refine zj_iald o (zdd k_M_library_2 28 rfl) e_x3 ?_
    obtain ⟨σ4, e_σ4, h⟩ := zbd h
    refine zj_iast o (zdd k_M_library_2 29 rfl) e_σ4 ?_
    refine zj_aload_n o (zdd k_M_library_2 30 rfl) rfl 0 rfl ?_
    obtain ⟨a5, e_a5, h⟩ := zbd h
    refine zj_gP o (zdd k_M_library_2 31 rfl) fl_M_66 rfl e_a5 ?_
    refine zj_iload_n o (zdd k_M_library_2 32 rfl) rfl 1 rfl ?_
    refine zj_aload_n o (zdd k_M_library_2 33 rfl) rfl 0 rfl ?_
    obtain ⟨a6, e_a6, h⟩ := zbd h
    refine zj_gP o (zdd k_M_library_2 34 rfl) fl_M_54 rfl e_a6 ?_
    refine zj_iload_n o (zdd k_M_library_2 35 rfl) rfl 1 rfl ?_
    obtain ⟨x7, e_x7, h⟩ := zbd h
    refine zj_iald o (zdd k_M_library_2 36 rfl) e_x7 ?_
    obtain ⟨σ8, e_σ8, h⟩ := zbd h
    refine zj_iast o (zdd k_M_library_2 37 rfl) e_σ8 ?_
    refine zj_iinc (v := v1 + 1) (loc' := [(1, .int (v1 + 1)), (0, .ref v0)]) o (zdd k_M_library_2 38 rfl) 1 rfl (by rw [zki_1]) (by decide) rfl ?_
    refine zj_goto (tgt := 210) o (zdd k_M_library_2 39 rfl) (by decide) ?_
    exact zj_sub [1, 0] rfl (hk210 h hr)
def f_M_library_210L : Nat → zSt → Nat → Int32 → Option (Int32 × zSt)
  | 0 => fun _ _ _ => none
  | n + 1 => f_M_library_210  (f_M_library_210L  n)
theorem r_M_library_210L {X : zCX} (o : zOK X "WantShelvesModel" c_M_library n_M_library 8) : ∀ (n : Nat) {σ : zSt} {v0 : Nat} {v1 : Int32} {z : Int32 × zSt}, f_M_library_210L n σ v0 v1 = some z → zRX X 0 0 (some (.int z.1)) z.2 → zPJ X 0 0 210 [(0, .ref v0), (1, .int v1)] [] σ
  | 0 => fun h _ => by cases h
  | n + 1 => fun h hr => r_M_library_210 o (r_M_library_210L o  n) h hr
def f_M_library_184 (k184 : zSt → Nat → Int32 → Option (Int32 × zSt)) (σ : zSt) (v0 : Nat) (v1 : Int32) : Option (Int32 × zSt) :=
if 40 ≤ v1 then (
f_M_library_210L zfu σ v0 0) else
(zgP σ 12 v0 30).bind fun a1 =>
(zgP σ 12 v0 26).bind fun a2 =>
(zaI σ 1 a2 v1).bind fun x3 =>
(zwI σ 1 a1 v1 x3).bind fun σ4 =>
k184 σ4 v0 (v1 + 1)
set_option maxRecDepth 100000 in
set_option maxHeartbeats 4000000 in
theorem r_M_library_184 {X : zCX} (o : zOK X "WantShelvesModel" c_M_library n_M_library 8) {k184 : zSt → Nat → Int32 → Option (Int32 × zSt)} (hk184 : ∀ {σ : zSt} {v0 : Nat} {v1 : Int32} {z : Int32 × zSt}, k184 σ v0 v1 = some z → zRX X 0 0 (some (.int z.1)) z.2 → zPJ X 0 0 184 [(0, .ref v0), (1, .int v1)] [] σ) {σ : zSt} {v0 : Nat} {v1 : Int32} {z : Int32 × zSt} (h : f_M_library_184 k184 σ v0 v1 = some z) (hr : zRX X 0 0 (some (.int z.1)) z.2) : zPJ X 0 0 184 [(0, .ref v0), (1, .int v1)] [] σ := by
  unfold f_M_library_184 at h
  refine zj_iload_n o (zdd k_M_library_2 4 rfl) rfl 1 rfl ?_
  refine zj_bipush o (zdd k_M_library_2 5 rfl) zkb_40 ?_
  refine zj_icmp_ge (tgt := 208) o (zdd k_M_library_2 6 rfl) (by decide) (fun hc => ?_) (fun hc => ?_)
  · rw [if_pos hc] at h
    refine zj_iconst o (zdd k_M_library_2 17 rfl) zki_0 ?_
    refine zj_istore_n (loc' := [(1, .int 0), (0, .ref v0)]) o (zdd k_M_library_2 18 rfl) rfl (by decide) rfl ?_
    exact zj_sub [1, 0] rfl (r_M_library_210L o  zfu h hr)
  · rw [if_neg hc] at h
    refine zj_aload_n o (zdd k_M_library_2 7 rfl) rfl 0 rfl ?_
    obtain ⟨a1, e_a1, h⟩ := zbd h
    refine zj_gP o (zdd k_M_library_2 8 rfl) fl_M_60 rfl e_a1 ?_
    refine zj_iload_n o (zdd k_M_library_2 9 rfl) rfl 1 rfl ?_
    refine zj_aload_n o (zdd k_M_library_2 10 rfl) rfl 0 rfl ?_
    obtain ⟨a2, e_a2, h⟩ := zbd h
    refine zj_gP o (zdd k_M_library_2 11 rfl) fl_M_48 rfl e_a2 ?_
    refine zj_iload_n o (zdd k_M_library_2 12 rfl) rfl 1 rfl ?_
    obtain ⟨x3, e_x3, h⟩ := zbd h
    refine zj_iald o (zdd k_M_library_2 13 rfl) e_x3 ?_
    obtain ⟨σ4, e_σ4, h⟩ := zbd h
    refine zj_iast o (zdd k_M_library_2 14 rfl) e_σ4 ?_
    refine zj_iinc (v := v1 + 1) (loc' := [(1, .int (v1 + 1)), (0, .ref v0)]) o (zdd k_M_library_2 15 rfl) 1 rfl (by rw [zki_1]) (by decide) rfl ?_
    refine zj_goto (tgt := 184) o (zdd k_M_library_2 16 rfl) (by decide) ?_
    exact zj_sub [1, 0] rfl (hk184 h hr)
def f_M_library_184L : Nat → zSt → Nat → Int32 → Option (Int32 × zSt)
  | 0 => fun _ _ _ => none
  | n + 1 => f_M_library_184  (f_M_library_184L  n)
theorem r_M_library_184L {X : zCX} (o : zOK X "WantShelvesModel" c_M_library n_M_library 8) : ∀ (n : Nat) {σ : zSt} {v0 : Nat} {v1 : Int32} {z : Int32 × zSt}, f_M_library_184L n σ v0 v1 = some z → zRX X 0 0 (some (.int z.1)) z.2 → zPJ X 0 0 184 [(0, .ref v0), (1, .int v1)] [] σ
  | 0 => fun h _ => by cases h
  | n + 1 => fun h hr => r_M_library_184 o (r_M_library_184L o  n) h hr
def f_M_library_107 (k107 : zSt → Nat → Int32 → Option (Int32 × zSt)) (σ : zSt) (v0 : Nat) (v1 : Int32) : Option (Int32 × zSt) :=
if 2 ≤ v1 then (
f_M_library_184L zfu σ v0 0) else
(zgP σ 12 v0 16).bind fun a1 =>
(zgP σ 12 v0 13).bind fun a2 =>
(zaI σ 1 a2 v1).bind fun x3 =>
(zwI σ 1 a1 v1 x3).bind fun σ4 =>
f_M_library_130L k107 zfu σ4 v0 v1 (320 * v1)
set_option maxRecDepth 100000 in
set_option maxHeartbeats 4000000 in
theorem r_M_library_107 {X : zCX} (o : zOK X "WantShelvesModel" c_M_library n_M_library 8) {k107 : zSt → Nat → Int32 → Option (Int32 × zSt)} (hk107 : ∀ {σ : zSt} {v0 : Nat} {v1 : Int32} {z : Int32 × zSt}, k107 σ v0 v1 = some z → zRX X 0 0 (some (.int z.1)) z.2 → zPJ X 0 0 107 [(0, .ref v0), (1, .int v1)] [] σ) {σ : zSt} {v0 : Nat} {v1 : Int32} {z : Int32 × zSt} (h : f_M_library_107 k107 σ v0 v1 = some z) (hr : zRX X 0 0 (some (.int z.1)) z.2) : zPJ X 0 0 107 [(0, .ref v0), (1, .int v1)] [] σ := by
  unfold f_M_library_107 at h
  refine zj_iload_n o (zdd k_M_library_1 7 rfl) rfl 1 rfl ?_
  refine zj_iconst o (zdd k_M_library_1 8 rfl) zki_2 ?_
  refine zj_icmp_ge (tgt := 182) o (zdd k_M_library_1 9 rfl) (by decide) (fun hc => ?_) (fun hc => ?_)
  · rw [if_pos hc] at h
    refine zj_iconst o (zdd k_M_library_2 2 rfl) zki_0 ?_
    refine zj_istore_n (loc' := [(1, .int 0), (0, .ref v0)]) o (zdd k_M_library_2 3 rfl) rfl (by decide) rfl ?_
    exact zj_sub [1, 0] rfl (r_M_library_184L o  zfu h hr)
  · rw [if_neg hc] at h
    refine zj_aload_n o (zdd k_M_library_1 10 rfl) rfl 0 rfl ?_
    obtain ⟨a1, e_a1, h⟩ := zbd h
    refine zj_gP o (zdd k_M_library_1 11 rfl) fl_M_36 rfl e_a1 ?_
    refine zj_iload_n o (zdd k_M_library_1 12 rfl) rfl 1 rfl ?_
    refine zj_aload_n o (zdd k_M_library_1 13 rfl) rfl 0 rfl ?_
    obtain ⟨a2, e_a2, h⟩ := zbd h
    refine zj_gP o (zdd k_M_library_1 14 rfl) fl_M_27 rfl e_a2 ?_
    refine zj_iload_n o (zdd k_M_library_1 15 rfl) rfl 1 rfl ?_
    obtain ⟨x3, e_x3, h⟩ := zbd h
    refine zj_iald o (zdd k_M_library_1 16 rfl) e_x3 ?_
    obtain ⟨σ4, e_σ4, h⟩ := zbd h
    refine zj_iast o (zdd k_M_library_1 17 rfl) e_σ4 ?_
    refine zj_sipush o (zdd k_M_library_1 18 rfl) zks_320 ?_
    refine zj_iload_n o (zdd k_M_library_1 19 rfl) rfl 1 rfl ?_
    refine zj_imul o (zdd k_M_library_1 20 rfl) ?_
    refine zj_istore_n (loc' := [(2, .int (320 * v1)), (0, .ref v0), (1, .int v1)]) o (zdd k_M_library_1 21 rfl) rfl (by decide) rfl ?_
    exact zj_sub [1, 2, 0] rfl (r_M_library_130L o hk107 zfu h hr)
def f_M_library_107L : Nat → zSt → Nat → Int32 → Option (Int32 × zSt)
  | 0 => fun _ _ _ => none
  | n + 1 => f_M_library_107  (f_M_library_107L  n)
theorem r_M_library_107L {X : zCX} (o : zOK X "WantShelvesModel" c_M_library n_M_library 8) : ∀ (n : Nat) {σ : zSt} {v0 : Nat} {v1 : Int32} {z : Int32 × zSt}, f_M_library_107L n σ v0 v1 = some z → zRX X 0 0 (some (.int z.1)) z.2 → zPJ X 0 0 107 [(0, .ref v0), (1, .int v1)] [] σ
  | 0 => fun h _ => by cases h
  | n + 1 => fun h hr => r_M_library_107 o (r_M_library_107L o  n) h hr
def f_M_library_94 (σ : zSt) (v0 : Nat) (s0 : Int32) (s1 : Nat) : Option (Int32 × zSt) :=
(zbool s0).bind fun w2 =>
(zsI σ 12 s1 48 s0).bind fun σ1 =>
(zgI σ1 12 v0 21).bind fun x3 =>
(zsI σ1 12 v0 22 x3).bind fun σ4 =>
f_M_library_107L zfu σ4 v0 0
set_option maxRecDepth 100000 in
set_option maxHeartbeats 4000000 in
theorem r_M_library_94 {X : zCX} (o : zOK X "WantShelvesModel" c_M_library n_M_library 8) {σ : zSt} {v0 : Nat} {s0 : Int32} {s1 : Nat} {z : Int32 × zSt} (h : f_M_library_94 σ v0 s0 s1 = some z) (hr : zRX X 0 0 (some (.int z.1)) z.2) : zPJ X 0 0 94 [(0, .ref v0)] [.int s0, .ref s1] σ := by
  unfold f_M_library_94 at h
  obtain ⟨w2, e_w2, h⟩ := zbd h
  obtain ⟨σ1, e_σ1, h⟩ := zbd h
  refine zj_pZ o (zdd k_M_library_1 0 rfl) fl_M_404 rfl (zbool_some e_w2).1 rfl e_σ1 ?_
  refine zj_aload_n o (zdd k_M_library_1 1 rfl) rfl 0 rfl ?_
  refine zj_aload_n o (zdd k_M_library_1 2 rfl) rfl 0 rfl ?_
  obtain ⟨x3, e_x3, h⟩ := zbd h
  refine zj_gI o (zdd k_M_library_1 3 rfl) fl_M_287 rfl e_x3 ?_
  obtain ⟨σ4, e_σ4, h⟩ := zbd h
  refine zj_pI o (zdd k_M_library_1 4 rfl) fl_M_407 rfl rfl e_σ4 ?_
  refine zj_iconst o (zdd k_M_library_1 5 rfl) zki_0 ?_
  refine zj_istore_n (loc' := [(1, .int 0), (0, .ref v0)]) o (zdd k_M_library_1 6 rfl) rfl (by decide) rfl ?_
  exact zj_sub [1, 0] rfl (r_M_library_107L o  zfu h hr)
def f_M_library_76 (σ : zSt) (v0 : Nat) (s0 : Int32) (s1 : Nat) : Option (Int32 × zSt) :=
(zbool s0).bind fun w2 =>
(zsI σ 12 s1 47 s0).bind fun σ1 =>
(zgI σ1 12 v0 40).bind fun x3 =>
if x3 &&& 2 = 0 then (
f_M_library_94 σ1 v0 0 v0) else
f_M_library_94 σ1 v0 1 v0
set_option maxRecDepth 100000 in
set_option maxHeartbeats 4000000 in
theorem r_M_library_76 {X : zCX} (o : zOK X "WantShelvesModel" c_M_library n_M_library 8) {σ : zSt} {v0 : Nat} {s0 : Int32} {s1 : Nat} {z : Int32 × zSt} (h : f_M_library_76 σ v0 s0 s1 = some z) (hr : zRX X 0 0 (some (.int z.1)) z.2) : zPJ X 0 0 76 [(0, .ref v0)] [.int s0, .ref s1] σ := by
  unfold f_M_library_76 at h
  obtain ⟨w2, e_w2, h⟩ := zbd h
  obtain ⟨σ1, e_σ1, h⟩ := zbd h
  refine zj_pZ o (zdd k_M_library_0 40 rfl) fl_M_400 rfl (zbool_some e_w2).1 rfl e_σ1 ?_
  refine zj_aload_n o (zdd k_M_library_0 41 rfl) rfl 0 rfl ?_
  refine zj_aload_n o (zdd k_M_library_0 42 rfl) rfl 0 rfl ?_
  obtain ⟨x3, e_x3, h⟩ := zbd h
  refine zj_gI o (zdd k_M_library_0 43 rfl) fl_M_354 rfl e_x3 ?_
  refine zj_iconst o (zdd k_M_library_0 44 rfl) zki_2 ?_
  refine zj_iand o (zdd k_M_library_0 45 rfl) ?_
  refine zj_if_eq (tgt := 93) o (zdd k_M_library_0 46 rfl) (by decide) (fun hc => ?_) (fun hc => ?_)
  · rw [if_pos hc] at h
    refine zj_iconst o (zdd k_M_library_0 49 rfl) zki_0 ?_
    exact zj_sub [0] rfl (r_M_library_94 o  h hr)
  · rw [if_neg hc] at h
    refine zj_iconst o (zdd k_M_library_0 47 rfl) zki_1 ?_
    refine zj_goto (tgt := 94) o (zdd k_M_library_0 48 rfl) (by decide) ?_
    exact zj_sub [0] rfl (r_M_library_94 o  h hr)
def f_M_library (σ : zSt) (t : Nat) : Option (Int32 × zSt) :=
zg σ 12 t (
(f_M_readAll σ t).bind fun σ1 =>
(zgI σ1 12 t 2).bind fun x2 =>
if x2 ≤ 0 then (
(zgI σ1 12 t 34).bind fun x3 =>
(zsI σ1 12 t 41 x3).bind fun σ4 =>
(zgI σ4 12 t 35).bind fun x5 =>
(zsI σ4 12 t 42 x5).bind fun σ6 =>
(zgI σ6 12 t 36).bind fun x7 =>
(zsI σ6 12 t 43 x7).bind fun σ8 =>
(zgI σ8 12 t 37).bind fun x9 =>
(zsI σ8 12 t 44 x9).bind fun σ10 =>
(zgI σ10 12 t 38).bind fun x11 =>
(zsI σ10 12 t 45 x11).bind fun σ12 =>
(zgI σ12 12 t 39).bind fun x13 =>
(zsI σ12 12 t 46 x13).bind fun σ14 =>
(zgI σ14 12 t 40).bind fun x15 =>
if x15 &&& 1 = 0 then (
f_M_library_76 σ14 t 0 t) else
f_M_library_76 σ14 t 1 t) else
some ((-1), σ1))
set_option maxRecDepth 100000 in
set_option maxHeartbeats 4000000 in
theorem m_M_library {l : Launch} {b : Nat} {ex : Nat → Value} {D : va_G} {ca : Nat → ClassId} {σ : zSt} {t : Nat} {z : Int32 × zSt} (h : f_M_library σ t = some z) : zMT l b ex D ca 8 y_M_library c_M_library n_M_library r_ret_M_library [.ref t] σ (some (.int z.1)) z.2 0 0 := by
  obtain ⟨_, hg0⟩ := zg_some h
  have h := hg0
  refine zmt_of (by decide) (Nat.le_of_ble_eq_true rfl) ⟨.int, rfl, rfl⟩ (fun X o hin hrm _ _ _ _ _ hr => ?_)
  have hr := hr 0 0 (by decide) (by decide)
  have o : zOK X "WantShelvesModel" c_M_library n_M_library 8 := o
  change zPJ X 0 0 0 [(0, .ref t)] [] σ
  refine zj_aload_n o (zdd k_M_library_0 0 rfl) rfl 0 rfl ?_
  obtain ⟨σ1, e_σ1, h⟩ := zbd h
  refine zc_V o (zdd k_M_library_0 1 rfl) ml_M_385 mv_M_readAll ⟨rfl, by decide⟩ (zg_some e_σ1).1 (by decide) [] [] rfl (Nat.le_of_ble_eq_true rfl) rfl (m_M_readAll e_σ1) ?_
  change zPJ X 0 0 _ _ [] _
  refine zj_aload_n o (zdd k_M_library_0 2 rfl) rfl 0 rfl ?_
  obtain ⟨x2, e_x2, h⟩ := zbd h
  refine zj_gI o (zdd k_M_library_0 3 rfl) fl_M_188 rfl e_x2 ?_
  refine zj_if_le (tgt := 13) o (zdd k_M_library_0 4 rfl) (by decide) (fun hc => ?_) (fun hc => ?_)
  · rw [if_pos hc] at h
    refine zj_aload_n o (zdd k_M_library_0 7 rfl) rfl 0 rfl ?_
    refine zj_aload_n o (zdd k_M_library_0 8 rfl) rfl 0 rfl ?_
    obtain ⟨x3, e_x3, h⟩ := zbd h
    refine zj_gI o (zdd k_M_library_0 9 rfl) fl_M_269 rfl e_x3 ?_
    obtain ⟨σ4, e_σ4, h⟩ := zbd h
    refine zj_pI o (zdd k_M_library_0 10 rfl) fl_M_388 rfl rfl e_σ4 ?_
    refine zj_aload_n o (zdd k_M_library_0 11 rfl) rfl 0 rfl ?_
    refine zj_aload_n o (zdd k_M_library_0 12 rfl) rfl 0 rfl ?_
    obtain ⟨x5, e_x5, h⟩ := zbd h
    refine zj_gI o (zdd k_M_library_0 13 rfl) fl_M_335 rfl e_x5 ?_
    obtain ⟨σ6, e_σ6, h⟩ := zbd h
    refine zj_pI o (zdd k_M_library_0 14 rfl) fl_M_391 rfl rfl e_σ6 ?_
    refine zj_aload_n o (zdd k_M_library_0 15 rfl) rfl 0 rfl ?_
    refine zj_aload_n o (zdd k_M_library_0 16 rfl) rfl 0 rfl ?_
    obtain ⟨x7, e_x7, h⟩ := zbd h
    refine zj_gI o (zdd k_M_library_0 17 rfl) fl_M_341 rfl e_x7 ?_
    obtain ⟨σ8, e_σ8, h⟩ := zbd h
    refine zj_pI o (zdd k_M_library_0 18 rfl) fl_M_394 rfl rfl e_σ8 ?_
    refine zj_aload_n o (zdd k_M_library_0 19 rfl) rfl 0 rfl ?_
    refine zj_aload_n o (zdd k_M_library_0 20 rfl) rfl 0 rfl ?_
    obtain ⟨x9, e_x9, h⟩ := zbd h
    refine zj_gI o (zdd k_M_library_0 21 rfl) fl_M_351 rfl e_x9 ?_
    obtain ⟨σ10, e_σ10, h⟩ := zbd h
    refine zj_pI o (zdd k_M_library_0 22 rfl) fl_M_397 rfl rfl e_σ10 ?_
    refine zj_aload_n o (zdd k_M_library_0 23 rfl) rfl 0 rfl ?_
    refine zj_aload_n o (zdd k_M_library_0 24 rfl) rfl 0 rfl ?_
    obtain ⟨x11, e_x11, h⟩ := zbd h
    refine zj_gI o (zdd k_M_library_0 25 rfl) fl_M_376 rfl e_x11 ?_
    obtain ⟨σ12, e_σ12, h⟩ := zbd h
    refine zj_pI o (zdd k_M_library_0 26 rfl) fl_M_72 rfl rfl e_σ12 ?_
    refine zj_aload_n o (zdd k_M_library_0 27 rfl) rfl 0 rfl ?_
    refine zj_aload_n o (zdd k_M_library_0 28 rfl) rfl 0 rfl ?_
    obtain ⟨x13, e_x13, h⟩ := zbd h
    refine zj_gI o (zdd k_M_library_0 29 rfl) fl_M_379 rfl e_x13 ?_
    obtain ⟨σ14, e_σ14, h⟩ := zbd h
    refine zj_pI o (zdd k_M_library_0 30 rfl) fl_M_75 rfl rfl e_σ14 ?_
    refine zj_aload_n o (zdd k_M_library_0 31 rfl) rfl 0 rfl ?_
    refine zj_aload_n o (zdd k_M_library_0 32 rfl) rfl 0 rfl ?_
    obtain ⟨x15, e_x15, h⟩ := zbd h
    refine zj_gI o (zdd k_M_library_0 33 rfl) fl_M_354 rfl e_x15 ?_
    refine zj_iconst o (zdd k_M_library_0 34 rfl) zki_1 ?_
    refine zj_iand o (zdd k_M_library_0 35 rfl) ?_
    refine zj_if_eq (tgt := 75) o (zdd k_M_library_0 36 rfl) (by decide) (fun hc => ?_) (fun hc => ?_)
    · rw [if_pos hc] at h
      refine zj_iconst o (zdd k_M_library_0 39 rfl) zki_0 ?_
      exact zj_sub [0] rfl (r_M_library_76 o  h hr)
    · rw [if_neg hc] at h
      refine zj_iconst o (zdd k_M_library_0 37 rfl) zki_1 ?_
      refine zj_goto (tgt := 76) o (zdd k_M_library_0 38 rfl) (by decide) ?_
      exact zj_sub [0] rfl (r_M_library_76 o  h hr)
  · rw [if_neg hc] at h
    refine zj_iconst o (zdd k_M_library_0 5 rfl) zki_m1 ?_
    cases h
    exact zr_i o hr (zdd k_M_library_0 6 rfl)
def f_M_fault (σ : zSt) (t : Nat) (p0 : Int32) : Option (Int32) :=
zg σ 12 t (
if p0 = 0 then (
(zgI σ 12 t 2).bind fun x2 =>
some x2) else
if p0 = 1 then (
(zgI σ 12 t 3).bind fun x1 =>
some x1) else
some (-1))
set_option maxRecDepth 100000 in
set_option maxHeartbeats 4000000 in
theorem m_M_fault {l : Launch} {b : Nat} {ex : Nat → Value} {D : va_G} {ca : Nat → ClassId} {σ : zSt} {t : Nat} {p0 : Int32} {z : Int32} (h : f_M_fault σ t p0 = some z) : zMT l b ex D ca 1 y_M_fault c_M_fault n_M_fault r_ret_M_fault [.ref t, .int p0] σ (some (.int z)) σ 0 0 := by
  obtain ⟨_, hg0⟩ := zg_some h
  have h := hg0
  refine zmt_of (by decide) (Nat.le_of_ble_eq_true rfl) ⟨.int, rfl, rfl⟩ (fun X o hin hrm _ _ _ _ _ hr => ?_)
  have hr := hr 0 0 (by decide) (by decide)
  have o : zOK X "WantShelvesModel" c_M_fault n_M_fault 1 := o
  change zPJ X 0 0 0 [(0, .ref t), (1, .int p0)] [] σ
  refine zj_iload_n o (zdd k_M_fault 0 rfl) rfl 1 rfl ?_
  refine zj_if_ne (tgt := 11) o (zdd k_M_fault 1 rfl) (by decide) (fun hc => ?_) (fun hc => ?_)
  · rw [if_neg hc] at h
    refine zj_iload_n o (zdd k_M_fault 5 rfl) rfl 1 rfl ?_
    refine zj_iconst o (zdd k_M_fault 6 rfl) zki_1 ?_
    refine zj_icmp_ne (tgt := 23) o (zdd k_M_fault 7 rfl) (by decide) (fun hc => ?_) (fun hc => ?_)
    · rw [if_neg hc] at h
      refine zj_iconst o (zdd k_M_fault 11 rfl) zki_m1 ?_
      cases h
      exact zr_i o hr (zdd k_M_fault 12 rfl)
    · rw [if_pos hc] at h
      refine zj_aload_n o (zdd k_M_fault 8 rfl) rfl 0 rfl ?_
      obtain ⟨x1, e_x1, h⟩ := zbd h
      refine zj_gI o (zdd k_M_fault 9 rfl) fl_M_13 rfl e_x1 ?_
      refine zj_goto (tgt := 24) o (zdd k_M_fault 10 rfl) (by decide) ?_
      cases h
      exact zr_i o hr (zdd k_M_fault 12 rfl)
  · rw [if_pos hc] at h
    refine zj_aload_n o (zdd k_M_fault 2 rfl) rfl 0 rfl ?_
    obtain ⟨x2, e_x2, h⟩ := zbd h
    refine zj_gI o (zdd k_M_fault 3 rfl) fl_M_188 rfl e_x2 ?_
    refine zj_goto (tgt := 24) o (zdd k_M_fault 4 rfl) (by decide) ?_
    cases h
    exact zr_i o hr (zdd k_M_fault 12 rfl)
def f_M_isIn (p0 : Int32) (p1 : Int32) (p2 : Int32) : Option (Int32) :=
(if p0 < p1 then (
some 0) else
if p2 < p0 then (
some 0) else
some 1).bind zbool
set_option maxRecDepth 100000 in
set_option maxHeartbeats 4000000 in
theorem m_M_isIn {l : Launch} {b : Nat} {ex : Nat → Value} {D : va_G} {ca : Nat → ClassId} {σ : zSt} {p0 : Int32} {p1 : Int32} {p2 : Int32} {z : Int32} (h : f_M_isIn p0 p1 p2 = some z) : zMT l b ex D ca 1 y_M_isIn c_M_isIn n_M_isIn r_ret_M_isIn [.int p0, .int p1, .int p2] σ (some (.int z)) σ 0 0 := by
  obtain ⟨z0, hbd, hz⟩ := zbd h
  obtain ⟨hzb, rfl⟩ := zbool_some hz
  have h := hbd
  refine zmt_of (by decide) (Nat.le_of_ble_eq_true rfl) ⟨.boolean, rfl, zb_nar hzb⟩ (fun X o hin hrm _ _ _ _ _ hr => ?_)
  have hr := hr 0 0 (by decide) (by decide)
  have o : zOK X "WantShelvesModel" c_M_isIn n_M_isIn 1 := o
  change zPJ X 0 0 0 [(0, .int p0), (1, .int p1), (2, .int p2)] [] σ
  refine zj_iload_n o (zdd k_M_isIn 0 rfl) rfl 0 rfl ?_
  refine zj_iload_n o (zdd k_M_isIn 1 rfl) rfl 1 rfl ?_
  refine zj_icmp_lt (tgt := 14) o (zdd k_M_isIn 2 rfl) (by decide) (fun hc => ?_) (fun hc => ?_)
  · rw [if_pos hc] at h
    refine zj_iconst o (zdd k_M_isIn 8 rfl) zki_0 ?_
    cases h
    exact zr_i o hr (zdd k_M_isIn 9 rfl)
  · rw [if_neg hc] at h
    refine zj_iload_n o (zdd k_M_isIn 3 rfl) rfl 0 rfl ?_
    refine zj_iload_n o (zdd k_M_isIn 4 rfl) rfl 2 rfl ?_
    refine zj_icmp_gt (tgt := 14) o (zdd k_M_isIn 5 rfl) (by decide) (fun hc => ?_) (fun hc => ?_)
    · rw [if_pos hc] at h
      refine zj_iconst o (zdd k_M_isIn 8 rfl) zki_0 ?_
      cases h
      exact zr_i o hr (zdd k_M_isIn 9 rfl)
    · rw [if_neg hc] at h
      refine zj_iconst o (zdd k_M_isIn 6 rfl) zki_1 ?_
      refine zj_goto (tgt := 15) o (zdd k_M_isIn 7 rfl) (by decide) ?_
      cases h
      exact zr_i o hr (zdd k_M_isIn 9 rfl)
def f_M_isTopic (σ : zSt) (t : Nat) (p0 : Int32) : Option (Int32) :=
zg σ 12 t (
((zgI σ 12 t 41).bind fun x1 =>
(f_M_isIn p0 0 (x1 - 1)).bind fun x2 =>
some x2).bind zbool)
set_option maxRecDepth 100000 in
set_option maxHeartbeats 4000000 in
theorem m_M_isTopic {l : Launch} {b : Nat} {ex : Nat → Value} {D : va_G} {ca : Nat → ClassId} {σ : zSt} {t : Nat} {p0 : Int32} {z : Int32} (h : f_M_isTopic σ t p0 = some z) : zMT l b ex D ca 2 y_M_isTopic c_M_isTopic n_M_isTopic r_ret_M_isTopic [.ref t, .int p0] σ (some (.int z)) σ 0 0 := by
  obtain ⟨_, hg0⟩ := zg_some h
  obtain ⟨z0, hbd, hz⟩ := zbd hg0
  obtain ⟨hzb, rfl⟩ := zbool_some hz
  have h := hbd
  refine zmt_of (by decide) (Nat.le_of_ble_eq_true rfl) ⟨.boolean, rfl, zb_nar hzb⟩ (fun X o hin hrm _ _ _ _ _ hr => ?_)
  have hr := hr 0 0 (by decide) (by decide)
  have o : zOK X "WantShelvesModel" c_M_isTopic n_M_isTopic 2 := o
  change zPJ X 0 0 0 [(0, .ref t), (1, .int p0)] [] σ
  refine zj_iload_n o (zdd k_M_isTopic 0 rfl) rfl 1 rfl ?_
  refine zj_iconst o (zdd k_M_isTopic 1 rfl) zki_0 ?_
  refine zj_aload_n o (zdd k_M_isTopic 2 rfl) rfl 0 rfl ?_
  obtain ⟨x1, e_x1, h⟩ := zbd h
  refine zj_gI o (zdd k_M_isTopic 3 rfl) fl_M_388 rfl e_x1 ?_
  refine zj_iconst o (zdd k_M_isTopic 4 rfl) zki_1 ?_
  refine zj_isub o (zdd k_M_isTopic 5 rfl) ?_
  obtain ⟨x2, e_x2, h⟩ := zbd h
  refine zc_S o (zdd k_M_isTopic 6 rfl) ml_M_425 ms_M_isIn (by decide) [.int p0, .int 0, .int (x1 - 1)] [] rfl (Nat.le_of_ble_eq_true rfl) rfl (m_M_isIn e_x2) ?_
  change zPJ X 0 0 _ _ [.int x2] _
  cases h
  exact zr_i o hr (zdd k_M_isTopic 7 rfl)
def f_M_isBook (σ : zSt) (t : Nat) (p0 : Int32) : Option (Int32) :=
zg σ 12 t (
((zgI σ 12 t 42).bind fun x1 =>
(f_M_isIn p0 0 (x1 - 1)).bind fun x2 =>
some x2).bind zbool)
set_option maxRecDepth 100000 in
set_option maxHeartbeats 4000000 in
theorem m_M_isBook {l : Launch} {b : Nat} {ex : Nat → Value} {D : va_G} {ca : Nat → ClassId} {σ : zSt} {t : Nat} {p0 : Int32} {z : Int32} (h : f_M_isBook σ t p0 = some z) : zMT l b ex D ca 2 y_M_isBook c_M_isBook n_M_isBook r_ret_M_isBook [.ref t, .int p0] σ (some (.int z)) σ 0 0 := by
  obtain ⟨_, hg0⟩ := zg_some h
  obtain ⟨z0, hbd, hz⟩ := zbd hg0
  obtain ⟨hzb, rfl⟩ := zbool_some hz
  have h := hbd
  refine zmt_of (by decide) (Nat.le_of_ble_eq_true rfl) ⟨.boolean, rfl, zb_nar hzb⟩ (fun X o hin hrm _ _ _ _ _ hr => ?_)
  have hr := hr 0 0 (by decide) (by decide)
  have o : zOK X "WantShelvesModel" c_M_isBook n_M_isBook 2 := o
  change zPJ X 0 0 0 [(0, .ref t), (1, .int p0)] [] σ
  refine zj_iload_n o (zdd k_M_isBook 0 rfl) rfl 1 rfl ?_
  refine zj_iconst o (zdd k_M_isBook 1 rfl) zki_0 ?_
  refine zj_aload_n o (zdd k_M_isBook 2 rfl) rfl 0 rfl ?_
  obtain ⟨x1, e_x1, h⟩ := zbd h
  refine zj_gI o (zdd k_M_isBook 3 rfl) fl_M_391 rfl e_x1 ?_
  refine zj_iconst o (zdd k_M_isBook 4 rfl) zki_1 ?_
  refine zj_isub o (zdd k_M_isBook 5 rfl) ?_
  obtain ⟨x2, e_x2, h⟩ := zbd h
  refine zc_S o (zdd k_M_isBook 6 rfl) ml_M_425 ms_M_isIn (by decide) [.int p0, .int 0, .int (x1 - 1)] [] rfl (Nat.le_of_ble_eq_true rfl) rfl (m_M_isIn e_x2) ?_
  change zPJ X 0 0 _ _ [.int x2] _
  cases h
  exact zr_i o hr (zdd k_M_isBook 7 rfl)
def f_M_isReader (σ : zSt) (t : Nat) (p0 : Int32) : Option (Int32) :=
zg σ 12 t (
((zgI σ 12 t 43).bind fun x1 =>
(f_M_isIn p0 0 (x1 - 1)).bind fun x2 =>
some x2).bind zbool)
set_option maxRecDepth 100000 in
set_option maxHeartbeats 4000000 in
theorem m_M_isReader {l : Launch} {b : Nat} {ex : Nat → Value} {D : va_G} {ca : Nat → ClassId} {σ : zSt} {t : Nat} {p0 : Int32} {z : Int32} (h : f_M_isReader σ t p0 = some z) : zMT l b ex D ca 2 y_M_isReader c_M_isReader n_M_isReader r_ret_M_isReader [.ref t, .int p0] σ (some (.int z)) σ 0 0 := by
  obtain ⟨_, hg0⟩ := zg_some h
  obtain ⟨z0, hbd, hz⟩ := zbd hg0
  obtain ⟨hzb, rfl⟩ := zbool_some hz
  have h := hbd
  refine zmt_of (by decide) (Nat.le_of_ble_eq_true rfl) ⟨.boolean, rfl, zb_nar hzb⟩ (fun X o hin hrm _ _ _ _ _ hr => ?_)
  have hr := hr 0 0 (by decide) (by decide)
  have o : zOK X "WantShelvesModel" c_M_isReader n_M_isReader 2 := o
  change zPJ X 0 0 0 [(0, .ref t), (1, .int p0)] [] σ
  refine zj_iload_n o (zdd k_M_isReader 0 rfl) rfl 1 rfl ?_
  refine zj_iconst o (zdd k_M_isReader 1 rfl) zki_0 ?_
  refine zj_aload_n o (zdd k_M_isReader 2 rfl) rfl 0 rfl ?_
  obtain ⟨x1, e_x1, h⟩ := zbd h
  refine zj_gI o (zdd k_M_isReader 3 rfl) fl_M_394 rfl e_x1 ?_
  refine zj_iconst o (zdd k_M_isReader 4 rfl) zki_1 ?_
  refine zj_isub o (zdd k_M_isReader 5 rfl) ?_
  obtain ⟨x2, e_x2, h⟩ := zbd h
  refine zc_S o (zdd k_M_isReader 6 rfl) ml_M_425 ms_M_isIn (by decide) [.int p0, .int 0, .int (x1 - 1)] [] rfl (Nat.le_of_ble_eq_true rfl) rfl (m_M_isIn e_x2) ?_
  change zPJ X 0 0 _ _ [.int x2] _
  cases h
  exact zr_i o hr (zdd k_M_isReader 7 rfl)
def f_M_isParty (σ : zSt) (t : Nat) (p0 : Int32) : Option (Int32) :=
zg σ 12 t (
((zgI σ 12 t 43).bind fun x1 =>
(f_M_isIn p0 0 ((1 <<< (x1 &&& 31)) - 1)).bind fun x2 =>
some x2).bind zbool)
set_option maxRecDepth 100000 in
set_option maxHeartbeats 4000000 in
theorem m_M_isParty {l : Launch} {b : Nat} {ex : Nat → Value} {D : va_G} {ca : Nat → ClassId} {σ : zSt} {t : Nat} {p0 : Int32} {z : Int32} (h : f_M_isParty σ t p0 = some z) : zMT l b ex D ca 2 y_M_isParty c_M_isParty n_M_isParty r_ret_M_isParty [.ref t, .int p0] σ (some (.int z)) σ 0 0 := by
  obtain ⟨_, hg0⟩ := zg_some h
  obtain ⟨z0, hbd, hz⟩ := zbd hg0
  obtain ⟨hzb, rfl⟩ := zbool_some hz
  have h := hbd
  refine zmt_of (by decide) (Nat.le_of_ble_eq_true rfl) ⟨.boolean, rfl, zb_nar hzb⟩ (fun X o hin hrm _ _ _ _ _ hr => ?_)
  have hr := hr 0 0 (by decide) (by decide)
  have o : zOK X "WantShelvesModel" c_M_isParty n_M_isParty 2 := o
  change zPJ X 0 0 0 [(0, .ref t), (1, .int p0)] [] σ
  refine zj_iload_n o (zdd k_M_isParty 0 rfl) rfl 1 rfl ?_
  refine zj_iconst o (zdd k_M_isParty 1 rfl) zki_0 ?_
  refine zj_iconst o (zdd k_M_isParty 2 rfl) zki_1 ?_
  refine zj_aload_n o (zdd k_M_isParty 3 rfl) rfl 0 rfl ?_
  obtain ⟨x1, e_x1, h⟩ := zbd h
  refine zj_gI o (zdd k_M_isParty 4 rfl) fl_M_394 rfl e_x1 ?_
  refine zj_ishl o (zdd k_M_isParty 5 rfl) ?_
  refine zj_iconst o (zdd k_M_isParty 6 rfl) zki_1 ?_
  refine zj_isub o (zdd k_M_isParty 7 rfl) ?_
  obtain ⟨x2, e_x2, h⟩ := zbd h
  refine zc_S o (zdd k_M_isParty 8 rfl) ml_M_425 ms_M_isIn (by decide) [.int p0, .int 0, .int ((1 <<< (x1 &&& 31)) - 1)] [] rfl (Nat.le_of_ble_eq_true rfl) rfl (m_M_isIn e_x2) ?_
  change zPJ X 0 0 _ _ [.int x2] _
  cases h
  exact zr_i o hr (zdd k_M_isParty 9 rfl)
def f_M_isOut (σ : zSt) (t : Nat) (p0 : Int32) : Option (Int32) :=
zg σ 12 t (
((zgP σ 12 t 49).bind fun a1 =>
(zaI σ 1 a1 31).bind fun x2 =>
if (x2 >>> (p0 &&& 31)) &&& 1 = 1 then (
some 1) else
some 0).bind zbool)
set_option maxRecDepth 100000 in
set_option maxHeartbeats 4000000 in
theorem m_M_isOut {l : Launch} {b : Nat} {ex : Nat → Value} {D : va_G} {ca : Nat → ClassId} {σ : zSt} {t : Nat} {p0 : Int32} {z : Int32} (h : f_M_isOut σ t p0 = some z) : zMT l b ex D ca 1 y_M_isOut c_M_isOut n_M_isOut r_ret_M_isOut [.ref t, .int p0] σ (some (.int z)) σ 0 0 := by
  obtain ⟨_, hg0⟩ := zg_some h
  obtain ⟨z0, hbd, hz⟩ := zbd hg0
  obtain ⟨hzb, rfl⟩ := zbool_some hz
  have h := hbd
  refine zmt_of (by decide) (Nat.le_of_ble_eq_true rfl) ⟨.boolean, rfl, zb_nar hzb⟩ (fun X o hin hrm _ _ _ _ _ hr => ?_)
  have hr := hr 0 0 (by decide) (by decide)
  have o : zOK X "WantShelvesModel" c_M_isOut n_M_isOut 1 := o
  change zPJ X 0 0 0 [(0, .ref t), (1, .int p0)] [] σ
  refine zj_aload_n o (zdd k_M_isOut 0 rfl) rfl 0 rfl ?_
  obtain ⟨a1, e_a1, h⟩ := zbd h
  refine zj_gP o (zdd k_M_isOut 1 rfl) fl_M_78 rfl e_a1 ?_
  refine zj_bipush o (zdd k_M_isOut 2 rfl) zkb_31 ?_
  obtain ⟨x2, e_x2, h⟩ := zbd h
  refine zj_iald o (zdd k_M_isOut 3 rfl) e_x2 ?_
  refine zj_iload_n o (zdd k_M_isOut 4 rfl) rfl 1 rfl ?_
  refine zj_ishr o (zdd k_M_isOut 5 rfl) ?_
  refine zj_iconst o (zdd k_M_isOut 6 rfl) zki_1 ?_
  refine zj_iand o (zdd k_M_isOut 7 rfl) ?_
  refine zj_iconst o (zdd k_M_isOut 8 rfl) zki_1 ?_
  refine zj_icmp_ne (tgt := 19) o (zdd k_M_isOut 9 rfl) (by decide) (fun hc => ?_) (fun hc => ?_)
  · rw [if_neg hc] at h
    refine zj_iconst o (zdd k_M_isOut 12 rfl) zki_0 ?_
    cases h
    exact zr_i o hr (zdd k_M_isOut 13 rfl)
  · rw [if_pos hc] at h
    refine zj_iconst o (zdd k_M_isOut 10 rfl) zki_1 ?_
    refine zj_goto (tgt := 20) o (zdd k_M_isOut 11 rfl) (by decide) ?_
    cases h
    exact zr_i o hr (zdd k_M_isOut 13 rfl)
def f_M_readsOf (σ : zSt) (t : Nat) (p0 : Int32) (p1 : Int32) : Option (Int32) :=
zg σ 12 t (
(zgP σ 12 t 49).bind fun a1 =>
(zaI σ 1 a1 ((32 + (10 * p0)) + p1)).bind fun x2 =>
some x2)
set_option maxRecDepth 100000 in
set_option maxHeartbeats 4000000 in
theorem m_M_readsOf {l : Launch} {b : Nat} {ex : Nat → Value} {D : va_G} {ca : Nat → ClassId} {σ : zSt} {t : Nat} {p0 : Int32} {p1 : Int32} {z : Int32} (h : f_M_readsOf σ t p0 p1 = some z) : zMT l b ex D ca 1 y_M_readsOf c_M_readsOf n_M_readsOf r_ret_M_readsOf [.ref t, .int p0, .int p1] σ (some (.int z)) σ 0 0 := by
  obtain ⟨_, hg0⟩ := zg_some h
  have h := hg0
  refine zmt_of (by decide) (Nat.le_of_ble_eq_true rfl) ⟨.int, rfl, rfl⟩ (fun X o hin hrm _ _ _ _ _ hr => ?_)
  have hr := hr 0 0 (by decide) (by decide)
  have o : zOK X "WantShelvesModel" c_M_readsOf n_M_readsOf 1 := o
  change zPJ X 0 0 0 [(0, .ref t), (1, .int p0), (2, .int p1)] [] σ
  refine zj_aload_n o (zdd k_M_readsOf 0 rfl) rfl 0 rfl ?_
  obtain ⟨a1, e_a1, h⟩ := zbd h
  refine zj_gP o (zdd k_M_readsOf 1 rfl) fl_M_78 rfl e_a1 ?_
  refine zj_bipush o (zdd k_M_readsOf 2 rfl) zkb_32 ?_
  refine zj_bipush o (zdd k_M_readsOf 3 rfl) zkb_10 ?_
  refine zj_iload_n o (zdd k_M_readsOf 4 rfl) rfl 1 rfl ?_
  refine zj_imul o (zdd k_M_readsOf 5 rfl) ?_
  refine zj_iadd o (zdd k_M_readsOf 6 rfl) ?_
  refine zj_iload_n o (zdd k_M_readsOf 7 rfl) rfl 2 rfl ?_
  refine zj_iadd o (zdd k_M_readsOf 8 rfl) ?_
  obtain ⟨x2, e_x2, h⟩ := zbd h
  refine zj_iald o (zdd k_M_readsOf 9 rfl) e_x2 ?_
  cases h
  exact zr_i o hr (zdd k_M_readsOf 10 rfl)
def f_M_readsAll_4 (k4 : zSt → Nat → Int32 → Int32 → Int32 → Option (Int32)) (σ : zSt) (v0 : Nat) (v1 : Int32) (v2 : Int32) (v3 : Int32) : Option (Int32) :=
if 10 ≤ v3 then (
some v2) else
(f_M_readsOf σ v0 v1 v3).bind fun x1 =>
k4 σ v0 v1 (v2 + x1) (v3 + 1)
set_option maxRecDepth 100000 in
set_option maxHeartbeats 4000000 in
theorem r_M_readsAll_4 {X : zCX} (o : zOK X "WantShelvesModel" c_M_readsAll n_M_readsAll 2) {k4 : zSt → Nat → Int32 → Int32 → Int32 → Option (Int32)} (hk4 : ∀ {σ : zSt} {v0 : Nat} {v1 : Int32} {v2 : Int32} {v3 : Int32} {z : Int32}, k4 σ v0 v1 v2 v3 = some z → zRX X 0 0 (some (.int z)) σ → zPJ X 0 0 4 [(0, .ref v0), (1, .int v1), (2, .int v2), (3, .int v3)] [] σ) {σ : zSt} {v0 : Nat} {v1 : Int32} {v2 : Int32} {v3 : Int32} {z : Int32} (h : f_M_readsAll_4 k4 σ v0 v1 v2 v3 = some z) (hr : zRX X 0 0 (some (.int z)) σ) : zPJ X 0 0 4 [(0, .ref v0), (1, .int v1), (2, .int v2), (3, .int v3)] [] σ := by
  unfold f_M_readsAll_4 at h
  refine zj_iload_n o (zdd k_M_readsAll 4 rfl) rfl 3 rfl ?_
  refine zj_bipush o (zdd k_M_readsAll 5 rfl) zkb_10 ?_
  refine zj_icmp_ge (tgt := 25) o (zdd k_M_readsAll 6 rfl) (by decide) (fun hc => ?_) (fun hc => ?_)
  · rw [if_pos hc] at h
    refine zj_iload_n o (zdd k_M_readsAll 16 rfl) rfl 2 rfl ?_
    cases h
    exact zr_i o hr (zdd k_M_readsAll 17 rfl)
  · rw [if_neg hc] at h
    refine zj_iload_n o (zdd k_M_readsAll 7 rfl) rfl 2 rfl ?_
    refine zj_aload_n o (zdd k_M_readsAll 8 rfl) rfl 0 rfl ?_
    refine zj_iload_n o (zdd k_M_readsAll 9 rfl) rfl 1 rfl ?_
    refine zj_iload_n o (zdd k_M_readsAll 10 rfl) rfl 3 rfl ?_
    obtain ⟨x1, e_x1, h⟩ := zbd h
    refine zc_V o (zdd k_M_readsAll 11 rfl) ml_M_429 mv_M_readsOf ⟨rfl, by decide⟩ (zg_some e_x1).1 (by decide) [.int v1, .int v3] [.int v2] rfl (Nat.le_of_ble_eq_true rfl) rfl (m_M_readsOf e_x1) ?_
    change zPJ X 0 0 _ _ [.int x1, .int v2] _
    refine zj_iadd o (zdd k_M_readsAll 12 rfl) ?_
    refine zj_istore_n (loc' := [(2, .int (v2 + x1)), (0, .ref v0), (1, .int v1), (3, .int v3)]) o (zdd k_M_readsAll 13 rfl) rfl (by decide) rfl ?_
    refine zj_iinc (v := v3 + 1) (loc' := [(3, .int (v3 + 1)), (2, .int (v2 + x1)), (0, .ref v0), (1, .int v1)]) o (zdd k_M_readsAll 14 rfl) 3 rfl (by rw [zki_1]) (by decide) rfl ?_
    refine zj_goto (tgt := 4) o (zdd k_M_readsAll 15 rfl) (by decide) ?_
    exact zj_sub [2, 3, 1, 0] rfl (hk4 h hr)
def f_M_readsAll_4L : Nat → zSt → Nat → Int32 → Int32 → Int32 → Option (Int32)
  | 0 => fun _ _ _ _ _ => none
  | n + 1 => f_M_readsAll_4  (f_M_readsAll_4L  n)
theorem r_M_readsAll_4L {X : zCX} (o : zOK X "WantShelvesModel" c_M_readsAll n_M_readsAll 2) : ∀ (n : Nat) {σ : zSt} {v0 : Nat} {v1 : Int32} {v2 : Int32} {v3 : Int32} {z : Int32}, f_M_readsAll_4L n σ v0 v1 v2 v3 = some z → zRX X 0 0 (some (.int z)) σ → zPJ X 0 0 4 [(0, .ref v0), (1, .int v1), (2, .int v2), (3, .int v3)] [] σ
  | 0 => fun h _ => by cases h
  | n + 1 => fun h hr => r_M_readsAll_4 o (r_M_readsAll_4L o  n) h hr
def f_M_readsAll (σ : zSt) (t : Nat) (p0 : Int32) : Option (Int32) :=
zg σ 12 t (
f_M_readsAll_4L zfu σ t p0 0 0)
set_option maxRecDepth 100000 in
set_option maxHeartbeats 4000000 in
theorem m_M_readsAll {l : Launch} {b : Nat} {ex : Nat → Value} {D : va_G} {ca : Nat → ClassId} {σ : zSt} {t : Nat} {p0 : Int32} {z : Int32} (h : f_M_readsAll σ t p0 = some z) : zMT l b ex D ca 2 y_M_readsAll c_M_readsAll n_M_readsAll r_ret_M_readsAll [.ref t, .int p0] σ (some (.int z)) σ 0 0 := by
  obtain ⟨_, hg0⟩ := zg_some h
  have h := hg0
  refine zmt_of (by decide) (Nat.le_of_ble_eq_true rfl) ⟨.int, rfl, rfl⟩ (fun X o hin hrm _ _ _ _ _ hr => ?_)
  have hr := hr 0 0 (by decide) (by decide)
  have o : zOK X "WantShelvesModel" c_M_readsAll n_M_readsAll 2 := o
  change zPJ X 0 0 0 [(0, .ref t), (1, .int p0)] [] σ
  refine zj_iconst o (zdd k_M_readsAll 0 rfl) zki_0 ?_
  refine zj_istore_n (loc' := [(2, .int 0), (0, .ref t), (1, .int p0)]) o (zdd k_M_readsAll 1 rfl) rfl (by decide) rfl ?_
  refine zj_iconst o (zdd k_M_readsAll 2 rfl) zki_0 ?_
  refine zj_istore_n (loc' := [(3, .int 0), (2, .int 0), (0, .ref t), (1, .int p0)]) o (zdd k_M_readsAll 3 rfl) rfl (by decide) rfl ?_
  exact zj_sub [2, 3, 1, 0] rfl (r_M_readsAll_4L o  zfu h hr)
def f_M_readsEver_4 (k4 : zSt → Nat → Int32 → Int32 → Option (Int32)) (σ : zSt) (v0 : Nat) (v1 : Int32) (v2 : Int32) : Option (Int32) :=
if 6 ≤ v2 then (
some v1) else
(f_M_readsAll σ v0 v2).bind fun x1 =>
k4 σ v0 (v1 + x1) (v2 + 1)
set_option maxRecDepth 100000 in
set_option maxHeartbeats 4000000 in
theorem r_M_readsEver_4 {X : zCX} (o : zOK X "WantShelvesModel" c_M_readsEver n_M_readsEver 3) {k4 : zSt → Nat → Int32 → Int32 → Option (Int32)} (hk4 : ∀ {σ : zSt} {v0 : Nat} {v1 : Int32} {v2 : Int32} {z : Int32}, k4 σ v0 v1 v2 = some z → zRX X 0 0 (some (.int z)) σ → zPJ X 0 0 4 [(0, .ref v0), (1, .int v1), (2, .int v2)] [] σ) {σ : zSt} {v0 : Nat} {v1 : Int32} {v2 : Int32} {z : Int32} (h : f_M_readsEver_4 k4 σ v0 v1 v2 = some z) (hr : zRX X 0 0 (some (.int z)) σ) : zPJ X 0 0 4 [(0, .ref v0), (1, .int v1), (2, .int v2)] [] σ := by
  unfold f_M_readsEver_4 at h
  refine zj_iload_n o (zdd k_M_readsEver 4 rfl) rfl 2 rfl ?_
  refine zj_bipush o (zdd k_M_readsEver 5 rfl) zkb_6 ?_
  refine zj_icmp_ge (tgt := 24) o (zdd k_M_readsEver 6 rfl) (by decide) (fun hc => ?_) (fun hc => ?_)
  · rw [if_pos hc] at h
    refine zj_iload_n o (zdd k_M_readsEver 15 rfl) rfl 1 rfl ?_
    cases h
    exact zr_i o hr (zdd k_M_readsEver 16 rfl)
  · rw [if_neg hc] at h
    refine zj_iload_n o (zdd k_M_readsEver 7 rfl) rfl 1 rfl ?_
    refine zj_aload_n o (zdd k_M_readsEver 8 rfl) rfl 0 rfl ?_
    refine zj_iload_n o (zdd k_M_readsEver 9 rfl) rfl 2 rfl ?_
    obtain ⟨x1, e_x1, h⟩ := zbd h
    refine zc_V o (zdd k_M_readsEver 10 rfl) ml_M_432 mv_M_readsAll ⟨rfl, by decide⟩ (zg_some e_x1).1 (by decide) [.int v2] [.int v1] rfl (Nat.le_of_ble_eq_true rfl) rfl (m_M_readsAll e_x1) ?_
    change zPJ X 0 0 _ _ [.int x1, .int v1] _
    refine zj_iadd o (zdd k_M_readsEver 11 rfl) ?_
    refine zj_istore_n (loc' := [(1, .int (v1 + x1)), (0, .ref v0), (2, .int v2)]) o (zdd k_M_readsEver 12 rfl) rfl (by decide) rfl ?_
    refine zj_iinc (v := v2 + 1) (loc' := [(2, .int (v2 + 1)), (1, .int (v1 + x1)), (0, .ref v0)]) o (zdd k_M_readsEver 13 rfl) 2 rfl (by rw [zki_1]) (by decide) rfl ?_
    refine zj_goto (tgt := 4) o (zdd k_M_readsEver 14 rfl) (by decide) ?_
    exact zj_sub [2, 1, 0] rfl (hk4 h hr)
def f_M_readsEver_4L : Nat → zSt → Nat → Int32 → Int32 → Option (Int32)
  | 0 => fun _ _ _ _ => none
  | n + 1 => f_M_readsEver_4  (f_M_readsEver_4L  n)
theorem r_M_readsEver_4L {X : zCX} (o : zOK X "WantShelvesModel" c_M_readsEver n_M_readsEver 3) : ∀ (n : Nat) {σ : zSt} {v0 : Nat} {v1 : Int32} {v2 : Int32} {z : Int32}, f_M_readsEver_4L n σ v0 v1 v2 = some z → zRX X 0 0 (some (.int z)) σ → zPJ X 0 0 4 [(0, .ref v0), (1, .int v1), (2, .int v2)] [] σ
  | 0 => fun h _ => by cases h
  | n + 1 => fun h hr => r_M_readsEver_4 o (r_M_readsEver_4L o  n) h hr
def f_M_readsEver (σ : zSt) (t : Nat) : Option (Int32) :=
zg σ 12 t (
f_M_readsEver_4L zfu σ t 0 0)
set_option maxRecDepth 100000 in
set_option maxHeartbeats 4000000 in
theorem m_M_readsEver {l : Launch} {b : Nat} {ex : Nat → Value} {D : va_G} {ca : Nat → ClassId} {σ : zSt} {t : Nat} {z : Int32} (h : f_M_readsEver σ t = some z) : zMT l b ex D ca 3 y_M_readsEver c_M_readsEver n_M_readsEver r_ret_M_readsEver [.ref t] σ (some (.int z)) σ 0 0 := by
  obtain ⟨_, hg0⟩ := zg_some h
  have h := hg0
  refine zmt_of (by decide) (Nat.le_of_ble_eq_true rfl) ⟨.int, rfl, rfl⟩ (fun X o hin hrm _ _ _ _ _ hr => ?_)
  have hr := hr 0 0 (by decide) (by decide)
  have o : zOK X "WantShelvesModel" c_M_readsEver n_M_readsEver 3 := o
  change zPJ X 0 0 0 [(0, .ref t)] [] σ
  refine zj_iconst o (zdd k_M_readsEver 0 rfl) zki_0 ?_
  refine zj_istore_n (loc' := [(1, .int 0), (0, .ref t)]) o (zdd k_M_readsEver 1 rfl) rfl (by decide) rfl ?_
  refine zj_iconst o (zdd k_M_readsEver 2 rfl) zki_0 ?_
  refine zj_istore_n (loc' := [(2, .int 0), (1, .int 0), (0, .ref t)]) o (zdd k_M_readsEver 3 rfl) rfl (by decide) rfl ?_
  exact zj_sub [2, 1, 0] rfl (r_M_readsEver_4L o  zfu h hr)
def f_M_weight (σ : zSt) (t : Nat) (p0 : Int32) (p1 : Int32) : Option (Int32) :=
zg σ 12 t (
(f_M_isBook σ t p0).bind fun x1 =>
if x1 = 0 then (
some (-1)) else
(f_M_isTopic σ t p1).bind fun x2 =>
if x2 = 0 then (
some (-1)) else
(zgP σ 12 t 30).bind fun a3 =>
(zaI σ 1 a3 ((4 * p0) + p1)).bind fun x4 =>
some x4)
set_option maxRecDepth 100000 in
set_option maxHeartbeats 4000000 in
theorem m_M_weight {l : Launch} {b : Nat} {ex : Nat → Value} {D : va_G} {ca : Nat → ClassId} {σ : zSt} {t : Nat} {p0 : Int32} {p1 : Int32} {z : Int32} (h : f_M_weight σ t p0 p1 = some z) : zMT l b ex D ca 3 y_M_weight c_M_weight n_M_weight r_ret_M_weight [.ref t, .int p0, .int p1] σ (some (.int z)) σ 0 0 := by
  obtain ⟨_, hg0⟩ := zg_some h
  have h := hg0
  refine zmt_of (by decide) (Nat.le_of_ble_eq_true rfl) ⟨.int, rfl, rfl⟩ (fun X o hin hrm _ _ _ _ _ hr => ?_)
  have hr := hr 0 0 (by decide) (by decide)
  have o : zOK X "WantShelvesModel" c_M_weight n_M_weight 3 := o
  change zPJ X 0 0 0 [(0, .ref t), (1, .int p0), (2, .int p1)] [] σ
  refine zj_aload_n o (zdd k_M_weight 0 rfl) rfl 0 rfl ?_
  refine zj_iload_n o (zdd k_M_weight 1 rfl) rfl 1 rfl ?_
  obtain ⟨x1, e_x1, h⟩ := zbd h
  refine zc_V o (zdd k_M_weight 2 rfl) ml_M_435 mv_M_isBook ⟨rfl, by decide⟩ (zg_some e_x1).1 (by decide) [.int p0] [] rfl (Nat.le_of_ble_eq_true rfl) rfl (m_M_isBook e_x1) ?_
  change zPJ X 0 0 _ _ [.int x1] _
  refine zj_if_eq (tgt := 29) o (zdd k_M_weight 3 rfl) (by decide) (fun hc => ?_) (fun hc => ?_)
  · rw [if_pos hc] at h
    refine zj_iconst o (zdd k_M_weight 17 rfl) zki_m1 ?_
    cases h
    exact zr_i o hr (zdd k_M_weight 18 rfl)
  · rw [if_neg hc] at h
    refine zj_aload_n o (zdd k_M_weight 4 rfl) rfl 0 rfl ?_
    refine zj_iload_n o (zdd k_M_weight 5 rfl) rfl 2 rfl ?_
    obtain ⟨x2, e_x2, h⟩ := zbd h
    refine zc_V o (zdd k_M_weight 6 rfl) ml_M_438 mv_M_isTopic ⟨rfl, by decide⟩ (zg_some e_x2).1 (by decide) [.int p1] [] rfl (Nat.le_of_ble_eq_true rfl) rfl (m_M_isTopic e_x2) ?_
    change zPJ X 0 0 _ _ [.int x2] _
    refine zj_if_eq (tgt := 29) o (zdd k_M_weight 7 rfl) (by decide) (fun hc => ?_) (fun hc => ?_)
    · rw [if_pos hc] at h
      refine zj_iconst o (zdd k_M_weight 17 rfl) zki_m1 ?_
      cases h
      exact zr_i o hr (zdd k_M_weight 18 rfl)
    · rw [if_neg hc] at h
      refine zj_aload_n o (zdd k_M_weight 8 rfl) rfl 0 rfl ?_
      obtain ⟨a3, e_a3, h⟩ := zbd h
      refine zj_gP o (zdd k_M_weight 9 rfl) fl_M_60 rfl e_a3 ?_
      refine zj_iconst o (zdd k_M_weight 10 rfl) zki_4 ?_
      refine zj_iload_n o (zdd k_M_weight 11 rfl) rfl 1 rfl ?_
      refine zj_imul o (zdd k_M_weight 12 rfl) ?_
      refine zj_iload_n o (zdd k_M_weight 13 rfl) rfl 2 rfl ?_
      refine zj_iadd o (zdd k_M_weight 14 rfl) ?_
      obtain ⟨x4, e_x4, h⟩ := zbd h
      refine zj_iald o (zdd k_M_weight 15 rfl) e_x4 ?_
      refine zj_goto (tgt := 30) o (zdd k_M_weight 16 rfl) (by decide) ?_
      cases h
      exact zr_i o hr (zdd k_M_weight 18 rfl)
def f_M_wants (σ : zSt) (t : Nat) (p0 : Int32) (p1 : Int32) : Option (Int32) :=
zg σ 12 t (
(f_M_isReader σ t p0).bind fun x1 =>
if x1 = 0 then (
some (-1000000)) else
(f_M_isTopic σ t p1).bind fun x2 =>
if x2 = 0 then (
some (-1000000)) else
(zgP σ 12 t 49).bind fun a3 =>
(zaI σ 1 a3 ((4 * p0) + p1)).bind fun x4 =>
some x4)
set_option maxRecDepth 100000 in
set_option maxHeartbeats 4000000 in
theorem m_M_wants {l : Launch} {b : Nat} {ex : Nat → Value} {D : va_G} {ca : Nat → ClassId} {σ : zSt} {t : Nat} {p0 : Int32} {p1 : Int32} {z : Int32} (h : f_M_wants σ t p0 p1 = some z) : zMT l b ex D ca 3 y_M_wants c_M_wants n_M_wants r_ret_M_wants [.ref t, .int p0, .int p1] σ (some (.int z)) σ 0 0 := by
  obtain ⟨_, hg0⟩ := zg_some h
  have h := hg0
  refine zmt_of (by decide) (Nat.le_of_ble_eq_true rfl) ⟨.int, rfl, rfl⟩ (fun X o hin hrm _ _ _ _ _ hr => ?_)
  have hr := hr 0 0 (by decide) (by decide)
  have o : zOK X "WantShelvesModel" c_M_wants n_M_wants 3 := o
  change zPJ X 0 0 0 [(0, .ref t), (1, .int p0), (2, .int p1)] [] σ
  refine zj_aload_n o (zdd k_M_wants 0 rfl) rfl 0 rfl ?_
  refine zj_iload_n o (zdd k_M_wants 1 rfl) rfl 1 rfl ?_
  obtain ⟨x1, e_x1, h⟩ := zbd h
  refine zc_V o (zdd k_M_wants 2 rfl) ml_M_441 mv_M_isReader ⟨rfl, by decide⟩ (zg_some e_x1).1 (by decide) [.int p0] [] rfl (Nat.le_of_ble_eq_true rfl) rfl (m_M_isReader e_x1) ?_
  change zPJ X 0 0 _ _ [.int x1] _
  refine zj_if_eq (tgt := 29) o (zdd k_M_wants 3 rfl) (by decide) (fun hc => ?_) (fun hc => ?_)
  · rw [if_pos hc] at h
    refine zj_ldcw o (zdd k_M_wants 17 rfl) co_M_444 ?_
    cases h
    exact zr_i o hr (zdd k_M_wants 18 rfl)
  · rw [if_neg hc] at h
    refine zj_aload_n o (zdd k_M_wants 4 rfl) rfl 0 rfl ?_
    refine zj_iload_n o (zdd k_M_wants 5 rfl) rfl 2 rfl ?_
    obtain ⟨x2, e_x2, h⟩ := zbd h
    refine zc_V o (zdd k_M_wants 6 rfl) ml_M_438 mv_M_isTopic ⟨rfl, by decide⟩ (zg_some e_x2).1 (by decide) [.int p1] [] rfl (Nat.le_of_ble_eq_true rfl) rfl (m_M_isTopic e_x2) ?_
    change zPJ X 0 0 _ _ [.int x2] _
    refine zj_if_eq (tgt := 29) o (zdd k_M_wants 7 rfl) (by decide) (fun hc => ?_) (fun hc => ?_)
    · rw [if_pos hc] at h
      refine zj_ldcw o (zdd k_M_wants 17 rfl) co_M_444 ?_
      cases h
      exact zr_i o hr (zdd k_M_wants 18 rfl)
    · rw [if_neg hc] at h
      refine zj_aload_n o (zdd k_M_wants 8 rfl) rfl 0 rfl ?_
      obtain ⟨a3, e_a3, h⟩ := zbd h
      refine zj_gP o (zdd k_M_wants 9 rfl) fl_M_78 rfl e_a3 ?_
      refine zj_iconst o (zdd k_M_wants 10 rfl) zki_4 ?_
      refine zj_iload_n o (zdd k_M_wants 11 rfl) rfl 1 rfl ?_
      refine zj_imul o (zdd k_M_wants 12 rfl) ?_
      refine zj_iload_n o (zdd k_M_wants 13 rfl) rfl 2 rfl ?_
      refine zj_iadd o (zdd k_M_wants 14 rfl) ?_
      obtain ⟨x4, e_x4, h⟩ := zbd h
      refine zj_iald o (zdd k_M_wants 15 rfl) e_x4 ?_
      refine zj_goto (tgt := 32) o (zdd k_M_wants 16 rfl) (by decide) ?_
      cases h
      exact zr_i o hr (zdd k_M_wants 18 rfl)
def f_M_reader (σ : zSt) (t : Nat) (p0 : Int32) (p1 : Int32) : Option (Int32) :=
zg σ 12 t (
(f_M_isReader σ t p0).bind fun x1 =>
if x1 = 0 then (
some (-2)) else
if p1 = 0 then (
(zgP σ 12 t 33).bind fun a2 =>
(zaI σ 1 a2 p0).bind fun x3 =>
some x3) else
if p1 = 1 then (
(zgP σ 12 t 49).bind fun a4 =>
(zaI σ 1 a4 (24 + p0)).bind fun x5 =>
some x5) else
if p1 = 2 then (
(zgP σ 12 t 49).bind fun a6 =>
(zaI σ 1 a6 30).bind fun x7 =>
some ((x7 >>> (p0 &&& 31)) &&& 1)) else
if p1 = 3 then (
(f_M_readsAll σ t p0).bind fun x8 =>
some x8) else
some (-2))
set_option maxRecDepth 100000 in
set_option maxHeartbeats 4000000 in
theorem m_M_reader {l : Launch} {b : Nat} {ex : Nat → Value} {D : va_G} {ca : Nat → ClassId} {σ : zSt} {t : Nat} {p0 : Int32} {p1 : Int32} {z : Int32} (h : f_M_reader σ t p0 p1 = some z) : zMT l b ex D ca 3 y_M_reader c_M_reader n_M_reader r_ret_M_reader [.ref t, .int p0, .int p1] σ (some (.int z)) σ 0 0 := by
  obtain ⟨_, hg0⟩ := zg_some h
  have h := hg0
  refine zmt_of (by decide) (Nat.le_of_ble_eq_true rfl) ⟨.int, rfl, rfl⟩ (fun X o hin hrm _ _ _ _ _ hr => ?_)
  have hr := hr 0 0 (by decide) (by decide)
  have o : zOK X "WantShelvesModel" c_M_reader n_M_reader 3 := o
  change zPJ X 0 0 0 [(0, .ref t), (1, .int p0), (2, .int p1)] [] σ
  refine zj_aload_n o (zdd k_M_reader 0 rfl) rfl 0 rfl ?_
  refine zj_iload_n o (zdd k_M_reader 1 rfl) rfl 1 rfl ?_
  obtain ⟨x1, e_x1, h⟩ := zbd h
  refine zc_V o (zdd k_M_reader 2 rfl) ml_M_441 mv_M_isReader ⟨rfl, by decide⟩ (zg_some e_x1).1 (by decide) [.int p0] [] rfl (Nat.le_of_ble_eq_true rfl) rfl (m_M_isReader e_x1) ?_
  change zPJ X 0 0 _ _ [.int x1] _
  refine zj_if_ne (tgt := 11) o (zdd k_M_reader 3 rfl) (by decide) (fun hc => ?_) (fun hc => ?_)
  · rw [if_neg hc] at h
    refine zj_iload_n o (zdd k_M_reader 6 rfl) rfl 2 rfl ?_
    refine zj_tableC (dt := 79) o [44, 51, 61, 73] (zdd k_M_reader 7 rfl) (by decide) (by decide) (by decide) (by decide) (by decide) [(0, 44), (1, 51), (2, 61), (3, 73)] (by decide) ?_
    by_cases hc : p1 = 0
    · rw [if_pos hc] at h
      rw [zcase_pos hc]
      refine zj_aload_n o (zdd k_M_reader 8 rfl) rfl 0 rfl ?_
      obtain ⟨a2, e_a2, h⟩ := zbd h
      refine zj_gP o (zdd k_M_reader 9 rfl) fl_M_69 rfl e_a2 ?_
      refine zj_iload_n o (zdd k_M_reader 10 rfl) rfl 1 rfl ?_
      obtain ⟨x3, e_x3, h⟩ := zbd h
      refine zj_iald o (zdd k_M_reader 11 rfl) e_x3 ?_
      cases h
      exact zr_i o hr (zdd k_M_reader 12 rfl)
    · rw [if_neg hc] at h
      rw [zcase_neg hc]
      by_cases hc : p1 = 1
      · rw [if_pos hc] at h
        rw [zcase_pos hc]
        refine zj_aload_n o (zdd k_M_reader 13 rfl) rfl 0 rfl ?_
        obtain ⟨a4, e_a4, h⟩ := zbd h
        refine zj_gP o (zdd k_M_reader 14 rfl) fl_M_78 rfl e_a4 ?_
        refine zj_bipush o (zdd k_M_reader 15 rfl) zkb_24 ?_
        refine zj_iload_n o (zdd k_M_reader 16 rfl) rfl 1 rfl ?_
        refine zj_iadd o (zdd k_M_reader 17 rfl) ?_
        obtain ⟨x5, e_x5, h⟩ := zbd h
        refine zj_iald o (zdd k_M_reader 18 rfl) e_x5 ?_
        cases h
        exact zr_i o hr (zdd k_M_reader 19 rfl)
      · rw [if_neg hc] at h
        rw [zcase_neg hc]
        by_cases hc : p1 = 2
        · rw [if_pos hc] at h
          rw [zcase_pos hc]
          refine zj_aload_n o (zdd k_M_reader 20 rfl) rfl 0 rfl ?_
          obtain ⟨a6, e_a6, h⟩ := zbd h
          refine zj_gP o (zdd k_M_reader 21 rfl) fl_M_78 rfl e_a6 ?_
          refine zj_bipush o (zdd k_M_reader 22 rfl) zkb_30 ?_
          obtain ⟨x7, e_x7, h⟩ := zbd h
          refine zj_iald o (zdd k_M_reader 23 rfl) e_x7 ?_
          refine zj_iload_n o (zdd k_M_reader 24 rfl) rfl 1 rfl ?_
          refine zj_ishr o (zdd k_M_reader 25 rfl) ?_
          refine zj_iconst o (zdd k_M_reader 26 rfl) zki_1 ?_
          refine zj_iand o (zdd k_M_reader 27 rfl) ?_
          cases h
          exact zr_i o hr (zdd k_M_reader 28 rfl)
        · rw [if_neg hc] at h
          rw [zcase_neg hc]
          by_cases hc : p1 = 3
          · rw [if_pos hc] at h
            rw [zcase_pos hc]
            refine zj_aload_n o (zdd k_M_reader 29 rfl) rfl 0 rfl ?_
            refine zj_iload_n o (zdd k_M_reader 30 rfl) rfl 1 rfl ?_
            obtain ⟨x8, e_x8, h⟩ := zbd h
            refine zc_V o (zdd k_M_reader 31 rfl) ml_M_432 mv_M_readsAll ⟨rfl, by decide⟩ (zg_some e_x8).1 (by decide) [.int p0] [] rfl (Nat.le_of_ble_eq_true rfl) rfl (m_M_readsAll e_x8) ?_
            change zPJ X 0 0 _ _ [.int x8] _
            cases h
            exact zr_i o hr (zdd k_M_reader 32 rfl)
          · rw [if_neg hc] at h
            rw [zcase_neg hc]
            change zPJ X 0 0 79 _ _ _
            refine zj_bipush o (zdd k_M_reader 33 rfl) zkb_m2 ?_
            cases h
            exact zr_i o hr (zdd k_M_reader 34 rfl)
  · rw [if_pos hc] at h
    refine zj_bipush o (zdd k_M_reader 4 rfl) zkb_m2 ?_
    cases h
    exact zr_i o hr (zdd k_M_reader 5 rfl)
def f_M_layHand_2 (k2 : zSt → Nat → Int32 → Int32 → Int32 → Option (zSt)) (σ : zSt) (v0 : Nat) (v1 : Int32) (v2 : Int32) (v3 : Int32) : Option (zSt) :=
if 4 ≤ v3 then (
some σ) else
(zgP σ 12 v0 50).bind fun a1 =>
(zgP σ 12 v0 49).bind fun a2 =>
(zaI σ 1 a2 ((4 * v1) + v3)).bind fun x3 =>
if v3 = v2 then (
(zgI σ 12 v0 46).bind fun x5 =>
(zwI σ 1 a1 v3 (x3 + x5)).bind fun σ6 =>
k2 σ6 v0 v1 v2 (v3 + 1)) else
(zwI σ 1 a1 v3 (x3 + 0)).bind fun σ4 =>
k2 σ4 v0 v1 v2 (v3 + 1)
set_option maxRecDepth 100000 in
set_option maxHeartbeats 4000000 in
theorem r_M_layHand_2 {X : zCX} (o : zOK X "WantShelvesModel" c_M_layHand n_M_layHand 1) {k2 : zSt → Nat → Int32 → Int32 → Int32 → Option (zSt)} (hk2 : ∀ {σ : zSt} {v0 : Nat} {v1 : Int32} {v2 : Int32} {v3 : Int32} {z : zSt}, k2 σ v0 v1 v2 v3 = some z → zRX X 0 0 none z → zPJ X 0 0 2 [(0, .ref v0), (1, .int v1), (2, .int v2), (3, .int v3)] [] σ) {σ : zSt} {v0 : Nat} {v1 : Int32} {v2 : Int32} {v3 : Int32} {z : zSt} (h : f_M_layHand_2 k2 σ v0 v1 v2 v3 = some z) (hr : zRX X 0 0 none z) : zPJ X 0 0 2 [(0, .ref v0), (1, .int v1), (2, .int v2), (3, .int v3)] [] σ := by
  unfold f_M_layHand_2 at h
  refine zj_iload_n o (zdd k_M_layHand 2 rfl) rfl 3 rfl ?_
  refine zj_iconst o (zdd k_M_layHand 3 rfl) zki_4 ?_
  refine zj_icmp_ge (tgt := 43) o (zdd k_M_layHand 4 rfl) (by decide) (fun hc => ?_) (fun hc => ?_)
  · rw [if_pos hc] at h
    cases h
    exact zr_v o hr (zdd k_M_layHand 27 rfl)
  · rw [if_neg hc] at h
    refine zj_aload_n o (zdd k_M_layHand 5 rfl) rfl 0 rfl ?_
    obtain ⟨a1, e_a1, h⟩ := zbd h
    refine zj_gP o (zdd k_M_layHand 6 rfl) fl_M_81 rfl e_a1 ?_
    refine zj_iload_n o (zdd k_M_layHand 7 rfl) rfl 3 rfl ?_
    refine zj_aload_n o (zdd k_M_layHand 8 rfl) rfl 0 rfl ?_
    obtain ⟨a2, e_a2, h⟩ := zbd h
    refine zj_gP o (zdd k_M_layHand 9 rfl) fl_M_78 rfl e_a2 ?_
    refine zj_iconst o (zdd k_M_layHand 10 rfl) zki_4 ?_
    refine zj_iload_n o (zdd k_M_layHand 11 rfl) rfl 1 rfl ?_
    refine zj_imul o (zdd k_M_layHand 12 rfl) ?_
    refine zj_iload_n o (zdd k_M_layHand 13 rfl) rfl 3 rfl ?_
    refine zj_iadd o (zdd k_M_layHand 14 rfl) ?_
    obtain ⟨x3, e_x3, h⟩ := zbd h
    refine zj_iald o (zdd k_M_layHand 15 rfl) e_x3 ?_
    refine zj_iload_n o (zdd k_M_layHand 16 rfl) rfl 3 rfl ?_
    refine zj_iload_n o (zdd k_M_layHand 17 rfl) rfl 2 rfl ?_
    refine zj_icmp_ne (tgt := 34) o (zdd k_M_layHand 18 rfl) (by decide) (fun hc => ?_) (fun hc => ?_)
    · rw [if_neg hc] at h
      refine zj_iconst o (zdd k_M_layHand 22 rfl) zki_0 ?_
      refine zj_iadd o (zdd k_M_layHand 23 rfl) ?_
      obtain ⟨σ4, e_σ4, h⟩ := zbd h
      refine zj_iast o (zdd k_M_layHand 24 rfl) e_σ4 ?_
      refine zj_iinc (v := v3 + 1) (loc' := [(3, .int (v3 + 1)), (0, .ref v0), (1, .int v1), (2, .int v2)]) o (zdd k_M_layHand 25 rfl) 3 rfl (by rw [zki_1]) (by decide) rfl ?_
      refine zj_goto (tgt := 2) o (zdd k_M_layHand 26 rfl) (by decide) ?_
      exact zj_sub [1, 2, 3, 0] rfl (hk2 h hr)
    · rw [if_pos hc] at h
      refine zj_aload_n o (zdd k_M_layHand 19 rfl) rfl 0 rfl ?_
      obtain ⟨x5, e_x5, h⟩ := zbd h
      refine zj_gI o (zdd k_M_layHand 20 rfl) fl_M_75 rfl e_x5 ?_
      refine zj_goto (tgt := 35) o (zdd k_M_layHand 21 rfl) (by decide) ?_
      refine zj_iadd o (zdd k_M_layHand 23 rfl) ?_
      obtain ⟨σ6, e_σ6, h⟩ := zbd h
      refine zj_iast o (zdd k_M_layHand 24 rfl) e_σ6 ?_
      refine zj_iinc (v := v3 + 1) (loc' := [(3, .int (v3 + 1)), (0, .ref v0), (1, .int v1), (2, .int v2)]) o (zdd k_M_layHand 25 rfl) 3 rfl (by rw [zki_1]) (by decide) rfl ?_
      refine zj_goto (tgt := 2) o (zdd k_M_layHand 26 rfl) (by decide) ?_
      exact zj_sub [1, 2, 3, 0] rfl (hk2 h hr)
def f_M_layHand_2L : Nat → zSt → Nat → Int32 → Int32 → Int32 → Option (zSt)
  | 0 => fun _ _ _ _ _ => none
  | n + 1 => f_M_layHand_2  (f_M_layHand_2L  n)
theorem r_M_layHand_2L {X : zCX} (o : zOK X "WantShelvesModel" c_M_layHand n_M_layHand 1) : ∀ (n : Nat) {σ : zSt} {v0 : Nat} {v1 : Int32} {v2 : Int32} {v3 : Int32} {z : zSt}, f_M_layHand_2L n σ v0 v1 v2 v3 = some z → zRX X 0 0 none z → zPJ X 0 0 2 [(0, .ref v0), (1, .int v1), (2, .int v2), (3, .int v3)] [] σ
  | 0 => fun h _ => by cases h
  | n + 1 => fun h hr => r_M_layHand_2 o (r_M_layHand_2L o  n) h hr
def f_M_layHand (σ : zSt) (t : Nat) (p0 : Int32) (p1 : Int32) : Option (zSt) :=
zg σ 12 t (
f_M_layHand_2L zfu σ t p0 p1 0)
set_option maxRecDepth 100000 in
set_option maxHeartbeats 4000000 in
theorem m_M_layHand {l : Launch} {b : Nat} {ex : Nat → Value} {D : va_G} {ca : Nat → ClassId} {σ : zSt} {t : Nat} {p0 : Int32} {p1 : Int32} {z : zSt} (h : f_M_layHand σ t p0 p1 = some z) : zMT l b ex D ca 1 y_M_layHand c_M_layHand n_M_layHand r_ret_M_layHand [.ref t, .int p0, .int p1] σ none z 0 0 := by
  obtain ⟨_, hg0⟩ := zg_some h
  have h := hg0
  refine zmt_of (by decide) (Nat.le_of_ble_eq_true rfl) rfl (fun X o hin hrm _ _ _ _ _ hr => ?_)
  have hr := hr 0 0 (by decide) (by decide)
  have o : zOK X "WantShelvesModel" c_M_layHand n_M_layHand 1 := o
  change zPJ X 0 0 0 [(0, .ref t), (1, .int p0), (2, .int p1)] [] σ
  refine zj_iconst o (zdd k_M_layHand 0 rfl) zki_0 ?_
  refine zj_istore_n (loc' := [(3, .int 0), (0, .ref t), (1, .int p0), (2, .int p1)]) o (zdd k_M_layHand 1 rfl) rfl (by decide) rfl ?_
  exact zj_sub [1, 2, 3, 0] rfl (r_M_layHand_2L o  zfu h hr)
def f_M_keyOf_73 (σ : zSt) (v0 : Nat) (v1 : Int32) (v2 : Int32) (v3 : Int32) (v4 : Int32) : Option (Int32 × zSt) :=
(zgI σ 12 v0 47).bind fun x1 =>
if x1 = 0 then (
some (v3, σ)) else
(zgP σ 12 v0 25).bind fun a2 =>
(zwI σ 1 a2 0 v3).bind fun σ3 =>
(zgP σ3 12 v0 25).bind fun a4 =>
(zwI σ3 1 a4 1 v4).bind fun σ5 =>
(zgP σ5 12 v0 25).bind fun a6 =>
(zwI σ5 1 a6 2 0).bind fun σ7 =>
(zgP σ7 12 v0 25).bind fun a8 =>
(zwI σ7 1 a8 3 0).bind fun σ9 =>
(zgP σ9 12 v0 25).bind fun a10 =>
(f_M_readsOf σ9 v0 v1 v2).bind fun x11 =>
(zwI σ9 1 a10 4 x11).bind fun σ12 =>
(zgP σ12 12 v0 25).bind fun a13 =>
(zwI σ12 1 a13 5 v2).bind fun σ14 =>
(f_M_worked σ14 v0 0).bind fun q15 =>
some (q15.1, q15.2)
set_option maxRecDepth 100000 in
set_option maxHeartbeats 4000000 in
theorem r_M_keyOf_73 {X : zCX} (o : zOK X "WantShelvesModel" c_M_keyOf n_M_keyOf 4) {σ : zSt} {v0 : Nat} {v1 : Int32} {v2 : Int32} {v3 : Int32} {v4 : Int32} {z : Int32 × zSt} (h : f_M_keyOf_73 σ v0 v1 v2 v3 v4 = some z) (hr : zRX X 0 0 (some (.int z.1)) z.2) : zPJ X 0 0 73 [(0, .ref v0), (1, .int v1), (2, .int v2), (3, .int v3), (4, .int v4)] [] σ := by
  unfold f_M_keyOf_73 at h
  refine zj_aload_n o (zdd k_M_keyOf 48 rfl) rfl 0 rfl ?_
  obtain ⟨x1, e_x1, h⟩ := zbd h
  refine zj_gI o (zdd k_M_keyOf 49 rfl) fl_M_400 rfl e_x1 ?_
  refine zj_if_ne (tgt := 82) o (zdd k_M_keyOf 50 rfl) (by decide) (fun hc => ?_) (fun hc => ?_)
  · rw [if_neg hc] at h
    refine zj_aload_n o (zdd k_M_keyOf 53 rfl) rfl 0 rfl ?_
    obtain ⟨a2, e_a2, h⟩ := zbd h
    refine zj_gP o (zdd k_M_keyOf 54 rfl) fl_M_45 rfl e_a2 ?_
    refine zj_iconst o (zdd k_M_keyOf 55 rfl) zki_0 ?_
    refine zj_iload_n o (zdd k_M_keyOf 56 rfl) rfl 3 rfl ?_
    obtain ⟨σ3, e_σ3, h⟩ := zbd h
    refine zj_iast o (zdd k_M_keyOf 57 rfl) e_σ3 ?_
    refine zj_aload_n o (zdd k_M_keyOf 58 rfl) rfl 0 rfl ?_
    obtain ⟨a4, e_a4, h⟩ := zbd h
    refine zj_gP o (zdd k_M_keyOf 59 rfl) fl_M_45 rfl e_a4 ?_
    refine zj_iconst o (zdd k_M_keyOf 60 rfl) zki_1 ?_
    refine zj_iload o (zdd k_M_keyOf 61 rfl) 4 rfl ?_
    obtain ⟨σ5, e_σ5, h⟩ := zbd h
    refine zj_iast o (zdd k_M_keyOf 62 rfl) e_σ5 ?_
    refine zj_aload_n o (zdd k_M_keyOf 63 rfl) rfl 0 rfl ?_
    obtain ⟨a6, e_a6, h⟩ := zbd h
    refine zj_gP o (zdd k_M_keyOf 64 rfl) fl_M_45 rfl e_a6 ?_
    refine zj_iconst o (zdd k_M_keyOf 65 rfl) zki_2 ?_
    refine zj_iconst o (zdd k_M_keyOf 66 rfl) zki_0 ?_
    obtain ⟨σ7, e_σ7, h⟩ := zbd h
    refine zj_iast o (zdd k_M_keyOf 67 rfl) e_σ7 ?_
    refine zj_aload_n o (zdd k_M_keyOf 68 rfl) rfl 0 rfl ?_
    obtain ⟨a8, e_a8, h⟩ := zbd h
    refine zj_gP o (zdd k_M_keyOf 69 rfl) fl_M_45 rfl e_a8 ?_
    refine zj_iconst o (zdd k_M_keyOf 70 rfl) zki_3 ?_
    refine zj_iconst o (zdd k_M_keyOf 71 rfl) zki_0 ?_
    obtain ⟨σ9, e_σ9, h⟩ := zbd h
    refine zj_iast o (zdd k_M_keyOf 72 rfl) e_σ9 ?_
    refine zj_aload_n o (zdd k_M_keyOf 73 rfl) rfl 0 rfl ?_
    obtain ⟨a10, e_a10, h⟩ := zbd h
    refine zj_gP o (zdd k_M_keyOf 74 rfl) fl_M_45 rfl e_a10 ?_
    refine zj_iconst o (zdd k_M_keyOf 75 rfl) zki_4 ?_
    refine zj_aload_n o (zdd k_M_keyOf 76 rfl) rfl 0 rfl ?_
    refine zj_iload_n o (zdd k_M_keyOf 77 rfl) rfl 1 rfl ?_
    refine zj_iload_n o (zdd k_M_keyOf 78 rfl) rfl 2 rfl ?_
    obtain ⟨x11, e_x11, h⟩ := zbd h
    refine zc_V o (zdd k_M_keyOf 79 rfl) ml_M_429 mv_M_readsOf ⟨rfl, by decide⟩ (zg_some e_x11).1 (by decide) [.int v1, .int v2] [.int 4, .ref a10] rfl (Nat.le_of_ble_eq_true rfl) rfl (m_M_readsOf e_x11) ?_
    change zPJ X 0 0 _ _ [.int x11, .int 4, .ref a10] _
    obtain ⟨σ12, e_σ12, h⟩ := zbd h
    refine zj_iast o (zdd k_M_keyOf 80 rfl) e_σ12 ?_
    refine zj_aload_n o (zdd k_M_keyOf 81 rfl) rfl 0 rfl ?_
    obtain ⟨a13, e_a13, h⟩ := zbd h
    refine zj_gP o (zdd k_M_keyOf 82 rfl) fl_M_45 rfl e_a13 ?_
    refine zj_iconst o (zdd k_M_keyOf 83 rfl) zki_5 ?_
    refine zj_iload_n o (zdd k_M_keyOf 84 rfl) rfl 2 rfl ?_
    obtain ⟨σ14, e_σ14, h⟩ := zbd h
    refine zj_iast o (zdd k_M_keyOf 85 rfl) e_σ14 ?_
    refine zj_aload_n o (zdd k_M_keyOf 86 rfl) rfl 0 rfl ?_
    refine zj_iconst o (zdd k_M_keyOf 87 rfl) zki_0 ?_
    obtain ⟨q15, e_q15, h⟩ := zbd h
    refine zc_V o (zdd k_M_keyOf 88 rfl) ml_M_445 mv_M_worked ⟨rfl, by decide⟩ (zg_some e_q15).1 (by decide) [.int 0] [] rfl (Nat.le_of_ble_eq_true rfl) rfl (m_M_worked e_q15) ?_
    change zPJ X 0 0 _ _ [.int q15.1] _
    cases h
    exact zr_i o hr (zdd k_M_keyOf 89 rfl)
  · rw [if_pos hc] at h
    refine zj_iload_n o (zdd k_M_keyOf 51 rfl) rfl 3 rfl ?_
    cases h
    exact zr_i o hr (zdd k_M_keyOf 52 rfl)
def f_M_keyOf_8 (k8 : zSt → Nat → Int32 → Int32 → Int32 → Int32 → Int32 → Option (Int32 × zSt)) (σ : zSt) (v0 : Nat) (v1 : Int32) (v2 : Int32) (v3 : Int32) (v4 : Int32) (v5 : Int32) : Option (Int32 × zSt) :=
(zgI σ 12 v0 41).bind fun x1 =>
if x1 ≤ v5 then (
f_M_keyOf_73 σ v0 v1 v2 v3 v4) else
(zgP σ 12 v0 50).bind fun a2 =>
(zaI σ 1 a2 v5).bind fun x3 =>
(zgP σ 12 v0 30).bind fun a4 =>
(zaI σ 1 a4 ((4 * v2) + v5)).bind fun x5 =>
(zgP σ 12 v0 32).bind fun a6 =>
(zaI σ 1 a6 ((4 * v1) + v5)).bind fun x7 =>
(zgP σ 12 v0 30).bind fun a8 =>
(zaI σ 1 a8 ((4 * v2) + v5)).bind fun x9 =>
k8 σ v0 v1 v2 (v3 + (x3 * x5)) (v4 + (x7 * x9)) (v5 + 1)
set_option maxRecDepth 100000 in
set_option maxHeartbeats 4000000 in
theorem r_M_keyOf_8 {X : zCX} (o : zOK X "WantShelvesModel" c_M_keyOf n_M_keyOf 4) {k8 : zSt → Nat → Int32 → Int32 → Int32 → Int32 → Int32 → Option (Int32 × zSt)} (hk8 : ∀ {σ : zSt} {v0 : Nat} {v1 : Int32} {v2 : Int32} {v3 : Int32} {v4 : Int32} {v5 : Int32} {z : Int32 × zSt}, k8 σ v0 v1 v2 v3 v4 v5 = some z → zRX X 0 0 (some (.int z.1)) z.2 → zPJ X 0 0 8 [(0, .ref v0), (1, .int v1), (2, .int v2), (3, .int v3), (4, .int v4), (5, .int v5)] [] σ) {σ : zSt} {v0 : Nat} {v1 : Int32} {v2 : Int32} {v3 : Int32} {v4 : Int32} {v5 : Int32} {z : Int32 × zSt} (h : f_M_keyOf_8 k8 σ v0 v1 v2 v3 v4 v5 = some z) (hr : zRX X 0 0 (some (.int z.1)) z.2) : zPJ X 0 0 8 [(0, .ref v0), (1, .int v1), (2, .int v2), (3, .int v3), (4, .int v4), (5, .int v5)] [] σ := by
  unfold f_M_keyOf_8 at h
  refine zj_iload o (zdd k_M_keyOf 6 rfl) 5 rfl ?_
  refine zj_aload_n o (zdd k_M_keyOf 7 rfl) rfl 0 rfl ?_
  obtain ⟨x1, e_x1, h⟩ := zbd h
  refine zj_gI o (zdd k_M_keyOf 8 rfl) fl_M_388 rfl e_x1 ?_
  refine zj_icmp_ge (tgt := 73) o (zdd k_M_keyOf 9 rfl) (by decide) (fun hc => ?_) (fun hc => ?_)
  · rw [if_pos hc] at h
    exact zj_sub [0, 1, 2, 3, 4] rfl (r_M_keyOf_73 o  h hr)
  · rw [if_neg hc] at h
    refine zj_iload_n o (zdd k_M_keyOf 10 rfl) rfl 3 rfl ?_
    refine zj_aload_n o (zdd k_M_keyOf 11 rfl) rfl 0 rfl ?_
    obtain ⟨a2, e_a2, h⟩ := zbd h
    refine zj_gP o (zdd k_M_keyOf 12 rfl) fl_M_81 rfl e_a2 ?_
    refine zj_iload o (zdd k_M_keyOf 13 rfl) 5 rfl ?_
    obtain ⟨x3, e_x3, h⟩ := zbd h
    refine zj_iald o (zdd k_M_keyOf 14 rfl) e_x3 ?_
    refine zj_aload_n o (zdd k_M_keyOf 15 rfl) rfl 0 rfl ?_
    obtain ⟨a4, e_a4, h⟩ := zbd h
    refine zj_gP o (zdd k_M_keyOf 16 rfl) fl_M_60 rfl e_a4 ?_
    refine zj_iconst o (zdd k_M_keyOf 17 rfl) zki_4 ?_
    refine zj_iload_n o (zdd k_M_keyOf 18 rfl) rfl 2 rfl ?_
    refine zj_imul o (zdd k_M_keyOf 19 rfl) ?_
    refine zj_iload o (zdd k_M_keyOf 20 rfl) 5 rfl ?_
    refine zj_iadd o (zdd k_M_keyOf 21 rfl) ?_
    obtain ⟨x5, e_x5, h⟩ := zbd h
    refine zj_iald o (zdd k_M_keyOf 22 rfl) e_x5 ?_
    refine zj_imul o (zdd k_M_keyOf 23 rfl) ?_
    refine zj_iadd o (zdd k_M_keyOf 24 rfl) ?_
    refine zj_istore_n (loc' := [(3, .int (v3 + (x3 * x5))), (0, .ref v0), (1, .int v1), (2, .int v2), (4, .int v4), (5, .int v5)]) o (zdd k_M_keyOf 25 rfl) rfl (by decide) rfl ?_
    refine zj_iload o (zdd k_M_keyOf 26 rfl) 4 rfl ?_
    refine zj_aload_n o (zdd k_M_keyOf 27 rfl) rfl 1 rfl ?_
    obtain ⟨a6, e_a6, h⟩ := zbd h
    refine zj_gP o (zdd k_M_keyOf 28 rfl) fl_M_66 rfl e_a6 ?_
    refine zj_iconst o (zdd k_M_keyOf 29 rfl) zki_4 ?_
    refine zj_iload_n o (zdd k_M_keyOf 30 rfl) rfl 2 rfl ?_
    refine zj_imul o (zdd k_M_keyOf 31 rfl) ?_
    refine zj_iload o (zdd k_M_keyOf 32 rfl) 5 rfl ?_
    refine zj_iadd o (zdd k_M_keyOf 33 rfl) ?_
    obtain ⟨x7, e_x7, h⟩ := zbd h
    refine zj_iald o (zdd k_M_keyOf 34 rfl) e_x7 ?_
    refine zj_aload_n o (zdd k_M_keyOf 35 rfl) rfl 1 rfl ?_
    obtain ⟨a8, e_a8, h⟩ := zbd h
    refine zj_gP o (zdd k_M_keyOf 36 rfl) fl_M_60 rfl e_a8 ?_
    refine zj_iconst o (zdd k_M_keyOf 37 rfl) zki_4 ?_
    refine zj_iload_n o (zdd k_M_keyOf 38 rfl) rfl 3 rfl ?_
    refine zj_imul o (zdd k_M_keyOf 39 rfl) ?_
    refine zj_iload o (zdd k_M_keyOf 40 rfl) 5 rfl ?_
    refine zj_iadd o (zdd k_M_keyOf 41 rfl) ?_
    obtain ⟨x9, e_x9, h⟩ := zbd h
    refine zj_iald o (zdd k_M_keyOf 42 rfl) e_x9 ?_
    refine zj_imul o (zdd k_M_keyOf 43 rfl) ?_
    refine zj_iadd o (zdd k_M_keyOf 44 rfl) ?_
    refine zj_istore (loc' := [(4, .int (v4 + (x7 * x9))), (3, .int (v3 + (x3 * x5))), (0, .ref v0), (1, .int v1), (2, .int v2), (5, .int v5)]) o (zdd k_M_keyOf 45 rfl) (by decide) rfl ?_
    refine zj_iinc (v := v5 + 1) (loc' := [(5, .int (v5 + 1)), (4, .int (v4 + (x7 * x9))), (3, .int (v3 + (x3 * x5))), (0, .ref v0), (1, .int v1), (2, .int v2)]) o (zdd k_M_keyOf 46 rfl) 5 rfl (by rw [zki_1]) (by decide) rfl ?_
    refine zj_goto (tgt := 8) o (zdd k_M_keyOf 47 rfl) (by decide) ?_
    exact zj_sub [3, 4, 5, 2, 1, 0] rfl (hk8 h hr)
def f_M_keyOf_8L : Nat → zSt → Nat → Int32 → Int32 → Int32 → Int32 → Int32 → Option (Int32 × zSt)
  | 0 => fun _ _ _ _ _ _ _ => none
  | n + 1 => f_M_keyOf_8  (f_M_keyOf_8L  n)
theorem r_M_keyOf_8L {X : zCX} (o : zOK X "WantShelvesModel" c_M_keyOf n_M_keyOf 4) : ∀ (n : Nat) {σ : zSt} {v0 : Nat} {v1 : Int32} {v2 : Int32} {v3 : Int32} {v4 : Int32} {v5 : Int32} {z : Int32 × zSt}, f_M_keyOf_8L n σ v0 v1 v2 v3 v4 v5 = some z → zRX X 0 0 (some (.int z.1)) z.2 → zPJ X 0 0 8 [(0, .ref v0), (1, .int v1), (2, .int v2), (3, .int v3), (4, .int v4), (5, .int v5)] [] σ
  | 0 => fun h _ => by cases h
  | n + 1 => fun h hr => r_M_keyOf_8 o (r_M_keyOf_8L o  n) h hr
def f_M_keyOf (σ : zSt) (t : Nat) (p0 : Int32) (p1 : Int32) : Option (Int32 × zSt) :=
zg σ 12 t (
f_M_keyOf_8L zfu σ t p0 p1 0 0 0)
set_option maxRecDepth 100000 in
set_option maxHeartbeats 4000000 in
theorem m_M_keyOf {l : Launch} {b : Nat} {ex : Nat → Value} {D : va_G} {ca : Nat → ClassId} {σ : zSt} {t : Nat} {p0 : Int32} {p1 : Int32} {z : Int32 × zSt} (h : f_M_keyOf σ t p0 p1 = some z) : zMT l b ex D ca 4 y_M_keyOf c_M_keyOf n_M_keyOf r_ret_M_keyOf [.ref t, .int p0, .int p1] σ (some (.int z.1)) z.2 0 0 := by
  obtain ⟨_, hg0⟩ := zg_some h
  have h := hg0
  refine zmt_of (by decide) (Nat.le_of_ble_eq_true rfl) ⟨.int, rfl, rfl⟩ (fun X o hin hrm _ _ _ _ _ hr => ?_)
  have hr := hr 0 0 (by decide) (by decide)
  have o : zOK X "WantShelvesModel" c_M_keyOf n_M_keyOf 4 := o
  change zPJ X 0 0 0 [(0, .ref t), (1, .int p0), (2, .int p1)] [] σ
  refine zj_iconst o (zdd k_M_keyOf 0 rfl) zki_0 ?_
  refine zj_istore_n (loc' := [(3, .int 0), (0, .ref t), (1, .int p0), (2, .int p1)]) o (zdd k_M_keyOf 1 rfl) rfl (by decide) rfl ?_
  refine zj_iconst o (zdd k_M_keyOf 2 rfl) zki_0 ?_
  refine zj_istore (loc' := [(4, .int 0), (3, .int 0), (0, .ref t), (1, .int p0), (2, .int p1)]) o (zdd k_M_keyOf 3 rfl) (by decide) rfl ?_
  refine zj_iconst o (zdd k_M_keyOf 4 rfl) zki_0 ?_
  refine zj_istore (loc' := [(5, .int 0), (4, .int 0), (3, .int 0), (0, .ref t), (1, .int p0), (2, .int p1)]) o (zdd k_M_keyOf 5 rfl) (by decide) rfl ?_
  exact zj_sub [3, 4, 5, 2, 1, 0] rfl (r_M_keyOf_8L o  zfu h hr)
def f_M_layKeys_2 (k2 : zSt → Nat → Int32 → Int32 → Option (zSt)) (σ : zSt) (v0 : Nat) (v1 : Int32) (v2 : Int32) : Option (zSt) :=
(zgI σ 12 v0 42).bind fun x1 =>
if x1 ≤ v2 then (
some σ) else
(zgP σ 12 v0 51).bind fun a2 =>
(f_M_keyOf σ v0 v1 v2).bind fun q3 =>
(zwI q3.2 1 a2 ((10 * v1) + v2) q3.1).bind fun σ4 =>
k2 σ4 v0 v1 (v2 + 1)
set_option maxRecDepth 100000 in
set_option maxHeartbeats 4000000 in
theorem r_M_layKeys_2 {X : zCX} (o : zOK X "WantShelvesModel" c_M_layKeys n_M_layKeys 5) {k2 : zSt → Nat → Int32 → Int32 → Option (zSt)} (hk2 : ∀ {σ : zSt} {v0 : Nat} {v1 : Int32} {v2 : Int32} {z : zSt}, k2 σ v0 v1 v2 = some z → zRX X 0 0 none z → zPJ X 0 0 2 [(0, .ref v0), (1, .int v1), (2, .int v2)] [] σ) {σ : zSt} {v0 : Nat} {v1 : Int32} {v2 : Int32} {z : zSt} (h : f_M_layKeys_2 k2 σ v0 v1 v2 = some z) (hr : zRX X 0 0 none z) : zPJ X 0 0 2 [(0, .ref v0), (1, .int v1), (2, .int v2)] [] σ := by
  unfold f_M_layKeys_2 at h
  refine zj_iload_n o (zdd k_M_layKeys 2 rfl) rfl 2 rfl ?_
  refine zj_aload_n o (zdd k_M_layKeys 3 rfl) rfl 0 rfl ?_
  obtain ⟨x1, e_x1, h⟩ := zbd h
  refine zj_gI o (zdd k_M_layKeys 4 rfl) fl_M_391 rfl e_x1 ?_
  refine zj_icmp_ge (tgt := 33) o (zdd k_M_layKeys 5 rfl) (by decide) (fun hc => ?_) (fun hc => ?_)
  · rw [if_pos hc] at h
    cases h
    exact zr_v o hr (zdd k_M_layKeys 20 rfl)
  · rw [if_neg hc] at h
    refine zj_aload_n o (zdd k_M_layKeys 6 rfl) rfl 0 rfl ?_
    obtain ⟨a2, e_a2, h⟩ := zbd h
    refine zj_gP o (zdd k_M_layKeys 7 rfl) fl_M_84 rfl e_a2 ?_
    refine zj_bipush o (zdd k_M_layKeys 8 rfl) zkb_10 ?_
    refine zj_iload_n o (zdd k_M_layKeys 9 rfl) rfl 1 rfl ?_
    refine zj_imul o (zdd k_M_layKeys 10 rfl) ?_
    refine zj_iload_n o (zdd k_M_layKeys 11 rfl) rfl 2 rfl ?_
    refine zj_iadd o (zdd k_M_layKeys 12 rfl) ?_
    refine zj_aload_n o (zdd k_M_layKeys 13 rfl) rfl 0 rfl ?_
    refine zj_iload_n o (zdd k_M_layKeys 14 rfl) rfl 1 rfl ?_
    refine zj_iload_n o (zdd k_M_layKeys 15 rfl) rfl 2 rfl ?_
    obtain ⟨q3, e_q3, h⟩ := zbd h
    refine zc_V o (zdd k_M_layKeys 16 rfl) ml_M_448 mv_M_keyOf ⟨rfl, by decide⟩ (zg_some e_q3).1 (by decide) [.int v1, .int v2] [.int ((10 * v1) + v2), .ref a2] rfl (Nat.le_of_ble_eq_true rfl) rfl (m_M_keyOf e_q3) ?_
    change zPJ X 0 0 _ _ [.int q3.1, .int ((10 * v1) + v2), .ref a2] _
    obtain ⟨σ4, e_σ4, h⟩ := zbd h
    refine zj_iast o (zdd k_M_layKeys 17 rfl) e_σ4 ?_
    refine zj_iinc (v := v2 + 1) (loc' := [(2, .int (v2 + 1)), (0, .ref v0), (1, .int v1)]) o (zdd k_M_layKeys 18 rfl) 2 rfl (by rw [zki_1]) (by decide) rfl ?_
    refine zj_goto (tgt := 2) o (zdd k_M_layKeys 19 rfl) (by decide) ?_
    exact zj_sub [1, 2, 0] rfl (hk2 h hr)
def f_M_layKeys_2L : Nat → zSt → Nat → Int32 → Int32 → Option (zSt)
  | 0 => fun _ _ _ _ => none
  | n + 1 => f_M_layKeys_2  (f_M_layKeys_2L  n)
theorem r_M_layKeys_2L {X : zCX} (o : zOK X "WantShelvesModel" c_M_layKeys n_M_layKeys 5) : ∀ (n : Nat) {σ : zSt} {v0 : Nat} {v1 : Int32} {v2 : Int32} {z : zSt}, f_M_layKeys_2L n σ v0 v1 v2 = some z → zRX X 0 0 none z → zPJ X 0 0 2 [(0, .ref v0), (1, .int v1), (2, .int v2)] [] σ
  | 0 => fun h _ => by cases h
  | n + 1 => fun h hr => r_M_layKeys_2 o (r_M_layKeys_2L o  n) h hr
def f_M_layKeys (σ : zSt) (t : Nat) (p0 : Int32) : Option (zSt) :=
zg σ 12 t (
f_M_layKeys_2L zfu σ t p0 0)
set_option maxRecDepth 100000 in
set_option maxHeartbeats 4000000 in
theorem m_M_layKeys {l : Launch} {b : Nat} {ex : Nat → Value} {D : va_G} {ca : Nat → ClassId} {σ : zSt} {t : Nat} {p0 : Int32} {z : zSt} (h : f_M_layKeys σ t p0 = some z) : zMT l b ex D ca 5 y_M_layKeys c_M_layKeys n_M_layKeys r_ret_M_layKeys [.ref t, .int p0] σ none z 0 0 := by
  obtain ⟨_, hg0⟩ := zg_some h
  have h := hg0
  refine zmt_of (by decide) (Nat.le_of_ble_eq_true rfl) rfl (fun X o hin hrm _ _ _ _ _ hr => ?_)
  have hr := hr 0 0 (by decide) (by decide)
  have o : zOK X "WantShelvesModel" c_M_layKeys n_M_layKeys 5 := o
  change zPJ X 0 0 0 [(0, .ref t), (1, .int p0)] [] σ
  refine zj_iconst o (zdd k_M_layKeys 0 rfl) zki_0 ?_
  refine zj_istore_n (loc' := [(2, .int 0), (0, .ref t), (1, .int p0)]) o (zdd k_M_layKeys 1 rfl) rfl (by decide) rfl ?_
  exact zj_sub [1, 2, 0] rfl (r_M_layKeys_2L o  zfu h hr)
def f_M_layOwn (σ : zSt) (t : Nat) (p0 : Int32) : Option (zSt) :=
zg σ 12 t (
(zgP σ 12 t 49).bind fun a1 =>
(zaI σ 1 a1 (24 + p0)).bind fun x2 =>
(f_M_layHand σ t p0 x2).bind fun σ3 =>
(f_M_layKeys σ3 t p0).bind fun σ4 =>
some σ4)
set_option maxRecDepth 100000 in
set_option maxHeartbeats 4000000 in
theorem m_M_layOwn {l : Launch} {b : Nat} {ex : Nat → Value} {D : va_G} {ca : Nat → ClassId} {σ : zSt} {t : Nat} {p0 : Int32} {z : zSt} (h : f_M_layOwn σ t p0 = some z) : zMT l b ex D ca 6 y_M_layOwn c_M_layOwn n_M_layOwn r_ret_M_layOwn [.ref t, .int p0] σ none z 0 0 := by
  obtain ⟨_, hg0⟩ := zg_some h
  have h := hg0
  refine zmt_of (by decide) (Nat.le_of_ble_eq_true rfl) rfl (fun X o hin hrm _ _ _ _ _ hr => ?_)
  have hr := hr 0 0 (by decide) (by decide)
  have o : zOK X "WantShelvesModel" c_M_layOwn n_M_layOwn 6 := o
  change zPJ X 0 0 0 [(0, .ref t), (1, .int p0)] [] σ
  refine zj_aload_n o (zdd k_M_layOwn 0 rfl) rfl 0 rfl ?_
  refine zj_iload_n o (zdd k_M_layOwn 1 rfl) rfl 1 rfl ?_
  refine zj_aload_n o (zdd k_M_layOwn 2 rfl) rfl 0 rfl ?_
  obtain ⟨a1, e_a1, h⟩ := zbd h
  refine zj_gP o (zdd k_M_layOwn 3 rfl) fl_M_78 rfl e_a1 ?_
  refine zj_bipush o (zdd k_M_layOwn 4 rfl) zkb_24 ?_
  refine zj_iload_n o (zdd k_M_layOwn 5 rfl) rfl 1 rfl ?_
  refine zj_iadd o (zdd k_M_layOwn 6 rfl) ?_
  obtain ⟨x2, e_x2, h⟩ := zbd h
  refine zj_iald o (zdd k_M_layOwn 7 rfl) e_x2 ?_
  obtain ⟨σ3, e_σ3, h⟩ := zbd h
  refine zc_V o (zdd k_M_layOwn 8 rfl) ml_M_451 mv_M_layHand ⟨rfl, by decide⟩ (zg_some e_σ3).1 (by decide) [.int p0, .int x2] [] rfl (Nat.le_of_ble_eq_true rfl) rfl (m_M_layHand e_σ3) ?_
  change zPJ X 0 0 _ _ [] _
  refine zj_aload_n o (zdd k_M_layOwn 9 rfl) rfl 0 rfl ?_
  refine zj_iload_n o (zdd k_M_layOwn 10 rfl) rfl 1 rfl ?_
  obtain ⟨σ4, e_σ4, h⟩ := zbd h
  refine zc_V o (zdd k_M_layOwn 11 rfl) ml_M_454 mv_M_layKeys ⟨rfl, by decide⟩ (zg_some e_σ4).1 (by decide) [.int p0] [] rfl (Nat.le_of_ble_eq_true rfl) rfl (m_M_layKeys e_σ4) ?_
  change zPJ X 0 0 _ _ [] _
  cases h
  exact zr_v o hr (zdd k_M_layOwn 12 rfl)
def f_M_layAll_2 (k2 : zSt → Nat → Int32 → Option (zSt)) (σ : zSt) (v0 : Nat) (v1 : Int32) : Option (zSt) :=
(zgI σ 12 v0 43).bind fun x1 =>
if x1 ≤ v1 then (
some σ) else
(f_M_layOwn σ v0 v1).bind fun σ2 =>
k2 σ2 v0 (v1 + 1)
set_option maxRecDepth 100000 in
set_option maxHeartbeats 4000000 in
theorem r_M_layAll_2 {X : zCX} (o : zOK X "WantShelvesModel" c_M_layAll n_M_layAll 7) {k2 : zSt → Nat → Int32 → Option (zSt)} (hk2 : ∀ {σ : zSt} {v0 : Nat} {v1 : Int32} {z : zSt}, k2 σ v0 v1 = some z → zRX X 0 0 none z → zPJ X 0 0 2 [(0, .ref v0), (1, .int v1)] [] σ) {σ : zSt} {v0 : Nat} {v1 : Int32} {z : zSt} (h : f_M_layAll_2 k2 σ v0 v1 = some z) (hr : zRX X 0 0 none z) : zPJ X 0 0 2 [(0, .ref v0), (1, .int v1)] [] σ := by
  unfold f_M_layAll_2 at h
  refine zj_iload_n o (zdd k_M_layAll 2 rfl) rfl 1 rfl ?_
  refine zj_aload_n o (zdd k_M_layAll 3 rfl) rfl 0 rfl ?_
  obtain ⟨x1, e_x1, h⟩ := zbd h
  refine zj_gI o (zdd k_M_layAll 4 rfl) fl_M_394 rfl e_x1 ?_
  refine zj_icmp_ge (tgt := 21) o (zdd k_M_layAll 5 rfl) (by decide) (fun hc => ?_) (fun hc => ?_)
  · rw [if_pos hc] at h
    cases h
    exact zr_v o hr (zdd k_M_layAll 11 rfl)
  · rw [if_neg hc] at h
    refine zj_aload_n o (zdd k_M_layAll 6 rfl) rfl 0 rfl ?_
    refine zj_iload_n o (zdd k_M_layAll 7 rfl) rfl 1 rfl ?_
    obtain ⟨σ2, e_σ2, h⟩ := zbd h
    refine zc_V o (zdd k_M_layAll 8 rfl) ml_M_457 mv_M_layOwn ⟨rfl, by decide⟩ (zg_some e_σ2).1 (by decide) [.int v1] [] rfl (Nat.le_of_ble_eq_true rfl) rfl (m_M_layOwn e_σ2) ?_
    change zPJ X 0 0 _ _ [] _
    refine zj_iinc (v := v1 + 1) (loc' := [(1, .int (v1 + 1)), (0, .ref v0)]) o (zdd k_M_layAll 9 rfl) 1 rfl (by rw [zki_1]) (by decide) rfl ?_
    refine zj_goto (tgt := 2) o (zdd k_M_layAll 10 rfl) (by decide) ?_
    exact zj_sub [1, 0] rfl (hk2 h hr)
def f_M_layAll_2L : Nat → zSt → Nat → Int32 → Option (zSt)
  | 0 => fun _ _ _ => none
  | n + 1 => f_M_layAll_2  (f_M_layAll_2L  n)
theorem r_M_layAll_2L {X : zCX} (o : zOK X "WantShelvesModel" c_M_layAll n_M_layAll 7) : ∀ (n : Nat) {σ : zSt} {v0 : Nat} {v1 : Int32} {z : zSt}, f_M_layAll_2L n σ v0 v1 = some z → zRX X 0 0 none z → zPJ X 0 0 2 [(0, .ref v0), (1, .int v1)] [] σ
  | 0 => fun h _ => by cases h
  | n + 1 => fun h hr => r_M_layAll_2 o (r_M_layAll_2L o  n) h hr
def f_M_layAll (σ : zSt) (t : Nat) : Option (zSt) :=
zg σ 12 t (
f_M_layAll_2L zfu σ t 0)
set_option maxRecDepth 100000 in
set_option maxHeartbeats 4000000 in
theorem m_M_layAll {l : Launch} {b : Nat} {ex : Nat → Value} {D : va_G} {ca : Nat → ClassId} {σ : zSt} {t : Nat} {z : zSt} (h : f_M_layAll σ t = some z) : zMT l b ex D ca 7 y_M_layAll c_M_layAll n_M_layAll r_ret_M_layAll [.ref t] σ none z 0 0 := by
  obtain ⟨_, hg0⟩ := zg_some h
  have h := hg0
  refine zmt_of (by decide) (Nat.le_of_ble_eq_true rfl) rfl (fun X o hin hrm _ _ _ _ _ hr => ?_)
  have hr := hr 0 0 (by decide) (by decide)
  have o : zOK X "WantShelvesModel" c_M_layAll n_M_layAll 7 := o
  change zPJ X 0 0 0 [(0, .ref t)] [] σ
  refine zj_iconst o (zdd k_M_layAll 0 rfl) zki_0 ?_
  refine zj_istore_n (loc' := [(1, .int 0), (0, .ref t)]) o (zdd k_M_layAll 1 rfl) rfl (by decide) rfl ?_
  exact zj_sub [1, 0] rfl (r_M_layAll_2L o  zfu h hr)
def f_M_isAhead (σ : zSt) (t : Nat) (p0 : Int32) (p1 : Int32) (p2 : Int32) : Option (Int32) :=
zg σ 12 t (
((zgP σ 12 t 51).bind fun a1 =>
(zaI σ 1 a1 ((10 * p0) + p1)).bind fun x2 =>
(zgP σ 12 t 51).bind fun a3 =>
(zaI σ 1 a3 ((10 * p0) + p2)).bind fun x4 =>
if x4 < x2 then (
some 1) else
(zgP σ 12 t 51).bind fun a5 =>
(zaI σ 1 a5 ((10 * p0) + p1)).bind fun x6 =>
(zgP σ 12 t 51).bind fun a7 =>
(zaI σ 1 a7 ((10 * p0) + p2)).bind fun x8 =>
if x6 = x8 then (
if p2 ≤ p1 then (
some 0) else
some 1) else
some 0).bind zbool)
set_option maxRecDepth 100000 in
set_option maxHeartbeats 4000000 in
theorem m_M_isAhead {l : Launch} {b : Nat} {ex : Nat → Value} {D : va_G} {ca : Nat → ClassId} {σ : zSt} {t : Nat} {p0 : Int32} {p1 : Int32} {p2 : Int32} {z : Int32} (h : f_M_isAhead σ t p0 p1 p2 = some z) : zMT l b ex D ca 1 y_M_isAhead c_M_isAhead n_M_isAhead r_ret_M_isAhead [.ref t, .int p0, .int p1, .int p2] σ (some (.int z)) σ 0 0 := by
  obtain ⟨_, hg0⟩ := zg_some h
  obtain ⟨z0, hbd, hz⟩ := zbd hg0
  obtain ⟨hzb, rfl⟩ := zbool_some hz
  have h := hbd
  refine zmt_of (by decide) (Nat.le_of_ble_eq_true rfl) ⟨.boolean, rfl, zb_nar hzb⟩ (fun X o hin hrm _ _ _ _ _ hr => ?_)
  have hr := hr 0 0 (by decide) (by decide)
  have o : zOK X "WantShelvesModel" c_M_isAhead n_M_isAhead 1 := o
  change zPJ X 0 0 0 [(0, .ref t), (1, .int p0), (2, .int p1), (3, .int p2)] [] σ
  refine zj_aload_n o (zdd k_M_isAhead 0 rfl) rfl 0 rfl ?_
  obtain ⟨a1, e_a1, h⟩ := zbd h
  refine zj_gP o (zdd k_M_isAhead 1 rfl) fl_M_84 rfl e_a1 ?_
  refine zj_bipush o (zdd k_M_isAhead 2 rfl) zkb_10 ?_
  refine zj_iload_n o (zdd k_M_isAhead 3 rfl) rfl 1 rfl ?_
  refine zj_imul o (zdd k_M_isAhead 4 rfl) ?_
  refine zj_iload_n o (zdd k_M_isAhead 5 rfl) rfl 2 rfl ?_
  refine zj_iadd o (zdd k_M_isAhead 6 rfl) ?_
  obtain ⟨x2, e_x2, h⟩ := zbd h
  refine zj_iald o (zdd k_M_isAhead 7 rfl) e_x2 ?_
  refine zj_aload_n o (zdd k_M_isAhead 8 rfl) rfl 0 rfl ?_
  obtain ⟨a3, e_a3, h⟩ := zbd h
  refine zj_gP o (zdd k_M_isAhead 9 rfl) fl_M_84 rfl e_a3 ?_
  refine zj_bipush o (zdd k_M_isAhead 10 rfl) zkb_10 ?_
  refine zj_iload_n o (zdd k_M_isAhead 11 rfl) rfl 1 rfl ?_
  refine zj_imul o (zdd k_M_isAhead 12 rfl) ?_
  refine zj_iload_n o (zdd k_M_isAhead 13 rfl) rfl 3 rfl ?_
  refine zj_iadd o (zdd k_M_isAhead 14 rfl) ?_
  obtain ⟨x4, e_x4, h⟩ := zbd h
  refine zj_iald o (zdd k_M_isAhead 15 rfl) e_x4 ?_
  refine zj_icmp_gt (tgt := 55) o (zdd k_M_isAhead 16 rfl) (by decide) (fun hc => ?_) (fun hc => ?_)
  · rw [if_pos hc] at h
    refine zj_iconst o (zdd k_M_isAhead 37 rfl) zki_1 ?_
    refine zj_goto (tgt := 60) o (zdd k_M_isAhead 38 rfl) (by decide) ?_
    cases h
    exact zr_i o hr (zdd k_M_isAhead 40 rfl)
  · rw [if_neg hc] at h
    refine zj_aload_n o (zdd k_M_isAhead 17 rfl) rfl 0 rfl ?_
    obtain ⟨a5, e_a5, h⟩ := zbd h
    refine zj_gP o (zdd k_M_isAhead 18 rfl) fl_M_84 rfl e_a5 ?_
    refine zj_bipush o (zdd k_M_isAhead 19 rfl) zkb_10 ?_
    refine zj_iload_n o (zdd k_M_isAhead 20 rfl) rfl 1 rfl ?_
    refine zj_imul o (zdd k_M_isAhead 21 rfl) ?_
    refine zj_iload_n o (zdd k_M_isAhead 22 rfl) rfl 2 rfl ?_
    refine zj_iadd o (zdd k_M_isAhead 23 rfl) ?_
    obtain ⟨x6, e_x6, h⟩ := zbd h
    refine zj_iald o (zdd k_M_isAhead 24 rfl) e_x6 ?_
    refine zj_aload_n o (zdd k_M_isAhead 25 rfl) rfl 0 rfl ?_
    obtain ⟨a7, e_a7, h⟩ := zbd h
    refine zj_gP o (zdd k_M_isAhead 26 rfl) fl_M_84 rfl e_a7 ?_
    refine zj_bipush o (zdd k_M_isAhead 27 rfl) zkb_10 ?_
    refine zj_iload_n o (zdd k_M_isAhead 28 rfl) rfl 1 rfl ?_
    refine zj_imul o (zdd k_M_isAhead 29 rfl) ?_
    refine zj_iload_n o (zdd k_M_isAhead 30 rfl) rfl 3 rfl ?_
    refine zj_iadd o (zdd k_M_isAhead 31 rfl) ?_
    obtain ⟨x8, e_x8, h⟩ := zbd h
    refine zj_iald o (zdd k_M_isAhead 32 rfl) e_x8 ?_
    refine zj_icmp_ne (tgt := 59) o (zdd k_M_isAhead 33 rfl) (by decide) (fun hc => ?_) (fun hc => ?_)
    · rw [if_neg hc] at h
      refine zj_iconst o (zdd k_M_isAhead 39 rfl) zki_0 ?_
      cases h
      exact zr_i o hr (zdd k_M_isAhead 40 rfl)
    · rw [if_pos hc] at h
      refine zj_iload_n o (zdd k_M_isAhead 34 rfl) rfl 2 rfl ?_
      refine zj_iload_n o (zdd k_M_isAhead 35 rfl) rfl 3 rfl ?_
      refine zj_icmp_ge (tgt := 59) o (zdd k_M_isAhead 36 rfl) (by decide) (fun hc => ?_) (fun hc => ?_)
      · rw [if_pos hc] at h
        refine zj_iconst o (zdd k_M_isAhead 39 rfl) zki_0 ?_
        cases h
        exact zr_i o hr (zdd k_M_isAhead 40 rfl)
      · rw [if_neg hc] at h
        refine zj_iconst o (zdd k_M_isAhead 37 rfl) zki_1 ?_
        refine zj_goto (tgt := 60) o (zdd k_M_isAhead 38 rfl) (by decide) ?_
        cases h
        exact zr_i o hr (zdd k_M_isAhead 40 rfl)
