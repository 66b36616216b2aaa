def f_C_init (σ : zSt) (t : Nat) : Option (zSt) :=
zg σ 7 t (
(some (znew σ (2, 0))).bind fun (σ1 : zSt) =>
(some σ.1.length).bind fun (a2 : Nat) =>
(zsP σ1 7 t 4 a2).bind fun σ3 =>
some σ3)
set_option maxRecDepth 100000 in
set_option maxHeartbeats 4000000 in
theorem m_C_init {l : Launch} {b : Nat} {ex : Nat → Value} {D : va_G} {ca : Nat → ClassId} {σ : zSt} {t : Nat} {z : zSt} (h : f_C_init σ t = some z) : zMT l b ex D ca 1 y_C_init c_C_init n_C_init r_ret_C_init [.ref t] σ none z 1 0 := by
  obtain ⟨_, hg0⟩ := zg_some h
  have h := hg0
  refine zmt_of (by decide) (Nat.le_of_ble_eq_true rfl) rfl (fun X o hin hrm _ _ _ _ _ hr => ?_)
  have hin := hin rfl
  have hr := hr 1 0 (by decide) (by decide)
  have o : zOK X "WantShelves$Scanner" c_C_init n_C_init 1 := o
  change zPJ X 0 0 0 [(0, .ref t)] [] σ
  refine zj_aload_n o (zdd k_C_init 0 rfl) rfl 0 rfl ?_
  refine zj_objInit o (zdd k_C_init 1 rfl) ml_C_1 ob_im ob_code (by decide) (Nat.le_of_ble_eq_true rfl) ?_
  refine zj_aload_n o (zdd k_C_init 2 rfl) rfl 0 rfl ?_
  refine zj_iconst o (zdd k_C_init 3 rfl) zki_0 ?_
  obtain ⟨σ1, e_σ1, h⟩ := zbd h
  refine zj_newa_byte (N := 0) (mc := 1) (ms := 0) o (zdd k_C_init 4 rfl) ac_byte (by decide) (by decide) (by decide) hrm (by decide) (by decide) ?_
  rw [Option.some.inj e_σ1]
  change zPJ X 1 0 _ _ _ _
  obtain ⟨a2, e_a2, h⟩ := zbd h
  rw [Option.some.inj e_a2]
  obtain ⟨σ3, e_σ3, h⟩ := zbd h
  refine zj_pP o (zdd k_C_init 5 rfl) fl_C_7 (Or.inr ⟨_, rfl⟩) rfl e_σ3 ?_
  cases h
  exact zr_v o hr (zdd k_C_init 6 rfl)
def f_C_isBlank (p0 : Int32) : Option (Int32) :=
(if p0 = 32 then (
some 1) else
if p0 = 10 then (
some 1) else
some 0).bind zbool
set_option maxRecDepth 100000 in
set_option maxHeartbeats 4000000 in
theorem m_C_isBlank {l : Launch} {b : Nat} {ex : Nat → Value} {D : va_G} {ca : Nat → ClassId} {σ : zSt} {p0 : Int32} {z : Int32} (h : f_C_isBlank p0 = some z) : zMT l b ex D ca 1 y_C_isBlank c_C_isBlank n_C_isBlank r_ret_C_isBlank [.int p0] σ (some (.int z)) σ 0 0 := by
  obtain ⟨z0, hbd, hz⟩ := zbd h
  obtain ⟨hzb, rfl⟩ := zbool_some hz
  have h := hbd
  refine zmt_of (by decide) (Nat.le_of_ble_eq_true rfl) ⟨.boolean, rfl, zb_nar hzb⟩ (fun X o hin hrm _ _ _ _ _ hr => ?_)
  have hr := hr 0 0 (by decide) (by decide)
  have o : zOK X "WantShelves$Scanner" c_C_isBlank n_C_isBlank 1 := o
  change zPJ X 0 0 0 [(0, .int p0)] [] σ
  refine zj_iload_n o (zdd k_C_isBlank 0 rfl) rfl 0 rfl ?_
  refine zj_bipush o (zdd k_C_isBlank 1 rfl) zkb_32 ?_
  refine zj_icmp_eq (tgt := 12) o (zdd k_C_isBlank 2 rfl) (by decide) (fun hc => ?_) (fun hc => ?_)
  · rw [if_pos hc] at h
    refine zj_iconst o (zdd k_C_isBlank 6 rfl) zki_1 ?_
    refine zj_goto (tgt := 17) o (zdd k_C_isBlank 7 rfl) (by decide) ?_
    cases h
    exact zr_i o hr (zdd k_C_isBlank 9 rfl)
  · rw [if_neg hc] at h
    refine zj_iload_n o (zdd k_C_isBlank 3 rfl) rfl 0 rfl ?_
    refine zj_bipush o (zdd k_C_isBlank 4 rfl) zkb_10 ?_
    refine zj_icmp_ne (tgt := 16) o (zdd k_C_isBlank 5 rfl) (by decide) (fun hc => ?_) (fun hc => ?_)
    · rw [if_neg hc] at h
      refine zj_iconst o (zdd k_C_isBlank 8 rfl) zki_0 ?_
      cases h
      exact zr_i o hr (zdd k_C_isBlank 9 rfl)
    · rw [if_pos hc] at h
      refine zj_iconst o (zdd k_C_isBlank 6 rfl) zki_1 ?_
      refine zj_goto (tgt := 17) o (zdd k_C_isBlank 7 rfl) (by decide) ?_
      cases h
      exact zr_i o hr (zdd k_C_isBlank 9 rfl)
def f_C_isLetter (p0 : Int32) : Option (Int32) :=
(if p0 < 97 then (
some 0) else
if 122 < p0 then (
some 0) else
some 1).bind zbool
set_option maxRecDepth 100000 in
set_option maxHeartbeats 4000000 in
theorem m_C_isLetter {l : Launch} {b : Nat} {ex : Nat → Value} {D : va_G} {ca : Nat → ClassId} {σ : zSt} {p0 : Int32} {z : Int32} (h : f_C_isLetter p0 = some z) : zMT l b ex D ca 1 y_C_isLetter c_C_isLetter n_C_isLetter r_ret_C_isLetter [.int p0] σ (some (.int z)) σ 0 0 := by
  obtain ⟨z0, hbd, hz⟩ := zbd h
  obtain ⟨hzb, rfl⟩ := zbool_some hz
  have h := hbd
  refine zmt_of (by decide) (Nat.le_of_ble_eq_true rfl) ⟨.boolean, rfl, zb_nar hzb⟩ (fun X o hin hrm _ _ _ _ _ hr => ?_)
  have hr := hr 0 0 (by decide) (by decide)
  have o : zOK X "WantShelves$Scanner" c_C_isLetter n_C_isLetter 1 := o
  change zPJ X 0 0 0 [(0, .int p0)] [] σ
  refine zj_iload_n o (zdd k_C_isLetter 0 rfl) rfl 0 rfl ?_
  refine zj_bipush o (zdd k_C_isLetter 1 rfl) zkb_97 ?_
  refine zj_icmp_lt (tgt := 16) o (zdd k_C_isLetter 2 rfl) (by decide) (fun hc => ?_) (fun hc => ?_)
  · rw [if_pos hc] at h
    refine zj_iconst o (zdd k_C_isLetter 8 rfl) zki_0 ?_
    cases h
    exact zr_i o hr (zdd k_C_isLetter 9 rfl)
  · rw [if_neg hc] at h
    refine zj_iload_n o (zdd k_C_isLetter 3 rfl) rfl 0 rfl ?_
    refine zj_bipush o (zdd k_C_isLetter 4 rfl) zkb_122 ?_
    refine zj_icmp_gt (tgt := 16) o (zdd k_C_isLetter 5 rfl) (by decide) (fun hc => ?_) (fun hc => ?_)
    · rw [if_pos hc] at h
      refine zj_iconst o (zdd k_C_isLetter 8 rfl) zki_0 ?_
      cases h
      exact zr_i o hr (zdd k_C_isLetter 9 rfl)
    · rw [if_neg hc] at h
      refine zj_iconst o (zdd k_C_isLetter 6 rfl) zki_1 ?_
      refine zj_goto (tgt := 17) o (zdd k_C_isLetter 7 rfl) (by decide) ?_
      cases h
      exact zr_i o hr (zdd k_C_isLetter 9 rfl)
def f_C_wordKind_52 (k4 : zSt → Nat → Int32 → Int32 → Int32 → Option (Int32)) (k22 : zSt → Nat → Int32 → Int32 → Int32 → Int32 → Int32 → Option (Int32)) (σ : zSt) (v0 : Nat) (v1 : Int32) (v2 : Int32) (v3 : Int32) (v4 : Int32) (v5 : Int32) (s0 : Int32) : Option (Int32) :=
(f_J_charAt0 1 (v3 + v5)).bind fun x1 =>
if s0 = x1 then (
k22 σ v0 v1 v2 v3 (v4 + 1) (v5 + 1)) else
k22 σ v0 v1 v2 v3 v4 (v5 + 1)
set_option maxRecDepth 100000 in
set_option maxHeartbeats 4000000 in
theorem r_C_wordKind_52 {X : zCX} (o : zOK X "WantShelves$Scanner" c_C_wordKind n_C_wordKind 5) {k4 : zSt → Nat → Int32 → Int32 → Int32 → Option (Int32)} {k22 : zSt → Nat → Int32 → Int32 → Int32 → Int32 → Int32 → Option (Int32)} (hk4 : ∀ {σ : zSt} {v0 : Nat} {v1 : Int32} {v2 : Int32} {v3 : Int32} {z : Int32}, k4 σ v0 v1 v2 v3 = some z → zRX X 0 0 (some (.int z)) σ → zPJ X 0 0 4 [(0, .ref v0), (1, .int v1), (2, .int v2), (3, .int v3)] [] σ) (hk22 : ∀ {σ : zSt} {v0 : Nat} {v1 : Int32} {v2 : Int32} {v3 : Int32} {v4 : Int32} {v5 : Int32} {z : Int32}, k22 σ v0 v1 v2 v3 v4 v5 = some z → zRX X 0 0 (some (.int z)) σ → zPJ X 0 0 22 [(0, .ref v0), (1, .int v1), (2, .int v2), (3, .int v3), (4, .int v4), (5, .int v5)] [] σ) {σ : zSt} {v0 : Nat} {v1 : Int32} {v2 : Int32} {v3 : Int32} {v4 : Int32} {v5 : Int32} {s0 : Int32} {z : Int32} (h : f_C_wordKind_52 k4 k22 σ v0 v1 v2 v3 v4 v5 s0 = some z) (hr : zRX X 0 0 (some (.int z)) σ) : zPJ X 0 0 52 [(0, .ref v0), (1, .int v1), (2, .int v2), (3, .int v3), (4, .int v4), (5, .int v5)] [.int s0] σ := by
  unfold f_C_wordKind_52 at h
  refine zj_istore (loc' := [(6, .int s0), (0, .ref v0), (1, .int v1), (2, .int v2), (3, .int v3), (4, .int v4), (5, .int v5)]) o (zdd k_C_wordKind 29 rfl) (by decide) rfl ?_
  refine zj_iload o (zdd k_C_wordKind 30 rfl) 0 rfl ?_
  refine zj_ldcW o (zdd k_C_wordKind 31 rfl) ?_
  refine zj_iload_n o (zdd k_C_wordKind 32 rfl) rfl 4 rfl ?_
  refine zj_iload o (zdd k_C_wordKind 33 rfl) 6 rfl ?_
  refine zj_iadd o (zdd k_C_wordKind 34 rfl) ?_
  obtain ⟨x1, e_x1, h⟩ := zbd h
  refine zc_X o (zdd k_C_wordKind 35 rfl) ml_C_76 mv_J_charAt0 rfl (zgx_some e_x1).1 (by decide) [.int (v3 + v5)] [.int s0] rfl (Nat.le_of_ble_eq_true rfl) rfl (m_J_charAt0 e_x1) ?_
  change zPJ X 0 0 _ _ [.int x1, .int s0] _
  refine zj_icmp_ne (tgt := 71) o (zdd k_C_wordKind 36 rfl) (by decide) (fun hc => ?_) (fun hc => ?_)
  · rw [if_neg hc] at h
    refine zj_iinc (v := v5 + 1) (loc' := [(5, .int (v5 + 1)), (6, .int s0), (0, .ref v0), (1, .int v1), (2, .int v2), (3, .int v3), (4, .int v4)]) o (zdd k_C_wordKind 38 rfl) 6 rfl (by rw [zki_1]) (by decide) rfl ?_
    refine zj_goto (tgt := 22) o (zdd k_C_wordKind 39 rfl) (by decide) ?_
    exact zj_sub [2, 3, 4, 5, 6, 0] rfl (hk22 h hr)
  · rw [if_pos hc] at h
    refine zj_iinc (v := v4 + 1) (loc' := [(4, .int (v4 + 1)), (6, .int s0), (0, .ref v0), (1, .int v1), (2, .int v2), (3, .int v3), (5, .int v5)]) o (zdd k_C_wordKind 37 rfl) 5 rfl (by rw [zki_1]) (by decide) rfl ?_
    refine zj_iinc (v := v5 + 1) (loc' := [(5, .int (v5 + 1)), (4, .int (v4 + 1)), (6, .int s0), (0, .ref v0), (1, .int v1), (2, .int v2), (3, .int v3)]) o (zdd k_C_wordKind 38 rfl) 6 rfl (by rw [zki_1]) (by decide) rfl ?_
    refine zj_goto (tgt := 22) o (zdd k_C_wordKind 39 rfl) (by decide) ?_
    exact zj_sub [3, 4, 5, 6, 1, 0] rfl (hk22 h hr)
def f_C_wordKind_77 (k4 : zSt → Nat → Int32 → Int32 → Int32 → Option (Int32)) (σ : zSt) (v0 : Nat) (v1 : Int32) (v2 : Int32) (v3 : Int32) (v4 : Int32) : Option (Int32) :=
if v4 = 8 then (
some v2) else
k4 σ v0 v1 (v2 + 1) (v3 + 8)
set_option maxRecDepth 100000 in
set_option maxHeartbeats 4000000 in
theorem r_C_wordKind_77 {X : zCX} (o : zOK X "WantShelves$Scanner" c_C_wordKind n_C_wordKind 5) {k4 : zSt → Nat → Int32 → Int32 → Int32 → Option (Int32)} (hk4 : ∀ {σ : zSt} {v0 : Nat} {v1 : Int32} {v2 : Int32} {v3 : Int32} {z : Int32}, k4 σ v0 v1 v2 v3 = some z → zRX X 0 0 (some (.int z)) σ → zPJ X 0 0 4 [(0, .ref v0), (1, .int v1), (2, .int v2), (3, .int v3)] [] σ) {σ : zSt} {v0 : Nat} {v1 : Int32} {v2 : Int32} {v3 : Int32} {v4 : Int32} {z : Int32} (h : f_C_wordKind_77 k4 σ v0 v1 v2 v3 v4 = some z) (hr : zRX X 0 0 (some (.int z)) σ) : zPJ X 0 0 77 [(0, .ref v0), (1, .int v1), (2, .int v2), (3, .int v3), (4, .int v4)] [] σ := by
  unfold f_C_wordKind_77 at h
  refine zj_iload o (zdd k_C_wordKind 40 rfl) 4 rfl ?_
  refine zj_bipush o (zdd k_C_wordKind 41 rfl) zkb_8 ?_
  refine zj_icmp_ne (tgt := 86) o (zdd k_C_wordKind 42 rfl) (by decide) (fun hc => ?_) (fun hc => ?_)
  · rw [if_neg hc] at h
    refine zj_iinc (v := v2 + 1) (loc' := [(2, .int (v2 + 1)), (0, .ref v0), (1, .int v1), (3, .int v3), (4, .int v4)]) o (zdd k_C_wordKind 45 rfl) 2 rfl (by rw [zki_1]) (by decide) rfl ?_
    refine zj_iinc (v := v3 + 8) (loc' := [(3, .int (v3 + 8)), (2, .int (v2 + 1)), (0, .ref v0), (1, .int v1), (4, .int v4)]) o (zdd k_C_wordKind 46 rfl) 3 rfl (by rw [zki_8]) (by decide) rfl ?_
    refine zj_goto (tgt := 4) o (zdd k_C_wordKind 47 rfl) (by decide) ?_
    exact zj_sub [2, 3, 1, 0] rfl (hk4 h hr)
  · rw [if_pos hc] at h
    refine zj_iload_n o (zdd k_C_wordKind 43 rfl) rfl 2 rfl ?_
    cases h
    exact zr_i o hr (zdd k_C_wordKind 44 rfl)
def f_C_wordKind_22 (k4 : zSt → Nat → Int32 → Int32 → Int32 → Option (Int32)) (k22 : zSt → Nat → Int32 → Int32 → Int32 → Int32 → Int32 → Option (Int32)) (σ : zSt) (v0 : Nat) (v1 : Int32) (v2 : Int32) (v3 : Int32) (v4 : Int32) (v5 : Int32) : Option (Int32) :=
if 8 ≤ v5 then (
f_C_wordKind_77 k4 σ v0 v1 v2 v3 v4) else
if v1 ≤ v5 then (
f_C_wordKind_52 k4 k22 σ v0 v1 v2 v3 v4 v5 32) else
(zgP σ 7 v0 4).bind fun a1 =>
(zgI σ 7 v0 1).bind fun x2 =>
(zaI σ 2 a1 (x2 + v5)).bind fun x3 =>
f_C_wordKind_52 k4 k22 σ v0 v1 v2 v3 v4 v5 x3
set_option maxRecDepth 100000 in
set_option maxHeartbeats 4000000 in
theorem r_C_wordKind_22 {X : zCX} (o : zOK X "WantShelves$Scanner" c_C_wordKind n_C_wordKind 5) {k4 : zSt → Nat → Int32 → Int32 → Int32 → Option (Int32)} {k22 : zSt → Nat → Int32 → Int32 → Int32 → Int32 → Int32 → Option (Int32)} (hk4 : ∀ {σ : zSt} {v0 : Nat} {v1 : Int32} {v2 : Int32} {v3 : Int32} {z : Int32}, k4 σ v0 v1 v2 v3 = some z → zRX X 0 0 (some (.int z)) σ → zPJ X 0 0 4 [(0, .ref v0), (1, .int v1), (2, .int v2), (3, .int v3)] [] σ) (hk22 : ∀ {σ : zSt} {v0 : Nat} {v1 : Int32} {v2 : Int32} {v3 : Int32} {v4 : Int32} {v5 : Int32} {z : Int32}, k22 σ v0 v1 v2 v3 v4 v5 = some z → zRX X 0 0 (some (.int z)) σ → zPJ X 0 0 22 [(0, .ref v0), (1, .int v1), (2, .int v2), (3, .int v3), (4, .int v4), (5, .int v5)] [] σ) {σ : zSt} {v0 : Nat} {v1 : Int32} {v2 : Int32} {v3 : Int32} {v4 : Int32} {v5 : Int32} {z : Int32} (h : f_C_wordKind_22 k4 k22 σ v0 v1 v2 v3 v4 v5 = some z) (hr : zRX X 0 0 (some (.int z)) σ) : zPJ X 0 0 22 [(0, .ref v0), (1, .int v1), (2, .int v2), (3, .int v3), (4, .int v4), (5, .int v5)] [] σ := by
  unfold f_C_wordKind_22 at h
  refine zj_iload o (zdd k_C_wordKind 14 rfl) 5 rfl ?_
  refine zj_bipush o (zdd k_C_wordKind 15 rfl) zkb_8 ?_
  refine zj_icmp_ge (tgt := 77) o (zdd k_C_wordKind 16 rfl) (by decide) (fun hc => ?_) (fun hc => ?_)
  · rw [if_pos hc] at h
    exact zj_sub [0, 1, 2, 3, 4] rfl (r_C_wordKind_77 o hk4 h hr)
  · rw [if_neg hc] at h
    refine zj_iload o (zdd k_C_wordKind 17 rfl) 5 rfl ?_
    refine zj_iload_n o (zdd k_C_wordKind 18 rfl) rfl 1 rfl ?_
    refine zj_icmp_ge (tgt := 50) o (zdd k_C_wordKind 19 rfl) (by decide) (fun hc => ?_) (fun hc => ?_)
    · rw [if_pos hc] at h
      refine zj_bipush o (zdd k_C_wordKind 28 rfl) zkb_32 ?_
      exact zj_sub [0, 1, 2, 3, 4, 5] rfl (r_C_wordKind_52 o hk4 hk22 h hr)
    · rw [if_neg hc] at h
      refine zj_aload_n o (zdd k_C_wordKind 20 rfl) rfl 0 rfl ?_
      obtain ⟨a1, e_a1, h⟩ := zbd h
      refine zj_gP o (zdd k_C_wordKind 21 rfl) fl_C_7 rfl e_a1 ?_
      refine zj_aload_n o (zdd k_C_wordKind 22 rfl) rfl 0 rfl ?_
      obtain ⟨x2, e_x2, h⟩ := zbd h
      refine zj_gI o (zdd k_C_wordKind 23 rfl) fl_C_33 rfl e_x2 ?_
      refine zj_iload o (zdd k_C_wordKind 24 rfl) 5 rfl ?_
      refine zj_iadd o (zdd k_C_wordKind 25 rfl) ?_
      obtain ⟨x3, e_x3, h⟩ := zbd h
      refine zj_bald o (zdd k_C_wordKind 26 rfl) e_x3 ?_
      refine zj_goto (tgt := 52) o (zdd k_C_wordKind 27 rfl) (by decide) ?_
      exact zj_sub [0, 1, 2, 3, 4, 5] rfl (r_C_wordKind_52 o hk4 hk22 h hr)
def f_C_wordKind_22L (k4 : zSt → Nat → Int32 → Int32 → Int32 → Option (Int32)) : Nat → zSt → Nat → Int32 → Int32 → Int32 → Int32 → Int32 → Option (Int32)
  | 0 => fun _ _ _ _ _ _ _ => none
  | n + 1 => f_C_wordKind_22  k4 (f_C_wordKind_22L k4 n)
theorem r_C_wordKind_22L {X : zCX} (o : zOK X "WantShelves$Scanner" c_C_wordKind n_C_wordKind 5) {k4 : zSt → Nat → Int32 → Int32 → Int32 → Option (Int32)} (hk4 : ∀ {σ : zSt} {v0 : Nat} {v1 : Int32} {v2 : Int32} {v3 : Int32} {z : Int32}, k4 σ v0 v1 v2 v3 = some z → zRX X 0 0 (some (.int z)) σ → zPJ X 0 0 4 [(0, .ref v0), (1, .int v1), (2, .int v2), (3, .int v3)] [] σ) : ∀ (n : Nat) {σ : zSt} {v0 : Nat} {v1 : Int32} {v2 : Int32} {v3 : Int32} {v4 : Int32} {v5 : Int32} {z : Int32}, f_C_wordKind_22L k4 n σ v0 v1 v2 v3 v4 v5 = some z → zRX X 0 0 (some (.int z)) σ → zPJ X 0 0 22 [(0, .ref v0), (1, .int v1), (2, .int v2), (3, .int v3), (4, .int v4), (5, .int v5)] [] σ
  | 0 => fun h _ => by cases h
  | n + 1 => fun h hr => r_C_wordKind_22 o hk4 (r_C_wordKind_22L o hk4 n) h hr
def f_C_wordKind_4 (k4 : zSt → Nat → Int32 → Int32 → Int32 → Option (Int32)) (σ : zSt) (v0 : Nat) (v1 : Int32) (v2 : Int32) (v3 : Int32) : Option (Int32) :=
(f_J_length0 1).bind fun x1 =>
if x1 < v3 + 8 then (
some 3) else
f_C_wordKind_22L k4 zfu σ v0 v1 v2 v3 0 0
set_option maxRecDepth 100000 in
set_option maxHeartbeats 4000000 in
theorem r_C_wordKind_4 {X : zCX} (o : zOK X "WantShelves$Scanner" c_C_wordKind n_C_wordKind 5) {k4 : zSt → Nat → Int32 → Int32 → Int32 → Option (Int32)} (hk4 : ∀ {σ : zSt} {v0 : Nat} {v1 : Int32} {v2 : Int32} {v3 : Int32} {z : Int32}, k4 σ v0 v1 v2 v3 = some z → zRX X 0 0 (some (.int z)) σ → zPJ X 0 0 4 [(0, .ref v0), (1, .int v1), (2, .int v2), (3, .int v3)] [] σ) {σ : zSt} {v0 : Nat} {v1 : Int32} {v2 : Int32} {v3 : Int32} {z : Int32} (h : f_C_wordKind_4 k4 σ v0 v1 v2 v3 = some z) (hr : zRX X 0 0 (some (.int z)) σ) : zPJ X 0 0 4 [(0, .ref v0), (1, .int v1), (2, .int v2), (3, .int v3)] [] σ := by
  unfold f_C_wordKind_4 at h
  refine zj_iload_n o (zdd k_C_wordKind 4 rfl) rfl 3 rfl ?_
  refine zj_bipush o (zdd k_C_wordKind 5 rfl) zkb_8 ?_
  refine zj_iadd o (zdd k_C_wordKind 6 rfl) ?_
  refine zj_ldcW o (zdd k_C_wordKind 7 rfl) ?_
  obtain ⟨x1, e_x1, h⟩ := zbd h
  refine zc_X o (zdd k_C_wordKind 8 rfl) ml_C_73 mv_J_length0 rfl (zgx_some e_x1).1 (by decide) [] [.int (v3 + 8)] rfl (Nat.le_of_ble_eq_true rfl) rfl (m_J_length0 e_x1) ?_
  change zPJ X 0 0 _ _ [.int x1, .int (v3 + 8)] _
  refine zj_icmp_gt (tgt := 95) o (zdd k_C_wordKind 9 rfl) (by decide) (fun hc => ?_) (fun hc => ?_)
  · rw [if_pos hc] at h
    refine zj_iconst o (zdd k_C_wordKind 48 rfl) zki_3 ?_
    cases h
    exact zr_i o hr (zdd k_C_wordKind 49 rfl)
  · rw [if_neg hc] at h
    refine zj_iconst o (zdd k_C_wordKind 10 rfl) zki_0 ?_
    refine zj_istore (loc' := [(4, .int 0), (0, .ref v0), (1, .int v1), (2, .int v2), (3, .int v3)]) o (zdd k_C_wordKind 11 rfl) (by decide) rfl ?_
    refine zj_iconst o (zdd k_C_wordKind 12 rfl) zki_0 ?_
    refine zj_istore (loc' := [(5, .int 0), (4, .int 0), (0, .ref v0), (1, .int v1), (2, .int v2), (3, .int v3)]) o (zdd k_C_wordKind 13 rfl) (by decide) rfl ?_
    exact zj_sub [2, 3, 4, 5, 1, 0] rfl (r_C_wordKind_22L o hk4 zfu h hr)
def f_C_wordKind_4L : Nat → zSt → Nat → Int32 → Int32 → Int32 → Option (Int32)
  | 0 => fun _ _ _ _ _ => none
  | n + 1 => f_C_wordKind_4  (f_C_wordKind_4L  n)
theorem r_C_wordKind_4L {X : zCX} (o : zOK X "WantShelves$Scanner" c_C_wordKind n_C_wordKind 5) : ∀ (n : Nat) {σ : zSt} {v0 : Nat} {v1 : Int32} {v2 : Int32} {v3 : Int32} {z : Int32}, f_C_wordKind_4L n σ v0 v1 v2 v3 = some z → zRX X 0 0 (some (.int z)) σ → zPJ X 0 0 4 [(0, .ref v0), (1, .int v1), (2, .int v2), (3, .int v3)] [] σ
  | 0 => fun h _ => by cases h
  | n + 1 => fun h hr => r_C_wordKind_4 o (r_C_wordKind_4L o  n) h hr
def f_C_wordKind (σ : zSt) (t : Nat) (p0 : Int32) : Option (Int32) :=
zg σ 7 t (
f_C_wordKind_4L zfu σ t p0 4 0)
set_option maxRecDepth 100000 in
set_option maxHeartbeats 4000000 in
theorem m_C_wordKind {l : Launch} {b : Nat} {ex : Nat → Value} {D : va_G} {ca : Nat → ClassId} {σ : zSt} {t : Nat} {p0 : Int32} {z : Int32} (h : f_C_wordKind σ t p0 = some z) : zMT l b ex D ca 5 y_C_wordKind c_C_wordKind n_C_wordKind r_ret_C_wordKind [.ref t, .int p0] σ (some (.int z)) σ 0 0 := by
  obtain ⟨_, hg0⟩ := zg_some h
  have h := hg0
  refine zmt_of (by decide) (Nat.le_of_ble_eq_true rfl) ⟨.int, rfl, rfl⟩ (fun X o hin hrm _ _ _ _ _ hr => ?_)
  have hr := hr 0 0 (by decide) (by decide)
  have o : zOK X "WantShelves$Scanner" c_C_wordKind n_C_wordKind 5 := o
  change zPJ X 0 0 0 [(0, .ref t), (1, .int p0)] [] σ
  refine zj_iconst o (zdd k_C_wordKind 0 rfl) zki_4 ?_
  refine zj_istore_n (loc' := [(2, .int 4), (0, .ref t), (1, .int p0)]) o (zdd k_C_wordKind 1 rfl) rfl (by decide) rfl ?_
  refine zj_iconst o (zdd k_C_wordKind 2 rfl) zki_0 ?_
  refine zj_istore_n (loc' := [(3, .int 0), (2, .int 4), (0, .ref t), (1, .int p0)]) o (zdd k_C_wordKind 3 rfl) rfl (by decide) rfl ?_
  exact zj_sub [2, 3, 1, 0] rfl (r_C_wordKind_4L o  zfu h hr)
def f_C_scanWord_68 (σ : zSt) (v0 : Nat) : Option (zSt) :=
(zgI σ 7 v0 6).bind fun x1 =>
(zgI σ 7 v0 1).bind fun x2 =>
if x1 - x2 ≤ 8 then (
(zgI σ 7 v0 6).bind fun x3 =>
(zgI σ 7 v0 1).bind fun x4 =>
(f_C_wordKind σ v0 (x3 - x4)).bind fun x5 =>
(zsI σ 7 v0 0 x5).bind fun σ6 =>
some σ6) else
(zsI σ 7 v0 0 1).bind fun σ7 =>
some σ7
set_option maxRecDepth 100000 in
set_option maxHeartbeats 4000000 in
theorem r_C_scanWord_68 {X : zCX} (o : zOK X "WantShelves$Scanner" c_C_scanWord n_C_scanWord 6) {σ : zSt} {v0 : Nat} {z : zSt} (h : f_C_scanWord_68 σ v0 = some z) (hr : zRX X 0 0 none z) : zPJ X 0 0 68 [(0, .ref v0)] [] σ := by
  unfold f_C_scanWord_68 at h
  refine zj_aload_n o (zdd k_C_scanWord 39 rfl) rfl 0 rfl ?_
  refine zj_aload_n o (zdd k_C_scanWord 40 rfl) rfl 0 rfl ?_
  obtain ⟨x1, e_x1, h⟩ := zbd h
  refine zj_gI o (zdd k_C_scanWord 41 rfl) fl_C_23 rfl e_x1 ?_
  refine zj_aload_n o (zdd k_C_scanWord 42 rfl) rfl 0 rfl ?_
  obtain ⟨x2, e_x2, h⟩ := zbd h
  refine zj_gI o (zdd k_C_scanWord 43 rfl) fl_C_33 rfl e_x2 ?_
  refine zj_isub o (zdd k_C_scanWord 44 rfl) ?_
  refine zj_bipush o (zdd k_C_scanWord 45 rfl) zkb_8 ?_
  refine zj_icmp_le (tgt := 87) o (zdd k_C_scanWord 46 rfl) (by decide) (fun hc => ?_) (fun hc => ?_)
  · rw [if_pos hc] at h
    refine zj_aload_n o (zdd k_C_scanWord 49 rfl) rfl 0 rfl ?_
    refine zj_aload_n o (zdd k_C_scanWord 50 rfl) rfl 0 rfl ?_
    obtain ⟨x3, e_x3, h⟩ := zbd h
    refine zj_gI o (zdd k_C_scanWord 51 rfl) fl_C_23 rfl e_x3 ?_
    refine zj_aload_n o (zdd k_C_scanWord 52 rfl) rfl 0 rfl ?_
    obtain ⟨x4, e_x4, h⟩ := zbd h
    refine zj_gI o (zdd k_C_scanWord 53 rfl) fl_C_33 rfl e_x4 ?_
    refine zj_isub o (zdd k_C_scanWord 54 rfl) ?_
    obtain ⟨x5, e_x5, h⟩ := zbd h
    refine zc_V o (zdd k_C_scanWord 55 rfl) ml_C_65 mv_C_wordKind ⟨rfl, by decide⟩ (zg_some e_x5).1 (by decide) [.int (x3 - x4)] [.ref v0] rfl (Nat.le_of_ble_eq_true rfl) rfl (m_C_wordKind e_x5) ?_
    change zPJ X 0 0 _ _ [.int x5, .ref v0] _
    obtain ⟨σ6, e_σ6, h⟩ := zbd h
    refine zj_pI o (zdd k_C_scanWord 56 rfl) fl_C_36 rfl rfl e_σ6 ?_
    cases h
    exact zr_v o hr (zdd k_C_scanWord 57 rfl)
  · rw [if_neg hc] at h
    refine zj_iconst o (zdd k_C_scanWord 47 rfl) zki_1 ?_
    refine zj_goto (tgt := 100) o (zdd k_C_scanWord 48 rfl) (by decide) ?_
    obtain ⟨σ7, e_σ7, h⟩ := zbd h
    refine zj_pI o (zdd k_C_scanWord 56 rfl) fl_C_36 rfl rfl e_σ7 ?_
    cases h
    exact zr_v o hr (zdd k_C_scanWord 57 rfl)
def f_C_scanWord_10 (k10 : zSt → Nat → Int32 → Option (zSt)) (σ : zSt) (v0 : Nat) (v1 : Int32) : Option (zSt) :=
(zgI σ 7 v0 5).bind fun x1 =>
if x1 ≤ v1 then (
f_C_scanWord_68 σ v0) else
(zgP σ 7 v0 4).bind fun a2 =>
(zaI σ 2 a2 v1).bind fun x3 =>
(f_C_isLetter x3).bind fun x4 =>
if x4 = 0 then (
f_C_scanWord_68 σ v0) else
(zgJ σ 7 v0 3).bind fun x5 =>
(zgP σ 7 v0 4).bind fun a6 =>
(zaI σ 2 a6 v1).bind fun x7 =>
(zsJ σ 7 v0 3 ((x5 * 32) + (Int32.toInt64 ((x7 - 97) + 1)))).bind fun σ8 =>
(zsI σ8 7 v0 6 (v1 + 1)).bind fun σ9 =>
k10 σ9 v0 (v1 + 1)
set_option maxRecDepth 100000 in
set_option maxHeartbeats 4000000 in
theorem r_C_scanWord_10 {X : zCX} (o : zOK X "WantShelves$Scanner" c_C_scanWord n_C_scanWord 6) {k10 : zSt → Nat → Int32 → Option (zSt)} (hk10 : ∀ {σ : zSt} {v0 : Nat} {v1 : Int32} {z : zSt}, k10 σ v0 v1 = some z → zRX X 0 0 none z → zPJ X 0 0 10 [(0, .ref v0), (1, .int v1)] [] σ) {σ : zSt} {v0 : Nat} {v1 : Int32} {z : zSt} (h : f_C_scanWord_10 k10 σ v0 v1 = some z) (hr : zRX X 0 0 none z) : zPJ X 0 0 10 [(0, .ref v0), (1, .int v1)] [] σ := by
  unfold f_C_scanWord_10 at h
  refine zj_iload_n o (zdd k_C_scanWord 6 rfl) rfl 1 rfl ?_
  refine zj_aload_n o (zdd k_C_scanWord 7 rfl) rfl 0 rfl ?_
  obtain ⟨x1, e_x1, h⟩ := zbd h
  refine zj_gI o (zdd k_C_scanWord 8 rfl) fl_C_19 rfl e_x1 ?_
  refine zj_icmp_ge (tgt := 68) o (zdd k_C_scanWord 9 rfl) (by decide) (fun hc => ?_) (fun hc => ?_)
  · rw [if_pos hc] at h
    exact zj_sub [0] rfl (r_C_scanWord_68 o  h hr)
  · rw [if_neg hc] at h
    refine zj_aload_n o (zdd k_C_scanWord 10 rfl) rfl 0 rfl ?_
    obtain ⟨a2, e_a2, h⟩ := zbd h
    refine zj_gP o (zdd k_C_scanWord 11 rfl) fl_C_7 rfl e_a2 ?_
    refine zj_iload_n o (zdd k_C_scanWord 12 rfl) rfl 1 rfl ?_
    obtain ⟨x3, e_x3, h⟩ := zbd h
    refine zj_bald o (zdd k_C_scanWord 13 rfl) e_x3 ?_
    obtain ⟨x4, e_x4, h⟩ := zbd h
    refine zc_S o (zdd k_C_scanWord 14 rfl) ml_C_39 ms_C_isLetter (by decide) [.int x3] [] rfl (Nat.le_of_ble_eq_true rfl) rfl (m_C_isLetter e_x4) ?_
    change zPJ X 0 0 _ _ [.int x4] _
    refine zj_if_eq (tgt := 68) o (zdd k_C_scanWord 15 rfl) (by decide) (fun hc => ?_) (fun hc => ?_)
    · rw [if_pos hc] at h
      exact zj_sub [0] rfl (r_C_scanWord_68 o  h hr)
    · rw [if_neg hc] at h
      refine zj_aload_n o (zdd k_C_scanWord 16 rfl) rfl 0 rfl ?_
      refine zj_aload_n o (zdd k_C_scanWord 17 rfl) rfl 0 rfl ?_
      obtain ⟨x5, e_x5, h⟩ := zbd h
      refine zj_gJ o (zdd k_C_scanWord 18 rfl) fl_C_59 rfl e_x5 ?_
      refine zj_ldc2 o (zdd k_C_scanWord 19 rfl) lc_C_63 ?_
      refine zj_lmul o (zdd k_C_scanWord 20 rfl) ?_
      refine zj_aload_n o (zdd k_C_scanWord 21 rfl) rfl 0 rfl ?_
      obtain ⟨a6, e_a6, h⟩ := zbd h
      refine zj_gP o (zdd k_C_scanWord 22 rfl) fl_C_7 rfl e_a6 ?_
      refine zj_iload_n o (zdd k_C_scanWord 23 rfl) rfl 1 rfl ?_
      obtain ⟨x7, e_x7, h⟩ := zbd h
      refine zj_bald o (zdd k_C_scanWord 24 rfl) e_x7 ?_
      refine zj_bipush o (zdd k_C_scanWord 25 rfl) zkb_97 ?_
      refine zj_isub o (zdd k_C_scanWord 26 rfl) ?_
      refine zj_iconst o (zdd k_C_scanWord 27 rfl) zki_1 ?_
      refine zj_iadd o (zdd k_C_scanWord 28 rfl) ?_
      refine zj_i2l o (zdd k_C_scanWord 29 rfl) ?_
      refine zj_ladd o (zdd k_C_scanWord 30 rfl) ?_
      obtain ⟨σ8, e_σ8, h⟩ := zbd h
      refine zj_pJ o (zdd k_C_scanWord 31 rfl) fl_C_59 rfl rfl e_σ8 ?_
      refine zj_aload_n o (zdd k_C_scanWord 32 rfl) rfl 0 rfl ?_
      refine zj_iload_n o (zdd k_C_scanWord 33 rfl) rfl 1 rfl ?_
      refine zj_iconst o (zdd k_C_scanWord 34 rfl) zki_1 ?_
      refine zj_iadd o (zdd k_C_scanWord 35 rfl) ?_
      obtain ⟨σ9, e_σ9, h⟩ := zbd h
      refine zj_pI o (zdd k_C_scanWord 36 rfl) fl_C_23 rfl rfl e_σ9 ?_
      refine zj_iinc (v := v1 + 1) (loc' := [(1, .int (v1 + 1)), (0, .ref v0)]) o (zdd k_C_scanWord 37 rfl) 1 rfl (by rw [zki_1]) (by decide) rfl ?_
      refine zj_goto (tgt := 10) o (zdd k_C_scanWord 38 rfl) (by decide) ?_
      exact zj_sub [1, 0] rfl (hk10 h hr)
def f_C_scanWord_10L : Nat → zSt → Nat → Int32 → Option (zSt)
  | 0 => fun _ _ _ => none
  | n + 1 => f_C_scanWord_10  (f_C_scanWord_10L  n)
theorem r_C_scanWord_10L {X : zCX} (o : zOK X "WantShelves$Scanner" c_C_scanWord n_C_scanWord 6) : ∀ (n : Nat) {σ : zSt} {v0 : Nat} {v1 : Int32} {z : zSt}, f_C_scanWord_10L n σ v0 v1 = some z → zRX X 0 0 none z → zPJ X 0 0 10 [(0, .ref v0), (1, .int v1)] [] σ
  | 0 => fun h _ => by cases h
  | n + 1 => fun h hr => r_C_scanWord_10 o (r_C_scanWord_10L o  n) h hr
def f_C_scanWord (σ : zSt) (t : Nat) : Option (zSt) :=
zg σ 7 t (
(zsJ σ 7 t 3 0).bind fun σ1 =>
(zgI σ1 7 t 6).bind fun x2 =>
f_C_scanWord_10L zfu σ1 t x2)
set_option maxRecDepth 100000 in
set_option maxHeartbeats 4000000 in
theorem m_C_scanWord {l : Launch} {b : Nat} {ex : Nat → Value} {D : va_G} {ca : Nat → ClassId} {σ : zSt} {t : Nat} {z : zSt} (h : f_C_scanWord σ t = some z) : zMT l b ex D ca 6 y_C_scanWord c_C_scanWord n_C_scanWord r_ret_C_scanWord [.ref t] σ none z 0 0 := by
  obtain ⟨_, hg0⟩ := zg_some h
  have h := hg0
  refine zmt_of (by decide) (Nat.le_of_ble_eq_true rfl) rfl (fun X o hin hrm _ _ _ _ _ hr => ?_)
  have hr := hr 0 0 (by decide) (by decide)
  have o : zOK X "WantShelves$Scanner" c_C_scanWord n_C_scanWord 6 := o
  change zPJ X 0 0 0 [(0, .ref t)] [] σ
  refine zj_aload_n o (zdd k_C_scanWord 0 rfl) rfl 0 rfl ?_
  refine zj_lconst (v := 0) o (zdd k_C_scanWord 1 rfl) rfl ?_
  obtain ⟨σ1, e_σ1, h⟩ := zbd h
  refine zj_pJ o (zdd k_C_scanWord 2 rfl) fl_C_59 rfl rfl e_σ1 ?_
  refine zj_aload_n o (zdd k_C_scanWord 3 rfl) rfl 0 rfl ?_
  obtain ⟨x2, e_x2, h⟩ := zbd h
  refine zj_gI o (zdd k_C_scanWord 4 rfl) fl_C_23 rfl e_x2 ?_
  refine zj_istore_n (loc' := [(1, .int x2), (0, .ref t)]) o (zdd k_C_scanWord 5 rfl) rfl (by decide) rfl ?_
  exact zj_sub [1, 0] rfl (r_C_scanWord_10L o  zfu h hr)
def f_C_isDigit (p0 : Int32) : Option (Int32) :=
(if p0 < 48 then (
some 0) else
if 57 < p0 then (
some 0) else
some 1).bind zbool
set_option maxRecDepth 100000 in
set_option maxHeartbeats 4000000 in
theorem m_C_isDigit {l : Launch} {b : Nat} {ex : Nat → Value} {D : va_G} {ca : Nat → ClassId} {σ : zSt} {p0 : Int32} {z : Int32} (h : f_C_isDigit p0 = some z) : zMT l b ex D ca 1 y_C_isDigit c_C_isDigit n_C_isDigit r_ret_C_isDigit [.int p0] σ (some (.int z)) σ 0 0 := by
  obtain ⟨z0, hbd, hz⟩ := zbd h
  obtain ⟨hzb, rfl⟩ := zbool_some hz
  have h := hbd
  refine zmt_of (by decide) (Nat.le_of_ble_eq_true rfl) ⟨.boolean, rfl, zb_nar hzb⟩ (fun X o hin hrm _ _ _ _ _ hr => ?_)
  have hr := hr 0 0 (by decide) (by decide)
  have o : zOK X "WantShelves$Scanner" c_C_isDigit n_C_isDigit 1 := o
  change zPJ X 0 0 0 [(0, .int p0)] [] σ
  refine zj_iload_n o (zdd k_C_isDigit 0 rfl) rfl 0 rfl ?_
  refine zj_bipush o (zdd k_C_isDigit 1 rfl) zkb_48 ?_
  refine zj_icmp_lt (tgt := 16) o (zdd k_C_isDigit 2 rfl) (by decide) (fun hc => ?_) (fun hc => ?_)
  · rw [if_pos hc] at h
    refine zj_iconst o (zdd k_C_isDigit 8 rfl) zki_0 ?_
    cases h
    exact zr_i o hr (zdd k_C_isDigit 9 rfl)
  · rw [if_neg hc] at h
    refine zj_iload_n o (zdd k_C_isDigit 3 rfl) rfl 0 rfl ?_
    refine zj_bipush o (zdd k_C_isDigit 4 rfl) zkb_57 ?_
    refine zj_icmp_gt (tgt := 16) o (zdd k_C_isDigit 5 rfl) (by decide) (fun hc => ?_) (fun hc => ?_)
    · rw [if_pos hc] at h
      refine zj_iconst o (zdd k_C_isDigit 8 rfl) zki_0 ?_
      cases h
      exact zr_i o hr (zdd k_C_isDigit 9 rfl)
    · rw [if_neg hc] at h
      refine zj_iconst o (zdd k_C_isDigit 6 rfl) zki_1 ?_
      refine zj_goto (tgt := 17) o (zdd k_C_isDigit 7 rfl) (by decide) ?_
      cases h
      exact zr_i o hr (zdd k_C_isDigit 9 rfl)
def f_C_scanNumber_95 (σ : zSt) (v0 : Nat) (s0 : Int32) : Option (zSt) :=
(zgI σ 7 v0 6).bind fun x1 =>
(zgI σ 7 v0 1).bind fun x2 =>
if 4 < x1 - x2 then (
(zsI σ 7 v0 0 1).bind fun σ3 =>
some σ3) else
if s0 = 0 then (
(zsI σ 7 v0 0 2).bind fun σ4 =>
some σ4) else
(zsI σ 7 v0 0 1).bind fun σ5 =>
some σ5
set_option maxRecDepth 100000 in
set_option maxHeartbeats 4000000 in
theorem r_C_scanNumber_95 {X : zCX} (o : zOK X "WantShelves$Scanner" c_C_scanNumber n_C_scanNumber 2) {σ : zSt} {v0 : Nat} {s0 : Int32} {z : zSt} (h : f_C_scanNumber_95 σ v0 s0 = some z) (hr : zRX X 0 0 none z) : zPJ X 0 0 95 [(0, .ref v0)] [.int s0] σ := by
  unfold f_C_scanNumber_95 at h
  refine zj_istore_n (loc' := [(1, .int s0), (0, .ref v0)]) o (zdd k_C_scanNumber 51 rfl) rfl (by decide) rfl ?_
  refine zj_aload_n o (zdd k_C_scanNumber 52 rfl) rfl 1 rfl ?_
  refine zj_aload_n o (zdd k_C_scanNumber 53 rfl) rfl 1 rfl ?_
  obtain ⟨x1, e_x1, h⟩ := zbd h
  refine zj_gI o (zdd k_C_scanNumber 54 rfl) fl_C_23 rfl e_x1 ?_
  refine zj_aload_n o (zdd k_C_scanNumber 55 rfl) rfl 1 rfl ?_
  obtain ⟨x2, e_x2, h⟩ := zbd h
  refine zj_gI o (zdd k_C_scanNumber 56 rfl) fl_C_33 rfl e_x2 ?_
  refine zj_isub o (zdd k_C_scanNumber 57 rfl) ?_
  refine zj_iconst o (zdd k_C_scanNumber 58 rfl) zki_4 ?_
  refine zj_icmp_gt (tgt := 114) o (zdd k_C_scanNumber 59 rfl) (by decide) (fun hc => ?_) (fun hc => ?_)
  · rw [if_pos hc] at h
    refine zj_iconst o (zdd k_C_scanNumber 62 rfl) zki_1 ?_
    refine zj_goto (tgt := 119) o (zdd k_C_scanNumber 63 rfl) (by decide) ?_
    obtain ⟨σ3, e_σ3, h⟩ := zbd h
    refine zj_pI o (zdd k_C_scanNumber 65 rfl) fl_C_36 rfl rfl e_σ3 ?_
    cases h
    exact zr_v o hr (zdd k_C_scanNumber 66 rfl)
  · rw [if_neg hc] at h
    refine zj_iload_n o (zdd k_C_scanNumber 60 rfl) rfl 0 rfl ?_
    refine zj_if_eq (tgt := 118) o (zdd k_C_scanNumber 61 rfl) (by decide) (fun hc => ?_) (fun hc => ?_)
    · rw [if_pos hc] at h
      refine zj_iconst o (zdd k_C_scanNumber 64 rfl) zki_2 ?_
      obtain ⟨σ4, e_σ4, h⟩ := zbd h
      refine zj_pI o (zdd k_C_scanNumber 65 rfl) fl_C_36 rfl rfl e_σ4 ?_
      cases h
      exact zr_v o hr (zdd k_C_scanNumber 66 rfl)
    · rw [if_neg hc] at h
      refine zj_iconst o (zdd k_C_scanNumber 62 rfl) zki_1 ?_
      refine zj_goto (tgt := 119) o (zdd k_C_scanNumber 63 rfl) (by decide) ?_
      obtain ⟨σ5, e_σ5, h⟩ := zbd h
      refine zj_pI o (zdd k_C_scanNumber 65 rfl) fl_C_36 rfl rfl e_σ5 ?_
      cases h
      exact zr_v o hr (zdd k_C_scanNumber 66 rfl)
def f_C_scanNumber_94 (σ : zSt) (v0 : Nat) : Option (zSt) :=
f_C_scanNumber_95 σ v0 0
set_option maxRecDepth 100000 in
set_option maxHeartbeats 4000000 in
theorem r_C_scanNumber_94 {X : zCX} (o : zOK X "WantShelves$Scanner" c_C_scanNumber n_C_scanNumber 2) {σ : zSt} {v0 : Nat} {z : zSt} (h : f_C_scanNumber_94 σ v0 = some z) (hr : zRX X 0 0 none z) : zPJ X 0 0 94 [(0, .ref v0)] [] σ := by
  unfold f_C_scanNumber_94 at h
  refine zj_iconst o (zdd k_C_scanNumber 50 rfl) zki_0 ?_
  exact zj_sub [0] rfl (r_C_scanNumber_95 o  h hr)
def f_C_scanNumber_64 (σ : zSt) (v0 : Nat) : Option (zSt) :=
(zgI σ 7 v0 6).bind fun x1 =>
(zgI σ 7 v0 5).bind fun x2 =>
if x2 ≤ x1 then (
f_C_scanNumber_94 σ v0) else
(zgP σ 7 v0 4).bind fun a3 =>
(zgI σ 7 v0 6).bind fun x4 =>
(zaI σ 2 a3 x4).bind fun x5 =>
(f_C_isLetter x5).bind fun x6 =>
if x6 = 0 then (
f_C_scanNumber_94 σ v0) else
f_C_scanNumber_95 σ v0 1
set_option maxRecDepth 100000 in
set_option maxHeartbeats 4000000 in
theorem r_C_scanNumber_64 {X : zCX} (o : zOK X "WantShelves$Scanner" c_C_scanNumber n_C_scanNumber 2) {σ : zSt} {v0 : Nat} {z : zSt} (h : f_C_scanNumber_64 σ v0 = some z) (hr : zRX X 0 0 none z) : zPJ X 0 0 64 [(0, .ref v0)] [] σ := by
  unfold f_C_scanNumber_64 at h
  refine zj_aload_n o (zdd k_C_scanNumber 36 rfl) rfl 0 rfl ?_
  obtain ⟨x1, e_x1, h⟩ := zbd h
  refine zj_gI o (zdd k_C_scanNumber 37 rfl) fl_C_23 rfl e_x1 ?_
  refine zj_aload_n o (zdd k_C_scanNumber 38 rfl) rfl 0 rfl ?_
  obtain ⟨x2, e_x2, h⟩ := zbd h
  refine zj_gI o (zdd k_C_scanNumber 39 rfl) fl_C_19 rfl e_x2 ?_
  refine zj_icmp_ge (tgt := 94) o (zdd k_C_scanNumber 40 rfl) (by decide) (fun hc => ?_) (fun hc => ?_)
  · rw [if_pos hc] at h
    exact zj_sub [0] rfl (r_C_scanNumber_94 o  h hr)
  · rw [if_neg hc] at h
    refine zj_aload_n o (zdd k_C_scanNumber 41 rfl) rfl 0 rfl ?_
    obtain ⟨a3, e_a3, h⟩ := zbd h
    refine zj_gP o (zdd k_C_scanNumber 42 rfl) fl_C_7 rfl e_a3 ?_
    refine zj_aload_n o (zdd k_C_scanNumber 43 rfl) rfl 0 rfl ?_
    obtain ⟨x4, e_x4, h⟩ := zbd h
    refine zj_gI o (zdd k_C_scanNumber 44 rfl) fl_C_23 rfl e_x4 ?_
    obtain ⟨x5, e_x5, h⟩ := zbd h
    refine zj_bald o (zdd k_C_scanNumber 45 rfl) e_x5 ?_
    obtain ⟨x6, e_x6, h⟩ := zbd h
    refine zc_S o (zdd k_C_scanNumber 46 rfl) ml_C_39 ms_C_isLetter (by decide) [.int x5] [] rfl (Nat.le_of_ble_eq_true rfl) rfl (m_C_isLetter e_x6) ?_
    change zPJ X 0 0 _ _ [.int x6] _
    refine zj_if_eq (tgt := 94) o (zdd k_C_scanNumber 47 rfl) (by decide) (fun hc => ?_) (fun hc => ?_)
    · rw [if_pos hc] at h
      exact zj_sub [0] rfl (r_C_scanNumber_94 o  h hr)
    · rw [if_neg hc] at h
      refine zj_iconst o (zdd k_C_scanNumber 48 rfl) zki_1 ?_
      refine zj_goto (tgt := 95) o (zdd k_C_scanNumber 49 rfl) (by decide) ?_
      exact zj_sub [0] rfl (r_C_scanNumber_95 o  h hr)
def f_C_scanNumber_10 (k10 : zSt → Nat → Int32 → Option (zSt)) (σ : zSt) (v0 : Nat) (v1 : Int32) : Option (zSt) :=
(zgI σ 7 v0 5).bind fun x1 =>
if x1 ≤ v1 then (
f_C_scanNumber_64 σ v0) else
(zgP σ 7 v0 4).bind fun a2 =>
(zaI σ 2 a2 v1).bind fun x3 =>
(f_C_isDigit x3).bind fun x4 =>
if x4 = 0 then (
f_C_scanNumber_64 σ v0) else
(zgI σ 7 v0 2).bind fun x5 =>
(zgP σ 7 v0 4).bind fun a6 =>
(zaI σ 2 a6 v1).bind fun x7 =>
(zsI σ 7 v0 2 ((x5 * 10) + (x7 - 48))).bind fun σ8 =>
(zsI σ8 7 v0 6 (v1 + 1)).bind fun σ9 =>
k10 σ9 v0 (v1 + 1)
set_option maxRecDepth 100000 in
set_option maxHeartbeats 4000000 in
theorem r_C_scanNumber_10 {X : zCX} (o : zOK X "WantShelves$Scanner" c_C_scanNumber n_C_scanNumber 2) {k10 : zSt → Nat → Int32 → Option (zSt)} (hk10 : ∀ {σ : zSt} {v0 : Nat} {v1 : Int32} {z : zSt}, k10 σ v0 v1 = some z → zRX X 0 0 none z → zPJ X 0 0 10 [(0, .ref v0), (1, .int v1)] [] σ) {σ : zSt} {v0 : Nat} {v1 : Int32} {z : zSt} (h : f_C_scanNumber_10 k10 σ v0 v1 = some z) (hr : zRX X 0 0 none z) : zPJ X 0 0 10 [(0, .ref v0), (1, .int v1)] [] σ := by
  unfold f_C_scanNumber_10 at h
  refine zj_iload_n o (zdd k_C_scanNumber 6 rfl) rfl 1 rfl ?_
  refine zj_aload_n o (zdd k_C_scanNumber 7 rfl) rfl 0 rfl ?_
  obtain ⟨x1, e_x1, h⟩ := zbd h
  refine zj_gI o (zdd k_C_scanNumber 8 rfl) fl_C_19 rfl e_x1 ?_
  refine zj_icmp_ge (tgt := 64) o (zdd k_C_scanNumber 9 rfl) (by decide) (fun hc => ?_) (fun hc => ?_)
  · rw [if_pos hc] at h
    exact zj_sub [0] rfl (r_C_scanNumber_64 o  h hr)
  · rw [if_neg hc] at h
    refine zj_aload_n o (zdd k_C_scanNumber 10 rfl) rfl 0 rfl ?_
    obtain ⟨a2, e_a2, h⟩ := zbd h
    refine zj_gP o (zdd k_C_scanNumber 11 rfl) fl_C_7 rfl e_a2 ?_
    refine zj_iload_n o (zdd k_C_scanNumber 12 rfl) rfl 1 rfl ?_
    obtain ⟨x3, e_x3, h⟩ := zbd h
    refine zj_bald o (zdd k_C_scanNumber 13 rfl) e_x3 ?_
    obtain ⟨x4, e_x4, h⟩ := zbd h
    refine zc_S o (zdd k_C_scanNumber 14 rfl) ml_C_45 ms_C_isDigit (by decide) [.int x3] [] rfl (Nat.le_of_ble_eq_true rfl) rfl (m_C_isDigit e_x4) ?_
    change zPJ X 0 0 _ _ [.int x4] _
    refine zj_if_eq (tgt := 64) o (zdd k_C_scanNumber 15 rfl) (by decide) (fun hc => ?_) (fun hc => ?_)
    · rw [if_pos hc] at h
      exact zj_sub [0] rfl (r_C_scanNumber_64 o  h hr)
    · rw [if_neg hc] at h
      refine zj_aload_n o (zdd k_C_scanNumber 16 rfl) rfl 0 rfl ?_
      refine zj_aload_n o (zdd k_C_scanNumber 17 rfl) rfl 0 rfl ?_
      obtain ⟨x5, e_x5, h⟩ := zbd h
      refine zj_gI o (zdd k_C_scanNumber 18 rfl) fl_C_68 rfl e_x5 ?_
      refine zj_bipush o (zdd k_C_scanNumber 19 rfl) zkb_10 ?_
      refine zj_imul o (zdd k_C_scanNumber 20 rfl) ?_
      refine zj_aload_n o (zdd k_C_scanNumber 21 rfl) rfl 0 rfl ?_
      obtain ⟨a6, e_a6, h⟩ := zbd h
      refine zj_gP o (zdd k_C_scanNumber 22 rfl) fl_C_7 rfl e_a6 ?_
      refine zj_iload_n o (zdd k_C_scanNumber 23 rfl) rfl 1 rfl ?_
      obtain ⟨x7, e_x7, h⟩ := zbd h
      refine zj_bald o (zdd k_C_scanNumber 24 rfl) e_x7 ?_
      refine zj_bipush o (zdd k_C_scanNumber 25 rfl) zkb_48 ?_
      refine zj_isub o (zdd k_C_scanNumber 26 rfl) ?_
      refine zj_iadd o (zdd k_C_scanNumber 27 rfl) ?_
      obtain ⟨σ8, e_σ8, h⟩ := zbd h
      refine zj_pI o (zdd k_C_scanNumber 28 rfl) fl_C_68 rfl rfl e_σ8 ?_
      refine zj_aload_n o (zdd k_C_scanNumber 29 rfl) rfl 0 rfl ?_
      refine zj_iload_n o (zdd k_C_scanNumber 30 rfl) rfl 1 rfl ?_
      refine zj_iconst o (zdd k_C_scanNumber 31 rfl) zki_1 ?_
      refine zj_iadd o (zdd k_C_scanNumber 32 rfl) ?_
      obtain ⟨σ9, e_σ9, h⟩ := zbd h
      refine zj_pI o (zdd k_C_scanNumber 33 rfl) fl_C_23 rfl rfl e_σ9 ?_
      refine zj_iinc (v := v1 + 1) (loc' := [(1, .int (v1 + 1)), (0, .ref v0)]) o (zdd k_C_scanNumber 34 rfl) 1 rfl (by rw [zki_1]) (by decide) rfl ?_
      refine zj_goto (tgt := 10) o (zdd k_C_scanNumber 35 rfl) (by decide) ?_
      exact zj_sub [1, 0] rfl (hk10 h hr)
def f_C_scanNumber_10L : Nat → zSt → Nat → Int32 → Option (zSt)
  | 0 => fun _ _ _ => none
  | n + 1 => f_C_scanNumber_10  (f_C_scanNumber_10L  n)
theorem r_C_scanNumber_10L {X : zCX} (o : zOK X "WantShelves$Scanner" c_C_scanNumber n_C_scanNumber 2) : ∀ (n : Nat) {σ : zSt} {v0 : Nat} {v1 : Int32} {z : zSt}, f_C_scanNumber_10L n σ v0 v1 = some z → zRX X 0 0 none z → zPJ X 0 0 10 [(0, .ref v0), (1, .int v1)] [] σ
  | 0 => fun h _ => by cases h
  | n + 1 => fun h hr => r_C_scanNumber_10 o (r_C_scanNumber_10L o  n) h hr
def f_C_scanNumber (σ : zSt) (t : Nat) : Option (zSt) :=
zg σ 7 t (
(zsI σ 7 t 2 0).bind fun σ1 =>
(zgI σ1 7 t 6).bind fun x2 =>
f_C_scanNumber_10L zfu σ1 t x2)
set_option maxRecDepth 100000 in
set_option maxHeartbeats 4000000 in
theorem m_C_scanNumber {l : Launch} {b : Nat} {ex : Nat → Value} {D : va_G} {ca : Nat → ClassId} {σ : zSt} {t : Nat} {z : zSt} (h : f_C_scanNumber σ t = some z) : zMT l b ex D ca 2 y_C_scanNumber c_C_scanNumber n_C_scanNumber r_ret_C_scanNumber [.ref t] σ none z 0 0 := by
  obtain ⟨_, hg0⟩ := zg_some h
  have h := hg0
  refine zmt_of (by decide) (Nat.le_of_ble_eq_true rfl) rfl (fun X o hin hrm _ _ _ _ _ hr => ?_)
  have hr := hr 0 0 (by decide) (by decide)
  have o : zOK X "WantShelves$Scanner" c_C_scanNumber n_C_scanNumber 2 := o
  change zPJ X 0 0 0 [(0, .ref t)] [] σ
  refine zj_aload_n o (zdd k_C_scanNumber 0 rfl) rfl 0 rfl ?_
  refine zj_iconst o (zdd k_C_scanNumber 1 rfl) zki_0 ?_
  obtain ⟨σ1, e_σ1, h⟩ := zbd h
  refine zj_pI o (zdd k_C_scanNumber 2 rfl) fl_C_68 rfl rfl e_σ1 ?_
  refine zj_aload_n o (zdd k_C_scanNumber 3 rfl) rfl 0 rfl ?_
  obtain ⟨x2, e_x2, h⟩ := zbd h
  refine zj_gI o (zdd k_C_scanNumber 4 rfl) fl_C_23 rfl e_x2 ?_
  refine zj_istore_n (loc' := [(1, .int x2), (0, .ref t)]) o (zdd k_C_scanNumber 5 rfl) rfl (by decide) rfl ?_
  exact zj_sub [1, 0] rfl (r_C_scanNumber_10L o  zfu h hr)
def f_C_advance_153 (σ : zSt) (v0 : Nat) (s0 : Int32) (s1 : Nat) : Option (zSt) :=
(zsI σ 7 s1 0 s0).bind fun σ1 =>
(zgI σ1 7 v0 6).bind fun x2 =>
(zsI σ1 7 v0 6 (x2 + 1)).bind fun σ3 =>
some σ3
set_option maxRecDepth 100000 in
set_option maxHeartbeats 4000000 in
theorem r_C_advance_153 {X : zCX} (o : zOK X "WantShelves$Scanner" c_C_advance n_C_advance 7) {σ : zSt} {v0 : Nat} {s0 : Int32} {s1 : Nat} {z : zSt} (h : f_C_advance_153 σ v0 s0 s1 = some z) (hr : zRX X 0 0 none z) : zPJ X 0 0 153 [(0, .ref v0)] [.int s0, .ref s1] σ := by
  unfold f_C_advance_153 at h
  obtain ⟨σ1, e_σ1, h⟩ := zbd h
  refine zj_pI o (zdd k_C_advance 76 rfl) fl_C_36 rfl rfl e_σ1 ?_
  refine zj_aload_n o (zdd k_C_advance 77 rfl) rfl 0 rfl ?_
  refine zj_dup o (zdd k_C_advance 78 rfl) rfl ?_
  obtain ⟨x2, e_x2, h⟩ := zbd h
  refine zj_gI o (zdd k_C_advance 79 rfl) fl_C_23 rfl e_x2 ?_
  refine zj_iconst o (zdd k_C_advance 80 rfl) zki_1 ?_
  refine zj_iadd o (zdd k_C_advance 81 rfl) ?_
  obtain ⟨σ3, e_σ3, h⟩ := zbd h
  refine zj_pI o (zdd k_C_advance 82 rfl) fl_C_23 rfl rfl e_σ3 ?_
  cases h
  exact zr_v o hr (zdd k_C_advance 83 rfl)
def f_C_advance_38 (σ : zSt) (v0 : Nat) : Option (zSt) :=
(zgI σ 7 v0 6).bind fun x1 =>
(zsI σ 7 v0 1 x1).bind fun σ2 =>
(zgI σ2 7 v0 6).bind fun x3 =>
(zgI σ2 7 v0 5).bind fun x4 =>
if x3 < x4 then (
(zgP σ2 7 v0 4).bind fun a5 =>
(zgI σ2 7 v0 6).bind fun x6 =>
(zaI σ2 2 a5 x6).bind fun x7 =>
(f_C_isLetter x7).bind fun x8 =>
if x8 = 0 then (
(zgP σ2 7 v0 4).bind fun a9 =>
(zgI σ2 7 v0 6).bind fun x10 =>
(zaI σ2 2 a9 x10).bind fun x11 =>
(f_C_isDigit x11).bind fun x12 =>
if x12 = 0 then (
(zgP σ2 7 v0 4).bind fun a13 =>
(zgI σ2 7 v0 6).bind fun x14 =>
(zaI σ2 2 a13 x14).bind fun x15 =>
(f_J_indexOf0 2 (zchr (x15 &&& 255))).bind fun x16 =>
if x16 < 0 then (
f_C_advance_153 σ2 v0 1 v0) else
(zgP σ2 7 v0 4).bind fun a17 =>
(zgI σ2 7 v0 6).bind fun x18 =>
(zaI σ2 2 a17 x18).bind fun x19 =>
f_C_advance_153 σ2 v0 x19 v0) else
(f_C_scanNumber σ2 v0).bind fun σ20 =>
some σ20) else
(f_C_scanWord σ2 v0).bind fun σ21 =>
some σ21) else
(zsI σ2 7 v0 0 0).bind fun σ22 =>
(zgI σ22 7 v0 5).bind fun x23 =>
(zsI σ22 7 v0 1 x23).bind fun σ24 =>
some σ24
set_option maxRecDepth 100000 in
set_option maxHeartbeats 4000000 in
theorem r_C_advance_38 {X : zCX} (o : zOK X "WantShelves$Scanner" c_C_advance n_C_advance 7) {σ : zSt} {v0 : Nat} {z : zSt} (h : f_C_advance_38 σ v0 = some z) (hr : zRX X 0 0 none z) : zPJ X 0 0 38 [(0, .ref v0)] [] σ := by
  unfold f_C_advance_38 at h
  refine zj_aload_n o (zdd k_C_advance 20 rfl) rfl 0 rfl ?_
  refine zj_aload_n o (zdd k_C_advance 21 rfl) rfl 0 rfl ?_
  obtain ⟨x1, e_x1, h⟩ := zbd h
  refine zj_gI o (zdd k_C_advance 22 rfl) fl_C_23 rfl e_x1 ?_
  obtain ⟨σ2, e_σ2, h⟩ := zbd h
  refine zj_pI o (zdd k_C_advance 23 rfl) fl_C_33 rfl rfl e_σ2 ?_
  refine zj_aload_n o (zdd k_C_advance 24 rfl) rfl 0 rfl ?_
  obtain ⟨x3, e_x3, h⟩ := zbd h
  refine zj_gI o (zdd k_C_advance 25 rfl) fl_C_23 rfl e_x3 ?_
  refine zj_aload_n o (zdd k_C_advance 26 rfl) rfl 0 rfl ?_
  obtain ⟨x4, e_x4, h⟩ := zbd h
  refine zj_gI o (zdd k_C_advance 27 rfl) fl_C_19 rfl e_x4 ?_
  refine zj_icmp_lt (tgt := 73) o (zdd k_C_advance 28 rfl) (by decide) (fun hc => ?_) (fun hc => ?_)
  · rw [if_pos hc] at h
    refine zj_aload_n o (zdd k_C_advance 37 rfl) rfl 0 rfl ?_
    obtain ⟨a5, e_a5, h⟩ := zbd h
    refine zj_gP o (zdd k_C_advance 38 rfl) fl_C_7 rfl e_a5 ?_
    refine zj_aload_n o (zdd k_C_advance 39 rfl) rfl 0 rfl ?_
    obtain ⟨x6, e_x6, h⟩ := zbd h
    refine zj_gI o (zdd k_C_advance 40 rfl) fl_C_23 rfl e_x6 ?_
    obtain ⟨x7, e_x7, h⟩ := zbd h
    refine zj_bald o (zdd k_C_advance 41 rfl) e_x7 ?_
    obtain ⟨x8, e_x8, h⟩ := zbd h
    refine zc_S o (zdd k_C_advance 42 rfl) ml_C_39 ms_C_isLetter (by decide) [.int x7] [] rfl (Nat.le_of_ble_eq_true rfl) rfl (m_C_isLetter e_x8) ?_
    change zPJ X 0 0 _ _ [.int x8] _
    refine zj_if_eq (tgt := 95) o (zdd k_C_advance 43 rfl) (by decide) (fun hc => ?_) (fun hc => ?_)
    · rw [if_pos hc] at h
      refine zj_aload_n o (zdd k_C_advance 47 rfl) rfl 0 rfl ?_
      obtain ⟨a9, e_a9, h⟩ := zbd h
      refine zj_gP o (zdd k_C_advance 48 rfl) fl_C_7 rfl e_a9 ?_
      refine zj_aload_n o (zdd k_C_advance 49 rfl) rfl 0 rfl ?_
      obtain ⟨x10, e_x10, h⟩ := zbd h
      refine zj_gI o (zdd k_C_advance 50 rfl) fl_C_23 rfl e_x10 ?_
      obtain ⟨x11, e_x11, h⟩ := zbd h
      refine zj_bald o (zdd k_C_advance 51 rfl) e_x11 ?_
      obtain ⟨x12, e_x12, h⟩ := zbd h
      refine zc_S o (zdd k_C_advance 52 rfl) ml_C_45 ms_C_isDigit (by decide) [.int x11] [] rfl (Nat.le_of_ble_eq_true rfl) rfl (m_C_isDigit e_x12) ?_
      change zPJ X 0 0 _ _ [.int x12] _
      refine zj_if_eq (tgt := 117) o (zdd k_C_advance 53 rfl) (by decide) (fun hc => ?_) (fun hc => ?_)
      · rw [if_pos hc] at h
        refine zj_aload_n o (zdd k_C_advance 57 rfl) rfl 0 rfl ?_
        refine zj_ldcG o (zdd k_C_advance 58 rfl) ?_
        refine zj_aload_n o (zdd k_C_advance 59 rfl) rfl 0 rfl ?_
        obtain ⟨a13, e_a13, h⟩ := zbd h
        refine zj_gP o (zdd k_C_advance 60 rfl) fl_C_7 rfl e_a13 ?_
        refine zj_aload_n o (zdd k_C_advance 61 rfl) rfl 0 rfl ?_
        obtain ⟨x14, e_x14, h⟩ := zbd h
        refine zj_gI o (zdd k_C_advance 62 rfl) fl_C_23 rfl e_x14 ?_
        obtain ⟨x15, e_x15, h⟩ := zbd h
        refine zj_bald o (zdd k_C_advance 63 rfl) e_x15 ?_
        refine zj_sipush o (zdd k_C_advance 64 rfl) zks_255 ?_
        refine zj_iand o (zdd k_C_advance 65 rfl) ?_
        refine zj_i2c o (zdd k_C_advance 66 rfl) ?_
        change zPJ X 0 0 _ _ [.int (zchr (x15 &&& 255)), .retAddr 2, .ref v0] _
        obtain ⟨x16, e_x16, h⟩ := zbd h
        refine zc_X o (zdd k_C_advance 67 rfl) ml_C_53 mv_J_indexOf0 rfl (zgx_some e_x16).1 (by decide) [.int (zchr (x15 &&& 255))] [.ref v0] rfl (Nat.le_of_ble_eq_true rfl) rfl (m_J_indexOf0 e_x16) ?_
        change zPJ X 0 0 _ _ [.int x16, .ref v0] _
        refine zj_if_lt (tgt := 152) o (zdd k_C_advance 68 rfl) (by decide) (fun hc => ?_) (fun hc => ?_)
        · rw [if_pos hc] at h
          refine zj_iconst o (zdd k_C_advance 75 rfl) zki_1 ?_
          exact zj_sub [0] rfl (r_C_advance_153 o  h hr)
        · rw [if_neg hc] at h
          refine zj_aload_n o (zdd k_C_advance 69 rfl) rfl 0 rfl ?_
          obtain ⟨a17, e_a17, h⟩ := zbd h
          refine zj_gP o (zdd k_C_advance 70 rfl) fl_C_7 rfl e_a17 ?_
          refine zj_aload_n o (zdd k_C_advance 71 rfl) rfl 0 rfl ?_
          obtain ⟨x18, e_x18, h⟩ := zbd h
          refine zj_gI o (zdd k_C_advance 72 rfl) fl_C_23 rfl e_x18 ?_
          obtain ⟨x19, e_x19, h⟩ := zbd h
          refine zj_bald o (zdd k_C_advance 73 rfl) e_x19 ?_
          refine zj_goto (tgt := 153) o (zdd k_C_advance 74 rfl) (by decide) ?_
          exact zj_sub [0] rfl (r_C_advance_153 o  h hr)
      · rw [if_neg hc] at h
        refine zj_aload_n o (zdd k_C_advance 54 rfl) rfl 0 rfl ?_
        obtain ⟨σ20, e_σ20, h⟩ := zbd h
        refine zc_V o (zdd k_C_advance 55 rfl) ml_C_48 mv_C_scanNumber ⟨rfl, by decide⟩ (zg_some e_σ20).1 (by decide) [] [] rfl (Nat.le_of_ble_eq_true rfl) rfl (m_C_scanNumber e_σ20) ?_
        change zPJ X 0 0 _ _ [] _
        refine zj_goto (tgt := 166) o (zdd k_C_advance 56 rfl) (by decide) ?_
        cases h
        exact zr_v o hr (zdd k_C_advance 83 rfl)
    · rw [if_neg hc] at h
      refine zj_aload_n o (zdd k_C_advance 44 rfl) rfl 0 rfl ?_
      obtain ⟨σ21, e_σ21, h⟩ := zbd h
      refine zc_V o (zdd k_C_advance 45 rfl) ml_C_42 mv_C_scanWord ⟨rfl, by decide⟩ (zg_some e_σ21).1 (by decide) [] [] rfl (Nat.le_of_ble_eq_true rfl) rfl (m_C_scanWord e_σ21) ?_
      change zPJ X 0 0 _ _ [] _
      refine zj_goto (tgt := 166) o (zdd k_C_advance 46 rfl) (by decide) ?_
      cases h
      exact zr_v o hr (zdd k_C_advance 83 rfl)
  · rw [if_neg hc] at h
    refine zj_aload_n o (zdd k_C_advance 29 rfl) rfl 0 rfl ?_
    refine zj_iconst o (zdd k_C_advance 30 rfl) zki_0 ?_
    obtain ⟨σ22, e_σ22, h⟩ := zbd h
    refine zj_pI o (zdd k_C_advance 31 rfl) fl_C_36 rfl rfl e_σ22 ?_
    refine zj_aload_n o (zdd k_C_advance 32 rfl) rfl 0 rfl ?_
    refine zj_aload_n o (zdd k_C_advance 33 rfl) rfl 0 rfl ?_
    obtain ⟨x23, e_x23, h⟩ := zbd h
    refine zj_gI o (zdd k_C_advance 34 rfl) fl_C_19 rfl e_x23 ?_
    obtain ⟨σ24, e_σ24, h⟩ := zbd h
    refine zj_pI o (zdd k_C_advance 35 rfl) fl_C_33 rfl rfl e_σ24 ?_
    refine zj_goto (tgt := 166) o (zdd k_C_advance 36 rfl) (by decide) ?_
    cases h
    exact zr_v o hr (zdd k_C_advance 83 rfl)
def f_C_advance_5 (k5 : zSt → Nat → Int32 → Option (zSt)) (σ : zSt) (v0 : Nat) (v1 : Int32) : Option (zSt) :=
(zgI σ 7 v0 5).bind fun x1 =>
if x1 ≤ v1 then (
f_C_advance_38 σ v0) else
(zgP σ 7 v0 4).bind fun a2 =>
(zaI σ 2 a2 v1).bind fun x3 =>
(f_C_isBlank x3).bind fun x4 =>
if x4 = 0 then (
f_C_advance_38 σ v0) else
(zsI σ 7 v0 6 (v1 + 1)).bind fun σ5 =>
k5 σ5 v0 (v1 + 1)
set_option maxRecDepth 100000 in
set_option maxHeartbeats 4000000 in
theorem r_C_advance_5 {X : zCX} (o : zOK X "WantShelves$Scanner" c_C_advance n_C_advance 7) {k5 : zSt → Nat → Int32 → Option (zSt)} (hk5 : ∀ {σ : zSt} {v0 : Nat} {v1 : Int32} {z : zSt}, k5 σ v0 v1 = some z → zRX X 0 0 none z → zPJ X 0 0 5 [(0, .ref v0), (1, .int v1)] [] σ) {σ : zSt} {v0 : Nat} {v1 : Int32} {z : zSt} (h : f_C_advance_5 k5 σ v0 v1 = some z) (hr : zRX X 0 0 none z) : zPJ X 0 0 5 [(0, .ref v0), (1, .int v1)] [] σ := by
  unfold f_C_advance_5 at h
  refine zj_iload_n o (zdd k_C_advance 3 rfl) rfl 1 rfl ?_
  refine zj_aload_n o (zdd k_C_advance 4 rfl) rfl 0 rfl ?_
  obtain ⟨x1, e_x1, h⟩ := zbd h
  refine zj_gI o (zdd k_C_advance 5 rfl) fl_C_19 rfl e_x1 ?_
  refine zj_icmp_ge (tgt := 38) o (zdd k_C_advance 6 rfl) (by decide) (fun hc => ?_) (fun hc => ?_)
  · rw [if_pos hc] at h
    exact zj_sub [0] rfl (r_C_advance_38 o  h hr)
  · rw [if_neg hc] at h
    refine zj_aload_n o (zdd k_C_advance 7 rfl) rfl 0 rfl ?_
    obtain ⟨a2, e_a2, h⟩ := zbd h
    refine zj_gP o (zdd k_C_advance 8 rfl) fl_C_7 rfl e_a2 ?_
    refine zj_iload_n o (zdd k_C_advance 9 rfl) rfl 1 rfl ?_
    obtain ⟨x3, e_x3, h⟩ := zbd h
    refine zj_bald o (zdd k_C_advance 10 rfl) e_x3 ?_
    obtain ⟨x4, e_x4, h⟩ := zbd h
    refine zc_S o (zdd k_C_advance 11 rfl) ml_C_29 ms_C_isBlank (by decide) [.int x3] [] rfl (Nat.le_of_ble_eq_true rfl) rfl (m_C_isBlank e_x4) ?_
    change zPJ X 0 0 _ _ [.int x4] _
    refine zj_if_eq (tgt := 38) o (zdd k_C_advance 12 rfl) (by decide) (fun hc => ?_) (fun hc => ?_)
    · rw [if_pos hc] at h
      exact zj_sub [0] rfl (r_C_advance_38 o  h hr)
    · rw [if_neg hc] at h
      refine zj_aload_n o (zdd k_C_advance 13 rfl) rfl 0 rfl ?_
      refine zj_iload_n o (zdd k_C_advance 14 rfl) rfl 1 rfl ?_
      refine zj_iconst o (zdd k_C_advance 15 rfl) zki_1 ?_
      refine zj_iadd o (zdd k_C_advance 16 rfl) ?_
      obtain ⟨σ5, e_σ5, h⟩ := zbd h
      refine zj_pI o (zdd k_C_advance 17 rfl) fl_C_23 rfl rfl e_σ5 ?_
      refine zj_iinc (v := v1 + 1) (loc' := [(1, .int (v1 + 1)), (0, .ref v0)]) o (zdd k_C_advance 18 rfl) 1 rfl (by rw [zki_1]) (by decide) rfl ?_
      refine zj_goto (tgt := 5) o (zdd k_C_advance 19 rfl) (by decide) ?_
      exact zj_sub [1, 0] rfl (hk5 h hr)
def f_C_advance_5L : Nat → zSt → Nat → Int32 → Option (zSt)
  | 0 => fun _ _ _ => none
  | n + 1 => f_C_advance_5  (f_C_advance_5L  n)
theorem r_C_advance_5L {X : zCX} (o : zOK X "WantShelves$Scanner" c_C_advance n_C_advance 7) : ∀ (n : Nat) {σ : zSt} {v0 : Nat} {v1 : Int32} {z : zSt}, f_C_advance_5L n σ v0 v1 = some z → zRX X 0 0 none z → zPJ X 0 0 5 [(0, .ref v0), (1, .int v1)] [] σ
  | 0 => fun h _ => by cases h
  | n + 1 => fun h hr => r_C_advance_5 o (r_C_advance_5L o  n) h hr
def f_C_advance (σ : zSt) (t : Nat) : Option (zSt) :=
zg σ 7 t (
(zgI σ 7 t 6).bind fun x1 =>
f_C_advance_5L zfu σ t x1)
set_option maxRecDepth 100000 in
set_option maxHeartbeats 4000000 in
theorem m_C_advance {l : Launch} {b : Nat} {ex : Nat → Value} {D : va_G} {ca : Nat → ClassId} {σ : zSt} {t : Nat} {z : zSt} (h : f_C_advance σ t = some z) : zMT l b ex D ca 7 y_C_advance c_C_advance n_C_advance r_ret_C_advance [.ref t] σ none z 0 0 := by
  obtain ⟨_, hg0⟩ := zg_some h
  have h := hg0
  refine zmt_of (by decide) (Nat.le_of_ble_eq_true rfl) rfl (fun X o hin hrm _ _ _ _ _ hr => ?_)
  have hr := hr 0 0 (by decide) (by decide)
  have o : zOK X "WantShelves$Scanner" c_C_advance n_C_advance 7 := o
  change zPJ X 0 0 0 [(0, .ref t)] [] σ
  refine zj_aload_n o (zdd k_C_advance 0 rfl) rfl 0 rfl ?_
  obtain ⟨x1, e_x1, h⟩ := zbd h
  refine zj_gI o (zdd k_C_advance 1 rfl) fl_C_23 rfl e_x1 ?_
  refine zj_istore_n (loc' := [(1, .int x1), (0, .ref t)]) o (zdd k_C_advance 2 rfl) rfl (by decide) rfl ?_
  exact zj_sub [1, 0] rfl (r_C_advance_5L o  zfu h hr)
def f_C_begin (σ : zSt) (t : Nat) (p0 : Nat) (p1 : Int32) : Option (zSt) :=
zg σ 7 t (
(zsP σ 7 t 4 p0).bind fun σ1 =>
(zlen σ1 2 p0).bind fun x2 =>
(zsI σ1 7 t 5 (zmin p1 x2)).bind fun σ3 =>
(zsI σ3 7 t 6 0).bind fun σ4 =>
(f_C_advance σ4 t).bind fun σ5 =>
some σ5)
set_option maxRecDepth 100000 in
set_option maxHeartbeats 4000000 in
theorem m_C_begin {l : Launch} {b : Nat} {ex : Nat → Value} {D : va_G} {ca : Nat → ClassId} {σ : zSt} {t : Nat} {p0 : Nat} {p1 : Int32} {z : zSt} (h : f_C_begin σ t p0 p1 = some z) : zMT l b ex D ca 8 y_C_begin c_C_begin n_C_begin r_ret_C_begin [.ref t, .ref p0, .int p1] σ none z 0 0 := by
  obtain ⟨_, hg0⟩ := zg_some h
  have h := hg0
  refine zmt_of (by decide) (Nat.le_of_ble_eq_true rfl) rfl (fun X o hin hrm _ _ _ _ _ hr => ?_)
  have hr := hr 0 0 (by decide) (by decide)
  have o : zOK X "WantShelves$Scanner" c_C_begin n_C_begin 8 := o
  change zPJ X 0 0 0 [(0, .ref t), (1, .ref p0), (2, .int p1)] [] σ
  refine zj_aload_n o (zdd k_C_begin 0 rfl) rfl 0 rfl ?_
  refine zj_aload_n o (zdd k_C_begin 1 rfl) rfl 1 rfl ?_
  obtain ⟨σ1, e_σ1, h⟩ := zbd h
  refine zj_pP o (zdd k_C_begin 2 rfl) fl_C_7 (Or.inr ⟨_, rfl⟩) rfl e_σ1 ?_
  refine zj_aload_n o (zdd k_C_begin 3 rfl) rfl 0 rfl ?_
  refine zj_iload_n o (zdd k_C_begin 4 rfl) rfl 2 rfl ?_
  refine zj_aload_n o (zdd k_C_begin 5 rfl) rfl 1 rfl ?_
  obtain ⟨x2, e_x2, h⟩ := zbd h
  refine zj_alen2 o (zdd k_C_begin 6 rfl) e_x2 ?_
  refine zj_mmin o (zdd k_C_begin 7 rfl) ml_C_13 (by decide) (Nat.le_of_ble_eq_true rfl) ?_
  obtain ⟨σ3, e_σ3, h⟩ := zbd h
  refine zj_pI o (zdd k_C_begin 8 rfl) fl_C_19 rfl rfl e_σ3 ?_
  refine zj_aload_n o (zdd k_C_begin 9 rfl) rfl 0 rfl ?_
  refine zj_iconst o (zdd k_C_begin 10 rfl) zki_0 ?_
  obtain ⟨σ4, e_σ4, h⟩ := zbd h
  refine zj_pI o (zdd k_C_begin 11 rfl) fl_C_23 rfl rfl e_σ4 ?_
  refine zj_aload_n o (zdd k_C_begin 12 rfl) rfl 0 rfl ?_
  obtain ⟨σ5, e_σ5, h⟩ := zbd h
  refine zc_V o (zdd k_C_begin 13 rfl) ml_C_26 mv_C_advance ⟨rfl, by decide⟩ (zg_some e_σ5).1 (by decide) [] [] rfl (Nat.le_of_ble_eq_true rfl) rfl (m_C_advance e_σ5) ?_
  change zPJ X 0 0 _ _ [] _
  cases h
  exact zr_v o hr (zdd k_C_begin 14 rfl)
