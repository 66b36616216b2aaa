def f_Q_law_1452 (xs : Nat → Int32) (L : Nat) (k18 : zSt → Nat → Nat → Int32 → Option (Int32 × zSt)) (σ : zSt) (v1 : Nat) (v2 : Nat) (v3 : Int32) : Option (Int32 × zSt) :=
(zsc xs L (v3 + 1)).bind fun x1 =>
(f_W_about σ v1 x1).bind fun x2 =>
(zsc xs L (v3 + 1)).bind fun x3 =>
(f_M_about σ v2 x3).bind fun x4 =>
if x2 = x4 then (
k18 σ v1 v2 (v3 + 6)) else
some (0, σ)
set_option maxRecDepth 100000 in
set_option maxHeartbeats 4000000 in
theorem r_Q_law_1452 {X : zCX} (o : zOK X "WantShelvesLaw" c_Q_law n_Q_law 133) {xs : Nat → Int32} {L : Nat} (hsc : zSC X xs L) (hrm : zRM X 134 41620) {k18 : zSt → Nat → Nat → Int32 → Option (Int32 × zSt)} (hk18 : ∀ {σ : zSt} {v1 : Nat} {v2 : Nat} {v3 : Int32} {z : Int32 × zSt}, k18 σ v1 v2 v3 = some z → zRX X 134 41620 (some (.int z.1)) z.2 → zPJ X 134 41620 18 [(0, .retAddr 0), (1, .ref v1), (2, .ref v2), (3, .int v3)] [] σ) {σ : zSt} {v1 : Nat} {v2 : Nat} {v3 : Int32} {z : Int32 × zSt} (h : f_Q_law_1452 xs L k18 σ v1 v2 v3 = some z) (hr : zRX X 134 41620 (some (.int z.1)) z.2) : zPJ X 134 41620 1452 [(0, .retAddr 0), (1, .ref v1), (2, .ref v2), (3, .int v3)] [] σ := by
  unfold f_Q_law_1452 at h
  refine zj_aload_n o (zdd k_Q_law_20 24 rfl) rfl 1 rfl ?_
  refine zj_sload_n o hsc (zdd k_Q_law_20 25 rfl) rfl 0 rfl ?_
  refine zj_iload_n o (zdd k_Q_law_20 26 rfl) rfl 3 rfl ?_
  refine zj_iconst o (zdd k_Q_law_20 27 rfl) zki_1 ?_
  refine zj_iadd o (zdd k_Q_law_20 28 rfl) ?_
  obtain ⟨x1, e_x1, h⟩ := zbd h
  refine zj_sald o hsc (zdd k_Q_law_20 29 rfl) e_x1 ?_
  obtain ⟨x2, e_x2, h⟩ := zbd h
  refine zj_callV (mc := 134) (ms := 41620) (mc' := 0) (ms' := 0) o (zdd k_Q_law_20 30 rfl) ml_Q_179 mv_W_about ⟨rfl, by decide⟩ (zg_some e_x2).1 (by decide) [.int x1] [] rfl (Nat.le_of_ble_eq_true rfl) rfl (m_W_about e_x2) hrm (by decide) ?_
  change zPJ X 134 41620 _ _ [.int x2] _
  refine zj_aload_n o (zdd k_Q_law_20 31 rfl) rfl 2 rfl ?_
  refine zj_sload_n o hsc (zdd k_Q_law_20 32 rfl) rfl 0 rfl ?_
  refine zj_iload_n o (zdd k_Q_law_20 33 rfl) rfl 3 rfl ?_
  refine zj_iconst o (zdd k_Q_law_20 34 rfl) zki_1 ?_
  refine zj_iadd o (zdd k_Q_law_20 35 rfl) ?_
  obtain ⟨x3, e_x3, h⟩ := zbd h
  refine zj_sald o hsc (zdd k_Q_law_20 36 rfl) e_x3 ?_
  obtain ⟨x4, e_x4, h⟩ := zbd h
  refine zj_callV (mc := 134) (ms := 41620) (mc' := 0) (ms' := 0) o (zdd k_Q_law_20 37 rfl) ml_Q_182 mv_M_about ⟨rfl, by decide⟩ (zg_some e_x4).1 (by decide) [.int x3] [.int x2] rfl (Nat.le_of_ble_eq_true rfl) rfl (m_M_about e_x4) hrm (by decide) ?_
  change zPJ X 134 41620 _ _ [.int x4, .int x2] _
  refine zj_icmp_eq (tgt := 1475) o (zdd k_Q_law_20 38 rfl) (by decide) (fun hc => ?_) (fun hc => ?_)
  · rw [if_pos hc] at h
    refine zj_iinc (v := v3 + 6) (loc' := [(3, .int (v3 + 6)), (0, .retAddr 0), (1, .ref v1), (2, .ref v2)]) o (zdd k_Q_law_20 41 rfl) 3 rfl (by rw [zki_6]) (by decide) rfl ?_
    refine zj_goto (tgt := 18) o (zdd k_Q_law_20 42 rfl) (by decide) ?_
    exact zj_sub [1, 2, 3, 0] rfl (hk18 h hr)
  · rw [if_neg hc] at h
    refine zj_iconst o (zdd k_Q_law_20 39 rfl) zki_0 ?_
    cases h
    exact zr_i o hr (zdd k_Q_law_20 40 rfl)
def f_Q_law_1429 (xs : Nat → Int32) (L : Nat) (k18 : zSt → Nat → Nat → Int32 → Option (Int32 × zSt)) (σ : zSt) (v1 : Nat) (v2 : Nat) (v3 : Int32) : Option (Int32 × zSt) :=
(zsc xs L (v3 + 1)).bind fun x1 =>
(f_W_back σ v1 x1).bind fun q2 =>
(zsc xs L (v3 + 1)).bind fun x3 =>
(f_M_back q2.2 v2 x3).bind fun q4 =>
if q2.1 = q4.1 then (
k18 q4.2 v1 v2 (v3 + 6)) else
some (0, q4.2)
set_option maxRecDepth 100000 in
set_option maxHeartbeats 4000000 in
theorem r_Q_law_1429 {X : zCX} (o : zOK X "WantShelvesLaw" c_Q_law n_Q_law 133) {xs : Nat → Int32} {L : Nat} (hsc : zSC X xs L) (hrm : zRM X 134 41620) {k18 : zSt → Nat → Nat → Int32 → Option (Int32 × zSt)} (hk18 : ∀ {σ : zSt} {v1 : Nat} {v2 : Nat} {v3 : Int32} {z : Int32 × zSt}, k18 σ v1 v2 v3 = some z → zRX X 134 41620 (some (.int z.1)) z.2 → zPJ X 134 41620 18 [(0, .retAddr 0), (1, .ref v1), (2, .ref v2), (3, .int v3)] [] σ) {σ : zSt} {v1 : Nat} {v2 : Nat} {v3 : Int32} {z : Int32 × zSt} (h : f_Q_law_1429 xs L k18 σ v1 v2 v3 = some z) (hr : zRX X 134 41620 (some (.int z.1)) z.2) : zPJ X 134 41620 1429 [(0, .retAddr 0), (1, .ref v1), (2, .ref v2), (3, .int v3)] [] σ := by
  unfold f_Q_law_1429 at h
  refine zj_aload_n o (zdd k_Q_law_20 7 rfl) rfl 1 rfl ?_
  refine zj_sload_n o hsc (zdd k_Q_law_20 8 rfl) rfl 0 rfl ?_
  refine zj_iload_n o (zdd k_Q_law_20 9 rfl) rfl 3 rfl ?_
  refine zj_iconst o (zdd k_Q_law_20 10 rfl) zki_1 ?_
  refine zj_iadd o (zdd k_Q_law_20 11 rfl) ?_
  obtain ⟨x1, e_x1, h⟩ := zbd h
  refine zj_sald o hsc (zdd k_Q_law_20 12 rfl) e_x1 ?_
  obtain ⟨q2, e_q2, h⟩ := zbd h
  refine zj_callV (mc := 134) (ms := 41620) (mc' := 0) (ms' := 0) o (zdd k_Q_law_20 13 rfl) ml_Q_175 mv_W_back ⟨rfl, by decide⟩ (zg_some e_q2).1 (by decide) [.int x1] [] rfl (Nat.le_of_ble_eq_true rfl) rfl (m_W_back e_q2) hrm (by decide) ?_
  change zPJ X 134 41620 _ _ [.int q2.1] _
  refine zj_aload_n o (zdd k_Q_law_20 14 rfl) rfl 2 rfl ?_
  refine zj_sload_n o hsc (zdd k_Q_law_20 15 rfl) rfl 0 rfl ?_
  refine zj_iload_n o (zdd k_Q_law_20 16 rfl) rfl 3 rfl ?_
  refine zj_iconst o (zdd k_Q_law_20 17 rfl) zki_1 ?_
  refine zj_iadd o (zdd k_Q_law_20 18 rfl) ?_
  obtain ⟨x3, e_x3, h⟩ := zbd h
  refine zj_sald o hsc (zdd k_Q_law_20 19 rfl) e_x3 ?_
  obtain ⟨q4, e_q4, h⟩ := zbd h
  refine zj_callV (mc := 134) (ms := 41620) (mc' := 0) (ms' := 0) o (zdd k_Q_law_20 20 rfl) ml_Q_178 mv_M_back ⟨rfl, by decide⟩ (zg_some e_q4).1 (by decide) [.int x3] [.int q2.1] rfl (Nat.le_of_ble_eq_true rfl) rfl (m_M_back e_q4) hrm (by decide) ?_
  change zPJ X 134 41620 _ _ [.int q4.1, .int q2.1] _
  refine zj_icmp_eq (tgt := 1475) o (zdd k_Q_law_20 21 rfl) (by decide) (fun hc => ?_) (fun hc => ?_)
  · rw [if_pos hc] at h
    refine zj_iinc (v := v3 + 6) (loc' := [(3, .int (v3 + 6)), (0, .retAddr 0), (1, .ref v1), (2, .ref v2)]) o (zdd k_Q_law_20 41 rfl) 3 rfl (by rw [zki_6]) (by decide) rfl ?_
    refine zj_goto (tgt := 18) o (zdd k_Q_law_20 42 rfl) (by decide) ?_
    exact zj_sub [1, 2, 3, 0] rfl (hk18 h hr)
  · rw [if_neg hc] at h
    refine zj_iconst o (zdd k_Q_law_20 22 rfl) zki_0 ?_
    cases h
    exact zr_i o hr (zdd k_Q_law_20 23 rfl)
def f_Q_law_1406 (xs : Nat → Int32) (L : Nat) (k18 : zSt → Nat → Nat → Int32 → Option (Int32 × zSt)) (σ : zSt) (v1 : Nat) (v2 : Nat) (v3 : Int32) : Option (Int32 × zSt) :=
(zsc xs L (v3 + 1)).bind fun x1 =>
(f_W_image σ v1 x1).bind fun q2 =>
(zsc xs L (v3 + 1)).bind fun x3 =>
(f_M_image q2.2 v2 x3).bind fun q4 =>
if q2.1 = q4.1 then (
k18 q4.2 v1 v2 (v3 + 6)) else
some (0, q4.2)
set_option maxRecDepth 100000 in
set_option maxHeartbeats 4000000 in
theorem r_Q_law_1406 {X : zCX} (o : zOK X "WantShelvesLaw" c_Q_law n_Q_law 133) {xs : Nat → Int32} {L : Nat} (hsc : zSC X xs L) (hrm : zRM X 134 41620) {k18 : zSt → Nat → Nat → Int32 → Option (Int32 × zSt)} (hk18 : ∀ {σ : zSt} {v1 : Nat} {v2 : Nat} {v3 : Int32} {z : Int32 × zSt}, k18 σ v1 v2 v3 = some z → zRX X 134 41620 (some (.int z.1)) z.2 → zPJ X 134 41620 18 [(0, .retAddr 0), (1, .ref v1), (2, .ref v2), (3, .int v3)] [] σ) {σ : zSt} {v1 : Nat} {v2 : Nat} {v3 : Int32} {z : Int32 × zSt} (h : f_Q_law_1406 xs L k18 σ v1 v2 v3 = some z) (hr : zRX X 134 41620 (some (.int z.1)) z.2) : zPJ X 134 41620 1406 [(0, .retAddr 0), (1, .ref v1), (2, .ref v2), (3, .int v3)] [] σ := by
  unfold f_Q_law_1406 at h
  refine zj_aload_n o (zdd k_Q_law_19 40 rfl) rfl 1 rfl ?_
  refine zj_sload_n o hsc (zdd k_Q_law_19 41 rfl) rfl 0 rfl ?_
  refine zj_iload_n o (zdd k_Q_law_19 42 rfl) rfl 3 rfl ?_
  refine zj_iconst o (zdd k_Q_law_19 43 rfl) zki_1 ?_
  refine zj_iadd o (zdd k_Q_law_19 44 rfl) ?_
  obtain ⟨x1, e_x1, h⟩ := zbd h
  refine zj_sald o hsc (zdd k_Q_law_19 45 rfl) e_x1 ?_
  obtain ⟨q2, e_q2, h⟩ := zbd h
  refine zj_callV (mc := 134) (ms := 41620) (mc' := 0) (ms' := 0) o (zdd k_Q_law_19 46 rfl) ml_Q_171 mv_W_image ⟨rfl, by decide⟩ (zg_some e_q2).1 (by decide) [.int x1] [] rfl (Nat.le_of_ble_eq_true rfl) rfl (m_W_image e_q2) hrm (by decide) ?_
  change zPJ X 134 41620 _ _ [.int q2.1] _
  refine zj_aload_n o (zdd k_Q_law_19 47 rfl) rfl 2 rfl ?_
  refine zj_sload_n o hsc (zdd k_Q_law_19 48 rfl) rfl 0 rfl ?_
  refine zj_iload_n o (zdd k_Q_law_19 49 rfl) rfl 3 rfl ?_
  refine zj_iconst o (zdd k_Q_law_20 0 rfl) zki_1 ?_
  refine zj_iadd o (zdd k_Q_law_20 1 rfl) ?_
  obtain ⟨x3, e_x3, h⟩ := zbd h
  refine zj_sald o hsc (zdd k_Q_law_20 2 rfl) e_x3 ?_
  obtain ⟨q4, e_q4, h⟩ := zbd h
  refine zj_callV (mc := 134) (ms := 41620) (mc' := 0) (ms' := 0) o (zdd k_Q_law_20 3 rfl) ml_Q_174 mv_M_image ⟨rfl, by decide⟩ (zg_some e_q4).1 (by decide) [.int x3] [.int q2.1] rfl (Nat.le_of_ble_eq_true rfl) rfl (m_M_image e_q4) hrm (by decide) ?_
  change zPJ X 134 41620 _ _ [.int q4.1, .int q2.1] _
  refine zj_icmp_eq (tgt := 1475) o (zdd k_Q_law_20 4 rfl) (by decide) (fun hc => ?_) (fun hc => ?_)
  · rw [if_pos hc] at h
    refine zj_iinc (v := v3 + 6) (loc' := [(3, .int (v3 + 6)), (0, .retAddr 0), (1, .ref v1), (2, .ref v2)]) o (zdd k_Q_law_20 41 rfl) 3 rfl (by rw [zki_6]) (by decide) rfl ?_
    refine zj_goto (tgt := 18) o (zdd k_Q_law_20 42 rfl) (by decide) ?_
    exact zj_sub [1, 2, 3, 0] rfl (hk18 h hr)
  · rw [if_neg hc] at h
    refine zj_iconst o (zdd k_Q_law_20 5 rfl) zki_0 ?_
    cases h
    exact zr_i o hr (zdd k_Q_law_20 6 rfl)
def f_Q_law_1353 (xs : Nat → Int32) (L : Nat) (k18 : zSt → Nat → Nat → Int32 → Option (Int32 × zSt)) (σ : zSt) (v1 : Nat) (v2 : Nat) (v3 : Int32) : Option (Int32 × zSt) :=
(zsc xs L (v3 + 1)).bind fun x1 =>
(zsc xs L (v3 + 2)).bind fun x2 =>
(zsc xs L (v3 + 3)).bind fun x3 =>
(zsc xs L (v3 + 4)).bind fun x4 =>
(f_W_ask σ v1 x1 x2 x3 x4).bind fun q5 =>
(zsc xs L (v3 + 1)).bind fun x6 =>
(zsc xs L (v3 + 2)).bind fun x7 =>
(zsc xs L (v3 + 3)).bind fun x8 =>
(zsc xs L (v3 + 4)).bind fun x9 =>
(f_M_ask q5.2 v2 x6 x7 x8 x9).bind fun q10 =>
if q5.1 = q10.1 then (
k18 q10.2 v1 v2 (v3 + 6)) else
some (0, q10.2)
set_option maxRecDepth 100000 in
set_option maxHeartbeats 4000000 in
theorem r_Q_law_1353 {X : zCX} (o : zOK X "WantShelvesLaw" c_Q_law n_Q_law 133) {xs : Nat → Int32} {L : Nat} (hsc : zSC X xs L) (hrm : zRM X 134 41620) {k18 : zSt → Nat → Nat → Int32 → Option (Int32 × zSt)} (hk18 : ∀ {σ : zSt} {v1 : Nat} {v2 : Nat} {v3 : Int32} {z : Int32 × zSt}, k18 σ v1 v2 v3 = some z → zRX X 134 41620 (some (.int z.1)) z.2 → zPJ X 134 41620 18 [(0, .retAddr 0), (1, .ref v1), (2, .ref v2), (3, .int v3)] [] σ) {σ : zSt} {v1 : Nat} {v2 : Nat} {v3 : Int32} {z : Int32 × zSt} (h : f_Q_law_1353 xs L k18 σ v1 v2 v3 = some z) (hr : zRX X 134 41620 (some (.int z.1)) z.2) : zPJ X 134 41620 1353 [(0, .retAddr 0), (1, .ref v1), (2, .ref v2), (3, .int v3)] [] σ := by
  unfold f_Q_law_1353 at h
  refine zj_aload_n o (zdd k_Q_law_18 43 rfl) rfl 1 rfl ?_
  refine zj_sload_n o hsc (zdd k_Q_law_18 44 rfl) rfl 0 rfl ?_
  refine zj_iload_n o (zdd k_Q_law_18 45 rfl) rfl 3 rfl ?_
  refine zj_iconst o (zdd k_Q_law_18 46 rfl) zki_1 ?_
  refine zj_iadd o (zdd k_Q_law_18 47 rfl) ?_
  obtain ⟨x1, e_x1, h⟩ := zbd h
  refine zj_sald o hsc (zdd k_Q_law_18 48 rfl) e_x1 ?_
  refine zj_sload_n o hsc (zdd k_Q_law_18 49 rfl) rfl 0 rfl ?_
  refine zj_iload_n o (zdd k_Q_law_19 0 rfl) rfl 3 rfl ?_
  refine zj_iconst o (zdd k_Q_law_19 1 rfl) zki_2 ?_
  refine zj_iadd o (zdd k_Q_law_19 2 rfl) ?_
  obtain ⟨x2, e_x2, h⟩ := zbd h
  refine zj_sald o hsc (zdd k_Q_law_19 3 rfl) e_x2 ?_
  refine zj_sload_n o hsc (zdd k_Q_law_19 4 rfl) rfl 0 rfl ?_
  refine zj_iload_n o (zdd k_Q_law_19 5 rfl) rfl 3 rfl ?_
  refine zj_iconst o (zdd k_Q_law_19 6 rfl) zki_3 ?_
  refine zj_iadd o (zdd k_Q_law_19 7 rfl) ?_
  obtain ⟨x3, e_x3, h⟩ := zbd h
  refine zj_sald o hsc (zdd k_Q_law_19 8 rfl) e_x3 ?_
  refine zj_sload_n o hsc (zdd k_Q_law_19 9 rfl) rfl 0 rfl ?_
  refine zj_iload_n o (zdd k_Q_law_19 10 rfl) rfl 3 rfl ?_
  refine zj_iconst o (zdd k_Q_law_19 11 rfl) zki_4 ?_
  refine zj_iadd o (zdd k_Q_law_19 12 rfl) ?_
  obtain ⟨x4, e_x4, h⟩ := zbd h
  refine zj_sald o hsc (zdd k_Q_law_19 13 rfl) e_x4 ?_
  obtain ⟨q5, e_q5, h⟩ := zbd h
  refine zj_callV (mc := 134) (ms := 41620) (mc' := 0) (ms' := 0) o (zdd k_Q_law_19 14 rfl) ml_Q_167 mv_W_ask ⟨rfl, by decide⟩ (zg_some e_q5).1 (by decide) [.int x1, .int x2, .int x3, .int x4] [] rfl (Nat.le_of_ble_eq_true rfl) rfl (m_W_ask e_q5) hrm (by decide) ?_
  change zPJ X 134 41620 _ _ [.int q5.1] _
  refine zj_aload_n o (zdd k_Q_law_19 15 rfl) rfl 2 rfl ?_
  refine zj_sload_n o hsc (zdd k_Q_law_19 16 rfl) rfl 0 rfl ?_
  refine zj_iload_n o (zdd k_Q_law_19 17 rfl) rfl 3 rfl ?_
  refine zj_iconst o (zdd k_Q_law_19 18 rfl) zki_1 ?_
  refine zj_iadd o (zdd k_Q_law_19 19 rfl) ?_
  obtain ⟨x6, e_x6, h⟩ := zbd h
  refine zj_sald o hsc (zdd k_Q_law_19 20 rfl) e_x6 ?_
  refine zj_sload_n o hsc (zdd k_Q_law_19 21 rfl) rfl 0 rfl ?_
  refine zj_iload_n o (zdd k_Q_law_19 22 rfl) rfl 3 rfl ?_
  refine zj_iconst o (zdd k_Q_law_19 23 rfl) zki_2 ?_
  refine zj_iadd o (zdd k_Q_law_19 24 rfl) ?_
  obtain ⟨x7, e_x7, h⟩ := zbd h
  refine zj_sald o hsc (zdd k_Q_law_19 25 rfl) e_x7 ?_
  refine zj_sload_n o hsc (zdd k_Q_law_19 26 rfl) rfl 0 rfl ?_
  refine zj_iload_n o (zdd k_Q_law_19 27 rfl) rfl 3 rfl ?_
  refine zj_iconst o (zdd k_Q_law_19 28 rfl) zki_3 ?_
  refine zj_iadd o (zdd k_Q_law_19 29 rfl) ?_
  obtain ⟨x8, e_x8, h⟩ := zbd h
  refine zj_sald o hsc (zdd k_Q_law_19 30 rfl) e_x8 ?_
  refine zj_sload_n o hsc (zdd k_Q_law_19 31 rfl) rfl 0 rfl ?_
  refine zj_iload_n o (zdd k_Q_law_19 32 rfl) rfl 3 rfl ?_
  refine zj_iconst o (zdd k_Q_law_19 33 rfl) zki_4 ?_
  refine zj_iadd o (zdd k_Q_law_19 34 rfl) ?_
  obtain ⟨x9, e_x9, h⟩ := zbd h
  refine zj_sald o hsc (zdd k_Q_law_19 35 rfl) e_x9 ?_
  obtain ⟨q10, e_q10, h⟩ := zbd h
  refine zj_callV (mc := 134) (ms := 41620) (mc' := 0) (ms' := 0) o (zdd k_Q_law_19 36 rfl) ml_Q_170 mv_M_ask ⟨rfl, by decide⟩ (zg_some e_q10).1 (by decide) [.int x6, .int x7, .int x8, .int x9] [.int q5.1] rfl (Nat.le_of_ble_eq_true rfl) rfl (m_M_ask e_q10) hrm (by decide) ?_
  change zPJ X 134 41620 _ _ [.int q10.1, .int q5.1] _
  refine zj_icmp_eq (tgt := 1475) o (zdd k_Q_law_19 37 rfl) (by decide) (fun hc => ?_) (fun hc => ?_)
  · rw [if_pos hc] at h
    refine zj_iinc (v := v3 + 6) (loc' := [(3, .int (v3 + 6)), (0, .retAddr 0), (1, .ref v1), (2, .ref v2)]) o (zdd k_Q_law_20 41 rfl) 3 rfl (by rw [zki_6]) (by decide) rfl ?_
    refine zj_goto (tgt := 18) o (zdd k_Q_law_20 42 rfl) (by decide) ?_
    exact zj_sub [1, 2, 3, 0] rfl (hk18 h hr)
  · rw [if_neg hc] at h
    refine zj_iconst o (zdd k_Q_law_19 38 rfl) zki_0 ?_
    cases h
    exact zr_i o hr (zdd k_Q_law_19 39 rfl)
def f_Q_law_1335 (xs : Nat → Int32) (L : Nat) (k18 : zSt → Nat → Nat → Int32 → Option (Int32 × zSt)) (σ : zSt) (v1 : Nat) (v2 : Nat) (v3 : Int32) (s0 : Int32) (s1 : Int32) (s2 : Int32) (s3 : Nat) (s4 : Int32) : Option (Int32 × zSt) :=
(zsc xs L (v3 + 4)).bind fun x1 =>
(zsc xs L (v3 + 5)).bind fun x2 =>
(f_M_sure σ s3 s2 s1 s0 x1 x2).bind fun q3 =>
if s4 = q3.1 then (
k18 q3.2 v1 v2 (v3 + 6)) else
some (0, q3.2)
set_option maxRecDepth 100000 in
set_option maxHeartbeats 4000000 in
theorem r_Q_law_1335 {X : zCX} (o : zOK X "WantShelvesLaw" c_Q_law n_Q_law 133) {xs : Nat → Int32} {L : Nat} (hsc : zSC X xs L) (hrm : zRM X 134 41620) {k18 : zSt → Nat → Nat → Int32 → Option (Int32 × zSt)} (hk18 : ∀ {σ : zSt} {v1 : Nat} {v2 : Nat} {v3 : Int32} {z : Int32 × zSt}, k18 σ v1 v2 v3 = some z → zRX X 134 41620 (some (.int z.1)) z.2 → zPJ X 134 41620 18 [(0, .retAddr 0), (1, .ref v1), (2, .ref v2), (3, .int v3)] [] σ) {σ : zSt} {v1 : Nat} {v2 : Nat} {v3 : Int32} {s0 : Int32} {s1 : Int32} {s2 : Int32} {s3 : Nat} {s4 : Int32} {z : Int32 × zSt} (h : f_Q_law_1335 xs L k18 σ v1 v2 v3 s0 s1 s2 s3 s4 = some z) (hr : zRX X 134 41620 (some (.int z.1)) z.2) : zPJ X 134 41620 1335 [(0, .retAddr 0), (1, .ref v1), (2, .ref v2), (3, .int v3)] [.int s0, .int s1, .int s2, .ref s3, .int s4] σ := by
  unfold f_Q_law_1335 at h
  refine zj_sload_n o hsc (zdd k_Q_law_18 29 rfl) rfl 0 rfl ?_
  refine zj_iload_n o (zdd k_Q_law_18 30 rfl) rfl 3 rfl ?_
  refine zj_iconst o (zdd k_Q_law_18 31 rfl) zki_4 ?_
  refine zj_iadd o (zdd k_Q_law_18 32 rfl) ?_
  obtain ⟨x1, e_x1, h⟩ := zbd h
  refine zj_sald o hsc (zdd k_Q_law_18 33 rfl) e_x1 ?_
  refine zj_sload_n o hsc (zdd k_Q_law_18 34 rfl) rfl 0 rfl ?_
  refine zj_iload_n o (zdd k_Q_law_18 35 rfl) rfl 3 rfl ?_
  refine zj_iconst o (zdd k_Q_law_18 36 rfl) zki_5 ?_
  refine zj_iadd o (zdd k_Q_law_18 37 rfl) ?_
  obtain ⟨x2, e_x2, h⟩ := zbd h
  refine zj_sald o hsc (zdd k_Q_law_18 38 rfl) e_x2 ?_
  obtain ⟨q3, e_q3, h⟩ := zbd h
  refine zj_callV (mc := 134) (ms := 41620) (mc' := 0) (ms' := 0) o (zdd k_Q_law_18 39 rfl) ml_Q_166 mv_M_sure ⟨rfl, by decide⟩ (zg_some e_q3).1 (by decide) [.int s2, .int s1, .int s0, .int x1, .int x2] [.int s4] rfl (Nat.le_of_ble_eq_true rfl) rfl (m_M_sure e_q3) hrm (by decide) ?_
  change zPJ X 134 41620 _ _ [.int q3.1, .int s4] _
  refine zj_icmp_eq (tgt := 1475) o (zdd k_Q_law_18 40 rfl) (by decide) (fun hc => ?_) (fun hc => ?_)
  · rw [if_pos hc] at h
    refine zj_iinc (v := v3 + 6) (loc' := [(3, .int (v3 + 6)), (0, .retAddr 0), (1, .ref v1), (2, .ref v2)]) o (zdd k_Q_law_20 41 rfl) 3 rfl (by rw [zki_6]) (by decide) rfl ?_
    refine zj_goto (tgt := 18) o (zdd k_Q_law_20 42 rfl) (by decide) ?_
    exact zj_sub [1, 2, 3, 0] rfl (hk18 h hr)
  · rw [if_neg hc] at h
    refine zj_iconst o (zdd k_Q_law_18 41 rfl) zki_0 ?_
    cases h
    exact zr_i o hr (zdd k_Q_law_18 42 rfl)
def f_Q_law_1298 (xs : Nat → Int32) (L : Nat) (k18 : zSt → Nat → Nat → Int32 → Option (Int32 × zSt)) (σ : zSt) (v1 : Nat) (v2 : Nat) (v3 : Int32) (s0 : Int32) (s1 : Int32) (s2 : Int32) (s3 : Nat) : Option (Int32 × zSt) :=
(zsc xs L (v3 + 4)).bind fun x1 =>
(zsc xs L (v3 + 5)).bind fun x2 =>
(f_W_sure σ s3 s2 s1 s0 x1 x2).bind fun q3 =>
(zsc xs L (v3 + 1)).bind fun x4 =>
(zsc xs L (v3 + 2)).bind fun x5 =>
(zsc xs L (v3 + 3)).bind fun x6 =>
if x6 = 0 then (
f_Q_law_1335 xs L k18 q3.2 v1 v2 v3 0 x5 x4 v2 q3.1) else
f_Q_law_1335 xs L k18 q3.2 v1 v2 v3 1 x5 x4 v2 q3.1
set_option maxRecDepth 100000 in
set_option maxHeartbeats 4000000 in
theorem r_Q_law_1298 {X : zCX} (o : zOK X "WantShelvesLaw" c_Q_law n_Q_law 133) {xs : Nat → Int32} {L : Nat} (hsc : zSC X xs L) (hrm : zRM X 134 41620) {k18 : zSt → Nat → Nat → Int32 → Option (Int32 × zSt)} (hk18 : ∀ {σ : zSt} {v1 : Nat} {v2 : Nat} {v3 : Int32} {z : Int32 × zSt}, k18 σ v1 v2 v3 = some z → zRX X 134 41620 (some (.int z.1)) z.2 → zPJ X 134 41620 18 [(0, .retAddr 0), (1, .ref v1), (2, .ref v2), (3, .int v3)] [] σ) {σ : zSt} {v1 : Nat} {v2 : Nat} {v3 : Int32} {s0 : Int32} {s1 : Int32} {s2 : Int32} {s3 : Nat} {z : Int32 × zSt} (h : f_Q_law_1298 xs L k18 σ v1 v2 v3 s0 s1 s2 s3 = some z) (hr : zRX X 134 41620 (some (.int z.1)) z.2) : zPJ X 134 41620 1298 [(0, .retAddr 0), (1, .ref v1), (2, .ref v2), (3, .int v3)] [.int s0, .int s1, .int s2, .ref s3] σ := by
  unfold f_Q_law_1298 at h
  refine zj_sload_n o hsc (zdd k_Q_law_17 48 rfl) rfl 0 rfl ?_
  refine zj_iload_n o (zdd k_Q_law_17 49 rfl) rfl 3 rfl ?_
  refine zj_iconst o (zdd k_Q_law_18 0 rfl) zki_4 ?_
  refine zj_iadd o (zdd k_Q_law_18 1 rfl) ?_
  obtain ⟨x1, e_x1, h⟩ := zbd h
  refine zj_sald o hsc (zdd k_Q_law_18 2 rfl) e_x1 ?_
  refine zj_sload_n o hsc (zdd k_Q_law_18 3 rfl) rfl 0 rfl ?_
  refine zj_iload_n o (zdd k_Q_law_18 4 rfl) rfl 3 rfl ?_
  refine zj_iconst o (zdd k_Q_law_18 5 rfl) zki_5 ?_
  refine zj_iadd o (zdd k_Q_law_18 6 rfl) ?_
  obtain ⟨x2, e_x2, h⟩ := zbd h
  refine zj_sald o hsc (zdd k_Q_law_18 7 rfl) e_x2 ?_
  obtain ⟨q3, e_q3, h⟩ := zbd h
  refine zj_callV (mc := 134) (ms := 41620) (mc' := 0) (ms' := 0) o (zdd k_Q_law_18 8 rfl) ml_Q_162 mv_W_sure ⟨rfl, by decide⟩ (zg_some e_q3).1 (by decide) [.int s2, .int s1, .int s0, .int x1, .int x2] [] rfl (Nat.le_of_ble_eq_true rfl) rfl (m_W_sure e_q3) hrm (by decide) ?_
  change zPJ X 134 41620 _ _ [.int q3.1] _
  refine zj_aload_n o (zdd k_Q_law_18 9 rfl) rfl 2 rfl ?_
  refine zj_sload_n o hsc (zdd k_Q_law_18 10 rfl) rfl 0 rfl ?_
  refine zj_iload_n o (zdd k_Q_law_18 11 rfl) rfl 3 rfl ?_
  refine zj_iconst o (zdd k_Q_law_18 12 rfl) zki_1 ?_
  refine zj_iadd o (zdd k_Q_law_18 13 rfl) ?_
  obtain ⟨x4, e_x4, h⟩ := zbd h
  refine zj_sald o hsc (zdd k_Q_law_18 14 rfl) e_x4 ?_
  refine zj_sload_n o hsc (zdd k_Q_law_18 15 rfl) rfl 0 rfl ?_
  refine zj_iload_n o (zdd k_Q_law_18 16 rfl) rfl 3 rfl ?_
  refine zj_iconst o (zdd k_Q_law_18 17 rfl) zki_2 ?_
  refine zj_iadd o (zdd k_Q_law_18 18 rfl) ?_
  obtain ⟨x5, e_x5, h⟩ := zbd h
  refine zj_sald o hsc (zdd k_Q_law_18 19 rfl) e_x5 ?_
  refine zj_sload_n o hsc (zdd k_Q_law_18 20 rfl) rfl 0 rfl ?_
  refine zj_iload_n o (zdd k_Q_law_18 21 rfl) rfl 3 rfl ?_
  refine zj_iconst o (zdd k_Q_law_18 22 rfl) zki_3 ?_
  refine zj_iadd o (zdd k_Q_law_18 23 rfl) ?_
  obtain ⟨x6, e_x6, h⟩ := zbd h
  refine zj_sald o hsc (zdd k_Q_law_18 24 rfl) e_x6 ?_
  refine zj_if_eq (tgt := 1334) o (zdd k_Q_law_18 25 rfl) (by decide) (fun hc => ?_) (fun hc => ?_)
  · rw [if_pos hc] at h
    refine zj_iconst o (zdd k_Q_law_18 28 rfl) zki_0 ?_
    exact zj_sub [0, 1, 2, 3] rfl (r_Q_law_1335 o hsc hrm hk18 h hr)
  · rw [if_neg hc] at h
    refine zj_iconst o (zdd k_Q_law_18 26 rfl) zki_1 ?_
    refine zj_goto (tgt := 1335) o (zdd k_Q_law_18 27 rfl) (by decide) ?_
    exact zj_sub [0, 1, 2, 3] rfl (r_Q_law_1335 o hsc hrm hk18 h hr)
def f_Q_law_1274 (xs : Nat → Int32) (L : Nat) (k18 : zSt → Nat → Nat → Int32 → Option (Int32 × zSt)) (σ : zSt) (v1 : Nat) (v2 : Nat) (v3 : Int32) : Option (Int32 × zSt) :=
(zsc xs L (v3 + 1)).bind fun x1 =>
(zsc xs L (v3 + 2)).bind fun x2 =>
(zsc xs L (v3 + 3)).bind fun x3 =>
if x3 = 0 then (
f_Q_law_1298 xs L k18 σ v1 v2 v3 0 x2 x1 v1) else
f_Q_law_1298 xs L k18 σ v1 v2 v3 1 x2 x1 v1
set_option maxRecDepth 100000 in
set_option maxHeartbeats 4000000 in
theorem r_Q_law_1274 {X : zCX} (o : zOK X "WantShelvesLaw" c_Q_law n_Q_law 133) {xs : Nat → Int32} {L : Nat} (hsc : zSC X xs L) (hrm : zRM X 134 41620) {k18 : zSt → Nat → Nat → Int32 → Option (Int32 × zSt)} (hk18 : ∀ {σ : zSt} {v1 : Nat} {v2 : Nat} {v3 : Int32} {z : Int32 × zSt}, k18 σ v1 v2 v3 = some z → zRX X 134 41620 (some (.int z.1)) z.2 → zPJ X 134 41620 18 [(0, .retAddr 0), (1, .ref v1), (2, .ref v2), (3, .int v3)] [] σ) {σ : zSt} {v1 : Nat} {v2 : Nat} {v3 : Int32} {z : Int32 × zSt} (h : f_Q_law_1274 xs L k18 σ v1 v2 v3 = some z) (hr : zRX X 134 41620 (some (.int z.1)) z.2) : zPJ X 134 41620 1274 [(0, .retAddr 0), (1, .ref v1), (2, .ref v2), (3, .int v3)] [] σ := by
  unfold f_Q_law_1274 at h
  refine zj_aload_n o (zdd k_Q_law_17 28 rfl) rfl 1 rfl ?_
  refine zj_sload_n o hsc (zdd k_Q_law_17 29 rfl) rfl 0 rfl ?_
  refine zj_iload_n o (zdd k_Q_law_17 30 rfl) rfl 3 rfl ?_
  refine zj_iconst o (zdd k_Q_law_17 31 rfl) zki_1 ?_
  refine zj_iadd o (zdd k_Q_law_17 32 rfl) ?_
  obtain ⟨x1, e_x1, h⟩ := zbd h
  refine zj_sald o hsc (zdd k_Q_law_17 33 rfl) e_x1 ?_
  refine zj_sload_n o hsc (zdd k_Q_law_17 34 rfl) rfl 0 rfl ?_
  refine zj_iload_n o (zdd k_Q_law_17 35 rfl) rfl 3 rfl ?_
  refine zj_iconst o (zdd k_Q_law_17 36 rfl) zki_2 ?_
  refine zj_iadd o (zdd k_Q_law_17 37 rfl) ?_
  obtain ⟨x2, e_x2, h⟩ := zbd h
  refine zj_sald o hsc (zdd k_Q_law_17 38 rfl) e_x2 ?_
  refine zj_sload_n o hsc (zdd k_Q_law_17 39 rfl) rfl 0 rfl ?_
  refine zj_iload_n o (zdd k_Q_law_17 40 rfl) rfl 3 rfl ?_
  refine zj_iconst o (zdd k_Q_law_17 41 rfl) zki_3 ?_
  refine zj_iadd o (zdd k_Q_law_17 42 rfl) ?_
  obtain ⟨x3, e_x3, h⟩ := zbd h
  refine zj_sald o hsc (zdd k_Q_law_17 43 rfl) e_x3 ?_
  refine zj_if_eq (tgt := 1297) o (zdd k_Q_law_17 44 rfl) (by decide) (fun hc => ?_) (fun hc => ?_)
  · rw [if_pos hc] at h
    refine zj_iconst o (zdd k_Q_law_17 47 rfl) zki_0 ?_
    exact zj_sub [0, 1, 2, 3] rfl (r_Q_law_1298 o hsc hrm hk18 h hr)
  · rw [if_neg hc] at h
    refine zj_iconst o (zdd k_Q_law_17 45 rfl) zki_1 ?_
    refine zj_goto (tgt := 1298) o (zdd k_Q_law_17 46 rfl) (by decide) ?_
    exact zj_sub [0, 1, 2, 3] rfl (r_Q_law_1298 o hsc hrm hk18 h hr)
def f_Q_law_1231 (xs : Nat → Int32) (L : Nat) (k18 : zSt → Nat → Nat → Int32 → Option (Int32 × zSt)) (σ : zSt) (v1 : Nat) (v2 : Nat) (v3 : Int32) : Option (Int32 × zSt) :=
(zsc xs L (v3 + 1)).bind fun x1 =>
(zsc xs L (v3 + 2)).bind fun x2 =>
(zsc xs L (v3 + 3)).bind fun x3 =>
(f_W_fit σ v1 x1 x2 x3).bind fun q4 =>
(zsc xs L (v3 + 1)).bind fun x5 =>
(zsc xs L (v3 + 2)).bind fun x6 =>
(zsc xs L (v3 + 3)).bind fun x7 =>
(f_M_fit q4.2 v2 x5 x6 x7).bind fun q8 =>
if q4.1 = q8.1 then (
k18 q8.2 v1 v2 (v3 + 6)) else
some (0, q8.2)
set_option maxRecDepth 100000 in
set_option maxHeartbeats 4000000 in
theorem r_Q_law_1231 {X : zCX} (o : zOK X "WantShelvesLaw" c_Q_law n_Q_law 133) {xs : Nat → Int32} {L : Nat} (hsc : zSC X xs L) (hrm : zRM X 134 41620) {k18 : zSt → Nat → Nat → Int32 → Option (Int32 × zSt)} (hk18 : ∀ {σ : zSt} {v1 : Nat} {v2 : Nat} {v3 : Int32} {z : Int32 × zSt}, k18 σ v1 v2 v3 = some z → zRX X 134 41620 (some (.int z.1)) z.2 → zPJ X 134 41620 18 [(0, .retAddr 0), (1, .ref v1), (2, .ref v2), (3, .int v3)] [] σ) {σ : zSt} {v1 : Nat} {v2 : Nat} {v3 : Int32} {z : Int32 × zSt} (h : f_Q_law_1231 xs L k18 σ v1 v2 v3 = some z) (hr : zRX X 134 41620 (some (.int z.1)) z.2) : zPJ X 134 41620 1231 [(0, .retAddr 0), (1, .ref v1), (2, .ref v2), (3, .int v3)] [] σ := by
  unfold f_Q_law_1231 at h
  refine zj_aload_n o (zdd k_Q_law_16 41 rfl) rfl 1 rfl ?_
  refine zj_sload_n o hsc (zdd k_Q_law_16 42 rfl) rfl 0 rfl ?_
  refine zj_iload_n o (zdd k_Q_law_16 43 rfl) rfl 3 rfl ?_
  refine zj_iconst o (zdd k_Q_law_16 44 rfl) zki_1 ?_
  refine zj_iadd o (zdd k_Q_law_16 45 rfl) ?_
  obtain ⟨x1, e_x1, h⟩ := zbd h
  refine zj_sald o hsc (zdd k_Q_law_16 46 rfl) e_x1 ?_
  refine zj_sload_n o hsc (zdd k_Q_law_16 47 rfl) rfl 0 rfl ?_
  refine zj_iload_n o (zdd k_Q_law_16 48 rfl) rfl 3 rfl ?_
  refine zj_iconst o (zdd k_Q_law_16 49 rfl) zki_2 ?_
  refine zj_iadd o (zdd k_Q_law_17 0 rfl) ?_
  obtain ⟨x2, e_x2, h⟩ := zbd h
  refine zj_sald o hsc (zdd k_Q_law_17 1 rfl) e_x2 ?_
  refine zj_sload_n o hsc (zdd k_Q_law_17 2 rfl) rfl 0 rfl ?_
  refine zj_iload_n o (zdd k_Q_law_17 3 rfl) rfl 3 rfl ?_
  refine zj_iconst o (zdd k_Q_law_17 4 rfl) zki_3 ?_
  refine zj_iadd o (zdd k_Q_law_17 5 rfl) ?_
  obtain ⟨x3, e_x3, h⟩ := zbd h
  refine zj_sald o hsc (zdd k_Q_law_17 6 rfl) e_x3 ?_
  obtain ⟨q4, e_q4, h⟩ := zbd h
  refine zj_callV (mc := 134) (ms := 41620) (mc' := 0) (ms' := 0) o (zdd k_Q_law_17 7 rfl) ml_Q_158 mv_W_fit ⟨rfl, by decide⟩ (zg_some e_q4).1 (by decide) [.int x1, .int x2, .int x3] [] rfl (Nat.le_of_ble_eq_true rfl) rfl (m_W_fit e_q4) hrm (by decide) ?_
  change zPJ X 134 41620 _ _ [.int q4.1] _
  refine zj_aload_n o (zdd k_Q_law_17 8 rfl) rfl 2 rfl ?_
  refine zj_sload_n o hsc (zdd k_Q_law_17 9 rfl) rfl 0 rfl ?_
  refine zj_iload_n o (zdd k_Q_law_17 10 rfl) rfl 3 rfl ?_
  refine zj_iconst o (zdd k_Q_law_17 11 rfl) zki_1 ?_
  refine zj_iadd o (zdd k_Q_law_17 12 rfl) ?_
  obtain ⟨x5, e_x5, h⟩ := zbd h
  refine zj_sald o hsc (zdd k_Q_law_17 13 rfl) e_x5 ?_
  refine zj_sload_n o hsc (zdd k_Q_law_17 14 rfl) rfl 0 rfl ?_
  refine zj_iload_n o (zdd k_Q_law_17 15 rfl) rfl 3 rfl ?_
  refine zj_iconst o (zdd k_Q_law_17 16 rfl) zki_2 ?_
  refine zj_iadd o (zdd k_Q_law_17 17 rfl) ?_
  obtain ⟨x6, e_x6, h⟩ := zbd h
  refine zj_sald o hsc (zdd k_Q_law_17 18 rfl) e_x6 ?_
  refine zj_sload_n o hsc (zdd k_Q_law_17 19 rfl) rfl 0 rfl ?_
  refine zj_iload_n o (zdd k_Q_law_17 20 rfl) rfl 3 rfl ?_
  refine zj_iconst o (zdd k_Q_law_17 21 rfl) zki_3 ?_
  refine zj_iadd o (zdd k_Q_law_17 22 rfl) ?_
  obtain ⟨x7, e_x7, h⟩ := zbd h
  refine zj_sald o hsc (zdd k_Q_law_17 23 rfl) e_x7 ?_
  obtain ⟨q8, e_q8, h⟩ := zbd h
  refine zj_callV (mc := 134) (ms := 41620) (mc' := 0) (ms' := 0) o (zdd k_Q_law_17 24 rfl) ml_Q_161 mv_M_fit ⟨rfl, by decide⟩ (zg_some e_q8).1 (by decide) [.int x5, .int x6, .int x7] [.int q4.1] rfl (Nat.le_of_ble_eq_true rfl) rfl (m_M_fit e_q8) hrm (by decide) ?_
  change zPJ X 134 41620 _ _ [.int q8.1, .int q4.1] _
  refine zj_icmp_eq (tgt := 1475) o (zdd k_Q_law_17 25 rfl) (by decide) (fun hc => ?_) (fun hc => ?_)
  · rw [if_pos hc] at h
    refine zj_iinc (v := v3 + 6) (loc' := [(3, .int (v3 + 6)), (0, .retAddr 0), (1, .ref v1), (2, .ref v2)]) o (zdd k_Q_law_20 41 rfl) 3 rfl (by rw [zki_6]) (by decide) rfl ?_
    refine zj_goto (tgt := 18) o (zdd k_Q_law_20 42 rfl) (by decide) ?_
    exact zj_sub [1, 2, 3, 0] rfl (hk18 h hr)
  · rw [if_neg hc] at h
    refine zj_iconst o (zdd k_Q_law_17 26 rfl) zki_0 ?_
    cases h
    exact zr_i o hr (zdd k_Q_law_17 27 rfl)
def f_Q_law_1208 (xs : Nat → Int32) (L : Nat) (k18 : zSt → Nat → Nat → Int32 → Option (Int32 × zSt)) (σ : zSt) (v1 : Nat) (v2 : Nat) (v3 : Int32) : Option (Int32 × zSt) :=
(zsc xs L (v3 + 1)).bind fun x1 =>
(f_W_later σ v1 x1).bind fun q2 =>
(zsc xs L (v3 + 1)).bind fun x3 =>
(f_M_later q2.2 v2 x3).bind fun q4 =>
if q2.1 = q4.1 then (
k18 q4.2 v1 v2 (v3 + 6)) else
some (0, q4.2)
set_option maxRecDepth 100000 in
set_option maxHeartbeats 4000000 in
theorem r_Q_law_1208 {X : zCX} (o : zOK X "WantShelvesLaw" c_Q_law n_Q_law 133) {xs : Nat → Int32} {L : Nat} (hsc : zSC X xs L) (hrm : zRM X 134 41620) {k18 : zSt → Nat → Nat → Int32 → Option (Int32 × zSt)} (hk18 : ∀ {σ : zSt} {v1 : Nat} {v2 : Nat} {v3 : Int32} {z : Int32 × zSt}, k18 σ v1 v2 v3 = some z → zRX X 134 41620 (some (.int z.1)) z.2 → zPJ X 134 41620 18 [(0, .retAddr 0), (1, .ref v1), (2, .ref v2), (3, .int v3)] [] σ) {σ : zSt} {v1 : Nat} {v2 : Nat} {v3 : Int32} {z : Int32 × zSt} (h : f_Q_law_1208 xs L k18 σ v1 v2 v3 = some z) (hr : zRX X 134 41620 (some (.int z.1)) z.2) : zPJ X 134 41620 1208 [(0, .retAddr 0), (1, .ref v1), (2, .ref v2), (3, .int v3)] [] σ := by
  unfold f_Q_law_1208 at h
  refine zj_aload_n o (zdd k_Q_law_16 24 rfl) rfl 1 rfl ?_
  refine zj_sload_n o hsc (zdd k_Q_law_16 25 rfl) rfl 0 rfl ?_
  refine zj_iload_n o (zdd k_Q_law_16 26 rfl) rfl 3 rfl ?_
  refine zj_iconst o (zdd k_Q_law_16 27 rfl) zki_1 ?_
  refine zj_iadd o (zdd k_Q_law_16 28 rfl) ?_
  obtain ⟨x1, e_x1, h⟩ := zbd h
  refine zj_sald o hsc (zdd k_Q_law_16 29 rfl) e_x1 ?_
  obtain ⟨q2, e_q2, h⟩ := zbd h
  refine zj_callV (mc := 134) (ms := 41620) (mc' := 0) (ms' := 0) o (zdd k_Q_law_16 30 rfl) ml_Q_154 mv_W_later ⟨rfl, by decide⟩ (zg_some e_q2).1 (by decide) [.int x1] [] rfl (Nat.le_of_ble_eq_true rfl) rfl (m_W_later e_q2) hrm (by decide) ?_
  change zPJ X 134 41620 _ _ [.int q2.1] _
  refine zj_aload_n o (zdd k_Q_law_16 31 rfl) rfl 2 rfl ?_
  refine zj_sload_n o hsc (zdd k_Q_law_16 32 rfl) rfl 0 rfl ?_
  refine zj_iload_n o (zdd k_Q_law_16 33 rfl) rfl 3 rfl ?_
  refine zj_iconst o (zdd k_Q_law_16 34 rfl) zki_1 ?_
  refine zj_iadd o (zdd k_Q_law_16 35 rfl) ?_
  obtain ⟨x3, e_x3, h⟩ := zbd h
  refine zj_sald o hsc (zdd k_Q_law_16 36 rfl) e_x3 ?_
  obtain ⟨q4, e_q4, h⟩ := zbd h
  refine zj_callV (mc := 134) (ms := 41620) (mc' := 0) (ms' := 0) o (zdd k_Q_law_16 37 rfl) ml_Q_157 mv_M_later ⟨rfl, by decide⟩ (zg_some e_q4).1 (by decide) [.int x3] [.int q2.1] rfl (Nat.le_of_ble_eq_true rfl) rfl (m_M_later e_q4) hrm (by decide) ?_
  change zPJ X 134 41620 _ _ [.int q4.1, .int q2.1] _
  refine zj_icmp_eq (tgt := 1475) o (zdd k_Q_law_16 38 rfl) (by decide) (fun hc => ?_) (fun hc => ?_)
  · rw [if_pos hc] at h
    refine zj_iinc (v := v3 + 6) (loc' := [(3, .int (v3 + 6)), (0, .retAddr 0), (1, .ref v1), (2, .ref v2)]) o (zdd k_Q_law_20 41 rfl) 3 rfl (by rw [zki_6]) (by decide) rfl ?_
    refine zj_goto (tgt := 18) o (zdd k_Q_law_20 42 rfl) (by decide) ?_
    exact zj_sub [1, 2, 3, 0] rfl (hk18 h hr)
  · rw [if_neg hc] at h
    refine zj_iconst o (zdd k_Q_law_16 39 rfl) zki_0 ?_
    cases h
    exact zr_i o hr (zdd k_Q_law_16 40 rfl)
def f_Q_law_1185 (xs : Nat → Int32) (L : Nat) (k18 : zSt → Nat → Nat → Int32 → Option (Int32 × zSt)) (σ : zSt) (v1 : Nat) (v2 : Nat) (v3 : Int32) : Option (Int32 × zSt) :=
(zsc xs L (v3 + 1)).bind fun x1 =>
(f_W_untell σ v1 x1).bind fun q2 =>
(zsc xs L (v3 + 1)).bind fun x3 =>
(f_M_untell q2.2 v2 x3).bind fun q4 =>
if q2.1 = q4.1 then (
k18 q4.2 v1 v2 (v3 + 6)) else
some (0, q4.2)
set_option maxRecDepth 100000 in
set_option maxHeartbeats 4000000 in
theorem r_Q_law_1185 {X : zCX} (o : zOK X "WantShelvesLaw" c_Q_law n_Q_law 133) {xs : Nat → Int32} {L : Nat} (hsc : zSC X xs L) (hrm : zRM X 134 41620) {k18 : zSt → Nat → Nat → Int32 → Option (Int32 × zSt)} (hk18 : ∀ {σ : zSt} {v1 : Nat} {v2 : Nat} {v3 : Int32} {z : Int32 × zSt}, k18 σ v1 v2 v3 = some z → zRX X 134 41620 (some (.int z.1)) z.2 → zPJ X 134 41620 18 [(0, .retAddr 0), (1, .ref v1), (2, .ref v2), (3, .int v3)] [] σ) {σ : zSt} {v1 : Nat} {v2 : Nat} {v3 : Int32} {z : Int32 × zSt} (h : f_Q_law_1185 xs L k18 σ v1 v2 v3 = some z) (hr : zRX X 134 41620 (some (.int z.1)) z.2) : zPJ X 134 41620 1185 [(0, .retAddr 0), (1, .ref v1), (2, .ref v2), (3, .int v3)] [] σ := by
  unfold f_Q_law_1185 at h
  refine zj_aload_n o (zdd k_Q_law_16 7 rfl) rfl 1 rfl ?_
  refine zj_sload_n o hsc (zdd k_Q_law_16 8 rfl) rfl 0 rfl ?_
  refine zj_iload_n o (zdd k_Q_law_16 9 rfl) rfl 3 rfl ?_
  refine zj_iconst o (zdd k_Q_law_16 10 rfl) zki_1 ?_
  refine zj_iadd o (zdd k_Q_law_16 11 rfl) ?_
  obtain ⟨x1, e_x1, h⟩ := zbd h
  refine zj_sald o hsc (zdd k_Q_law_16 12 rfl) e_x1 ?_
  obtain ⟨q2, e_q2, h⟩ := zbd h
  refine zj_callV (mc := 134) (ms := 41620) (mc' := 0) (ms' := 0) o (zdd k_Q_law_16 13 rfl) ml_Q_149 mv_W_untell ⟨rfl, by decide⟩ (zg_some e_q2).1 (by decide) [.int x1] [] rfl (Nat.le_of_ble_eq_true rfl) rfl (m_W_untell e_q2) hrm (by decide) ?_
  change zPJ X 134 41620 _ _ [.int q2.1] _
  refine zj_aload_n o (zdd k_Q_law_16 14 rfl) rfl 2 rfl ?_
  refine zj_sload_n o hsc (zdd k_Q_law_16 15 rfl) rfl 0 rfl ?_
  refine zj_iload_n o (zdd k_Q_law_16 16 rfl) rfl 3 rfl ?_
  refine zj_iconst o (zdd k_Q_law_16 17 rfl) zki_1 ?_
  refine zj_iadd o (zdd k_Q_law_16 18 rfl) ?_
  obtain ⟨x3, e_x3, h⟩ := zbd h
  refine zj_sald o hsc (zdd k_Q_law_16 19 rfl) e_x3 ?_
  obtain ⟨q4, e_q4, h⟩ := zbd h
  refine zj_callV (mc := 134) (ms := 41620) (mc' := 0) (ms' := 0) o (zdd k_Q_law_16 20 rfl) ml_Q_153 mv_M_untell ⟨rfl, by decide⟩ (zg_some e_q4).1 (by decide) [.int x3] [.int q2.1] rfl (Nat.le_of_ble_eq_true rfl) rfl (m_M_untell e_q4) hrm (by decide) ?_
  change zPJ X 134 41620 _ _ [.int q4.1, .int q2.1] _
  refine zj_icmp_eq (tgt := 1475) o (zdd k_Q_law_16 21 rfl) (by decide) (fun hc => ?_) (fun hc => ?_)
  · rw [if_pos hc] at h
    refine zj_iinc (v := v3 + 6) (loc' := [(3, .int (v3 + 6)), (0, .retAddr 0), (1, .ref v1), (2, .ref v2)]) o (zdd k_Q_law_20 41 rfl) 3 rfl (by rw [zki_6]) (by decide) rfl ?_
    refine zj_goto (tgt := 18) o (zdd k_Q_law_20 42 rfl) (by decide) ?_
    exact zj_sub [1, 2, 3, 0] rfl (hk18 h hr)
  · rw [if_neg hc] at h
    refine zj_iconst o (zdd k_Q_law_16 22 rfl) zki_0 ?_
    cases h
    exact zr_i o hr (zdd k_Q_law_16 23 rfl)
def f_Q_law_1142 (xs : Nat → Int32) (L : Nat) (k18 : zSt → Nat → Nat → Int32 → Option (Int32 × zSt)) (σ : zSt) (v1 : Nat) (v2 : Nat) (v3 : Int32) : Option (Int32 × zSt) :=
(zsc xs L (v3 + 1)).bind fun x1 =>
(zsc xs L (v3 + 2)).bind fun x2 =>
(zsc xs L (v3 + 3)).bind fun x3 =>
(f_W_look σ v1 x1 x2 x3).bind fun q4 =>
(zsc xs L (v3 + 1)).bind fun x5 =>
(zsc xs L (v3 + 2)).bind fun x6 =>
(zsc xs L (v3 + 3)).bind fun x7 =>
(f_M_look q4.2 v2 x5 x6 x7).bind fun q8 =>
if q4.1 = q8.1 then (
k18 q8.2 v1 v2 (v3 + 6)) else
some (0, q8.2)
set_option maxRecDepth 100000 in
set_option maxHeartbeats 4000000 in
theorem r_Q_law_1142 {X : zCX} (o : zOK X "WantShelvesLaw" c_Q_law n_Q_law 133) {xs : Nat → Int32} {L : Nat} (hsc : zSC X xs L) (hrm : zRM X 134 41620) {k18 : zSt → Nat → Nat → Int32 → Option (Int32 × zSt)} (hk18 : ∀ {σ : zSt} {v1 : Nat} {v2 : Nat} {v3 : Int32} {z : Int32 × zSt}, k18 σ v1 v2 v3 = some z → zRX X 134 41620 (some (.int z.1)) z.2 → zPJ X 134 41620 18 [(0, .retAddr 0), (1, .ref v1), (2, .ref v2), (3, .int v3)] [] σ) {σ : zSt} {v1 : Nat} {v2 : Nat} {v3 : Int32} {z : Int32 × zSt} (h : f_Q_law_1142 xs L k18 σ v1 v2 v3 = some z) (hr : zRX X 134 41620 (some (.int z.1)) z.2) : zPJ X 134 41620 1142 [(0, .retAddr 0), (1, .ref v1), (2, .ref v2), (3, .int v3)] [] σ := by
  unfold f_Q_law_1142 at h
  refine zj_aload_n o (zdd k_Q_law_15 20 rfl) rfl 1 rfl ?_
  refine zj_sload_n o hsc (zdd k_Q_law_15 21 rfl) rfl 0 rfl ?_
  refine zj_iload_n o (zdd k_Q_law_15 22 rfl) rfl 3 rfl ?_
  refine zj_iconst o (zdd k_Q_law_15 23 rfl) zki_1 ?_
  refine zj_iadd o (zdd k_Q_law_15 24 rfl) ?_
  obtain ⟨x1, e_x1, h⟩ := zbd h
  refine zj_sald o hsc (zdd k_Q_law_15 25 rfl) e_x1 ?_
  refine zj_sload_n o hsc (zdd k_Q_law_15 26 rfl) rfl 0 rfl ?_
  refine zj_iload_n o (zdd k_Q_law_15 27 rfl) rfl 3 rfl ?_
  refine zj_iconst o (zdd k_Q_law_15 28 rfl) zki_2 ?_
  refine zj_iadd o (zdd k_Q_law_15 29 rfl) ?_
  obtain ⟨x2, e_x2, h⟩ := zbd h
  refine zj_sald o hsc (zdd k_Q_law_15 30 rfl) e_x2 ?_
  refine zj_sload_n o hsc (zdd k_Q_law_15 31 rfl) rfl 0 rfl ?_
  refine zj_iload_n o (zdd k_Q_law_15 32 rfl) rfl 3 rfl ?_
  refine zj_iconst o (zdd k_Q_law_15 33 rfl) zki_3 ?_
  refine zj_iadd o (zdd k_Q_law_15 34 rfl) ?_
  obtain ⟨x3, e_x3, h⟩ := zbd h
  refine zj_sald o hsc (zdd k_Q_law_15 35 rfl) e_x3 ?_
  obtain ⟨q4, e_q4, h⟩ := zbd h
  refine zj_callV (mc := 134) (ms := 41620) (mc' := 0) (ms' := 0) o (zdd k_Q_law_15 36 rfl) ml_Q_145 mv_W_look ⟨rfl, by decide⟩ (zg_some e_q4).1 (by decide) [.int x1, .int x2, .int x3] [] rfl (Nat.le_of_ble_eq_true rfl) rfl (m_W_look e_q4) hrm (by decide) ?_
  change zPJ X 134 41620 _ _ [.int q4.1] _
  refine zj_aload_n o (zdd k_Q_law_15 37 rfl) rfl 2 rfl ?_
  refine zj_sload_n o hsc (zdd k_Q_law_15 38 rfl) rfl 0 rfl ?_
  refine zj_iload_n o (zdd k_Q_law_15 39 rfl) rfl 3 rfl ?_
  refine zj_iconst o (zdd k_Q_law_15 40 rfl) zki_1 ?_
  refine zj_iadd o (zdd k_Q_law_15 41 rfl) ?_
  obtain ⟨x5, e_x5, h⟩ := zbd h
  refine zj_sald o hsc (zdd k_Q_law_15 42 rfl) e_x5 ?_
  refine zj_sload_n o hsc (zdd k_Q_law_15 43 rfl) rfl 0 rfl ?_
  refine zj_iload_n o (zdd k_Q_law_15 44 rfl) rfl 3 rfl ?_
  refine zj_iconst o (zdd k_Q_law_15 45 rfl) zki_2 ?_
  refine zj_iadd o (zdd k_Q_law_15 46 rfl) ?_
  obtain ⟨x6, e_x6, h⟩ := zbd h
  refine zj_sald o hsc (zdd k_Q_law_15 47 rfl) e_x6 ?_
  refine zj_sload_n o hsc (zdd k_Q_law_15 48 rfl) rfl 0 rfl ?_
  refine zj_iload_n o (zdd k_Q_law_15 49 rfl) rfl 3 rfl ?_
  refine zj_iconst o (zdd k_Q_law_16 0 rfl) zki_3 ?_
  refine zj_iadd o (zdd k_Q_law_16 1 rfl) ?_
  obtain ⟨x7, e_x7, h⟩ := zbd h
  refine zj_sald o hsc (zdd k_Q_law_16 2 rfl) e_x7 ?_
  obtain ⟨q8, e_q8, h⟩ := zbd h
  refine zj_callV (mc := 134) (ms := 41620) (mc' := 0) (ms' := 0) o (zdd k_Q_law_16 3 rfl) ml_Q_148 mv_M_look ⟨rfl, by decide⟩ (zg_some e_q8).1 (by decide) [.int x5, .int x6, .int x7] [.int q4.1] rfl (Nat.le_of_ble_eq_true rfl) rfl (m_M_look e_q8) hrm (by decide) ?_
  change zPJ X 134 41620 _ _ [.int q8.1, .int q4.1] _
  refine zj_icmp_eq (tgt := 1475) o (zdd k_Q_law_16 4 rfl) (by decide) (fun hc => ?_) (fun hc => ?_)
  · rw [if_pos hc] at h
    refine zj_iinc (v := v3 + 6) (loc' := [(3, .int (v3 + 6)), (0, .retAddr 0), (1, .ref v1), (2, .ref v2)]) o (zdd k_Q_law_20 41 rfl) 3 rfl (by rw [zki_6]) (by decide) rfl ?_
    refine zj_goto (tgt := 18) o (zdd k_Q_law_20 42 rfl) (by decide) ?_
    exact zj_sub [1, 2, 3, 0] rfl (hk18 h hr)
  · rw [if_neg hc] at h
    refine zj_iconst o (zdd k_Q_law_16 5 rfl) zki_0 ?_
    cases h
    exact zr_i o hr (zdd k_Q_law_16 6 rfl)
def f_Q_law_1119 (xs : Nat → Int32) (L : Nat) (k18 : zSt → Nat → Nat → Int32 → Option (Int32 × zSt)) (σ : zSt) (v1 : Nat) (v2 : Nat) (v3 : Int32) : Option (Int32 × zSt) :=
(zsc xs L (v3 + 1)).bind fun x1 =>
(f_W_lies σ v1 x1).bind fun x2 =>
(zsc xs L (v3 + 1)).bind fun x3 =>
(f_M_lies σ v2 x3).bind fun x4 =>
if x2 = x4 then (
k18 σ v1 v2 (v3 + 6)) else
some (0, σ)
set_option maxRecDepth 100000 in
set_option maxHeartbeats 4000000 in
theorem r_Q_law_1119 {X : zCX} (o : zOK X "WantShelvesLaw" c_Q_law n_Q_law 133) {xs : Nat → Int32} {L : Nat} (hsc : zSC X xs L) (hrm : zRM X 134 41620) {k18 : zSt → Nat → Nat → Int32 → Option (Int32 × zSt)} (hk18 : ∀ {σ : zSt} {v1 : Nat} {v2 : Nat} {v3 : Int32} {z : Int32 × zSt}, k18 σ v1 v2 v3 = some z → zRX X 134 41620 (some (.int z.1)) z.2 → zPJ X 134 41620 18 [(0, .retAddr 0), (1, .ref v1), (2, .ref v2), (3, .int v3)] [] σ) {σ : zSt} {v1 : Nat} {v2 : Nat} {v3 : Int32} {z : Int32 × zSt} (h : f_Q_law_1119 xs L k18 σ v1 v2 v3 = some z) (hr : zRX X 134 41620 (some (.int z.1)) z.2) : zPJ X 134 41620 1119 [(0, .retAddr 0), (1, .ref v1), (2, .ref v2), (3, .int v3)] [] σ := by
  unfold f_Q_law_1119 at h
  refine zj_aload_n o (zdd k_Q_law_15 3 rfl) rfl 1 rfl ?_
  refine zj_sload_n o hsc (zdd k_Q_law_15 4 rfl) rfl 0 rfl ?_
  refine zj_iload_n o (zdd k_Q_law_15 5 rfl) rfl 3 rfl ?_
  refine zj_iconst o (zdd k_Q_law_15 6 rfl) zki_1 ?_
  refine zj_iadd o (zdd k_Q_law_15 7 rfl) ?_
  obtain ⟨x1, e_x1, h⟩ := zbd h
  refine zj_sald o hsc (zdd k_Q_law_15 8 rfl) e_x1 ?_
  obtain ⟨x2, e_x2, h⟩ := zbd h
  refine zj_callV (mc := 134) (ms := 41620) (mc' := 0) (ms' := 0) o (zdd k_Q_law_15 9 rfl) ml_Q_141 mv_W_lies ⟨rfl, by decide⟩ (zg_some e_x2).1 (by decide) [.int x1] [] rfl (Nat.le_of_ble_eq_true rfl) rfl (m_W_lies e_x2) hrm (by decide) ?_
  change zPJ X 134 41620 _ _ [.int x2] _
  refine zj_aload_n o (zdd k_Q_law_15 10 rfl) rfl 2 rfl ?_
  refine zj_sload_n o hsc (zdd k_Q_law_15 11 rfl) rfl 0 rfl ?_
  refine zj_iload_n o (zdd k_Q_law_15 12 rfl) rfl 3 rfl ?_
  refine zj_iconst o (zdd k_Q_law_15 13 rfl) zki_1 ?_
  refine zj_iadd o (zdd k_Q_law_15 14 rfl) ?_
  obtain ⟨x3, e_x3, h⟩ := zbd h
  refine zj_sald o hsc (zdd k_Q_law_15 15 rfl) e_x3 ?_
  obtain ⟨x4, e_x4, h⟩ := zbd h
  refine zj_callV (mc := 134) (ms := 41620) (mc' := 0) (ms' := 0) o (zdd k_Q_law_15 16 rfl) ml_Q_144 mv_M_lies ⟨rfl, by decide⟩ (zg_some e_x4).1 (by decide) [.int x3] [.int x2] rfl (Nat.le_of_ble_eq_true rfl) rfl (m_M_lies e_x4) hrm (by decide) ?_
  change zPJ X 134 41620 _ _ [.int x4, .int x2] _
  refine zj_icmp_eq (tgt := 1475) o (zdd k_Q_law_15 17 rfl) (by decide) (fun hc => ?_) (fun hc => ?_)
  · rw [if_pos hc] at h
    refine zj_iinc (v := v3 + 6) (loc' := [(3, .int (v3 + 6)), (0, .retAddr 0), (1, .ref v1), (2, .ref v2)]) o (zdd k_Q_law_20 41 rfl) 3 rfl (by rw [zki_6]) (by decide) rfl ?_
    refine zj_goto (tgt := 18) o (zdd k_Q_law_20 42 rfl) (by decide) ?_
    exact zj_sub [1, 2, 3, 0] rfl (hk18 h hr)
  · rw [if_neg hc] at h
    refine zj_iconst o (zdd k_Q_law_15 18 rfl) zki_0 ?_
    cases h
    exact zr_i o hr (zdd k_Q_law_15 19 rfl)
def f_Q_law_1075 (xs : Nat → Int32) (L : Nat) (k18 : zSt → Nat → Nat → Int32 → Option (Int32 × zSt)) (σ : zSt) (v1 : Nat) (v2 : Nat) (v3 : Int32) : Option (Int32 × zSt) :=
(zsc xs L (v3 + 1)).bind fun x1 =>
(zsc xs L (v3 + 2)).bind fun x2 =>
(zsc xs L (v3 + 3)).bind fun x3 =>
(f_W_crowd σ v1 x1 x2 x3).bind fun q4 =>
(zsc xs L (v3 + 1)).bind fun x5 =>
(zsc xs L (v3 + 2)).bind fun x6 =>
(zsc xs L (v3 + 3)).bind fun x7 =>
(f_M_crowd q4.2 v2 x5 x6 x7).bind fun q8 =>
if lg_cmp q4.1 q8.1 = 0 then (
k18 q8.2 v1 v2 (v3 + 6)) else
some (0, q8.2)
set_option maxRecDepth 100000 in
set_option maxHeartbeats 4000000 in
theorem r_Q_law_1075 {X : zCX} (o : zOK X "WantShelvesLaw" c_Q_law n_Q_law 133) {xs : Nat → Int32} {L : Nat} (hsc : zSC X xs L) (hrm : zRM X 134 41620) {k18 : zSt → Nat → Nat → Int32 → Option (Int32 × zSt)} (hk18 : ∀ {σ : zSt} {v1 : Nat} {v2 : Nat} {v3 : Int32} {z : Int32 × zSt}, k18 σ v1 v2 v3 = some z → zRX X 134 41620 (some (.int z.1)) z.2 → zPJ X 134 41620 18 [(0, .retAddr 0), (1, .ref v1), (2, .ref v2), (3, .int v3)] [] σ) {σ : zSt} {v1 : Nat} {v2 : Nat} {v3 : Int32} {z : Int32 × zSt} (h : f_Q_law_1075 xs L k18 σ v1 v2 v3 = some z) (hr : zRX X 134 41620 (some (.int z.1)) z.2) : zPJ X 134 41620 1075 [(0, .retAddr 0), (1, .ref v1), (2, .ref v2), (3, .int v3)] [] σ := by
  unfold f_Q_law_1075 at h
  refine zj_aload_n o (zdd k_Q_law_14 15 rfl) rfl 1 rfl ?_
  refine zj_sload_n o hsc (zdd k_Q_law_14 16 rfl) rfl 0 rfl ?_
  refine zj_iload_n o (zdd k_Q_law_14 17 rfl) rfl 3 rfl ?_
  refine zj_iconst o (zdd k_Q_law_14 18 rfl) zki_1 ?_
  refine zj_iadd o (zdd k_Q_law_14 19 rfl) ?_
  obtain ⟨x1, e_x1, h⟩ := zbd h
  refine zj_sald o hsc (zdd k_Q_law_14 20 rfl) e_x1 ?_
  refine zj_sload_n o hsc (zdd k_Q_law_14 21 rfl) rfl 0 rfl ?_
  refine zj_iload_n o (zdd k_Q_law_14 22 rfl) rfl 3 rfl ?_
  refine zj_iconst o (zdd k_Q_law_14 23 rfl) zki_2 ?_
  refine zj_iadd o (zdd k_Q_law_14 24 rfl) ?_
  obtain ⟨x2, e_x2, h⟩ := zbd h
  refine zj_sald o hsc (zdd k_Q_law_14 25 rfl) e_x2 ?_
  refine zj_sload_n o hsc (zdd k_Q_law_14 26 rfl) rfl 0 rfl ?_
  refine zj_iload_n o (zdd k_Q_law_14 27 rfl) rfl 3 rfl ?_
  refine zj_iconst o (zdd k_Q_law_14 28 rfl) zki_3 ?_
  refine zj_iadd o (zdd k_Q_law_14 29 rfl) ?_
  obtain ⟨x3, e_x3, h⟩ := zbd h
  refine zj_sald o hsc (zdd k_Q_law_14 30 rfl) e_x3 ?_
  obtain ⟨q4, e_q4, h⟩ := zbd h
  refine zj_callV (mc := 134) (ms := 41620) (mc' := 0) (ms' := 0) o (zdd k_Q_law_14 31 rfl) ml_Q_136 mv_W_crowd ⟨rfl, by decide⟩ (zg_some e_q4).1 (by decide) [.int x1, .int x2, .int x3] [] rfl (Nat.le_of_ble_eq_true rfl) rfl (m_W_crowd e_q4) hrm (by decide) ?_
  change zPJ X 134 41620 _ _ [.long q4.1] _
  refine zj_aload_n o (zdd k_Q_law_14 32 rfl) rfl 2 rfl ?_
  refine zj_sload_n o hsc (zdd k_Q_law_14 33 rfl) rfl 0 rfl ?_
  refine zj_iload_n o (zdd k_Q_law_14 34 rfl) rfl 3 rfl ?_
  refine zj_iconst o (zdd k_Q_law_14 35 rfl) zki_1 ?_
  refine zj_iadd o (zdd k_Q_law_14 36 rfl) ?_
  obtain ⟨x5, e_x5, h⟩ := zbd h
  refine zj_sald o hsc (zdd k_Q_law_14 37 rfl) e_x5 ?_
  refine zj_sload_n o hsc (zdd k_Q_law_14 38 rfl) rfl 0 rfl ?_
  refine zj_iload_n o (zdd k_Q_law_14 39 rfl) rfl 3 rfl ?_
  refine zj_iconst o (zdd k_Q_law_14 40 rfl) zki_2 ?_
  refine zj_iadd o (zdd k_Q_law_14 41 rfl) ?_
  obtain ⟨x6, e_x6, h⟩ := zbd h
  refine zj_sald o hsc (zdd k_Q_law_14 42 rfl) e_x6 ?_
  refine zj_sload_n o hsc (zdd k_Q_law_14 43 rfl) rfl 0 rfl ?_
  refine zj_iload_n o (zdd k_Q_law_14 44 rfl) rfl 3 rfl ?_
  refine zj_iconst o (zdd k_Q_law_14 45 rfl) zki_3 ?_
  refine zj_iadd o (zdd k_Q_law_14 46 rfl) ?_
  obtain ⟨x7, e_x7, h⟩ := zbd h
  refine zj_sald o hsc (zdd k_Q_law_14 47 rfl) e_x7 ?_
  obtain ⟨q8, e_q8, h⟩ := zbd h
  refine zj_callV (mc := 134) (ms := 41620) (mc' := 0) (ms' := 0) o (zdd k_Q_law_14 48 rfl) ml_Q_140 mv_M_crowd ⟨rfl, by decide⟩ (zg_some e_q8).1 (by decide) [.int x5, .int x6, .int x7] [.long q4.1] rfl (Nat.le_of_ble_eq_true rfl) rfl (m_M_crowd e_q8) hrm (by decide) ?_
  change zPJ X 134 41620 _ _ [.long q8.1, .long q4.1] _
  refine zj_lcmp o (zdd k_Q_law_14 49 rfl) ?_
  refine zj_if_eq (tgt := 1475) o (zdd k_Q_law_15 0 rfl) (by decide) (fun hc => ?_) (fun hc => ?_)
  · rw [if_pos hc] at h
    refine zj_iinc (v := v3 + 6) (loc' := [(3, .int (v3 + 6)), (0, .retAddr 0), (1, .ref v1), (2, .ref v2)]) o (zdd k_Q_law_20 41 rfl) 3 rfl (by rw [zki_6]) (by decide) rfl ?_
    refine zj_goto (tgt := 18) o (zdd k_Q_law_20 42 rfl) (by decide) ?_
    exact zj_sub [1, 2, 3, 0] rfl (hk18 h hr)
  · rw [if_neg hc] at h
    refine zj_iconst o (zdd k_Q_law_15 1 rfl) zki_0 ?_
    cases h
    exact zr_i o hr (zdd k_Q_law_15 2 rfl)
def f_Q_law_1062 (xs : Nat → Int32) (L : Nat) (k18 : zSt → Nat → Nat → Int32 → Option (Int32 × zSt)) (σ : zSt) (v1 : Nat) (v2 : Nat) (v3 : Int32) : Option (Int32 × zSt) :=
(f_W_one σ v1).bind fun q1 =>
(f_M_one q1.2 v2).bind fun q2 =>
if q1.1 = q2.1 then (
k18 q2.2 v1 v2 (v3 + 6)) else
some (0, q2.2)
set_option maxRecDepth 100000 in
set_option maxHeartbeats 4000000 in
theorem r_Q_law_1062 {X : zCX} (o : zOK X "WantShelvesLaw" c_Q_law n_Q_law 133) {xs : Nat → Int32} {L : Nat} (hsc : zSC X xs L) (hrm : zRM X 134 41620) {k18 : zSt → Nat → Nat → Int32 → Option (Int32 × zSt)} (hk18 : ∀ {σ : zSt} {v1 : Nat} {v2 : Nat} {v3 : Int32} {z : Int32 × zSt}, k18 σ v1 v2 v3 = some z → zRX X 134 41620 (some (.int z.1)) z.2 → zPJ X 134 41620 18 [(0, .retAddr 0), (1, .ref v1), (2, .ref v2), (3, .int v3)] [] σ) {σ : zSt} {v1 : Nat} {v2 : Nat} {v3 : Int32} {z : Int32 × zSt} (h : f_Q_law_1062 xs L k18 σ v1 v2 v3 = some z) (hr : zRX X 134 41620 (some (.int z.1)) z.2) : zPJ X 134 41620 1062 [(0, .retAddr 0), (1, .ref v1), (2, .ref v2), (3, .int v3)] [] σ := by
  unfold f_Q_law_1062 at h
  refine zj_aload_n o (zdd k_Q_law_14 8 rfl) rfl 1 rfl ?_
  obtain ⟨q1, e_q1, h⟩ := zbd h
  refine zj_callV (mc := 134) (ms := 41620) (mc' := 0) (ms' := 0) o (zdd k_Q_law_14 9 rfl) ml_Q_132 mv_W_one ⟨rfl, by decide⟩ (zg_some e_q1).1 (by decide) [] [] rfl (Nat.le_of_ble_eq_true rfl) rfl (m_W_one e_q1) hrm (by decide) ?_
  change zPJ X 134 41620 _ _ [.int q1.1] _
  refine zj_aload_n o (zdd k_Q_law_14 10 rfl) rfl 2 rfl ?_
  obtain ⟨q2, e_q2, h⟩ := zbd h
  refine zj_callV (mc := 134) (ms := 41620) (mc' := 0) (ms' := 0) o (zdd k_Q_law_14 11 rfl) ml_Q_135 mv_M_one ⟨rfl, by decide⟩ (zg_some e_q2).1 (by decide) [] [.int q1.1] rfl (Nat.le_of_ble_eq_true rfl) rfl (m_M_one e_q2) hrm (by decide) ?_
  change zPJ X 134 41620 _ _ [.int q2.1, .int q1.1] _
  refine zj_icmp_eq (tgt := 1475) o (zdd k_Q_law_14 12 rfl) (by decide) (fun hc => ?_) (fun hc => ?_)
  · rw [if_pos hc] at h
    refine zj_iinc (v := v3 + 6) (loc' := [(3, .int (v3 + 6)), (0, .retAddr 0), (1, .ref v1), (2, .ref v2)]) o (zdd k_Q_law_20 41 rfl) 3 rfl (by rw [zki_6]) (by decide) rfl ?_
    refine zj_goto (tgt := 18) o (zdd k_Q_law_20 42 rfl) (by decide) ?_
    exact zj_sub [1, 2, 3, 0] rfl (hk18 h hr)
  · rw [if_neg hc] at h
    refine zj_iconst o (zdd k_Q_law_14 13 rfl) zki_0 ?_
    cases h
    exact zr_i o hr (zdd k_Q_law_14 14 rfl)
def f_Q_law_1039 (xs : Nat → Int32) (L : Nat) (k18 : zSt → Nat → Nat → Int32 → Option (Int32 × zSt)) (σ : zSt) (v1 : Nat) (v2 : Nat) (v3 : Int32) : Option (Int32 × zSt) :=
(zsc xs L (v3 + 1)).bind fun x1 =>
(f_W_was σ v1 x1).bind fun q2 =>
(zsc xs L (v3 + 1)).bind fun x3 =>
(f_M_was q2.2 v2 x3).bind fun q4 =>
if q2.1 = q4.1 then (
k18 q4.2 v1 v2 (v3 + 6)) else
some (0, q4.2)
set_option maxRecDepth 100000 in
set_option maxHeartbeats 4000000 in
theorem r_Q_law_1039 {X : zCX} (o : zOK X "WantShelvesLaw" c_Q_law n_Q_law 133) {xs : Nat → Int32} {L : Nat} (hsc : zSC X xs L) (hrm : zRM X 134 41620) {k18 : zSt → Nat → Nat → Int32 → Option (Int32 × zSt)} (hk18 : ∀ {σ : zSt} {v1 : Nat} {v2 : Nat} {v3 : Int32} {z : Int32 × zSt}, k18 σ v1 v2 v3 = some z → zRX X 134 41620 (some (.int z.1)) z.2 → zPJ X 134 41620 18 [(0, .retAddr 0), (1, .ref v1), (2, .ref v2), (3, .int v3)] [] σ) {σ : zSt} {v1 : Nat} {v2 : Nat} {v3 : Int32} {z : Int32 × zSt} (h : f_Q_law_1039 xs L k18 σ v1 v2 v3 = some z) (hr : zRX X 134 41620 (some (.int z.1)) z.2) : zPJ X 134 41620 1039 [(0, .retAddr 0), (1, .ref v1), (2, .ref v2), (3, .int v3)] [] σ := by
  unfold f_Q_law_1039 at h
  refine zj_aload_n o (zdd k_Q_law_13 41 rfl) rfl 1 rfl ?_
  refine zj_sload_n o hsc (zdd k_Q_law_13 42 rfl) rfl 0 rfl ?_
  refine zj_iload_n o (zdd k_Q_law_13 43 rfl) rfl 3 rfl ?_
  refine zj_iconst o (zdd k_Q_law_13 44 rfl) zki_1 ?_
  refine zj_iadd o (zdd k_Q_law_13 45 rfl) ?_
  obtain ⟨x1, e_x1, h⟩ := zbd h
  refine zj_sald o hsc (zdd k_Q_law_13 46 rfl) e_x1 ?_
  obtain ⟨q2, e_q2, h⟩ := zbd h
  refine zj_callV (mc := 134) (ms := 41620) (mc' := 0) (ms' := 0) o (zdd k_Q_law_13 47 rfl) ml_Q_128 mv_W_was ⟨rfl, by decide⟩ (zg_some e_q2).1 (by decide) [.int x1] [] rfl (Nat.le_of_ble_eq_true rfl) rfl (m_W_was e_q2) hrm (by decide) ?_
  change zPJ X 134 41620 _ _ [.int q2.1] _
  refine zj_aload_n o (zdd k_Q_law_13 48 rfl) rfl 2 rfl ?_
  refine zj_sload_n o hsc (zdd k_Q_law_13 49 rfl) rfl 0 rfl ?_
  refine zj_iload_n o (zdd k_Q_law_14 0 rfl) rfl 3 rfl ?_
  refine zj_iconst o (zdd k_Q_law_14 1 rfl) zki_1 ?_
  refine zj_iadd o (zdd k_Q_law_14 2 rfl) ?_
  obtain ⟨x3, e_x3, h⟩ := zbd h
  refine zj_sald o hsc (zdd k_Q_law_14 3 rfl) e_x3 ?_
  obtain ⟨q4, e_q4, h⟩ := zbd h
  refine zj_callV (mc := 134) (ms := 41620) (mc' := 0) (ms' := 0) o (zdd k_Q_law_14 4 rfl) ml_Q_131 mv_M_was ⟨rfl, by decide⟩ (zg_some e_q4).1 (by decide) [.int x3] [.int q2.1] rfl (Nat.le_of_ble_eq_true rfl) rfl (m_M_was e_q4) hrm (by decide) ?_
  change zPJ X 134 41620 _ _ [.int q4.1, .int q2.1] _
  refine zj_icmp_eq (tgt := 1475) o (zdd k_Q_law_14 5 rfl) (by decide) (fun hc => ?_) (fun hc => ?_)
  · rw [if_pos hc] at h
    refine zj_iinc (v := v3 + 6) (loc' := [(3, .int (v3 + 6)), (0, .retAddr 0), (1, .ref v1), (2, .ref v2)]) o (zdd k_Q_law_20 41 rfl) 3 rfl (by rw [zki_6]) (by decide) rfl ?_
    refine zj_goto (tgt := 18) o (zdd k_Q_law_20 42 rfl) (by decide) ?_
    exact zj_sub [1, 2, 3, 0] rfl (hk18 h hr)
  · rw [if_neg hc] at h
    refine zj_iconst o (zdd k_Q_law_14 6 rfl) zki_0 ?_
    cases h
    exact zr_i o hr (zdd k_Q_law_14 7 rfl)
def f_Q_law_1026 (xs : Nat → Int32) (L : Nat) (k18 : zSt → Nat → Nat → Int32 → Option (Int32 × zSt)) (σ : zSt) (v1 : Nat) (v2 : Nat) (v3 : Int32) : Option (Int32 × zSt) :=
(f_W_hush σ v1).bind fun q1 =>
(f_M_hush q1.2 v2).bind fun q2 =>
if q1.1 = q2.1 then (
k18 q2.2 v1 v2 (v3 + 6)) else
some (0, q2.2)
set_option maxRecDepth 100000 in
set_option maxHeartbeats 4000000 in
theorem r_Q_law_1026 {X : zCX} (o : zOK X "WantShelvesLaw" c_Q_law n_Q_law 133) {xs : Nat → Int32} {L : Nat} (hsc : zSC X xs L) (hrm : zRM X 134 41620) {k18 : zSt → Nat → Nat → Int32 → Option (Int32 × zSt)} (hk18 : ∀ {σ : zSt} {v1 : Nat} {v2 : Nat} {v3 : Int32} {z : Int32 × zSt}, k18 σ v1 v2 v3 = some z → zRX X 134 41620 (some (.int z.1)) z.2 → zPJ X 134 41620 18 [(0, .retAddr 0), (1, .ref v1), (2, .ref v2), (3, .int v3)] [] σ) {σ : zSt} {v1 : Nat} {v2 : Nat} {v3 : Int32} {z : Int32 × zSt} (h : f_Q_law_1026 xs L k18 σ v1 v2 v3 = some z) (hr : zRX X 134 41620 (some (.int z.1)) z.2) : zPJ X 134 41620 1026 [(0, .retAddr 0), (1, .ref v1), (2, .ref v2), (3, .int v3)] [] σ := by
  unfold f_Q_law_1026 at h
  refine zj_aload_n o (zdd k_Q_law_13 34 rfl) rfl 1 rfl ?_
  obtain ⟨q1, e_q1, h⟩ := zbd h
  refine zj_callV (mc := 134) (ms := 41620) (mc' := 0) (ms' := 0) o (zdd k_Q_law_13 35 rfl) ml_Q_124 mv_W_hush ⟨rfl, by decide⟩ (zg_some e_q1).1 (by decide) [] [] rfl (Nat.le_of_ble_eq_true rfl) rfl (m_W_hush e_q1) hrm (by decide) ?_
  change zPJ X 134 41620 _ _ [.int q1.1] _
  refine zj_aload_n o (zdd k_Q_law_13 36 rfl) rfl 2 rfl ?_
  obtain ⟨q2, e_q2, h⟩ := zbd h
  refine zj_callV (mc := 134) (ms := 41620) (mc' := 0) (ms' := 0) o (zdd k_Q_law_13 37 rfl) ml_Q_127 mv_M_hush ⟨rfl, by decide⟩ (zg_some e_q2).1 (by decide) [] [.int q1.1] rfl (Nat.le_of_ble_eq_true rfl) rfl (m_M_hush e_q2) hrm (by decide) ?_
  change zPJ X 134 41620 _ _ [.int q2.1, .int q1.1] _
  refine zj_icmp_eq (tgt := 1475) o (zdd k_Q_law_13 38 rfl) (by decide) (fun hc => ?_) (fun hc => ?_)
  · rw [if_pos hc] at h
    refine zj_iinc (v := v3 + 6) (loc' := [(3, .int (v3 + 6)), (0, .retAddr 0), (1, .ref v1), (2, .ref v2)]) o (zdd k_Q_law_20 41 rfl) 3 rfl (by rw [zki_6]) (by decide) rfl ?_
    refine zj_goto (tgt := 18) o (zdd k_Q_law_20 42 rfl) (by decide) ?_
    exact zj_sub [1, 2, 3, 0] rfl (hk18 h hr)
  · rw [if_neg hc] at h
    refine zj_iconst o (zdd k_Q_law_13 39 rfl) zki_0 ?_
    cases h
    exact zr_i o hr (zdd k_Q_law_13 40 rfl)
def f_Q_law_1003 (xs : Nat → Int32) (L : Nat) (k18 : zSt → Nat → Nat → Int32 → Option (Int32 × zSt)) (σ : zSt) (v1 : Nat) (v2 : Nat) (v3 : Int32) : Option (Int32 × zSt) :=
(zsc xs L (v3 + 1)).bind fun x1 =>
(f_W_left σ v1 x1).bind fun q2 =>
(zsc xs L (v3 + 1)).bind fun x3 =>
(f_M_left q2.2 v2 x3).bind fun q4 =>
if q2.1 = q4.1 then (
k18 q4.2 v1 v2 (v3 + 6)) else
some (0, q4.2)
set_option maxRecDepth 100000 in
set_option maxHeartbeats 4000000 in
theorem r_Q_law_1003 {X : zCX} (o : zOK X "WantShelvesLaw" c_Q_law n_Q_law 133) {xs : Nat → Int32} {L : Nat} (hsc : zSC X xs L) (hrm : zRM X 134 41620) {k18 : zSt → Nat → Nat → Int32 → Option (Int32 × zSt)} (hk18 : ∀ {σ : zSt} {v1 : Nat} {v2 : Nat} {v3 : Int32} {z : Int32 × zSt}, k18 σ v1 v2 v3 = some z → zRX X 134 41620 (some (.int z.1)) z.2 → zPJ X 134 41620 18 [(0, .retAddr 0), (1, .ref v1), (2, .ref v2), (3, .int v3)] [] σ) {σ : zSt} {v1 : Nat} {v2 : Nat} {v3 : Int32} {z : Int32 × zSt} (h : f_Q_law_1003 xs L k18 σ v1 v2 v3 = some z) (hr : zRX X 134 41620 (some (.int z.1)) z.2) : zPJ X 134 41620 1003 [(0, .retAddr 0), (1, .ref v1), (2, .ref v2), (3, .int v3)] [] σ := by
  unfold f_Q_law_1003 at h
  refine zj_aload_n o (zdd k_Q_law_13 17 rfl) rfl 1 rfl ?_
  refine zj_sload_n o hsc (zdd k_Q_law_13 18 rfl) rfl 0 rfl ?_
  refine zj_iload_n o (zdd k_Q_law_13 19 rfl) rfl 3 rfl ?_
  refine zj_iconst o (zdd k_Q_law_13 20 rfl) zki_1 ?_
  refine zj_iadd o (zdd k_Q_law_13 21 rfl) ?_
  obtain ⟨x1, e_x1, h⟩ := zbd h
  refine zj_sald o hsc (zdd k_Q_law_13 22 rfl) e_x1 ?_
  obtain ⟨q2, e_q2, h⟩ := zbd h
  refine zj_callV (mc := 134) (ms := 41620) (mc' := 0) (ms' := 0) o (zdd k_Q_law_13 23 rfl) ml_Q_120 mv_W_left ⟨rfl, by decide⟩ (zg_some e_q2).1 (by decide) [.int x1] [] rfl (Nat.le_of_ble_eq_true rfl) rfl (m_W_left e_q2) hrm (by decide) ?_
  change zPJ X 134 41620 _ _ [.int q2.1] _
  refine zj_aload_n o (zdd k_Q_law_13 24 rfl) rfl 2 rfl ?_
  refine zj_sload_n o hsc (zdd k_Q_law_13 25 rfl) rfl 0 rfl ?_
  refine zj_iload_n o (zdd k_Q_law_13 26 rfl) rfl 3 rfl ?_
  refine zj_iconst o (zdd k_Q_law_13 27 rfl) zki_1 ?_
  refine zj_iadd o (zdd k_Q_law_13 28 rfl) ?_
  obtain ⟨x3, e_x3, h⟩ := zbd h
  refine zj_sald o hsc (zdd k_Q_law_13 29 rfl) e_x3 ?_
  obtain ⟨q4, e_q4, h⟩ := zbd h
  refine zj_callV (mc := 134) (ms := 41620) (mc' := 0) (ms' := 0) o (zdd k_Q_law_13 30 rfl) ml_Q_123 mv_M_left ⟨rfl, by decide⟩ (zg_some e_q4).1 (by decide) [.int x3] [.int q2.1] rfl (Nat.le_of_ble_eq_true rfl) rfl (m_M_left e_q4) hrm (by decide) ?_
  change zPJ X 134 41620 _ _ [.int q4.1, .int q2.1] _
  refine zj_icmp_eq (tgt := 1475) o (zdd k_Q_law_13 31 rfl) (by decide) (fun hc => ?_) (fun hc => ?_)
  · rw [if_pos hc] at h
    refine zj_iinc (v := v3 + 6) (loc' := [(3, .int (v3 + 6)), (0, .retAddr 0), (1, .ref v1), (2, .ref v2)]) o (zdd k_Q_law_20 41 rfl) 3 rfl (by rw [zki_6]) (by decide) rfl ?_
    refine zj_goto (tgt := 18) o (zdd k_Q_law_20 42 rfl) (by decide) ?_
    exact zj_sub [1, 2, 3, 0] rfl (hk18 h hr)
  · rw [if_neg hc] at h
    refine zj_iconst o (zdd k_Q_law_13 32 rfl) zki_0 ?_
    cases h
    exact zr_i o hr (zdd k_Q_law_13 33 rfl)
def f_Q_law_960 (xs : Nat → Int32) (L : Nat) (k18 : zSt → Nat → Nat → Int32 → Option (Int32 × zSt)) (σ : zSt) (v1 : Nat) (v2 : Nat) (v3 : Int32) : Option (Int32 × zSt) :=
(zsc xs L (v3 + 1)).bind fun x1 =>
(zsc xs L (v3 + 2)).bind fun x2 =>
(zsc xs L (v3 + 3)).bind fun x3 =>
(f_W_rest σ v1 x1 x2 x3).bind fun q4 =>
(zsc xs L (v3 + 1)).bind fun x5 =>
(zsc xs L (v3 + 2)).bind fun x6 =>
(zsc xs L (v3 + 3)).bind fun x7 =>
(f_M_rest q4.2 v2 x5 x6 x7).bind fun q8 =>
if q4.1 = q8.1 then (
k18 q8.2 v1 v2 (v3 + 6)) else
some (0, q8.2)
set_option maxRecDepth 100000 in
set_option maxHeartbeats 4000000 in
theorem r_Q_law_960 {X : zCX} (o : zOK X "WantShelvesLaw" c_Q_law n_Q_law 133) {xs : Nat → Int32} {L : Nat} (hsc : zSC X xs L) (hrm : zRM X 134 41620) {k18 : zSt → Nat → Nat → Int32 → Option (Int32 × zSt)} (hk18 : ∀ {σ : zSt} {v1 : Nat} {v2 : Nat} {v3 : Int32} {z : Int32 × zSt}, k18 σ v1 v2 v3 = some z → zRX X 134 41620 (some (.int z.1)) z.2 → zPJ X 134 41620 18 [(0, .retAddr 0), (1, .ref v1), (2, .ref v2), (3, .int v3)] [] σ) {σ : zSt} {v1 : Nat} {v2 : Nat} {v3 : Int32} {z : Int32 × zSt} (h : f_Q_law_960 xs L k18 σ v1 v2 v3 = some z) (hr : zRX X 134 41620 (some (.int z.1)) z.2) : zPJ X 134 41620 960 [(0, .retAddr 0), (1, .ref v1), (2, .ref v2), (3, .int v3)] [] σ := by
  unfold f_Q_law_960 at h
  refine zj_aload_n o (zdd k_Q_law_12 30 rfl) rfl 1 rfl ?_
  refine zj_sload_n o hsc (zdd k_Q_law_12 31 rfl) rfl 0 rfl ?_
  refine zj_iload_n o (zdd k_Q_law_12 32 rfl) rfl 3 rfl ?_
  refine zj_iconst o (zdd k_Q_law_12 33 rfl) zki_1 ?_
  refine zj_iadd o (zdd k_Q_law_12 34 rfl) ?_
  obtain ⟨x1, e_x1, h⟩ := zbd h
  refine zj_sald o hsc (zdd k_Q_law_12 35 rfl) e_x1 ?_
  refine zj_sload_n o hsc (zdd k_Q_law_12 36 rfl) rfl 0 rfl ?_
  refine zj_iload_n o (zdd k_Q_law_12 37 rfl) rfl 3 rfl ?_
  refine zj_iconst o (zdd k_Q_law_12 38 rfl) zki_2 ?_
  refine zj_iadd o (zdd k_Q_law_12 39 rfl) ?_
  obtain ⟨x2, e_x2, h⟩ := zbd h
  refine zj_sald o hsc (zdd k_Q_law_12 40 rfl) e_x2 ?_
  refine zj_sload_n o hsc (zdd k_Q_law_12 41 rfl) rfl 0 rfl ?_
  refine zj_iload_n o (zdd k_Q_law_12 42 rfl) rfl 3 rfl ?_
  refine zj_iconst o (zdd k_Q_law_12 43 rfl) zki_3 ?_
  refine zj_iadd o (zdd k_Q_law_12 44 rfl) ?_
  obtain ⟨x3, e_x3, h⟩ := zbd h
  refine zj_sald o hsc (zdd k_Q_law_12 45 rfl) e_x3 ?_
  obtain ⟨q4, e_q4, h⟩ := zbd h
  refine zj_callV (mc := 134) (ms := 41620) (mc' := 0) (ms' := 0) o (zdd k_Q_law_12 46 rfl) ml_Q_116 mv_W_rest ⟨rfl, by decide⟩ (zg_some e_q4).1 (by decide) [.int x1, .int x2, .int x3] [] rfl (Nat.le_of_ble_eq_true rfl) rfl (m_W_rest e_q4) hrm (by decide) ?_
  change zPJ X 134 41620 _ _ [.int q4.1] _
  refine zj_aload_n o (zdd k_Q_law_12 47 rfl) rfl 2 rfl ?_
  refine zj_sload_n o hsc (zdd k_Q_law_12 48 rfl) rfl 0 rfl ?_
  refine zj_iload_n o (zdd k_Q_law_12 49 rfl) rfl 3 rfl ?_
  refine zj_iconst o (zdd k_Q_law_13 0 rfl) zki_1 ?_
  refine zj_iadd o (zdd k_Q_law_13 1 rfl) ?_
  obtain ⟨x5, e_x5, h⟩ := zbd h
  refine zj_sald o hsc (zdd k_Q_law_13 2 rfl) e_x5 ?_
  refine zj_sload_n o hsc (zdd k_Q_law_13 3 rfl) rfl 0 rfl ?_
  refine zj_iload_n o (zdd k_Q_law_13 4 rfl) rfl 3 rfl ?_
  refine zj_iconst o (zdd k_Q_law_13 5 rfl) zki_2 ?_
  refine zj_iadd o (zdd k_Q_law_13 6 rfl) ?_
  obtain ⟨x6, e_x6, h⟩ := zbd h
  refine zj_sald o hsc (zdd k_Q_law_13 7 rfl) e_x6 ?_
  refine zj_sload_n o hsc (zdd k_Q_law_13 8 rfl) rfl 0 rfl ?_
  refine zj_iload_n o (zdd k_Q_law_13 9 rfl) rfl 3 rfl ?_
  refine zj_iconst o (zdd k_Q_law_13 10 rfl) zki_3 ?_
  refine zj_iadd o (zdd k_Q_law_13 11 rfl) ?_
  obtain ⟨x7, e_x7, h⟩ := zbd h
  refine zj_sald o hsc (zdd k_Q_law_13 12 rfl) e_x7 ?_
  obtain ⟨q8, e_q8, h⟩ := zbd h
  refine zj_callV (mc := 134) (ms := 41620) (mc' := 0) (ms' := 0) o (zdd k_Q_law_13 13 rfl) ml_Q_119 mv_M_rest ⟨rfl, by decide⟩ (zg_some e_q8).1 (by decide) [.int x5, .int x6, .int x7] [.int q4.1] rfl (Nat.le_of_ble_eq_true rfl) rfl (m_M_rest e_q8) hrm (by decide) ?_
  change zPJ X 134 41620 _ _ [.int q8.1, .int q4.1] _
  refine zj_icmp_eq (tgt := 1475) o (zdd k_Q_law_13 14 rfl) (by decide) (fun hc => ?_) (fun hc => ?_)
  · rw [if_pos hc] at h
    refine zj_iinc (v := v3 + 6) (loc' := [(3, .int (v3 + 6)), (0, .retAddr 0), (1, .ref v1), (2, .ref v2)]) o (zdd k_Q_law_20 41 rfl) 3 rfl (by rw [zki_6]) (by decide) rfl ?_
    refine zj_goto (tgt := 18) o (zdd k_Q_law_20 42 rfl) (by decide) ?_
    exact zj_sub [1, 2, 3, 0] rfl (hk18 h hr)
  · rw [if_neg hc] at h
    refine zj_iconst o (zdd k_Q_law_13 15 rfl) zki_0 ?_
    cases h
    exact zr_i o hr (zdd k_Q_law_13 16 rfl)
def f_Q_law_917 (xs : Nat → Int32) (L : Nat) (k18 : zSt → Nat → Nat → Int32 → Option (Int32 × zSt)) (σ : zSt) (v1 : Nat) (v2 : Nat) (v3 : Int32) : Option (Int32 × zSt) :=
(zsc xs L (v3 + 1)).bind fun x1 =>
(zsc xs L (v3 + 2)).bind fun x2 =>
(zsc xs L (v3 + 3)).bind fun x3 =>
(f_W_pretend σ v1 x1 x2 x3).bind fun q4 =>
(zsc xs L (v3 + 1)).bind fun x5 =>
(zsc xs L (v3 + 2)).bind fun x6 =>
(zsc xs L (v3 + 3)).bind fun x7 =>
(f_M_pretend q4.2 v2 x5 x6 x7).bind fun q8 =>
if q4.1 = q8.1 then (
k18 q8.2 v1 v2 (v3 + 6)) else
some (0, q8.2)
set_option maxRecDepth 100000 in
set_option maxHeartbeats 4000000 in
theorem r_Q_law_917 {X : zCX} (o : zOK X "WantShelvesLaw" c_Q_law n_Q_law 133) {xs : Nat → Int32} {L : Nat} (hsc : zSC X xs L) (hrm : zRM X 134 41620) {k18 : zSt → Nat → Nat → Int32 → Option (Int32 × zSt)} (hk18 : ∀ {σ : zSt} {v1 : Nat} {v2 : Nat} {v3 : Int32} {z : Int32 × zSt}, k18 σ v1 v2 v3 = some z → zRX X 134 41620 (some (.int z.1)) z.2 → zPJ X 134 41620 18 [(0, .retAddr 0), (1, .ref v1), (2, .ref v2), (3, .int v3)] [] σ) {σ : zSt} {v1 : Nat} {v2 : Nat} {v3 : Int32} {z : Int32 × zSt} (h : f_Q_law_917 xs L k18 σ v1 v2 v3 = some z) (hr : zRX X 134 41620 (some (.int z.1)) z.2) : zPJ X 134 41620 917 [(0, .retAddr 0), (1, .ref v1), (2, .ref v2), (3, .int v3)] [] σ := by
  unfold f_Q_law_917 at h
  refine zj_aload_n o (zdd k_Q_law_11 43 rfl) rfl 1 rfl ?_
  refine zj_sload_n o hsc (zdd k_Q_law_11 44 rfl) rfl 0 rfl ?_
  refine zj_iload_n o (zdd k_Q_law_11 45 rfl) rfl 3 rfl ?_
  refine zj_iconst o (zdd k_Q_law_11 46 rfl) zki_1 ?_
  refine zj_iadd o (zdd k_Q_law_11 47 rfl) ?_
  obtain ⟨x1, e_x1, h⟩ := zbd h
  refine zj_sald o hsc (zdd k_Q_law_11 48 rfl) e_x1 ?_
  refine zj_sload_n o hsc (zdd k_Q_law_11 49 rfl) rfl 0 rfl ?_
  refine zj_iload_n o (zdd k_Q_law_12 0 rfl) rfl 3 rfl ?_
  refine zj_iconst o (zdd k_Q_law_12 1 rfl) zki_2 ?_
  refine zj_iadd o (zdd k_Q_law_12 2 rfl) ?_
  obtain ⟨x2, e_x2, h⟩ := zbd h
  refine zj_sald o hsc (zdd k_Q_law_12 3 rfl) e_x2 ?_
  refine zj_sload_n o hsc (zdd k_Q_law_12 4 rfl) rfl 0 rfl ?_
  refine zj_iload_n o (zdd k_Q_law_12 5 rfl) rfl 3 rfl ?_
  refine zj_iconst o (zdd k_Q_law_12 6 rfl) zki_3 ?_
  refine zj_iadd o (zdd k_Q_law_12 7 rfl) ?_
  obtain ⟨x3, e_x3, h⟩ := zbd h
  refine zj_sald o hsc (zdd k_Q_law_12 8 rfl) e_x3 ?_
  obtain ⟨q4, e_q4, h⟩ := zbd h
  refine zj_callV (mc := 134) (ms := 41620) (mc' := 0) (ms' := 0) o (zdd k_Q_law_12 9 rfl) ml_Q_112 mv_W_pretend ⟨rfl, by decide⟩ (zg_some e_q4).1 (by decide) [.int x1, .int x2, .int x3] [] rfl (Nat.le_of_ble_eq_true rfl) rfl (m_W_pretend e_q4) hrm (by decide) ?_
  change zPJ X 134 41620 _ _ [.int q4.1] _
  refine zj_aload_n o (zdd k_Q_law_12 10 rfl) rfl 2 rfl ?_
  refine zj_sload_n o hsc (zdd k_Q_law_12 11 rfl) rfl 0 rfl ?_
  refine zj_iload_n o (zdd k_Q_law_12 12 rfl) rfl 3 rfl ?_
  refine zj_iconst o (zdd k_Q_law_12 13 rfl) zki_1 ?_
  refine zj_iadd o (zdd k_Q_law_12 14 rfl) ?_
  obtain ⟨x5, e_x5, h⟩ := zbd h
  refine zj_sald o hsc (zdd k_Q_law_12 15 rfl) e_x5 ?_
  refine zj_sload_n o hsc (zdd k_Q_law_12 16 rfl) rfl 0 rfl ?_
  refine zj_iload_n o (zdd k_Q_law_12 17 rfl) rfl 3 rfl ?_
  refine zj_iconst o (zdd k_Q_law_12 18 rfl) zki_2 ?_
  refine zj_iadd o (zdd k_Q_law_12 19 rfl) ?_
  obtain ⟨x6, e_x6, h⟩ := zbd h
  refine zj_sald o hsc (zdd k_Q_law_12 20 rfl) e_x6 ?_
  refine zj_sload_n o hsc (zdd k_Q_law_12 21 rfl) rfl 0 rfl ?_
  refine zj_iload_n o (zdd k_Q_law_12 22 rfl) rfl 3 rfl ?_
  refine zj_iconst o (zdd k_Q_law_12 23 rfl) zki_3 ?_
  refine zj_iadd o (zdd k_Q_law_12 24 rfl) ?_
  obtain ⟨x7, e_x7, h⟩ := zbd h
  refine zj_sald o hsc (zdd k_Q_law_12 25 rfl) e_x7 ?_
  obtain ⟨q8, e_q8, h⟩ := zbd h
  refine zj_callV (mc := 134) (ms := 41620) (mc' := 0) (ms' := 0) o (zdd k_Q_law_12 26 rfl) ml_Q_115 mv_M_pretend ⟨rfl, by decide⟩ (zg_some e_q8).1 (by decide) [.int x5, .int x6, .int x7] [.int q4.1] rfl (Nat.le_of_ble_eq_true rfl) rfl (m_M_pretend e_q8) hrm (by decide) ?_
  change zPJ X 134 41620 _ _ [.int q8.1, .int q4.1] _
  refine zj_icmp_eq (tgt := 1475) o (zdd k_Q_law_12 27 rfl) (by decide) (fun hc => ?_) (fun hc => ?_)
  · rw [if_pos hc] at h
    refine zj_iinc (v := v3 + 6) (loc' := [(3, .int (v3 + 6)), (0, .retAddr 0), (1, .ref v1), (2, .ref v2)]) o (zdd k_Q_law_20 41 rfl) 3 rfl (by rw [zki_6]) (by decide) rfl ?_
    refine zj_goto (tgt := 18) o (zdd k_Q_law_20 42 rfl) (by decide) ?_
    exact zj_sub [1, 2, 3, 0] rfl (hk18 h hr)
  · rw [if_neg hc] at h
    refine zj_iconst o (zdd k_Q_law_12 28 rfl) zki_0 ?_
    cases h
    exact zr_i o hr (zdd k_Q_law_12 29 rfl)
def f_Q_law_864 (xs : Nat → Int32) (L : Nat) (k18 : zSt → Nat → Nat → Int32 → Option (Int32 × zSt)) (σ : zSt) (v1 : Nat) (v2 : Nat) (v3 : Int32) : Option (Int32 × zSt) :=
(zsc xs L (v3 + 1)).bind fun x1 =>
(zsc xs L (v3 + 2)).bind fun x2 =>
(zsc xs L (v3 + 3)).bind fun x3 =>
(zsc xs L (v3 + 4)).bind fun x4 =>
(f_W_hide σ v1 x1 x2 x3 x4).bind fun q5 =>
(zsc xs L (v3 + 1)).bind fun x6 =>
(zsc xs L (v3 + 2)).bind fun x7 =>
(zsc xs L (v3 + 3)).bind fun x8 =>
(zsc xs L (v3 + 4)).bind fun x9 =>
(f_M_hide q5.2 v2 x6 x7 x8 x9).bind fun q10 =>
if q5.1 = q10.1 then (
k18 q10.2 v1 v2 (v3 + 6)) else
some (0, q10.2)
set_option maxRecDepth 100000 in
set_option maxHeartbeats 4000000 in
theorem r_Q_law_864 {X : zCX} (o : zOK X "WantShelvesLaw" c_Q_law n_Q_law 133) {xs : Nat → Int32} {L : Nat} (hsc : zSC X xs L) (hrm : zRM X 134 41620) {k18 : zSt → Nat → Nat → Int32 → Option (Int32 × zSt)} (hk18 : ∀ {σ : zSt} {v1 : Nat} {v2 : Nat} {v3 : Int32} {z : Int32 × zSt}, k18 σ v1 v2 v3 = some z → zRX X 134 41620 (some (.int z.1)) z.2 → zPJ X 134 41620 18 [(0, .retAddr 0), (1, .ref v1), (2, .ref v2), (3, .int v3)] [] σ) {σ : zSt} {v1 : Nat} {v2 : Nat} {v3 : Int32} {z : Int32 × zSt} (h : f_Q_law_864 xs L k18 σ v1 v2 v3 = some z) (hr : zRX X 134 41620 (some (.int z.1)) z.2) : zPJ X 134 41620 864 [(0, .retAddr 0), (1, .ref v1), (2, .ref v2), (3, .int v3)] [] σ := by
  unfold f_Q_law_864 at h
  refine zj_aload_n o (zdd k_Q_law_10 46 rfl) rfl 1 rfl ?_
  refine zj_sload_n o hsc (zdd k_Q_law_10 47 rfl) rfl 0 rfl ?_
  refine zj_iload_n o (zdd k_Q_law_10 48 rfl) rfl 3 rfl ?_
  refine zj_iconst o (zdd k_Q_law_10 49 rfl) zki_1 ?_
  refine zj_iadd o (zdd k_Q_law_11 0 rfl) ?_
  obtain ⟨x1, e_x1, h⟩ := zbd h
  refine zj_sald o hsc (zdd k_Q_law_11 1 rfl) e_x1 ?_
  refine zj_sload_n o hsc (zdd k_Q_law_11 2 rfl) rfl 0 rfl ?_
  refine zj_iload_n o (zdd k_Q_law_11 3 rfl) rfl 3 rfl ?_
  refine zj_iconst o (zdd k_Q_law_11 4 rfl) zki_2 ?_
  refine zj_iadd o (zdd k_Q_law_11 5 rfl) ?_
  obtain ⟨x2, e_x2, h⟩ := zbd h
  refine zj_sald o hsc (zdd k_Q_law_11 6 rfl) e_x2 ?_
  refine zj_sload_n o hsc (zdd k_Q_law_11 7 rfl) rfl 0 rfl ?_
  refine zj_iload_n o (zdd k_Q_law_11 8 rfl) rfl 3 rfl ?_
  refine zj_iconst o (zdd k_Q_law_11 9 rfl) zki_3 ?_
  refine zj_iadd o (zdd k_Q_law_11 10 rfl) ?_
  obtain ⟨x3, e_x3, h⟩ := zbd h
  refine zj_sald o hsc (zdd k_Q_law_11 11 rfl) e_x3 ?_
  refine zj_sload_n o hsc (zdd k_Q_law_11 12 rfl) rfl 0 rfl ?_
  refine zj_iload_n o (zdd k_Q_law_11 13 rfl) rfl 3 rfl ?_
  refine zj_iconst o (zdd k_Q_law_11 14 rfl) zki_4 ?_
  refine zj_iadd o (zdd k_Q_law_11 15 rfl) ?_
  obtain ⟨x4, e_x4, h⟩ := zbd h
  refine zj_sald o hsc (zdd k_Q_law_11 16 rfl) e_x4 ?_
  obtain ⟨q5, e_q5, h⟩ := zbd h
  refine zj_callV (mc := 134) (ms := 41620) (mc' := 0) (ms' := 0) o (zdd k_Q_law_11 17 rfl) ml_Q_107 mv_W_hide ⟨rfl, by decide⟩ (zg_some e_q5).1 (by decide) [.int x1, .int x2, .int x3, .int x4] [] rfl (Nat.le_of_ble_eq_true rfl) rfl (m_W_hide e_q5) hrm (by decide) ?_
  change zPJ X 134 41620 _ _ [.int q5.1] _
  refine zj_aload_n o (zdd k_Q_law_11 18 rfl) rfl 2 rfl ?_
  refine zj_sload_n o hsc (zdd k_Q_law_11 19 rfl) rfl 0 rfl ?_
  refine zj_iload_n o (zdd k_Q_law_11 20 rfl) rfl 3 rfl ?_
  refine zj_iconst o (zdd k_Q_law_11 21 rfl) zki_1 ?_
  refine zj_iadd o (zdd k_Q_law_11 22 rfl) ?_
  obtain ⟨x6, e_x6, h⟩ := zbd h
  refine zj_sald o hsc (zdd k_Q_law_11 23 rfl) e_x6 ?_
  refine zj_sload_n o hsc (zdd k_Q_law_11 24 rfl) rfl 0 rfl ?_
  refine zj_iload_n o (zdd k_Q_law_11 25 rfl) rfl 3 rfl ?_
  refine zj_iconst o (zdd k_Q_law_11 26 rfl) zki_2 ?_
  refine zj_iadd o (zdd k_Q_law_11 27 rfl) ?_
  obtain ⟨x7, e_x7, h⟩ := zbd h
  refine zj_sald o hsc (zdd k_Q_law_11 28 rfl) e_x7 ?_
  refine zj_sload_n o hsc (zdd k_Q_law_11 29 rfl) rfl 0 rfl ?_
  refine zj_iload_n o (zdd k_Q_law_11 30 rfl) rfl 3 rfl ?_
  refine zj_iconst o (zdd k_Q_law_11 31 rfl) zki_3 ?_
  refine zj_iadd o (zdd k_Q_law_11 32 rfl) ?_
  obtain ⟨x8, e_x8, h⟩ := zbd h
  refine zj_sald o hsc (zdd k_Q_law_11 33 rfl) e_x8 ?_
  refine zj_sload_n o hsc (zdd k_Q_law_11 34 rfl) rfl 0 rfl ?_
  refine zj_iload_n o (zdd k_Q_law_11 35 rfl) rfl 3 rfl ?_
  refine zj_iconst o (zdd k_Q_law_11 36 rfl) zki_4 ?_
  refine zj_iadd o (zdd k_Q_law_11 37 rfl) ?_
  obtain ⟨x9, e_x9, h⟩ := zbd h
  refine zj_sald o hsc (zdd k_Q_law_11 38 rfl) e_x9 ?_
  obtain ⟨q10, e_q10, h⟩ := zbd h
  refine zj_callV (mc := 134) (ms := 41620) (mc' := 0) (ms' := 0) o (zdd k_Q_law_11 39 rfl) ml_Q_111 mv_M_hide ⟨rfl, by decide⟩ (zg_some e_q10).1 (by decide) [.int x6, .int x7, .int x8, .int x9] [.int q5.1] rfl (Nat.le_of_ble_eq_true rfl) rfl (m_M_hide e_q10) hrm (by decide) ?_
  change zPJ X 134 41620 _ _ [.int q10.1, .int q5.1] _
  refine zj_icmp_eq (tgt := 1475) o (zdd k_Q_law_11 40 rfl) (by decide) (fun hc => ?_) (fun hc => ?_)
  · rw [if_pos hc] at h
    refine zj_iinc (v := v3 + 6) (loc' := [(3, .int (v3 + 6)), (0, .retAddr 0), (1, .ref v1), (2, .ref v2)]) o (zdd k_Q_law_20 41 rfl) 3 rfl (by rw [zki_6]) (by decide) rfl ?_
    refine zj_goto (tgt := 18) o (zdd k_Q_law_20 42 rfl) (by decide) ?_
    exact zj_sub [1, 2, 3, 0] rfl (hk18 h hr)
  · rw [if_neg hc] at h
    refine zj_iconst o (zdd k_Q_law_11 41 rfl) zki_0 ?_
    cases h
    exact zr_i o hr (zdd k_Q_law_11 42 rfl)
def f_Q_law_831 (xs : Nat → Int32) (L : Nat) (k18 : zSt → Nat → Nat → Int32 → Option (Int32 × zSt)) (σ : zSt) (v1 : Nat) (v2 : Nat) (v3 : Int32) : Option (Int32 × zSt) :=
(zsc xs L (v3 + 1)).bind fun x1 =>
(zsc xs L (v3 + 2)).bind fun x2 =>
(f_W_leads σ v1 x1 x2).bind fun q3 =>
(zsc xs L (v3 + 1)).bind fun x4 =>
(zsc xs L (v3 + 2)).bind fun x5 =>
(f_M_leads q3.2 v2 x4 x5).bind fun q6 =>
if q3.1 = q6.1 then (
k18 q6.2 v1 v2 (v3 + 6)) else
some (0, q6.2)
set_option maxRecDepth 100000 in
set_option maxHeartbeats 4000000 in
theorem r_Q_law_831 {X : zCX} (o : zOK X "WantShelvesLaw" c_Q_law n_Q_law 133) {xs : Nat → Int32} {L : Nat} (hsc : zSC X xs L) (hrm : zRM X 134 41620) {k18 : zSt → Nat → Nat → Int32 → Option (Int32 × zSt)} (hk18 : ∀ {σ : zSt} {v1 : Nat} {v2 : Nat} {v3 : Int32} {z : Int32 × zSt}, k18 σ v1 v2 v3 = some z → zRX X 134 41620 (some (.int z.1)) z.2 → zPJ X 134 41620 18 [(0, .retAddr 0), (1, .ref v1), (2, .ref v2), (3, .int v3)] [] σ) {σ : zSt} {v1 : Nat} {v2 : Nat} {v3 : Int32} {z : Int32 × zSt} (h : f_Q_law_831 xs L k18 σ v1 v2 v3 = some z) (hr : zRX X 134 41620 (some (.int z.1)) z.2) : zPJ X 134 41620 831 [(0, .retAddr 0), (1, .ref v1), (2, .ref v2), (3, .int v3)] [] σ := by
  unfold f_Q_law_831 at h
  refine zj_aload_n o (zdd k_Q_law_10 19 rfl) rfl 1 rfl ?_
  refine zj_sload_n o hsc (zdd k_Q_law_10 20 rfl) rfl 0 rfl ?_
  refine zj_iload_n o (zdd k_Q_law_10 21 rfl) rfl 3 rfl ?_
  refine zj_iconst o (zdd k_Q_law_10 22 rfl) zki_1 ?_
  refine zj_iadd o (zdd k_Q_law_10 23 rfl) ?_
  obtain ⟨x1, e_x1, h⟩ := zbd h
  refine zj_sald o hsc (zdd k_Q_law_10 24 rfl) e_x1 ?_
  refine zj_sload_n o hsc (zdd k_Q_law_10 25 rfl) rfl 0 rfl ?_
  refine zj_iload_n o (zdd k_Q_law_10 26 rfl) rfl 3 rfl ?_
  refine zj_iconst o (zdd k_Q_law_10 27 rfl) zki_2 ?_
  refine zj_iadd o (zdd k_Q_law_10 28 rfl) ?_
  obtain ⟨x2, e_x2, h⟩ := zbd h
  refine zj_sald o hsc (zdd k_Q_law_10 29 rfl) e_x2 ?_
  obtain ⟨q3, e_q3, h⟩ := zbd h
  refine zj_callV (mc := 134) (ms := 41620) (mc' := 0) (ms' := 0) o (zdd k_Q_law_10 30 rfl) ml_Q_103 mv_W_leads ⟨rfl, by decide⟩ (zg_some e_q3).1 (by decide) [.int x1, .int x2] [] rfl (Nat.le_of_ble_eq_true rfl) rfl (m_W_leads e_q3) hrm (by decide) ?_
  change zPJ X 134 41620 _ _ [.int q3.1] _
  refine zj_aload_n o (zdd k_Q_law_10 31 rfl) rfl 2 rfl ?_
  refine zj_sload_n o hsc (zdd k_Q_law_10 32 rfl) rfl 0 rfl ?_
  refine zj_iload_n o (zdd k_Q_law_10 33 rfl) rfl 3 rfl ?_
  refine zj_iconst o (zdd k_Q_law_10 34 rfl) zki_1 ?_
  refine zj_iadd o (zdd k_Q_law_10 35 rfl) ?_
  obtain ⟨x4, e_x4, h⟩ := zbd h
  refine zj_sald o hsc (zdd k_Q_law_10 36 rfl) e_x4 ?_
  refine zj_sload_n o hsc (zdd k_Q_law_10 37 rfl) rfl 0 rfl ?_
  refine zj_iload_n o (zdd k_Q_law_10 38 rfl) rfl 3 rfl ?_
  refine zj_iconst o (zdd k_Q_law_10 39 rfl) zki_2 ?_
  refine zj_iadd o (zdd k_Q_law_10 40 rfl) ?_
  obtain ⟨x5, e_x5, h⟩ := zbd h
  refine zj_sald o hsc (zdd k_Q_law_10 41 rfl) e_x5 ?_
  obtain ⟨q6, e_q6, h⟩ := zbd h
  refine zj_callV (mc := 134) (ms := 41620) (mc' := 0) (ms' := 0) o (zdd k_Q_law_10 42 rfl) ml_Q_106 mv_M_leads ⟨rfl, by decide⟩ (zg_some e_q6).1 (by decide) [.int x4, .int x5] [.int q3.1] rfl (Nat.le_of_ble_eq_true rfl) rfl (m_M_leads e_q6) hrm (by decide) ?_
  change zPJ X 134 41620 _ _ [.int q6.1, .int q3.1] _
  refine zj_icmp_eq (tgt := 1475) o (zdd k_Q_law_10 43 rfl) (by decide) (fun hc => ?_) (fun hc => ?_)
  · rw [if_pos hc] at h
    refine zj_iinc (v := v3 + 6) (loc' := [(3, .int (v3 + 6)), (0, .retAddr 0), (1, .ref v1), (2, .ref v2)]) o (zdd k_Q_law_20 41 rfl) 3 rfl (by rw [zki_6]) (by decide) rfl ?_
    refine zj_goto (tgt := 18) o (zdd k_Q_law_20 42 rfl) (by decide) ?_
    exact zj_sub [1, 2, 3, 0] rfl (hk18 h hr)
  · rw [if_neg hc] at h
    refine zj_iconst o (zdd k_Q_law_10 44 rfl) zki_0 ?_
    cases h
    exact zr_i o hr (zdd k_Q_law_10 45 rfl)
def f_Q_law_798 (xs : Nat → Int32) (L : Nat) (k18 : zSt → Nat → Nat → Int32 → Option (Int32 × zSt)) (σ : zSt) (v1 : Nat) (v2 : Nat) (v3 : Int32) : Option (Int32 × zSt) :=
(zsc xs L (v3 + 1)).bind fun x1 =>
(zsc xs L (v3 + 2)).bind fun x2 =>
(f_W_errand σ v1 x1 x2).bind fun q3 =>
(zsc xs L (v3 + 1)).bind fun x4 =>
(zsc xs L (v3 + 2)).bind fun x5 =>
(f_M_errand q3.2 v2 x4 x5).bind fun q6 =>
if q3.1 = q6.1 then (
k18 q6.2 v1 v2 (v3 + 6)) else
some (0, q6.2)
set_option maxRecDepth 100000 in
set_option maxHeartbeats 4000000 in
theorem r_Q_law_798 {X : zCX} (o : zOK X "WantShelvesLaw" c_Q_law n_Q_law 133) {xs : Nat → Int32} {L : Nat} (hsc : zSC X xs L) (hrm : zRM X 134 41620) {k18 : zSt → Nat → Nat → Int32 → Option (Int32 × zSt)} (hk18 : ∀ {σ : zSt} {v1 : Nat} {v2 : Nat} {v3 : Int32} {z : Int32 × zSt}, k18 σ v1 v2 v3 = some z → zRX X 134 41620 (some (.int z.1)) z.2 → zPJ X 134 41620 18 [(0, .retAddr 0), (1, .ref v1), (2, .ref v2), (3, .int v3)] [] σ) {σ : zSt} {v1 : Nat} {v2 : Nat} {v3 : Int32} {z : Int32 × zSt} (h : f_Q_law_798 xs L k18 σ v1 v2 v3 = some z) (hr : zRX X 134 41620 (some (.int z.1)) z.2) : zPJ X 134 41620 798 [(0, .retAddr 0), (1, .ref v1), (2, .ref v2), (3, .int v3)] [] σ := by
  unfold f_Q_law_798 at h
  refine zj_aload_n o (zdd k_Q_law_9 42 rfl) rfl 1 rfl ?_
  refine zj_sload_n o hsc (zdd k_Q_law_9 43 rfl) rfl 0 rfl ?_
  refine zj_iload_n o (zdd k_Q_law_9 44 rfl) rfl 3 rfl ?_
  refine zj_iconst o (zdd k_Q_law_9 45 rfl) zki_1 ?_
  refine zj_iadd o (zdd k_Q_law_9 46 rfl) ?_
  obtain ⟨x1, e_x1, h⟩ := zbd h
  refine zj_sald o hsc (zdd k_Q_law_9 47 rfl) e_x1 ?_
  refine zj_sload_n o hsc (zdd k_Q_law_9 48 rfl) rfl 0 rfl ?_
  refine zj_iload_n o (zdd k_Q_law_9 49 rfl) rfl 3 rfl ?_
  refine zj_iconst o (zdd k_Q_law_10 0 rfl) zki_2 ?_
  refine zj_iadd o (zdd k_Q_law_10 1 rfl) ?_
  obtain ⟨x2, e_x2, h⟩ := zbd h
  refine zj_sald o hsc (zdd k_Q_law_10 2 rfl) e_x2 ?_
  obtain ⟨q3, e_q3, h⟩ := zbd h
  refine zj_callV (mc := 134) (ms := 41620) (mc' := 0) (ms' := 0) o (zdd k_Q_law_10 3 rfl) ml_Q_99 mv_W_errand ⟨rfl, by decide⟩ (zg_some e_q3).1 (by decide) [.int x1, .int x2] [] rfl (Nat.le_of_ble_eq_true rfl) rfl (m_W_errand e_q3) hrm (by decide) ?_
  change zPJ X 134 41620 _ _ [.int q3.1] _
  refine zj_aload_n o (zdd k_Q_law_10 4 rfl) rfl 2 rfl ?_
  refine zj_sload_n o hsc (zdd k_Q_law_10 5 rfl) rfl 0 rfl ?_
  refine zj_iload_n o (zdd k_Q_law_10 6 rfl) rfl 3 rfl ?_
  refine zj_iconst o (zdd k_Q_law_10 7 rfl) zki_1 ?_
  refine zj_iadd o (zdd k_Q_law_10 8 rfl) ?_
  obtain ⟨x4, e_x4, h⟩ := zbd h
  refine zj_sald o hsc (zdd k_Q_law_10 9 rfl) e_x4 ?_
  refine zj_sload_n o hsc (zdd k_Q_law_10 10 rfl) rfl 0 rfl ?_
  refine zj_iload_n o (zdd k_Q_law_10 11 rfl) rfl 3 rfl ?_
  refine zj_iconst o (zdd k_Q_law_10 12 rfl) zki_2 ?_
  refine zj_iadd o (zdd k_Q_law_10 13 rfl) ?_
  obtain ⟨x5, e_x5, h⟩ := zbd h
  refine zj_sald o hsc (zdd k_Q_law_10 14 rfl) e_x5 ?_
  obtain ⟨q6, e_q6, h⟩ := zbd h
  refine zj_callV (mc := 134) (ms := 41620) (mc' := 0) (ms' := 0) o (zdd k_Q_law_10 15 rfl) ml_Q_102 mv_M_errand ⟨rfl, by decide⟩ (zg_some e_q6).1 (by decide) [.int x4, .int x5] [.int q3.1] rfl (Nat.le_of_ble_eq_true rfl) rfl (m_M_errand e_q6) hrm (by decide) ?_
  change zPJ X 134 41620 _ _ [.int q6.1, .int q3.1] _
  refine zj_icmp_eq (tgt := 1475) o (zdd k_Q_law_10 16 rfl) (by decide) (fun hc => ?_) (fun hc => ?_)
  · rw [if_pos hc] at h
    refine zj_iinc (v := v3 + 6) (loc' := [(3, .int (v3 + 6)), (0, .retAddr 0), (1, .ref v1), (2, .ref v2)]) o (zdd k_Q_law_20 41 rfl) 3 rfl (by rw [zki_6]) (by decide) rfl ?_
    refine zj_goto (tgt := 18) o (zdd k_Q_law_20 42 rfl) (by decide) ?_
    exact zj_sub [1, 2, 3, 0] rfl (hk18 h hr)
  · rw [if_neg hc] at h
    refine zj_iconst o (zdd k_Q_law_10 17 rfl) zki_0 ?_
    cases h
    exact zr_i o hr (zdd k_Q_law_10 18 rfl)
def f_Q_law_755 (xs : Nat → Int32) (L : Nat) (k18 : zSt → Nat → Nat → Int32 → Option (Int32 × zSt)) (σ : zSt) (v1 : Nat) (v2 : Nat) (v3 : Int32) : Option (Int32 × zSt) :=
(zsc xs L (v3 + 1)).bind fun x1 =>
(zsc xs L (v3 + 2)).bind fun x2 =>
(zsc xs L (v3 + 3)).bind fun x3 =>
(f_W_think σ v1 x1 x2 x3).bind fun q4 =>
(zsc xs L (v3 + 1)).bind fun x5 =>
(zsc xs L (v3 + 2)).bind fun x6 =>
(zsc xs L (v3 + 3)).bind fun x7 =>
(f_M_think q4.2 v2 x5 x6 x7).bind fun q8 =>
if q4.1 = q8.1 then (
k18 q8.2 v1 v2 (v3 + 6)) else
some (0, q8.2)
set_option maxRecDepth 100000 in
set_option maxHeartbeats 4000000 in
theorem r_Q_law_755 {X : zCX} (o : zOK X "WantShelvesLaw" c_Q_law n_Q_law 133) {xs : Nat → Int32} {L : Nat} (hsc : zSC X xs L) (hrm : zRM X 134 41620) {k18 : zSt → Nat → Nat → Int32 → Option (Int32 × zSt)} (hk18 : ∀ {σ : zSt} {v1 : Nat} {v2 : Nat} {v3 : Int32} {z : Int32 × zSt}, k18 σ v1 v2 v3 = some z → zRX X 134 41620 (some (.int z.1)) z.2 → zPJ X 134 41620 18 [(0, .retAddr 0), (1, .ref v1), (2, .ref v2), (3, .int v3)] [] σ) {σ : zSt} {v1 : Nat} {v2 : Nat} {v3 : Int32} {z : Int32 × zSt} (h : f_Q_law_755 xs L k18 σ v1 v2 v3 = some z) (hr : zRX X 134 41620 (some (.int z.1)) z.2) : zPJ X 134 41620 755 [(0, .retAddr 0), (1, .ref v1), (2, .ref v2), (3, .int v3)] [] σ := by
  unfold f_Q_law_755 at h
  refine zj_aload_n o (zdd k_Q_law_9 5 rfl) rfl 1 rfl ?_
  refine zj_sload_n o hsc (zdd k_Q_law_9 6 rfl) rfl 0 rfl ?_
  refine zj_iload_n o (zdd k_Q_law_9 7 rfl) rfl 3 rfl ?_
  refine zj_iconst o (zdd k_Q_law_9 8 rfl) zki_1 ?_
  refine zj_iadd o (zdd k_Q_law_9 9 rfl) ?_
  obtain ⟨x1, e_x1, h⟩ := zbd h
  refine zj_sald o hsc (zdd k_Q_law_9 10 rfl) e_x1 ?_
  refine zj_sload_n o hsc (zdd k_Q_law_9 11 rfl) rfl 0 rfl ?_
  refine zj_iload_n o (zdd k_Q_law_9 12 rfl) rfl 3 rfl ?_
  refine zj_iconst o (zdd k_Q_law_9 13 rfl) zki_2 ?_
  refine zj_iadd o (zdd k_Q_law_9 14 rfl) ?_
  obtain ⟨x2, e_x2, h⟩ := zbd h
  refine zj_sald o hsc (zdd k_Q_law_9 15 rfl) e_x2 ?_
  refine zj_sload_n o hsc (zdd k_Q_law_9 16 rfl) rfl 0 rfl ?_
  refine zj_iload_n o (zdd k_Q_law_9 17 rfl) rfl 3 rfl ?_
  refine zj_iconst o (zdd k_Q_law_9 18 rfl) zki_3 ?_
  refine zj_iadd o (zdd k_Q_law_9 19 rfl) ?_
  obtain ⟨x3, e_x3, h⟩ := zbd h
  refine zj_sald o hsc (zdd k_Q_law_9 20 rfl) e_x3 ?_
  obtain ⟨q4, e_q4, h⟩ := zbd h
  refine zj_callV (mc := 134) (ms := 41620) (mc' := 0) (ms' := 0) o (zdd k_Q_law_9 21 rfl) ml_Q_94 mv_W_think ⟨rfl, by decide⟩ (zg_some e_q4).1 (by decide) [.int x1, .int x2, .int x3] [] rfl (Nat.le_of_ble_eq_true rfl) rfl (m_W_think e_q4) hrm (by decide) ?_
  change zPJ X 134 41620 _ _ [.int q4.1] _
  refine zj_aload_n o (zdd k_Q_law_9 22 rfl) rfl 2 rfl ?_
  refine zj_sload_n o hsc (zdd k_Q_law_9 23 rfl) rfl 0 rfl ?_
  refine zj_iload_n o (zdd k_Q_law_9 24 rfl) rfl 3 rfl ?_
  refine zj_iconst o (zdd k_Q_law_9 25 rfl) zki_1 ?_
  refine zj_iadd o (zdd k_Q_law_9 26 rfl) ?_
  obtain ⟨x5, e_x5, h⟩ := zbd h
  refine zj_sald o hsc (zdd k_Q_law_9 27 rfl) e_x5 ?_
  refine zj_sload_n o hsc (zdd k_Q_law_9 28 rfl) rfl 0 rfl ?_
  refine zj_iload_n o (zdd k_Q_law_9 29 rfl) rfl 3 rfl ?_
  refine zj_iconst o (zdd k_Q_law_9 30 rfl) zki_2 ?_
  refine zj_iadd o (zdd k_Q_law_9 31 rfl) ?_
  obtain ⟨x6, e_x6, h⟩ := zbd h
  refine zj_sald o hsc (zdd k_Q_law_9 32 rfl) e_x6 ?_
  refine zj_sload_n o hsc (zdd k_Q_law_9 33 rfl) rfl 0 rfl ?_
  refine zj_iload_n o (zdd k_Q_law_9 34 rfl) rfl 3 rfl ?_
  refine zj_iconst o (zdd k_Q_law_9 35 rfl) zki_3 ?_
  refine zj_iadd o (zdd k_Q_law_9 36 rfl) ?_
  obtain ⟨x7, e_x7, h⟩ := zbd h
  refine zj_sald o hsc (zdd k_Q_law_9 37 rfl) e_x7 ?_
  obtain ⟨q8, e_q8, h⟩ := zbd h
  refine zj_callV (mc := 134) (ms := 41620) (mc' := 0) (ms' := 0) o (zdd k_Q_law_9 38 rfl) ml_Q_98 mv_M_think ⟨rfl, by decide⟩ (zg_some e_q8).1 (by decide) [.int x5, .int x6, .int x7] [.int q4.1] rfl (Nat.le_of_ble_eq_true rfl) rfl (m_M_think e_q8) hrm (by decide) ?_
  change zPJ X 134 41620 _ _ [.int q8.1, .int q4.1] _
  refine zj_icmp_eq (tgt := 1475) o (zdd k_Q_law_9 39 rfl) (by decide) (fun hc => ?_) (fun hc => ?_)
  · rw [if_pos hc] at h
    refine zj_iinc (v := v3 + 6) (loc' := [(3, .int (v3 + 6)), (0, .retAddr 0), (1, .ref v1), (2, .ref v2)]) o (zdd k_Q_law_20 41 rfl) 3 rfl (by rw [zki_6]) (by decide) rfl ?_
    refine zj_goto (tgt := 18) o (zdd k_Q_law_20 42 rfl) (by decide) ?_
    exact zj_sub [1, 2, 3, 0] rfl (hk18 h hr)
  · rw [if_neg hc] at h
    refine zj_iconst o (zdd k_Q_law_9 40 rfl) zki_0 ?_
    cases h
    exact zr_i o hr (zdd k_Q_law_9 41 rfl)
def f_Q_law_722 (xs : Nat → Int32) (L : Nat) (k18 : zSt → Nat → Nat → Int32 → Option (Int32 × zSt)) (σ : zSt) (v1 : Nat) (v2 : Nat) (v3 : Int32) : Option (Int32 × zSt) :=
(zsc xs L (v3 + 1)).bind fun x1 =>
(zsc xs L (v3 + 2)).bind fun x2 =>
(f_W_send σ v1 x1 x2).bind fun q3 =>
(zsc xs L (v3 + 1)).bind fun x4 =>
(zsc xs L (v3 + 2)).bind fun x5 =>
(f_M_send q3.2 v2 x4 x5).bind fun q6 =>
if q3.1 = q6.1 then (
k18 q6.2 v1 v2 (v3 + 6)) else
some (0, q6.2)
set_option maxRecDepth 100000 in
set_option maxHeartbeats 4000000 in
theorem r_Q_law_722 {X : zCX} (o : zOK X "WantShelvesLaw" c_Q_law n_Q_law 133) {xs : Nat → Int32} {L : Nat} (hsc : zSC X xs L) (hrm : zRM X 134 41620) {k18 : zSt → Nat → Nat → Int32 → Option (Int32 × zSt)} (hk18 : ∀ {σ : zSt} {v1 : Nat} {v2 : Nat} {v3 : Int32} {z : Int32 × zSt}, k18 σ v1 v2 v3 = some z → zRX X 134 41620 (some (.int z.1)) z.2 → zPJ X 134 41620 18 [(0, .retAddr 0), (1, .ref v1), (2, .ref v2), (3, .int v3)] [] σ) {σ : zSt} {v1 : Nat} {v2 : Nat} {v3 : Int32} {z : Int32 × zSt} (h : f_Q_law_722 xs L k18 σ v1 v2 v3 = some z) (hr : zRX X 134 41620 (some (.int z.1)) z.2) : zPJ X 134 41620 722 [(0, .retAddr 0), (1, .ref v1), (2, .ref v2), (3, .int v3)] [] σ := by
  unfold f_Q_law_722 at h
  refine zj_aload_n o (zdd k_Q_law_8 28 rfl) rfl 1 rfl ?_
  refine zj_sload_n o hsc (zdd k_Q_law_8 29 rfl) rfl 0 rfl ?_
  refine zj_iload_n o (zdd k_Q_law_8 30 rfl) rfl 3 rfl ?_
  refine zj_iconst o (zdd k_Q_law_8 31 rfl) zki_1 ?_
  refine zj_iadd o (zdd k_Q_law_8 32 rfl) ?_
  obtain ⟨x1, e_x1, h⟩ := zbd h
  refine zj_sald o hsc (zdd k_Q_law_8 33 rfl) e_x1 ?_
  refine zj_sload_n o hsc (zdd k_Q_law_8 34 rfl) rfl 0 rfl ?_
  refine zj_iload_n o (zdd k_Q_law_8 35 rfl) rfl 3 rfl ?_
  refine zj_iconst o (zdd k_Q_law_8 36 rfl) zki_2 ?_
  refine zj_iadd o (zdd k_Q_law_8 37 rfl) ?_
  obtain ⟨x2, e_x2, h⟩ := zbd h
  refine zj_sald o hsc (zdd k_Q_law_8 38 rfl) e_x2 ?_
  obtain ⟨q3, e_q3, h⟩ := zbd h
  refine zj_callV (mc := 134) (ms := 41620) (mc' := 0) (ms' := 0) o (zdd k_Q_law_8 39 rfl) ml_Q_90 mv_W_send ⟨rfl, by decide⟩ (zg_some e_q3).1 (by decide) [.int x1, .int x2] [] rfl (Nat.le_of_ble_eq_true rfl) rfl (m_W_send e_q3) hrm (by decide) ?_
  change zPJ X 134 41620 _ _ [.int q3.1] _
  refine zj_aload_n o (zdd k_Q_law_8 40 rfl) rfl 2 rfl ?_
  refine zj_sload_n o hsc (zdd k_Q_law_8 41 rfl) rfl 0 rfl ?_
  refine zj_iload_n o (zdd k_Q_law_8 42 rfl) rfl 3 rfl ?_
  refine zj_iconst o (zdd k_Q_law_8 43 rfl) zki_1 ?_
  refine zj_iadd o (zdd k_Q_law_8 44 rfl) ?_
  obtain ⟨x4, e_x4, h⟩ := zbd h
  refine zj_sald o hsc (zdd k_Q_law_8 45 rfl) e_x4 ?_
  refine zj_sload_n o hsc (zdd k_Q_law_8 46 rfl) rfl 0 rfl ?_
  refine zj_iload_n o (zdd k_Q_law_8 47 rfl) rfl 3 rfl ?_
  refine zj_iconst o (zdd k_Q_law_8 48 rfl) zki_2 ?_
  refine zj_iadd o (zdd k_Q_law_8 49 rfl) ?_
  obtain ⟨x5, e_x5, h⟩ := zbd h
  refine zj_sald o hsc (zdd k_Q_law_9 0 rfl) e_x5 ?_
  obtain ⟨q6, e_q6, h⟩ := zbd h
  refine zj_callV (mc := 134) (ms := 41620) (mc' := 0) (ms' := 0) o (zdd k_Q_law_9 1 rfl) ml_Q_93 mv_M_send ⟨rfl, by decide⟩ (zg_some e_q6).1 (by decide) [.int x4, .int x5] [.int q3.1] rfl (Nat.le_of_ble_eq_true rfl) rfl (m_M_send e_q6) hrm (by decide) ?_
  change zPJ X 134 41620 _ _ [.int q6.1, .int q3.1] _
  refine zj_icmp_eq (tgt := 1475) o (zdd k_Q_law_9 2 rfl) (by decide) (fun hc => ?_) (fun hc => ?_)
  · rw [if_pos hc] at h
    refine zj_iinc (v := v3 + 6) (loc' := [(3, .int (v3 + 6)), (0, .retAddr 0), (1, .ref v1), (2, .ref v2)]) o (zdd k_Q_law_20 41 rfl) 3 rfl (by rw [zki_6]) (by decide) rfl ?_
    refine zj_goto (tgt := 18) o (zdd k_Q_law_20 42 rfl) (by decide) ?_
    exact zj_sub [1, 2, 3, 0] rfl (hk18 h hr)
  · rw [if_neg hc] at h
    refine zj_iconst o (zdd k_Q_law_9 3 rfl) zki_0 ?_
    cases h
    exact zr_i o hr (zdd k_Q_law_9 4 rfl)
def f_Q_law_689 (xs : Nat → Int32) (L : Nat) (k18 : zSt → Nat → Nat → Int32 → Option (Int32 × zSt)) (σ : zSt) (v1 : Nat) (v2 : Nat) (v3 : Int32) : Option (Int32 × zSt) :=
(zsc xs L (v3 + 1)).bind fun x1 =>
(zsc xs L (v3 + 2)).bind fun x2 =>
(f_W_unlike σ v1 x1 x2).bind fun q3 =>
(zsc xs L (v3 + 1)).bind fun x4 =>
(zsc xs L (v3 + 2)).bind fun x5 =>
(f_M_unlike q3.2 v2 x4 x5).bind fun q6 =>
if q3.1 = q6.1 then (
k18 q6.2 v1 v2 (v3 + 6)) else
some (0, q6.2)
set_option maxRecDepth 100000 in
set_option maxHeartbeats 4000000 in
theorem r_Q_law_689 {X : zCX} (o : zOK X "WantShelvesLaw" c_Q_law n_Q_law 133) {xs : Nat → Int32} {L : Nat} (hsc : zSC X xs L) (hrm : zRM X 134 41620) {k18 : zSt → Nat → Nat → Int32 → Option (Int32 × zSt)} (hk18 : ∀ {σ : zSt} {v1 : Nat} {v2 : Nat} {v3 : Int32} {z : Int32 × zSt}, k18 σ v1 v2 v3 = some z → zRX X 134 41620 (some (.int z.1)) z.2 → zPJ X 134 41620 18 [(0, .retAddr 0), (1, .ref v1), (2, .ref v2), (3, .int v3)] [] σ) {σ : zSt} {v1 : Nat} {v2 : Nat} {v3 : Int32} {z : Int32 × zSt} (h : f_Q_law_689 xs L k18 σ v1 v2 v3 = some z) (hr : zRX X 134 41620 (some (.int z.1)) z.2) : zPJ X 134 41620 689 [(0, .retAddr 0), (1, .ref v1), (2, .ref v2), (3, .int v3)] [] σ := by
  unfold f_Q_law_689 at h
  refine zj_aload_n o (zdd k_Q_law_8 1 rfl) rfl 1 rfl ?_
  refine zj_sload_n o hsc (zdd k_Q_law_8 2 rfl) rfl 0 rfl ?_
  refine zj_iload_n o (zdd k_Q_law_8 3 rfl) rfl 3 rfl ?_
  refine zj_iconst o (zdd k_Q_law_8 4 rfl) zki_1 ?_
  refine zj_iadd o (zdd k_Q_law_8 5 rfl) ?_
  obtain ⟨x1, e_x1, h⟩ := zbd h
  refine zj_sald o hsc (zdd k_Q_law_8 6 rfl) e_x1 ?_
  refine zj_sload_n o hsc (zdd k_Q_law_8 7 rfl) rfl 0 rfl ?_
  refine zj_iload_n o (zdd k_Q_law_8 8 rfl) rfl 3 rfl ?_
  refine zj_iconst o (zdd k_Q_law_8 9 rfl) zki_2 ?_
  refine zj_iadd o (zdd k_Q_law_8 10 rfl) ?_
  obtain ⟨x2, e_x2, h⟩ := zbd h
  refine zj_sald o hsc (zdd k_Q_law_8 11 rfl) e_x2 ?_
  obtain ⟨q3, e_q3, h⟩ := zbd h
  refine zj_callV (mc := 134) (ms := 41620) (mc' := 0) (ms' := 0) o (zdd k_Q_law_8 12 rfl) ml_Q_86 mv_W_unlike ⟨rfl, by decide⟩ (zg_some e_q3).1 (by decide) [.int x1, .int x2] [] rfl (Nat.le_of_ble_eq_true rfl) rfl (m_W_unlike e_q3) hrm (by decide) ?_
  change zPJ X 134 41620 _ _ [.int q3.1] _
  refine zj_aload_n o (zdd k_Q_law_8 13 rfl) rfl 2 rfl ?_
  refine zj_sload_n o hsc (zdd k_Q_law_8 14 rfl) rfl 0 rfl ?_
  refine zj_iload_n o (zdd k_Q_law_8 15 rfl) rfl 3 rfl ?_
  refine zj_iconst o (zdd k_Q_law_8 16 rfl) zki_1 ?_
  refine zj_iadd o (zdd k_Q_law_8 17 rfl) ?_
  obtain ⟨x4, e_x4, h⟩ := zbd h
  refine zj_sald o hsc (zdd k_Q_law_8 18 rfl) e_x4 ?_
  refine zj_sload_n o hsc (zdd k_Q_law_8 19 rfl) rfl 0 rfl ?_
  refine zj_iload_n o (zdd k_Q_law_8 20 rfl) rfl 3 rfl ?_
  refine zj_iconst o (zdd k_Q_law_8 21 rfl) zki_2 ?_
  refine zj_iadd o (zdd k_Q_law_8 22 rfl) ?_
  obtain ⟨x5, e_x5, h⟩ := zbd h
  refine zj_sald o hsc (zdd k_Q_law_8 23 rfl) e_x5 ?_
  obtain ⟨q6, e_q6, h⟩ := zbd h
  refine zj_callV (mc := 134) (ms := 41620) (mc' := 0) (ms' := 0) o (zdd k_Q_law_8 24 rfl) ml_Q_89 mv_M_unlike ⟨rfl, by decide⟩ (zg_some e_q6).1 (by decide) [.int x4, .int x5] [.int q3.1] rfl (Nat.le_of_ble_eq_true rfl) rfl (m_M_unlike e_q6) hrm (by decide) ?_
  change zPJ X 134 41620 _ _ [.int q6.1, .int q3.1] _
  refine zj_icmp_eq (tgt := 1475) o (zdd k_Q_law_8 25 rfl) (by decide) (fun hc => ?_) (fun hc => ?_)
  · rw [if_pos hc] at h
    refine zj_iinc (v := v3 + 6) (loc' := [(3, .int (v3 + 6)), (0, .retAddr 0), (1, .ref v1), (2, .ref v2)]) o (zdd k_Q_law_20 41 rfl) 3 rfl (by rw [zki_6]) (by decide) rfl ?_
    refine zj_goto (tgt := 18) o (zdd k_Q_law_20 42 rfl) (by decide) ?_
    exact zj_sub [1, 2, 3, 0] rfl (hk18 h hr)
  · rw [if_neg hc] at h
    refine zj_iconst o (zdd k_Q_law_8 26 rfl) zki_0 ?_
    cases h
    exact zr_i o hr (zdd k_Q_law_8 27 rfl)
def f_Q_law_676 (xs : Nat → Int32) (L : Nat) (k18 : zSt → Nat → Nat → Int32 → Option (Int32 × zSt)) (σ : zSt) (v1 : Nat) (v2 : Nat) (v3 : Int32) : Option (Int32 × zSt) :=
(f_W_redo σ v1).bind fun q1 =>
(f_M_redo q1.2 v2).bind fun q2 =>
if q1.1 = q2.1 then (
k18 q2.2 v1 v2 (v3 + 6)) else
some (0, q2.2)
set_option maxRecDepth 100000 in
set_option maxHeartbeats 4000000 in
theorem r_Q_law_676 {X : zCX} (o : zOK X "WantShelvesLaw" c_Q_law n_Q_law 133) {xs : Nat → Int32} {L : Nat} (hsc : zSC X xs L) (hrm : zRM X 134 41620) {k18 : zSt → Nat → Nat → Int32 → Option (Int32 × zSt)} (hk18 : ∀ {σ : zSt} {v1 : Nat} {v2 : Nat} {v3 : Int32} {z : Int32 × zSt}, k18 σ v1 v2 v3 = some z → zRX X 134 41620 (some (.int z.1)) z.2 → zPJ X 134 41620 18 [(0, .retAddr 0), (1, .ref v1), (2, .ref v2), (3, .int v3)] [] σ) {σ : zSt} {v1 : Nat} {v2 : Nat} {v3 : Int32} {z : Int32 × zSt} (h : f_Q_law_676 xs L k18 σ v1 v2 v3 = some z) (hr : zRX X 134 41620 (some (.int z.1)) z.2) : zPJ X 134 41620 676 [(0, .retAddr 0), (1, .ref v1), (2, .ref v2), (3, .int v3)] [] σ := by
  unfold f_Q_law_676 at h
  refine zj_aload_n o (zdd k_Q_law_7 44 rfl) rfl 1 rfl ?_
  obtain ⟨q1, e_q1, h⟩ := zbd h
  refine zj_callV (mc := 134) (ms := 41620) (mc' := 0) (ms' := 0) o (zdd k_Q_law_7 45 rfl) ml_Q_82 mv_W_redo ⟨rfl, by decide⟩ (zg_some e_q1).1 (by decide) [] [] rfl (Nat.le_of_ble_eq_true rfl) rfl (m_W_redo e_q1) hrm (by decide) ?_
  change zPJ X 134 41620 _ _ [.int q1.1] _
  refine zj_aload_n o (zdd k_Q_law_7 46 rfl) rfl 2 rfl ?_
  obtain ⟨q2, e_q2, h⟩ := zbd h
  refine zj_callV (mc := 134) (ms := 41620) (mc' := 0) (ms' := 0) o (zdd k_Q_law_7 47 rfl) ml_Q_85 mv_M_redo ⟨rfl, by decide⟩ (zg_some e_q2).1 (by decide) [] [.int q1.1] rfl (Nat.le_of_ble_eq_true rfl) rfl (m_M_redo e_q2) hrm (by decide) ?_
  change zPJ X 134 41620 _ _ [.int q2.1, .int q1.1] _
  refine zj_icmp_eq (tgt := 1475) o (zdd k_Q_law_7 48 rfl) (by decide) (fun hc => ?_) (fun hc => ?_)
  · rw [if_pos hc] at h
    refine zj_iinc (v := v3 + 6) (loc' := [(3, .int (v3 + 6)), (0, .retAddr 0), (1, .ref v1), (2, .ref v2)]) o (zdd k_Q_law_20 41 rfl) 3 rfl (by rw [zki_6]) (by decide) rfl ?_
    refine zj_goto (tgt := 18) o (zdd k_Q_law_20 42 rfl) (by decide) ?_
    exact zj_sub [1, 2, 3, 0] rfl (hk18 h hr)
  · rw [if_neg hc] at h
    refine zj_iconst o (zdd k_Q_law_7 49 rfl) zki_0 ?_
    cases h
    exact zr_i o hr (zdd k_Q_law_8 0 rfl)
def f_Q_law_663 (xs : Nat → Int32) (L : Nat) (k18 : zSt → Nat → Nat → Int32 → Option (Int32 × zSt)) (σ : zSt) (v1 : Nat) (v2 : Nat) (v3 : Int32) : Option (Int32 × zSt) :=
(f_W_undo σ v1).bind fun q1 =>
(f_M_undo q1.2 v2).bind fun q2 =>
if q1.1 = q2.1 then (
k18 q2.2 v1 v2 (v3 + 6)) else
some (0, q2.2)
set_option maxRecDepth 100000 in
set_option maxHeartbeats 4000000 in
theorem r_Q_law_663 {X : zCX} (o : zOK X "WantShelvesLaw" c_Q_law n_Q_law 133) {xs : Nat → Int32} {L : Nat} (hsc : zSC X xs L) (hrm : zRM X 134 41620) {k18 : zSt → Nat → Nat → Int32 → Option (Int32 × zSt)} (hk18 : ∀ {σ : zSt} {v1 : Nat} {v2 : Nat} {v3 : Int32} {z : Int32 × zSt}, k18 σ v1 v2 v3 = some z → zRX X 134 41620 (some (.int z.1)) z.2 → zPJ X 134 41620 18 [(0, .retAddr 0), (1, .ref v1), (2, .ref v2), (3, .int v3)] [] σ) {σ : zSt} {v1 : Nat} {v2 : Nat} {v3 : Int32} {z : Int32 × zSt} (h : f_Q_law_663 xs L k18 σ v1 v2 v3 = some z) (hr : zRX X 134 41620 (some (.int z.1)) z.2) : zPJ X 134 41620 663 [(0, .retAddr 0), (1, .ref v1), (2, .ref v2), (3, .int v3)] [] σ := by
  unfold f_Q_law_663 at h
  refine zj_aload_n o (zdd k_Q_law_7 37 rfl) rfl 1 rfl ?_
  obtain ⟨q1, e_q1, h⟩ := zbd h
  refine zj_callV (mc := 134) (ms := 41620) (mc' := 0) (ms' := 0) o (zdd k_Q_law_7 38 rfl) ml_Q_77 mv_W_undo ⟨rfl, by decide⟩ (zg_some e_q1).1 (by decide) [] [] rfl (Nat.le_of_ble_eq_true rfl) rfl (m_W_undo e_q1) hrm (by decide) ?_
  change zPJ X 134 41620 _ _ [.int q1.1] _
  refine zj_aload_n o (zdd k_Q_law_7 39 rfl) rfl 2 rfl ?_
  obtain ⟨q2, e_q2, h⟩ := zbd h
  refine zj_callV (mc := 134) (ms := 41620) (mc' := 0) (ms' := 0) o (zdd k_Q_law_7 40 rfl) ml_Q_81 mv_M_undo ⟨rfl, by decide⟩ (zg_some e_q2).1 (by decide) [] [.int q1.1] rfl (Nat.le_of_ble_eq_true rfl) rfl (m_M_undo e_q2) hrm (by decide) ?_
  change zPJ X 134 41620 _ _ [.int q2.1, .int q1.1] _
  refine zj_icmp_eq (tgt := 1475) o (zdd k_Q_law_7 41 rfl) (by decide) (fun hc => ?_) (fun hc => ?_)
  · rw [if_pos hc] at h
    refine zj_iinc (v := v3 + 6) (loc' := [(3, .int (v3 + 6)), (0, .retAddr 0), (1, .ref v1), (2, .ref v2)]) o (zdd k_Q_law_20 41 rfl) 3 rfl (by rw [zki_6]) (by decide) rfl ?_
    refine zj_goto (tgt := 18) o (zdd k_Q_law_20 42 rfl) (by decide) ?_
    exact zj_sub [1, 2, 3, 0] rfl (hk18 h hr)
  · rw [if_neg hc] at h
    refine zj_iconst o (zdd k_Q_law_7 42 rfl) zki_0 ?_
    cases h
    exact zr_i o hr (zdd k_Q_law_7 43 rfl)
def f_Q_law_630 (xs : Nat → Int32) (L : Nat) (k18 : zSt → Nat → Nat → Int32 → Option (Int32 × zSt)) (σ : zSt) (v1 : Nat) (v2 : Nat) (v3 : Int32) : Option (Int32 × zSt) :=
(zsc xs L (v3 + 1)).bind fun x1 =>
(zsc xs L (v3 + 2)).bind fun x2 =>
(f_W_read σ v1 x1 x2).bind fun q3 =>
(zsc xs L (v3 + 1)).bind fun x4 =>
(zsc xs L (v3 + 2)).bind fun x5 =>
(f_M_read q3.2 v2 x4 x5).bind fun q6 =>
if q3.1 = q6.1 then (
k18 q6.2 v1 v2 (v3 + 6)) else
some (0, q6.2)
set_option maxRecDepth 100000 in
set_option maxHeartbeats 4000000 in
theorem r_Q_law_630 {X : zCX} (o : zOK X "WantShelvesLaw" c_Q_law n_Q_law 133) {xs : Nat → Int32} {L : Nat} (hsc : zSC X xs L) (hrm : zRM X 134 41620) {k18 : zSt → Nat → Nat → Int32 → Option (Int32 × zSt)} (hk18 : ∀ {σ : zSt} {v1 : Nat} {v2 : Nat} {v3 : Int32} {z : Int32 × zSt}, k18 σ v1 v2 v3 = some z → zRX X 134 41620 (some (.int z.1)) z.2 → zPJ X 134 41620 18 [(0, .retAddr 0), (1, .ref v1), (2, .ref v2), (3, .int v3)] [] σ) {σ : zSt} {v1 : Nat} {v2 : Nat} {v3 : Int32} {z : Int32 × zSt} (h : f_Q_law_630 xs L k18 σ v1 v2 v3 = some z) (hr : zRX X 134 41620 (some (.int z.1)) z.2) : zPJ X 134 41620 630 [(0, .retAddr 0), (1, .ref v1), (2, .ref v2), (3, .int v3)] [] σ := by
  unfold f_Q_law_630 at h
  refine zj_aload_n o (zdd k_Q_law_7 10 rfl) rfl 1 rfl ?_
  refine zj_sload_n o hsc (zdd k_Q_law_7 11 rfl) rfl 0 rfl ?_
  refine zj_iload_n o (zdd k_Q_law_7 12 rfl) rfl 3 rfl ?_
  refine zj_iconst o (zdd k_Q_law_7 13 rfl) zki_1 ?_
  refine zj_iadd o (zdd k_Q_law_7 14 rfl) ?_
  obtain ⟨x1, e_x1, h⟩ := zbd h
  refine zj_sald o hsc (zdd k_Q_law_7 15 rfl) e_x1 ?_
  refine zj_sload_n o hsc (zdd k_Q_law_7 16 rfl) rfl 0 rfl ?_
  refine zj_iload_n o (zdd k_Q_law_7 17 rfl) rfl 3 rfl ?_
  refine zj_iconst o (zdd k_Q_law_7 18 rfl) zki_2 ?_
  refine zj_iadd o (zdd k_Q_law_7 19 rfl) ?_
  obtain ⟨x2, e_x2, h⟩ := zbd h
  refine zj_sald o hsc (zdd k_Q_law_7 20 rfl) e_x2 ?_
  obtain ⟨q3, e_q3, h⟩ := zbd h
  refine zj_callV (mc := 134) (ms := 41620) (mc' := 0) (ms' := 0) o (zdd k_Q_law_7 21 rfl) ml_Q_73 mv_W_read ⟨rfl, by decide⟩ (zg_some e_q3).1 (by decide) [.int x1, .int x2] [] rfl (Nat.le_of_ble_eq_true rfl) rfl (m_W_read e_q3) hrm (by decide) ?_
  change zPJ X 134 41620 _ _ [.int q3.1] _
  refine zj_aload_n o (zdd k_Q_law_7 22 rfl) rfl 2 rfl ?_
  refine zj_sload_n o hsc (zdd k_Q_law_7 23 rfl) rfl 0 rfl ?_
  refine zj_iload_n o (zdd k_Q_law_7 24 rfl) rfl 3 rfl ?_
  refine zj_iconst o (zdd k_Q_law_7 25 rfl) zki_1 ?_
  refine zj_iadd o (zdd k_Q_law_7 26 rfl) ?_
  obtain ⟨x4, e_x4, h⟩ := zbd h
  refine zj_sald o hsc (zdd k_Q_law_7 27 rfl) e_x4 ?_
  refine zj_sload_n o hsc (zdd k_Q_law_7 28 rfl) rfl 0 rfl ?_
  refine zj_iload_n o (zdd k_Q_law_7 29 rfl) rfl 3 rfl ?_
  refine zj_iconst o (zdd k_Q_law_7 30 rfl) zki_2 ?_
  refine zj_iadd o (zdd k_Q_law_7 31 rfl) ?_
  obtain ⟨x5, e_x5, h⟩ := zbd h
  refine zj_sald o hsc (zdd k_Q_law_7 32 rfl) e_x5 ?_
  obtain ⟨q6, e_q6, h⟩ := zbd h
  refine zj_callV (mc := 134) (ms := 41620) (mc' := 0) (ms' := 0) o (zdd k_Q_law_7 33 rfl) ml_Q_76 mv_M_read ⟨rfl, by decide⟩ (zg_some e_q6).1 (by decide) [.int x4, .int x5] [.int q3.1] rfl (Nat.le_of_ble_eq_true rfl) rfl (m_M_read e_q6) hrm (by decide) ?_
  change zPJ X 134 41620 _ _ [.int q6.1, .int q3.1] _
  refine zj_icmp_eq (tgt := 1475) o (zdd k_Q_law_7 34 rfl) (by decide) (fun hc => ?_) (fun hc => ?_)
  · rw [if_pos hc] at h
    refine zj_iinc (v := v3 + 6) (loc' := [(3, .int (v3 + 6)), (0, .retAddr 0), (1, .ref v1), (2, .ref v2)]) o (zdd k_Q_law_20 41 rfl) 3 rfl (by rw [zki_6]) (by decide) rfl ?_
    refine zj_goto (tgt := 18) o (zdd k_Q_law_20 42 rfl) (by decide) ?_
    exact zj_sub [1, 2, 3, 0] rfl (hk18 h hr)
  · rw [if_neg hc] at h
    refine zj_iconst o (zdd k_Q_law_7 35 rfl) zki_0 ?_
    cases h
    exact zr_i o hr (zdd k_Q_law_7 36 rfl)
def f_Q_law_607 (xs : Nat → Int32) (L : Nat) (k18 : zSt → Nat → Nat → Int32 → Option (Int32 × zSt)) (σ : zSt) (v1 : Nat) (v2 : Nat) (v3 : Int32) : Option (Int32 × zSt) :=
(zsc xs L (v3 + 1)).bind fun x1 =>
(f_W_out σ v1 x1).bind fun q2 =>
(zsc xs L (v3 + 1)).bind fun x3 =>
(f_M_out q2.2 v2 x3).bind fun q4 =>
if q2.1 = q4.1 then (
k18 q4.2 v1 v2 (v3 + 6)) else
some (0, q4.2)
set_option maxRecDepth 100000 in
set_option maxHeartbeats 4000000 in
theorem r_Q_law_607 {X : zCX} (o : zOK X "WantShelvesLaw" c_Q_law n_Q_law 133) {xs : Nat → Int32} {L : Nat} (hsc : zSC X xs L) (hrm : zRM X 134 41620) {k18 : zSt → Nat → Nat → Int32 → Option (Int32 × zSt)} (hk18 : ∀ {σ : zSt} {v1 : Nat} {v2 : Nat} {v3 : Int32} {z : Int32 × zSt}, k18 σ v1 v2 v3 = some z → zRX X 134 41620 (some (.int z.1)) z.2 → zPJ X 134 41620 18 [(0, .retAddr 0), (1, .ref v1), (2, .ref v2), (3, .int v3)] [] σ) {σ : zSt} {v1 : Nat} {v2 : Nat} {v3 : Int32} {z : Int32 × zSt} (h : f_Q_law_607 xs L k18 σ v1 v2 v3 = some z) (hr : zRX X 134 41620 (some (.int z.1)) z.2) : zPJ X 134 41620 607 [(0, .retAddr 0), (1, .ref v1), (2, .ref v2), (3, .int v3)] [] σ := by
  unfold f_Q_law_607 at h
  refine zj_aload_n o (zdd k_Q_law_6 43 rfl) rfl 1 rfl ?_
  refine zj_sload_n o hsc (zdd k_Q_law_6 44 rfl) rfl 0 rfl ?_
  refine zj_iload_n o (zdd k_Q_law_6 45 rfl) rfl 3 rfl ?_
  refine zj_iconst o (zdd k_Q_law_6 46 rfl) zki_1 ?_
  refine zj_iadd o (zdd k_Q_law_6 47 rfl) ?_
  obtain ⟨x1, e_x1, h⟩ := zbd h
  refine zj_sald o hsc (zdd k_Q_law_6 48 rfl) e_x1 ?_
  obtain ⟨q2, e_q2, h⟩ := zbd h
  refine zj_callV (mc := 134) (ms := 41620) (mc' := 0) (ms' := 0) o (zdd k_Q_law_6 49 rfl) ml_Q_69 mv_W_out ⟨rfl, by decide⟩ (zg_some e_q2).1 (by decide) [.int x1] [] rfl (Nat.le_of_ble_eq_true rfl) rfl (m_W_out e_q2) hrm (by decide) ?_
  change zPJ X 134 41620 _ _ [.int q2.1] _
  refine zj_aload_n o (zdd k_Q_law_7 0 rfl) rfl 2 rfl ?_
  refine zj_sload_n o hsc (zdd k_Q_law_7 1 rfl) rfl 0 rfl ?_
  refine zj_iload_n o (zdd k_Q_law_7 2 rfl) rfl 3 rfl ?_
  refine zj_iconst o (zdd k_Q_law_7 3 rfl) zki_1 ?_
  refine zj_iadd o (zdd k_Q_law_7 4 rfl) ?_
  obtain ⟨x3, e_x3, h⟩ := zbd h
  refine zj_sald o hsc (zdd k_Q_law_7 5 rfl) e_x3 ?_
  obtain ⟨q4, e_q4, h⟩ := zbd h
  refine zj_callV (mc := 134) (ms := 41620) (mc' := 0) (ms' := 0) o (zdd k_Q_law_7 6 rfl) ml_Q_72 mv_M_out ⟨rfl, by decide⟩ (zg_some e_q4).1 (by decide) [.int x3] [.int q2.1] rfl (Nat.le_of_ble_eq_true rfl) rfl (m_M_out e_q4) hrm (by decide) ?_
  change zPJ X 134 41620 _ _ [.int q4.1, .int q2.1] _
  refine zj_icmp_eq (tgt := 1475) o (zdd k_Q_law_7 7 rfl) (by decide) (fun hc => ?_) (fun hc => ?_)
  · rw [if_pos hc] at h
    refine zj_iinc (v := v3 + 6) (loc' := [(3, .int (v3 + 6)), (0, .retAddr 0), (1, .ref v1), (2, .ref v2)]) o (zdd k_Q_law_20 41 rfl) 3 rfl (by rw [zki_6]) (by decide) rfl ?_
    refine zj_goto (tgt := 18) o (zdd k_Q_law_20 42 rfl) (by decide) ?_
    exact zj_sub [1, 2, 3, 0] rfl (hk18 h hr)
  · rw [if_neg hc] at h
    refine zj_iconst o (zdd k_Q_law_7 8 rfl) zki_0 ?_
    cases h
    exact zr_i o hr (zdd k_Q_law_7 9 rfl)
def f_Q_law_574 (xs : Nat → Int32) (L : Nat) (k18 : zSt → Nat → Nat → Int32 → Option (Int32 × zSt)) (σ : zSt) (v1 : Nat) (v2 : Nat) (v3 : Int32) : Option (Int32 × zSt) :=
(zsc xs L (v3 + 1)).bind fun x1 =>
(zsc xs L (v3 + 2)).bind fun x2 =>
(f_W_mood σ v1 x1 x2).bind fun q3 =>
(zsc xs L (v3 + 1)).bind fun x4 =>
(zsc xs L (v3 + 2)).bind fun x5 =>
(f_M_mood q3.2 v2 x4 x5).bind fun q6 =>
if q3.1 = q6.1 then (
k18 q6.2 v1 v2 (v3 + 6)) else
some (0, q6.2)
set_option maxRecDepth 100000 in
set_option maxHeartbeats 4000000 in
theorem r_Q_law_574 {X : zCX} (o : zOK X "WantShelvesLaw" c_Q_law n_Q_law 133) {xs : Nat → Int32} {L : Nat} (hsc : zSC X xs L) (hrm : zRM X 134 41620) {k18 : zSt → Nat → Nat → Int32 → Option (Int32 × zSt)} (hk18 : ∀ {σ : zSt} {v1 : Nat} {v2 : Nat} {v3 : Int32} {z : Int32 × zSt}, k18 σ v1 v2 v3 = some z → zRX X 134 41620 (some (.int z.1)) z.2 → zPJ X 134 41620 18 [(0, .retAddr 0), (1, .ref v1), (2, .ref v2), (3, .int v3)] [] σ) {σ : zSt} {v1 : Nat} {v2 : Nat} {v3 : Int32} {z : Int32 × zSt} (h : f_Q_law_574 xs L k18 σ v1 v2 v3 = some z) (hr : zRX X 134 41620 (some (.int z.1)) z.2) : zPJ X 134 41620 574 [(0, .retAddr 0), (1, .ref v1), (2, .ref v2), (3, .int v3)] [] σ := by
  unfold f_Q_law_574 at h
  refine zj_aload_n o (zdd k_Q_law_6 16 rfl) rfl 1 rfl ?_
  refine zj_sload_n o hsc (zdd k_Q_law_6 17 rfl) rfl 0 rfl ?_
  refine zj_iload_n o (zdd k_Q_law_6 18 rfl) rfl 3 rfl ?_
  refine zj_iconst o (zdd k_Q_law_6 19 rfl) zki_1 ?_
  refine zj_iadd o (zdd k_Q_law_6 20 rfl) ?_
  obtain ⟨x1, e_x1, h⟩ := zbd h
  refine zj_sald o hsc (zdd k_Q_law_6 21 rfl) e_x1 ?_
  refine zj_sload_n o hsc (zdd k_Q_law_6 22 rfl) rfl 0 rfl ?_
  refine zj_iload_n o (zdd k_Q_law_6 23 rfl) rfl 3 rfl ?_
  refine zj_iconst o (zdd k_Q_law_6 24 rfl) zki_2 ?_
  refine zj_iadd o (zdd k_Q_law_6 25 rfl) ?_
  obtain ⟨x2, e_x2, h⟩ := zbd h
  refine zj_sald o hsc (zdd k_Q_law_6 26 rfl) e_x2 ?_
  obtain ⟨q3, e_q3, h⟩ := zbd h
  refine zj_callV (mc := 134) (ms := 41620) (mc' := 0) (ms' := 0) o (zdd k_Q_law_6 27 rfl) ml_Q_65 mv_W_mood ⟨rfl, by decide⟩ (zg_some e_q3).1 (by decide) [.int x1, .int x2] [] rfl (Nat.le_of_ble_eq_true rfl) rfl (m_W_mood e_q3) hrm (by decide) ?_
  change zPJ X 134 41620 _ _ [.int q3.1] _
  refine zj_aload_n o (zdd k_Q_law_6 28 rfl) rfl 2 rfl ?_
  refine zj_sload_n o hsc (zdd k_Q_law_6 29 rfl) rfl 0 rfl ?_
  refine zj_iload_n o (zdd k_Q_law_6 30 rfl) rfl 3 rfl ?_
  refine zj_iconst o (zdd k_Q_law_6 31 rfl) zki_1 ?_
  refine zj_iadd o (zdd k_Q_law_6 32 rfl) ?_
  obtain ⟨x4, e_x4, h⟩ := zbd h
  refine zj_sald o hsc (zdd k_Q_law_6 33 rfl) e_x4 ?_
  refine zj_sload_n o hsc (zdd k_Q_law_6 34 rfl) rfl 0 rfl ?_
  refine zj_iload_n o (zdd k_Q_law_6 35 rfl) rfl 3 rfl ?_
  refine zj_iconst o (zdd k_Q_law_6 36 rfl) zki_2 ?_
  refine zj_iadd o (zdd k_Q_law_6 37 rfl) ?_
  obtain ⟨x5, e_x5, h⟩ := zbd h
  refine zj_sald o hsc (zdd k_Q_law_6 38 rfl) e_x5 ?_
  obtain ⟨q6, e_q6, h⟩ := zbd h
  refine zj_callV (mc := 134) (ms := 41620) (mc' := 0) (ms' := 0) o (zdd k_Q_law_6 39 rfl) ml_Q_68 mv_M_mood ⟨rfl, by decide⟩ (zg_some e_q6).1 (by decide) [.int x4, .int x5] [.int q3.1] rfl (Nat.le_of_ble_eq_true rfl) rfl (m_M_mood e_q6) hrm (by decide) ?_
  change zPJ X 134 41620 _ _ [.int q6.1, .int q3.1] _
  refine zj_icmp_eq (tgt := 1475) o (zdd k_Q_law_6 40 rfl) (by decide) (fun hc => ?_) (fun hc => ?_)
  · rw [if_pos hc] at h
    refine zj_iinc (v := v3 + 6) (loc' := [(3, .int (v3 + 6)), (0, .retAddr 0), (1, .ref v1), (2, .ref v2)]) o (zdd k_Q_law_20 41 rfl) 3 rfl (by rw [zki_6]) (by decide) rfl ?_
    refine zj_goto (tgt := 18) o (zdd k_Q_law_20 42 rfl) (by decide) ?_
    exact zj_sub [1, 2, 3, 0] rfl (hk18 h hr)
  · rw [if_neg hc] at h
    refine zj_iconst o (zdd k_Q_law_6 41 rfl) zki_0 ?_
    cases h
    exact zr_i o hr (zdd k_Q_law_6 42 rfl)
def f_Q_law_551 (xs : Nat → Int32) (L : Nat) (k18 : zSt → Nat → Nat → Int32 → Option (Int32 × zSt)) (σ : zSt) (v1 : Nat) (v2 : Nat) (v3 : Int32) : Option (Int32 × zSt) :=
(zsc xs L (v3 + 1)).bind fun x1 =>
(f_W_comes σ v1 x1).bind fun q2 =>
(zsc xs L (v3 + 1)).bind fun x3 =>
(f_M_comes q2.2 v2 x3).bind fun q4 =>
if q2.1 = q4.1 then (
k18 q4.2 v1 v2 (v3 + 6)) else
some (0, q4.2)
set_option maxRecDepth 100000 in
set_option maxHeartbeats 4000000 in
theorem r_Q_law_551 {X : zCX} (o : zOK X "WantShelvesLaw" c_Q_law n_Q_law 133) {xs : Nat → Int32} {L : Nat} (hsc : zSC X xs L) (hrm : zRM X 134 41620) {k18 : zSt → Nat → Nat → Int32 → Option (Int32 × zSt)} (hk18 : ∀ {σ : zSt} {v1 : Nat} {v2 : Nat} {v3 : Int32} {z : Int32 × zSt}, k18 σ v1 v2 v3 = some z → zRX X 134 41620 (some (.int z.1)) z.2 → zPJ X 134 41620 18 [(0, .retAddr 0), (1, .ref v1), (2, .ref v2), (3, .int v3)] [] σ) {σ : zSt} {v1 : Nat} {v2 : Nat} {v3 : Int32} {z : Int32 × zSt} (h : f_Q_law_551 xs L k18 σ v1 v2 v3 = some z) (hr : zRX X 134 41620 (some (.int z.1)) z.2) : zPJ X 134 41620 551 [(0, .retAddr 0), (1, .ref v1), (2, .ref v2), (3, .int v3)] [] σ := by
  unfold f_Q_law_551 at h
  refine zj_aload_n o (zdd k_Q_law_5 49 rfl) rfl 1 rfl ?_
  refine zj_sload_n o hsc (zdd k_Q_law_6 0 rfl) rfl 0 rfl ?_
  refine zj_iload_n o (zdd k_Q_law_6 1 rfl) rfl 3 rfl ?_
  refine zj_iconst o (zdd k_Q_law_6 2 rfl) zki_1 ?_
  refine zj_iadd o (zdd k_Q_law_6 3 rfl) ?_
  obtain ⟨x1, e_x1, h⟩ := zbd h
  refine zj_sald o hsc (zdd k_Q_law_6 4 rfl) e_x1 ?_
  obtain ⟨q2, e_q2, h⟩ := zbd h
  refine zj_callV (mc := 134) (ms := 41620) (mc' := 0) (ms' := 0) o (zdd k_Q_law_6 5 rfl) ml_Q_61 mv_W_comes ⟨rfl, by decide⟩ (zg_some e_q2).1 (by decide) [.int x1] [] rfl (Nat.le_of_ble_eq_true rfl) rfl (m_W_comes e_q2) hrm (by decide) ?_
  change zPJ X 134 41620 _ _ [.int q2.1] _
  refine zj_aload_n o (zdd k_Q_law_6 6 rfl) rfl 2 rfl ?_
  refine zj_sload_n o hsc (zdd k_Q_law_6 7 rfl) rfl 0 rfl ?_
  refine zj_iload_n o (zdd k_Q_law_6 8 rfl) rfl 3 rfl ?_
  refine zj_iconst o (zdd k_Q_law_6 9 rfl) zki_1 ?_
  refine zj_iadd o (zdd k_Q_law_6 10 rfl) ?_
  obtain ⟨x3, e_x3, h⟩ := zbd h
  refine zj_sald o hsc (zdd k_Q_law_6 11 rfl) e_x3 ?_
  obtain ⟨q4, e_q4, h⟩ := zbd h
  refine zj_callV (mc := 134) (ms := 41620) (mc' := 0) (ms' := 0) o (zdd k_Q_law_6 12 rfl) ml_Q_64 mv_M_comes ⟨rfl, by decide⟩ (zg_some e_q4).1 (by decide) [.int x3] [.int q2.1] rfl (Nat.le_of_ble_eq_true rfl) rfl (m_M_comes e_q4) hrm (by decide) ?_
  change zPJ X 134 41620 _ _ [.int q4.1, .int q2.1] _
  refine zj_icmp_eq (tgt := 1475) o (zdd k_Q_law_6 13 rfl) (by decide) (fun hc => ?_) (fun hc => ?_)
  · rw [if_pos hc] at h
    refine zj_iinc (v := v3 + 6) (loc' := [(3, .int (v3 + 6)), (0, .retAddr 0), (1, .ref v1), (2, .ref v2)]) o (zdd k_Q_law_20 41 rfl) 3 rfl (by rw [zki_6]) (by decide) rfl ?_
    refine zj_goto (tgt := 18) o (zdd k_Q_law_20 42 rfl) (by decide) ?_
    exact zj_sub [1, 2, 3, 0] rfl (hk18 h hr)
  · rw [if_neg hc] at h
    refine zj_iconst o (zdd k_Q_law_6 14 rfl) zki_0 ?_
    cases h
    exact zr_i o hr (zdd k_Q_law_6 15 rfl)
def f_Q_law_528 (xs : Nat → Int32) (L : Nat) (k18 : zSt → Nat → Nat → Int32 → Option (Int32 × zSt)) (σ : zSt) (v1 : Nat) (v2 : Nat) (v3 : Int32) : Option (Int32 × zSt) :=
(zsc xs L (v3 + 1)).bind fun x1 =>
(f_W_steps σ v1 x1).bind fun q2 =>
(zsc xs L (v3 + 1)).bind fun x3 =>
(f_M_steps q2.2 v2 x3).bind fun q4 =>
if q2.1 = q4.1 then (
k18 q4.2 v1 v2 (v3 + 6)) else
some (0, q4.2)
set_option maxRecDepth 100000 in
set_option maxHeartbeats 4000000 in
theorem r_Q_law_528 {X : zCX} (o : zOK X "WantShelvesLaw" c_Q_law n_Q_law 133) {xs : Nat → Int32} {L : Nat} (hsc : zSC X xs L) (hrm : zRM X 134 41620) {k18 : zSt → Nat → Nat → Int32 → Option (Int32 × zSt)} (hk18 : ∀ {σ : zSt} {v1 : Nat} {v2 : Nat} {v3 : Int32} {z : Int32 × zSt}, k18 σ v1 v2 v3 = some z → zRX X 134 41620 (some (.int z.1)) z.2 → zPJ X 134 41620 18 [(0, .retAddr 0), (1, .ref v1), (2, .ref v2), (3, .int v3)] [] σ) {σ : zSt} {v1 : Nat} {v2 : Nat} {v3 : Int32} {z : Int32 × zSt} (h : f_Q_law_528 xs L k18 σ v1 v2 v3 = some z) (hr : zRX X 134 41620 (some (.int z.1)) z.2) : zPJ X 134 41620 528 [(0, .retAddr 0), (1, .ref v1), (2, .ref v2), (3, .int v3)] [] σ := by
  unfold f_Q_law_528 at h
  refine zj_aload_n o (zdd k_Q_law_5 32 rfl) rfl 1 rfl ?_
  refine zj_sload_n o hsc (zdd k_Q_law_5 33 rfl) rfl 0 rfl ?_
  refine zj_iload_n o (zdd k_Q_law_5 34 rfl) rfl 3 rfl ?_
  refine zj_iconst o (zdd k_Q_law_5 35 rfl) zki_1 ?_
  refine zj_iadd o (zdd k_Q_law_5 36 rfl) ?_
  obtain ⟨x1, e_x1, h⟩ := zbd h
  refine zj_sald o hsc (zdd k_Q_law_5 37 rfl) e_x1 ?_
  obtain ⟨q2, e_q2, h⟩ := zbd h
  refine zj_callV (mc := 134) (ms := 41620) (mc' := 0) (ms' := 0) o (zdd k_Q_law_5 38 rfl) ml_Q_57 mv_W_steps ⟨rfl, by decide⟩ (zg_some e_q2).1 (by decide) [.int x1] [] rfl (Nat.le_of_ble_eq_true rfl) rfl (m_W_steps e_q2) hrm (by decide) ?_
  change zPJ X 134 41620 _ _ [.int q2.1] _
  refine zj_aload_n o (zdd k_Q_law_5 39 rfl) rfl 2 rfl ?_
  refine zj_sload_n o hsc (zdd k_Q_law_5 40 rfl) rfl 0 rfl ?_
  refine zj_iload_n o (zdd k_Q_law_5 41 rfl) rfl 3 rfl ?_
  refine zj_iconst o (zdd k_Q_law_5 42 rfl) zki_1 ?_
  refine zj_iadd o (zdd k_Q_law_5 43 rfl) ?_
  obtain ⟨x3, e_x3, h⟩ := zbd h
  refine zj_sald o hsc (zdd k_Q_law_5 44 rfl) e_x3 ?_
  obtain ⟨q4, e_q4, h⟩ := zbd h
  refine zj_callV (mc := 134) (ms := 41620) (mc' := 0) (ms' := 0) o (zdd k_Q_law_5 45 rfl) ml_Q_60 mv_M_steps ⟨rfl, by decide⟩ (zg_some e_q4).1 (by decide) [.int x3] [.int q2.1] rfl (Nat.le_of_ble_eq_true rfl) rfl (m_M_steps e_q4) hrm (by decide) ?_
  change zPJ X 134 41620 _ _ [.int q4.1, .int q2.1] _
  refine zj_icmp_eq (tgt := 1475) o (zdd k_Q_law_5 46 rfl) (by decide) (fun hc => ?_) (fun hc => ?_)
  · rw [if_pos hc] at h
    refine zj_iinc (v := v3 + 6) (loc' := [(3, .int (v3 + 6)), (0, .retAddr 0), (1, .ref v1), (2, .ref v2)]) o (zdd k_Q_law_20 41 rfl) 3 rfl (by rw [zki_6]) (by decide) rfl ?_
    refine zj_goto (tgt := 18) o (zdd k_Q_law_20 42 rfl) (by decide) ?_
    exact zj_sub [1, 2, 3, 0] rfl (hk18 h hr)
  · rw [if_neg hc] at h
    refine zj_iconst o (zdd k_Q_law_5 47 rfl) zki_0 ?_
    cases h
    exact zr_i o hr (zdd k_Q_law_5 48 rfl)
def f_Q_law_495 (xs : Nat → Int32) (L : Nat) (k18 : zSt → Nat → Nat → Int32 → Option (Int32 × zSt)) (σ : zSt) (v1 : Nat) (v2 : Nat) (v3 : Int32) : Option (Int32 × zSt) :=
(zsc xs L (v3 + 1)).bind fun x1 =>
(zsc xs L (v3 + 2)).bind fun x2 =>
(f_W_book σ v1 x1 x2).bind fun q3 =>
(zsc xs L (v3 + 1)).bind fun x4 =>
(zsc xs L (v3 + 2)).bind fun x5 =>
(f_M_book q3.2 v2 x4 x5).bind fun q6 =>
if q3.1 = q6.1 then (
k18 q6.2 v1 v2 (v3 + 6)) else
some (0, q6.2)
set_option maxRecDepth 100000 in
set_option maxHeartbeats 4000000 in
theorem r_Q_law_495 {X : zCX} (o : zOK X "WantShelvesLaw" c_Q_law n_Q_law 133) {xs : Nat → Int32} {L : Nat} (hsc : zSC X xs L) (hrm : zRM X 134 41620) {k18 : zSt → Nat → Nat → Int32 → Option (Int32 × zSt)} (hk18 : ∀ {σ : zSt} {v1 : Nat} {v2 : Nat} {v3 : Int32} {z : Int32 × zSt}, k18 σ v1 v2 v3 = some z → zRX X 134 41620 (some (.int z.1)) z.2 → zPJ X 134 41620 18 [(0, .retAddr 0), (1, .ref v1), (2, .ref v2), (3, .int v3)] [] σ) {σ : zSt} {v1 : Nat} {v2 : Nat} {v3 : Int32} {z : Int32 × zSt} (h : f_Q_law_495 xs L k18 σ v1 v2 v3 = some z) (hr : zRX X 134 41620 (some (.int z.1)) z.2) : zPJ X 134 41620 495 [(0, .retAddr 0), (1, .ref v1), (2, .ref v2), (3, .int v3)] [] σ := by
  unfold f_Q_law_495 at h
  refine zj_aload_n o (zdd k_Q_law_5 5 rfl) rfl 1 rfl ?_
  refine zj_sload_n o hsc (zdd k_Q_law_5 6 rfl) rfl 0 rfl ?_
  refine zj_iload_n o (zdd k_Q_law_5 7 rfl) rfl 3 rfl ?_
  refine zj_iconst o (zdd k_Q_law_5 8 rfl) zki_1 ?_
  refine zj_iadd o (zdd k_Q_law_5 9 rfl) ?_
  obtain ⟨x1, e_x1, h⟩ := zbd h
  refine zj_sald o hsc (zdd k_Q_law_5 10 rfl) e_x1 ?_
  refine zj_sload_n o hsc (zdd k_Q_law_5 11 rfl) rfl 0 rfl ?_
  refine zj_iload_n o (zdd k_Q_law_5 12 rfl) rfl 3 rfl ?_
  refine zj_iconst o (zdd k_Q_law_5 13 rfl) zki_2 ?_
  refine zj_iadd o (zdd k_Q_law_5 14 rfl) ?_
  obtain ⟨x2, e_x2, h⟩ := zbd h
  refine zj_sald o hsc (zdd k_Q_law_5 15 rfl) e_x2 ?_
  obtain ⟨q3, e_q3, h⟩ := zbd h
  refine zj_callV (mc := 134) (ms := 41620) (mc' := 0) (ms' := 0) o (zdd k_Q_law_5 16 rfl) ml_Q_53 mv_W_book ⟨rfl, by decide⟩ (zg_some e_q3).1 (by decide) [.int x1, .int x2] [] rfl (Nat.le_of_ble_eq_true rfl) rfl (m_W_book e_q3) hrm (by decide) ?_
  change zPJ X 134 41620 _ _ [.int q3.1] _
  refine zj_aload_n o (zdd k_Q_law_5 17 rfl) rfl 2 rfl ?_
  refine zj_sload_n o hsc (zdd k_Q_law_5 18 rfl) rfl 0 rfl ?_
  refine zj_iload_n o (zdd k_Q_law_5 19 rfl) rfl 3 rfl ?_
  refine zj_iconst o (zdd k_Q_law_5 20 rfl) zki_1 ?_
  refine zj_iadd o (zdd k_Q_law_5 21 rfl) ?_
  obtain ⟨x4, e_x4, h⟩ := zbd h
  refine zj_sald o hsc (zdd k_Q_law_5 22 rfl) e_x4 ?_
  refine zj_sload_n o hsc (zdd k_Q_law_5 23 rfl) rfl 0 rfl ?_
  refine zj_iload_n o (zdd k_Q_law_5 24 rfl) rfl 3 rfl ?_
  refine zj_iconst o (zdd k_Q_law_5 25 rfl) zki_2 ?_
  refine zj_iadd o (zdd k_Q_law_5 26 rfl) ?_
  obtain ⟨x5, e_x5, h⟩ := zbd h
  refine zj_sald o hsc (zdd k_Q_law_5 27 rfl) e_x5 ?_
  obtain ⟨q6, e_q6, h⟩ := zbd h
  refine zj_callV (mc := 134) (ms := 41620) (mc' := 0) (ms' := 0) o (zdd k_Q_law_5 28 rfl) ml_Q_56 mv_M_book ⟨rfl, by decide⟩ (zg_some e_q6).1 (by decide) [.int x4, .int x5] [.int q3.1] rfl (Nat.le_of_ble_eq_true rfl) rfl (m_M_book e_q6) hrm (by decide) ?_
  change zPJ X 134 41620 _ _ [.int q6.1, .int q3.1] _
  refine zj_icmp_eq (tgt := 1475) o (zdd k_Q_law_5 29 rfl) (by decide) (fun hc => ?_) (fun hc => ?_)
  · rw [if_pos hc] at h
    refine zj_iinc (v := v3 + 6) (loc' := [(3, .int (v3 + 6)), (0, .retAddr 0), (1, .ref v1), (2, .ref v2)]) o (zdd k_Q_law_20 41 rfl) 3 rfl (by rw [zki_6]) (by decide) rfl ?_
    refine zj_goto (tgt := 18) o (zdd k_Q_law_20 42 rfl) (by decide) ?_
    exact zj_sub [1, 2, 3, 0] rfl (hk18 h hr)
  · rw [if_neg hc] at h
    refine zj_iconst o (zdd k_Q_law_5 30 rfl) zki_0 ?_
    cases h
    exact zr_i o hr (zdd k_Q_law_5 31 rfl)
def f_Q_law_462 (xs : Nat → Int32) (L : Nat) (k18 : zSt → Nat → Nat → Int32 → Option (Int32 × zSt)) (σ : zSt) (v1 : Nat) (v2 : Nat) (v3 : Int32) : Option (Int32 × zSt) :=
(zsc xs L (v3 + 1)).bind fun x1 =>
(zsc xs L (v3 + 2)).bind fun x2 =>
(f_W_place σ v1 x1 x2).bind fun q3 =>
(zsc xs L (v3 + 1)).bind fun x4 =>
(zsc xs L (v3 + 2)).bind fun x5 =>
(f_M_place q3.2 v2 x4 x5).bind fun q6 =>
if q3.1 = q6.1 then (
k18 q6.2 v1 v2 (v3 + 6)) else
some (0, q6.2)
set_option maxRecDepth 100000 in
set_option maxHeartbeats 4000000 in
theorem r_Q_law_462 {X : zCX} (o : zOK X "WantShelvesLaw" c_Q_law n_Q_law 133) {xs : Nat → Int32} {L : Nat} (hsc : zSC X xs L) (hrm : zRM X 134 41620) {k18 : zSt → Nat → Nat → Int32 → Option (Int32 × zSt)} (hk18 : ∀ {σ : zSt} {v1 : Nat} {v2 : Nat} {v3 : Int32} {z : Int32 × zSt}, k18 σ v1 v2 v3 = some z → zRX X 134 41620 (some (.int z.1)) z.2 → zPJ X 134 41620 18 [(0, .retAddr 0), (1, .ref v1), (2, .ref v2), (3, .int v3)] [] σ) {σ : zSt} {v1 : Nat} {v2 : Nat} {v3 : Int32} {z : Int32 × zSt} (h : f_Q_law_462 xs L k18 σ v1 v2 v3 = some z) (hr : zRX X 134 41620 (some (.int z.1)) z.2) : zPJ X 134 41620 462 [(0, .retAddr 0), (1, .ref v1), (2, .ref v2), (3, .int v3)] [] σ := by
  unfold f_Q_law_462 at h
  refine zj_aload_n o (zdd k_Q_law_4 28 rfl) rfl 1 rfl ?_
  refine zj_sload_n o hsc (zdd k_Q_law_4 29 rfl) rfl 0 rfl ?_
  refine zj_iload_n o (zdd k_Q_law_4 30 rfl) rfl 3 rfl ?_
  refine zj_iconst o (zdd k_Q_law_4 31 rfl) zki_1 ?_
  refine zj_iadd o (zdd k_Q_law_4 32 rfl) ?_
  obtain ⟨x1, e_x1, h⟩ := zbd h
  refine zj_sald o hsc (zdd k_Q_law_4 33 rfl) e_x1 ?_
  refine zj_sload_n o hsc (zdd k_Q_law_4 34 rfl) rfl 0 rfl ?_
  refine zj_iload_n o (zdd k_Q_law_4 35 rfl) rfl 3 rfl ?_
  refine zj_iconst o (zdd k_Q_law_4 36 rfl) zki_2 ?_
  refine zj_iadd o (zdd k_Q_law_4 37 rfl) ?_
  obtain ⟨x2, e_x2, h⟩ := zbd h
  refine zj_sald o hsc (zdd k_Q_law_4 38 rfl) e_x2 ?_
  obtain ⟨q3, e_q3, h⟩ := zbd h
  refine zj_callV (mc := 134) (ms := 41620) (mc' := 0) (ms' := 0) o (zdd k_Q_law_4 39 rfl) ml_Q_49 mv_W_place ⟨rfl, by decide⟩ (zg_some e_q3).1 (by decide) [.int x1, .int x2] [] rfl (Nat.le_of_ble_eq_true rfl) rfl (m_W_place e_q3) hrm (by decide) ?_
  change zPJ X 134 41620 _ _ [.int q3.1] _
  refine zj_aload_n o (zdd k_Q_law_4 40 rfl) rfl 2 rfl ?_
  refine zj_sload_n o hsc (zdd k_Q_law_4 41 rfl) rfl 0 rfl ?_
  refine zj_iload_n o (zdd k_Q_law_4 42 rfl) rfl 3 rfl ?_
  refine zj_iconst o (zdd k_Q_law_4 43 rfl) zki_1 ?_
  refine zj_iadd o (zdd k_Q_law_4 44 rfl) ?_
  obtain ⟨x4, e_x4, h⟩ := zbd h
  refine zj_sald o hsc (zdd k_Q_law_4 45 rfl) e_x4 ?_
  refine zj_sload_n o hsc (zdd k_Q_law_4 46 rfl) rfl 0 rfl ?_
  refine zj_iload_n o (zdd k_Q_law_4 47 rfl) rfl 3 rfl ?_
  refine zj_iconst o (zdd k_Q_law_4 48 rfl) zki_2 ?_
  refine zj_iadd o (zdd k_Q_law_4 49 rfl) ?_
  obtain ⟨x5, e_x5, h⟩ := zbd h
  refine zj_sald o hsc (zdd k_Q_law_5 0 rfl) e_x5 ?_
  obtain ⟨q6, e_q6, h⟩ := zbd h
  refine zj_callV (mc := 134) (ms := 41620) (mc' := 0) (ms' := 0) o (zdd k_Q_law_5 1 rfl) ml_Q_52 mv_M_place ⟨rfl, by decide⟩ (zg_some e_q6).1 (by decide) [.int x4, .int x5] [.int q3.1] rfl (Nat.le_of_ble_eq_true rfl) rfl (m_M_place e_q6) hrm (by decide) ?_
  change zPJ X 134 41620 _ _ [.int q6.1, .int q3.1] _
  refine zj_icmp_eq (tgt := 1475) o (zdd k_Q_law_5 2 rfl) (by decide) (fun hc => ?_) (fun hc => ?_)
  · rw [if_pos hc] at h
    refine zj_iinc (v := v3 + 6) (loc' := [(3, .int (v3 + 6)), (0, .retAddr 0), (1, .ref v1), (2, .ref v2)]) o (zdd k_Q_law_20 41 rfl) 3 rfl (by rw [zki_6]) (by decide) rfl ?_
    refine zj_goto (tgt := 18) o (zdd k_Q_law_20 42 rfl) (by decide) ?_
    exact zj_sub [1, 2, 3, 0] rfl (hk18 h hr)
  · rw [if_neg hc] at h
    refine zj_iconst o (zdd k_Q_law_5 3 rfl) zki_0 ?_
    cases h
    exact zr_i o hr (zdd k_Q_law_5 4 rfl)
def f_Q_law_429 (xs : Nat → Int32) (L : Nat) (k18 : zSt → Nat → Nat → Int32 → Option (Int32 × zSt)) (σ : zSt) (v1 : Nat) (v2 : Nat) (v3 : Int32) : Option (Int32 × zSt) :=
(zsc xs L (v3 + 1)).bind fun x1 =>
(zsc xs L (v3 + 2)).bind fun x2 =>
(f_W_key σ v1 x1 x2).bind fun q3 =>
(zsc xs L (v3 + 1)).bind fun x4 =>
(zsc xs L (v3 + 2)).bind fun x5 =>
(f_M_key q3.2 v2 x4 x5).bind fun q6 =>
if q3.1 = q6.1 then (
k18 q6.2 v1 v2 (v3 + 6)) else
some (0, q6.2)
set_option maxRecDepth 100000 in
set_option maxHeartbeats 4000000 in
theorem r_Q_law_429 {X : zCX} (o : zOK X "WantShelvesLaw" c_Q_law n_Q_law 133) {xs : Nat → Int32} {L : Nat} (hsc : zSC X xs L) (hrm : zRM X 134 41620) {k18 : zSt → Nat → Nat → Int32 → Option (Int32 × zSt)} (hk18 : ∀ {σ : zSt} {v1 : Nat} {v2 : Nat} {v3 : Int32} {z : Int32 × zSt}, k18 σ v1 v2 v3 = some z → zRX X 134 41620 (some (.int z.1)) z.2 → zPJ X 134 41620 18 [(0, .retAddr 0), (1, .ref v1), (2, .ref v2), (3, .int v3)] [] σ) {σ : zSt} {v1 : Nat} {v2 : Nat} {v3 : Int32} {z : Int32 × zSt} (h : f_Q_law_429 xs L k18 σ v1 v2 v3 = some z) (hr : zRX X 134 41620 (some (.int z.1)) z.2) : zPJ X 134 41620 429 [(0, .retAddr 0), (1, .ref v1), (2, .ref v2), (3, .int v3)] [] σ := by
  unfold f_Q_law_429 at h
  refine zj_aload_n o (zdd k_Q_law_4 1 rfl) rfl 1 rfl ?_
  refine zj_sload_n o hsc (zdd k_Q_law_4 2 rfl) rfl 0 rfl ?_
  refine zj_iload_n o (zdd k_Q_law_4 3 rfl) rfl 3 rfl ?_
  refine zj_iconst o (zdd k_Q_law_4 4 rfl) zki_1 ?_
  refine zj_iadd o (zdd k_Q_law_4 5 rfl) ?_
  obtain ⟨x1, e_x1, h⟩ := zbd h
  refine zj_sald o hsc (zdd k_Q_law_4 6 rfl) e_x1 ?_
  refine zj_sload_n o hsc (zdd k_Q_law_4 7 rfl) rfl 0 rfl ?_
  refine zj_iload_n o (zdd k_Q_law_4 8 rfl) rfl 3 rfl ?_
  refine zj_iconst o (zdd k_Q_law_4 9 rfl) zki_2 ?_
  refine zj_iadd o (zdd k_Q_law_4 10 rfl) ?_
  obtain ⟨x2, e_x2, h⟩ := zbd h
  refine zj_sald o hsc (zdd k_Q_law_4 11 rfl) e_x2 ?_
  obtain ⟨q3, e_q3, h⟩ := zbd h
  refine zj_callV (mc := 134) (ms := 41620) (mc' := 0) (ms' := 0) o (zdd k_Q_law_4 12 rfl) ml_Q_45 mv_W_key ⟨rfl, by decide⟩ (zg_some e_q3).1 (by decide) [.int x1, .int x2] [] rfl (Nat.le_of_ble_eq_true rfl) rfl (m_W_key e_q3) hrm (by decide) ?_
  change zPJ X 134 41620 _ _ [.int q3.1] _
  refine zj_aload_n o (zdd k_Q_law_4 13 rfl) rfl 2 rfl ?_
  refine zj_sload_n o hsc (zdd k_Q_law_4 14 rfl) rfl 0 rfl ?_
  refine zj_iload_n o (zdd k_Q_law_4 15 rfl) rfl 3 rfl ?_
  refine zj_iconst o (zdd k_Q_law_4 16 rfl) zki_1 ?_
  refine zj_iadd o (zdd k_Q_law_4 17 rfl) ?_
  obtain ⟨x4, e_x4, h⟩ := zbd h
  refine zj_sald o hsc (zdd k_Q_law_4 18 rfl) e_x4 ?_
  refine zj_sload_n o hsc (zdd k_Q_law_4 19 rfl) rfl 0 rfl ?_
  refine zj_iload_n o (zdd k_Q_law_4 20 rfl) rfl 3 rfl ?_
  refine zj_iconst o (zdd k_Q_law_4 21 rfl) zki_2 ?_
  refine zj_iadd o (zdd k_Q_law_4 22 rfl) ?_
  obtain ⟨x5, e_x5, h⟩ := zbd h
  refine zj_sald o hsc (zdd k_Q_law_4 23 rfl) e_x5 ?_
  obtain ⟨q6, e_q6, h⟩ := zbd h
  refine zj_callV (mc := 134) (ms := 41620) (mc' := 0) (ms' := 0) o (zdd k_Q_law_4 24 rfl) ml_Q_48 mv_M_key ⟨rfl, by decide⟩ (zg_some e_q6).1 (by decide) [.int x4, .int x5] [.int q3.1] rfl (Nat.le_of_ble_eq_true rfl) rfl (m_M_key e_q6) hrm (by decide) ?_
  change zPJ X 134 41620 _ _ [.int q6.1, .int q3.1] _
  refine zj_icmp_eq (tgt := 1475) o (zdd k_Q_law_4 25 rfl) (by decide) (fun hc => ?_) (fun hc => ?_)
  · rw [if_pos hc] at h
    refine zj_iinc (v := v3 + 6) (loc' := [(3, .int (v3 + 6)), (0, .retAddr 0), (1, .ref v1), (2, .ref v2)]) o (zdd k_Q_law_20 41 rfl) 3 rfl (by rw [zki_6]) (by decide) rfl ?_
    refine zj_goto (tgt := 18) o (zdd k_Q_law_20 42 rfl) (by decide) ?_
    exact zj_sub [1, 2, 3, 0] rfl (hk18 h hr)
  · rw [if_neg hc] at h
    refine zj_iconst o (zdd k_Q_law_4 26 rfl) zki_0 ?_
    cases h
    exact zr_i o hr (zdd k_Q_law_4 27 rfl)
def f_Q_law_396 (xs : Nat → Int32) (L : Nat) (k18 : zSt → Nat → Nat → Int32 → Option (Int32 × zSt)) (σ : zSt) (v1 : Nat) (v2 : Nat) (v3 : Int32) : Option (Int32 × zSt) :=
(zsc xs L (v3 + 1)).bind fun x1 =>
(zsc xs L (v3 + 2)).bind fun x2 =>
(f_W_reader σ v1 x1 x2).bind fun x3 =>
(zsc xs L (v3 + 1)).bind fun x4 =>
(zsc xs L (v3 + 2)).bind fun x5 =>
(f_M_reader σ v2 x4 x5).bind fun x6 =>
if x3 = x6 then (
k18 σ v1 v2 (v3 + 6)) else
some (0, σ)
set_option maxRecDepth 100000 in
set_option maxHeartbeats 4000000 in
theorem r_Q_law_396 {X : zCX} (o : zOK X "WantShelvesLaw" c_Q_law n_Q_law 133) {xs : Nat → Int32} {L : Nat} (hsc : zSC X xs L) (hrm : zRM X 134 41620) {k18 : zSt → Nat → Nat → Int32 → Option (Int32 × zSt)} (hk18 : ∀ {σ : zSt} {v1 : Nat} {v2 : Nat} {v3 : Int32} {z : Int32 × zSt}, k18 σ v1 v2 v3 = some z → zRX X 134 41620 (some (.int z.1)) z.2 → zPJ X 134 41620 18 [(0, .retAddr 0), (1, .ref v1), (2, .ref v2), (3, .int v3)] [] σ) {σ : zSt} {v1 : Nat} {v2 : Nat} {v3 : Int32} {z : Int32 × zSt} (h : f_Q_law_396 xs L k18 σ v1 v2 v3 = some z) (hr : zRX X 134 41620 (some (.int z.1)) z.2) : zPJ X 134 41620 396 [(0, .retAddr 0), (1, .ref v1), (2, .ref v2), (3, .int v3)] [] σ := by
  unfold f_Q_law_396 at h
  refine zj_aload_n o (zdd k_Q_law_3 24 rfl) rfl 1 rfl ?_
  refine zj_sload_n o hsc (zdd k_Q_law_3 25 rfl) rfl 0 rfl ?_
  refine zj_iload_n o (zdd k_Q_law_3 26 rfl) rfl 3 rfl ?_
  refine zj_iconst o (zdd k_Q_law_3 27 rfl) zki_1 ?_
  refine zj_iadd o (zdd k_Q_law_3 28 rfl) ?_
  obtain ⟨x1, e_x1, h⟩ := zbd h
  refine zj_sald o hsc (zdd k_Q_law_3 29 rfl) e_x1 ?_
  refine zj_sload_n o hsc (zdd k_Q_law_3 30 rfl) rfl 0 rfl ?_
  refine zj_iload_n o (zdd k_Q_law_3 31 rfl) rfl 3 rfl ?_
  refine zj_iconst o (zdd k_Q_law_3 32 rfl) zki_2 ?_
  refine zj_iadd o (zdd k_Q_law_3 33 rfl) ?_
  obtain ⟨x2, e_x2, h⟩ := zbd h
  refine zj_sald o hsc (zdd k_Q_law_3 34 rfl) e_x2 ?_
  obtain ⟨x3, e_x3, h⟩ := zbd h
  refine zj_callV (mc := 134) (ms := 41620) (mc' := 0) (ms' := 0) o (zdd k_Q_law_3 35 rfl) ml_Q_41 mv_W_reader ⟨rfl, by decide⟩ (zg_some e_x3).1 (by decide) [.int x1, .int x2] [] rfl (Nat.le_of_ble_eq_true rfl) rfl (m_W_reader e_x3) hrm (by decide) ?_
  change zPJ X 134 41620 _ _ [.int x3] _
  refine zj_aload_n o (zdd k_Q_law_3 36 rfl) rfl 2 rfl ?_
  refine zj_sload_n o hsc (zdd k_Q_law_3 37 rfl) rfl 0 rfl ?_
  refine zj_iload_n o (zdd k_Q_law_3 38 rfl) rfl 3 rfl ?_
  refine zj_iconst o (zdd k_Q_law_3 39 rfl) zki_1 ?_
  refine zj_iadd o (zdd k_Q_law_3 40 rfl) ?_
  obtain ⟨x4, e_x4, h⟩ := zbd h
  refine zj_sald o hsc (zdd k_Q_law_3 41 rfl) e_x4 ?_
  refine zj_sload_n o hsc (zdd k_Q_law_3 42 rfl) rfl 0 rfl ?_
  refine zj_iload_n o (zdd k_Q_law_3 43 rfl) rfl 3 rfl ?_
  refine zj_iconst o (zdd k_Q_law_3 44 rfl) zki_2 ?_
  refine zj_iadd o (zdd k_Q_law_3 45 rfl) ?_
  obtain ⟨x5, e_x5, h⟩ := zbd h
  refine zj_sald o hsc (zdd k_Q_law_3 46 rfl) e_x5 ?_
  obtain ⟨x6, e_x6, h⟩ := zbd h
  refine zj_callV (mc := 134) (ms := 41620) (mc' := 0) (ms' := 0) o (zdd k_Q_law_3 47 rfl) ml_Q_44 mv_M_reader ⟨rfl, by decide⟩ (zg_some e_x6).1 (by decide) [.int x4, .int x5] [.int x3] rfl (Nat.le_of_ble_eq_true rfl) rfl (m_M_reader e_x6) hrm (by decide) ?_
  change zPJ X 134 41620 _ _ [.int x6, .int x3] _
  refine zj_icmp_eq (tgt := 1475) o (zdd k_Q_law_3 48 rfl) (by decide) (fun hc => ?_) (fun hc => ?_)
  · rw [if_pos hc] at h
    refine zj_iinc (v := v3 + 6) (loc' := [(3, .int (v3 + 6)), (0, .retAddr 0), (1, .ref v1), (2, .ref v2)]) o (zdd k_Q_law_20 41 rfl) 3 rfl (by rw [zki_6]) (by decide) rfl ?_
    refine zj_goto (tgt := 18) o (zdd k_Q_law_20 42 rfl) (by decide) ?_
    exact zj_sub [1, 2, 3, 0] rfl (hk18 h hr)
  · rw [if_neg hc] at h
    refine zj_iconst o (zdd k_Q_law_3 49 rfl) zki_0 ?_
    cases h
    exact zr_i o hr (zdd k_Q_law_4 0 rfl)
def f_Q_law_363 (xs : Nat → Int32) (L : Nat) (k18 : zSt → Nat → Nat → Int32 → Option (Int32 × zSt)) (σ : zSt) (v1 : Nat) (v2 : Nat) (v3 : Int32) : Option (Int32 × zSt) :=
(zsc xs L (v3 + 1)).bind fun x1 =>
(zsc xs L (v3 + 2)).bind fun x2 =>
(f_W_wants σ v1 x1 x2).bind fun x3 =>
(zsc xs L (v3 + 1)).bind fun x4 =>
(zsc xs L (v3 + 2)).bind fun x5 =>
(f_M_wants σ v2 x4 x5).bind fun x6 =>
if x3 = x6 then (
k18 σ v1 v2 (v3 + 6)) else
some (0, σ)
set_option maxRecDepth 100000 in
set_option maxHeartbeats 4000000 in
theorem r_Q_law_363 {X : zCX} (o : zOK X "WantShelvesLaw" c_Q_law n_Q_law 133) {xs : Nat → Int32} {L : Nat} (hsc : zSC X xs L) (hrm : zRM X 134 41620) {k18 : zSt → Nat → Nat → Int32 → Option (Int32 × zSt)} (hk18 : ∀ {σ : zSt} {v1 : Nat} {v2 : Nat} {v3 : Int32} {z : Int32 × zSt}, k18 σ v1 v2 v3 = some z → zRX X 134 41620 (some (.int z.1)) z.2 → zPJ X 134 41620 18 [(0, .retAddr 0), (1, .ref v1), (2, .ref v2), (3, .int v3)] [] σ) {σ : zSt} {v1 : Nat} {v2 : Nat} {v3 : Int32} {z : Int32 × zSt} (h : f_Q_law_363 xs L k18 σ v1 v2 v3 = some z) (hr : zRX X 134 41620 (some (.int z.1)) z.2) : zPJ X 134 41620 363 [(0, .retAddr 0), (1, .ref v1), (2, .ref v2), (3, .int v3)] [] σ := by
  unfold f_Q_law_363 at h
  refine zj_aload_n o (zdd k_Q_law_2 47 rfl) rfl 1 rfl ?_
  refine zj_sload_n o hsc (zdd k_Q_law_2 48 rfl) rfl 0 rfl ?_
  refine zj_iload_n o (zdd k_Q_law_2 49 rfl) rfl 3 rfl ?_
  refine zj_iconst o (zdd k_Q_law_3 0 rfl) zki_1 ?_
  refine zj_iadd o (zdd k_Q_law_3 1 rfl) ?_
  obtain ⟨x1, e_x1, h⟩ := zbd h
  refine zj_sald o hsc (zdd k_Q_law_3 2 rfl) e_x1 ?_
  refine zj_sload_n o hsc (zdd k_Q_law_3 3 rfl) rfl 0 rfl ?_
  refine zj_iload_n o (zdd k_Q_law_3 4 rfl) rfl 3 rfl ?_
  refine zj_iconst o (zdd k_Q_law_3 5 rfl) zki_2 ?_
  refine zj_iadd o (zdd k_Q_law_3 6 rfl) ?_
  obtain ⟨x2, e_x2, h⟩ := zbd h
  refine zj_sald o hsc (zdd k_Q_law_3 7 rfl) e_x2 ?_
  obtain ⟨x3, e_x3, h⟩ := zbd h
  refine zj_callV (mc := 134) (ms := 41620) (mc' := 0) (ms' := 0) o (zdd k_Q_law_3 8 rfl) ml_Q_37 mv_W_wants ⟨rfl, by decide⟩ (zg_some e_x3).1 (by decide) [.int x1, .int x2] [] rfl (Nat.le_of_ble_eq_true rfl) rfl (m_W_wants e_x3) hrm (by decide) ?_
  change zPJ X 134 41620 _ _ [.int x3] _
  refine zj_aload_n o (zdd k_Q_law_3 9 rfl) rfl 2 rfl ?_
  refine zj_sload_n o hsc (zdd k_Q_law_3 10 rfl) rfl 0 rfl ?_
  refine zj_iload_n o (zdd k_Q_law_3 11 rfl) rfl 3 rfl ?_
  refine zj_iconst o (zdd k_Q_law_3 12 rfl) zki_1 ?_
  refine zj_iadd o (zdd k_Q_law_3 13 rfl) ?_
  obtain ⟨x4, e_x4, h⟩ := zbd h
  refine zj_sald o hsc (zdd k_Q_law_3 14 rfl) e_x4 ?_
  refine zj_sload_n o hsc (zdd k_Q_law_3 15 rfl) rfl 0 rfl ?_
  refine zj_iload_n o (zdd k_Q_law_3 16 rfl) rfl 3 rfl ?_
  refine zj_iconst o (zdd k_Q_law_3 17 rfl) zki_2 ?_
  refine zj_iadd o (zdd k_Q_law_3 18 rfl) ?_
  obtain ⟨x5, e_x5, h⟩ := zbd h
  refine zj_sald o hsc (zdd k_Q_law_3 19 rfl) e_x5 ?_
  obtain ⟨x6, e_x6, h⟩ := zbd h
  refine zj_callV (mc := 134) (ms := 41620) (mc' := 0) (ms' := 0) o (zdd k_Q_law_3 20 rfl) ml_Q_40 mv_M_wants ⟨rfl, by decide⟩ (zg_some e_x6).1 (by decide) [.int x4, .int x5] [.int x3] rfl (Nat.le_of_ble_eq_true rfl) rfl (m_M_wants e_x6) hrm (by decide) ?_
  change zPJ X 134 41620 _ _ [.int x6, .int x3] _
  refine zj_icmp_eq (tgt := 1475) o (zdd k_Q_law_3 21 rfl) (by decide) (fun hc => ?_) (fun hc => ?_)
  · rw [if_pos hc] at h
    refine zj_iinc (v := v3 + 6) (loc' := [(3, .int (v3 + 6)), (0, .retAddr 0), (1, .ref v1), (2, .ref v2)]) o (zdd k_Q_law_20 41 rfl) 3 rfl (by rw [zki_6]) (by decide) rfl ?_
    refine zj_goto (tgt := 18) o (zdd k_Q_law_20 42 rfl) (by decide) ?_
    exact zj_sub [1, 2, 3, 0] rfl (hk18 h hr)
  · rw [if_neg hc] at h
    refine zj_iconst o (zdd k_Q_law_3 22 rfl) zki_0 ?_
    cases h
    exact zr_i o hr (zdd k_Q_law_3 23 rfl)
def f_Q_law_330 (xs : Nat → Int32) (L : Nat) (k18 : zSt → Nat → Nat → Int32 → Option (Int32 × zSt)) (σ : zSt) (v1 : Nat) (v2 : Nat) (v3 : Int32) : Option (Int32 × zSt) :=
(zsc xs L (v3 + 1)).bind fun x1 =>
(zsc xs L (v3 + 2)).bind fun x2 =>
(f_W_weight σ v1 x1 x2).bind fun x3 =>
(zsc xs L (v3 + 1)).bind fun x4 =>
(zsc xs L (v3 + 2)).bind fun x5 =>
(f_M_weight σ v2 x4 x5).bind fun x6 =>
if x3 = x6 then (
k18 σ v1 v2 (v3 + 6)) else
some (0, σ)
set_option maxRecDepth 100000 in
set_option maxHeartbeats 4000000 in
theorem r_Q_law_330 {X : zCX} (o : zOK X "WantShelvesLaw" c_Q_law n_Q_law 133) {xs : Nat → Int32} {L : Nat} (hsc : zSC X xs L) (hrm : zRM X 134 41620) {k18 : zSt → Nat → Nat → Int32 → Option (Int32 × zSt)} (hk18 : ∀ {σ : zSt} {v1 : Nat} {v2 : Nat} {v3 : Int32} {z : Int32 × zSt}, k18 σ v1 v2 v3 = some z → zRX X 134 41620 (some (.int z.1)) z.2 → zPJ X 134 41620 18 [(0, .retAddr 0), (1, .ref v1), (2, .ref v2), (3, .int v3)] [] σ) {σ : zSt} {v1 : Nat} {v2 : Nat} {v3 : Int32} {z : Int32 × zSt} (h : f_Q_law_330 xs L k18 σ v1 v2 v3 = some z) (hr : zRX X 134 41620 (some (.int z.1)) z.2) : zPJ X 134 41620 330 [(0, .retAddr 0), (1, .ref v1), (2, .ref v2), (3, .int v3)] [] σ := by
  unfold f_Q_law_330 at h
  refine zj_aload_n o (zdd k_Q_law_2 20 rfl) rfl 1 rfl ?_
  refine zj_sload_n o hsc (zdd k_Q_law_2 21 rfl) rfl 0 rfl ?_
  refine zj_iload_n o (zdd k_Q_law_2 22 rfl) rfl 3 rfl ?_
  refine zj_iconst o (zdd k_Q_law_2 23 rfl) zki_1 ?_
  refine zj_iadd o (zdd k_Q_law_2 24 rfl) ?_
  obtain ⟨x1, e_x1, h⟩ := zbd h
  refine zj_sald o hsc (zdd k_Q_law_2 25 rfl) e_x1 ?_
  refine zj_sload_n o hsc (zdd k_Q_law_2 26 rfl) rfl 0 rfl ?_
  refine zj_iload_n o (zdd k_Q_law_2 27 rfl) rfl 3 rfl ?_
  refine zj_iconst o (zdd k_Q_law_2 28 rfl) zki_2 ?_
  refine zj_iadd o (zdd k_Q_law_2 29 rfl) ?_
  obtain ⟨x2, e_x2, h⟩ := zbd h
  refine zj_sald o hsc (zdd k_Q_law_2 30 rfl) e_x2 ?_
  obtain ⟨x3, e_x3, h⟩ := zbd h
  refine zj_callV (mc := 134) (ms := 41620) (mc' := 0) (ms' := 0) o (zdd k_Q_law_2 31 rfl) ml_Q_32 mv_W_weight ⟨rfl, by decide⟩ (zg_some e_x3).1 (by decide) [.int x1, .int x2] [] rfl (Nat.le_of_ble_eq_true rfl) rfl (m_W_weight e_x3) hrm (by decide) ?_
  change zPJ X 134 41620 _ _ [.int x3] _
  refine zj_aload_n o (zdd k_Q_law_2 32 rfl) rfl 2 rfl ?_
  refine zj_sload_n o hsc (zdd k_Q_law_2 33 rfl) rfl 0 rfl ?_
  refine zj_iload_n o (zdd k_Q_law_2 34 rfl) rfl 3 rfl ?_
  refine zj_iconst o (zdd k_Q_law_2 35 rfl) zki_1 ?_
  refine zj_iadd o (zdd k_Q_law_2 36 rfl) ?_
  obtain ⟨x4, e_x4, h⟩ := zbd h
  refine zj_sald o hsc (zdd k_Q_law_2 37 rfl) e_x4 ?_
  refine zj_sload_n o hsc (zdd k_Q_law_2 38 rfl) rfl 0 rfl ?_
  refine zj_iload_n o (zdd k_Q_law_2 39 rfl) rfl 3 rfl ?_
  refine zj_iconst o (zdd k_Q_law_2 40 rfl) zki_2 ?_
  refine zj_iadd o (zdd k_Q_law_2 41 rfl) ?_
  obtain ⟨x5, e_x5, h⟩ := zbd h
  refine zj_sald o hsc (zdd k_Q_law_2 42 rfl) e_x5 ?_
  obtain ⟨x6, e_x6, h⟩ := zbd h
  refine zj_callV (mc := 134) (ms := 41620) (mc' := 0) (ms' := 0) o (zdd k_Q_law_2 43 rfl) ml_Q_36 mv_M_weight ⟨rfl, by decide⟩ (zg_some e_x6).1 (by decide) [.int x4, .int x5] [.int x3] rfl (Nat.le_of_ble_eq_true rfl) rfl (m_M_weight e_x6) hrm (by decide) ?_
  change zPJ X 134 41620 _ _ [.int x6, .int x3] _
  refine zj_icmp_eq (tgt := 1475) o (zdd k_Q_law_2 44 rfl) (by decide) (fun hc => ?_) (fun hc => ?_)
  · rw [if_pos hc] at h
    refine zj_iinc (v := v3 + 6) (loc' := [(3, .int (v3 + 6)), (0, .retAddr 0), (1, .ref v1), (2, .ref v2)]) o (zdd k_Q_law_20 41 rfl) 3 rfl (by rw [zki_6]) (by decide) rfl ?_
    refine zj_goto (tgt := 18) o (zdd k_Q_law_20 42 rfl) (by decide) ?_
    exact zj_sub [1, 2, 3, 0] rfl (hk18 h hr)
  · rw [if_neg hc] at h
    refine zj_iconst o (zdd k_Q_law_2 45 rfl) zki_0 ?_
    cases h
    exact zr_i o hr (zdd k_Q_law_2 46 rfl)
def f_Q_law_307 (xs : Nat → Int32) (L : Nat) (k18 : zSt → Nat → Nat → Int32 → Option (Int32 × zSt)) (σ : zSt) (v1 : Nat) (v2 : Nat) (v3 : Int32) : Option (Int32 × zSt) :=
(zsc xs L (v3 + 1)).bind fun x1 =>
(f_W_fault σ v1 x1).bind fun x2 =>
(zsc xs L (v3 + 1)).bind fun x3 =>
(f_M_fault σ v2 x3).bind fun x4 =>
if x2 = x4 then (
k18 σ v1 v2 (v3 + 6)) else
some (0, σ)
set_option maxRecDepth 100000 in
set_option maxHeartbeats 4000000 in
theorem r_Q_law_307 {X : zCX} (o : zOK X "WantShelvesLaw" c_Q_law n_Q_law 133) {xs : Nat → Int32} {L : Nat} (hsc : zSC X xs L) (hrm : zRM X 134 41620) {k18 : zSt → Nat → Nat → Int32 → Option (Int32 × zSt)} (hk18 : ∀ {σ : zSt} {v1 : Nat} {v2 : Nat} {v3 : Int32} {z : Int32 × zSt}, k18 σ v1 v2 v3 = some z → zRX X 134 41620 (some (.int z.1)) z.2 → zPJ X 134 41620 18 [(0, .retAddr 0), (1, .ref v1), (2, .ref v2), (3, .int v3)] [] σ) {σ : zSt} {v1 : Nat} {v2 : Nat} {v3 : Int32} {z : Int32 × zSt} (h : f_Q_law_307 xs L k18 σ v1 v2 v3 = some z) (hr : zRX X 134 41620 (some (.int z.1)) z.2) : zPJ X 134 41620 307 [(0, .retAddr 0), (1, .ref v1), (2, .ref v2), (3, .int v3)] [] σ := by
  unfold f_Q_law_307 at h
  refine zj_aload_n o (zdd k_Q_law_2 3 rfl) rfl 1 rfl ?_
  refine zj_sload_n o hsc (zdd k_Q_law_2 4 rfl) rfl 0 rfl ?_
  refine zj_iload_n o (zdd k_Q_law_2 5 rfl) rfl 3 rfl ?_
  refine zj_iconst o (zdd k_Q_law_2 6 rfl) zki_1 ?_
  refine zj_iadd o (zdd k_Q_law_2 7 rfl) ?_
  obtain ⟨x1, e_x1, h⟩ := zbd h
  refine zj_sald o hsc (zdd k_Q_law_2 8 rfl) e_x1 ?_
  obtain ⟨x2, e_x2, h⟩ := zbd h
  refine zj_callV (mc := 134) (ms := 41620) (mc' := 0) (ms' := 0) o (zdd k_Q_law_2 9 rfl) ml_Q_28 mv_W_fault ⟨rfl, by decide⟩ (zg_some e_x2).1 (by decide) [.int x1] [] rfl (Nat.le_of_ble_eq_true rfl) rfl (m_W_fault e_x2) hrm (by decide) ?_
  change zPJ X 134 41620 _ _ [.int x2] _
  refine zj_aload_n o (zdd k_Q_law_2 10 rfl) rfl 2 rfl ?_
  refine zj_sload_n o hsc (zdd k_Q_law_2 11 rfl) rfl 0 rfl ?_
  refine zj_iload_n o (zdd k_Q_law_2 12 rfl) rfl 3 rfl ?_
  refine zj_iconst o (zdd k_Q_law_2 13 rfl) zki_1 ?_
  refine zj_iadd o (zdd k_Q_law_2 14 rfl) ?_
  obtain ⟨x3, e_x3, h⟩ := zbd h
  refine zj_sald o hsc (zdd k_Q_law_2 15 rfl) e_x3 ?_
  obtain ⟨x4, e_x4, h⟩ := zbd h
  refine zj_callV (mc := 134) (ms := 41620) (mc' := 0) (ms' := 0) o (zdd k_Q_law_2 16 rfl) ml_Q_31 mv_M_fault ⟨rfl, by decide⟩ (zg_some e_x4).1 (by decide) [.int x3] [.int x2] rfl (Nat.le_of_ble_eq_true rfl) rfl (m_M_fault e_x4) hrm (by decide) ?_
  change zPJ X 134 41620 _ _ [.int x4, .int x2] _
  refine zj_icmp_eq (tgt := 1475) o (zdd k_Q_law_2 17 rfl) (by decide) (fun hc => ?_) (fun hc => ?_)
  · rw [if_pos hc] at h
    refine zj_iinc (v := v3 + 6) (loc' := [(3, .int (v3 + 6)), (0, .retAddr 0), (1, .ref v1), (2, .ref v2)]) o (zdd k_Q_law_20 41 rfl) 3 rfl (by rw [zki_6]) (by decide) rfl ?_
    refine zj_goto (tgt := 18) o (zdd k_Q_law_20 42 rfl) (by decide) ?_
    exact zj_sub [1, 2, 3, 0] rfl (hk18 h hr)
  · rw [if_neg hc] at h
    refine zj_iconst o (zdd k_Q_law_2 18 rfl) zki_0 ?_
    cases h
    exact zr_i o hr (zdd k_Q_law_2 19 rfl)
def f_Q_law_294 (xs : Nat → Int32) (L : Nat) (k18 : zSt → Nat → Nat → Int32 → Option (Int32 × zSt)) (σ : zSt) (v1 : Nat) (v2 : Nat) (v3 : Int32) : Option (Int32 × zSt) :=
(f_W_library σ v1).bind fun q1 =>
(f_M_library q1.2 v2).bind fun q2 =>
if q1.1 = q2.1 then (
k18 q2.2 v1 v2 (v3 + 6)) else
some (0, q2.2)
set_option maxRecDepth 100000 in
set_option maxHeartbeats 4000000 in
theorem r_Q_law_294 {X : zCX} (o : zOK X "WantShelvesLaw" c_Q_law n_Q_law 133) {xs : Nat → Int32} {L : Nat} (hsc : zSC X xs L) (hrm : zRM X 134 41620) {k18 : zSt → Nat → Nat → Int32 → Option (Int32 × zSt)} (hk18 : ∀ {σ : zSt} {v1 : Nat} {v2 : Nat} {v3 : Int32} {z : Int32 × zSt}, k18 σ v1 v2 v3 = some z → zRX X 134 41620 (some (.int z.1)) z.2 → zPJ X 134 41620 18 [(0, .retAddr 0), (1, .ref v1), (2, .ref v2), (3, .int v3)] [] σ) {σ : zSt} {v1 : Nat} {v2 : Nat} {v3 : Int32} {z : Int32 × zSt} (h : f_Q_law_294 xs L k18 σ v1 v2 v3 = some z) (hr : zRX X 134 41620 (some (.int z.1)) z.2) : zPJ X 134 41620 294 [(0, .retAddr 0), (1, .ref v1), (2, .ref v2), (3, .int v3)] [] σ := by
  unfold f_Q_law_294 at h
  refine zj_aload_n o (zdd k_Q_law_1 46 rfl) rfl 1 rfl ?_
  obtain ⟨q1, e_q1, h⟩ := zbd h
  refine zj_callV (mc := 134) (ms := 41620) (mc' := 0) (ms' := 0) o (zdd k_Q_law_1 47 rfl) ml_Q_23 mv_W_library ⟨rfl, by decide⟩ (zg_some e_q1).1 (by decide) [] [] rfl (Nat.le_of_ble_eq_true rfl) rfl (m_W_library e_q1) hrm (by decide) ?_
  change zPJ X 134 41620 _ _ [.int q1.1] _
  refine zj_aload_n o (zdd k_Q_law_1 48 rfl) rfl 2 rfl ?_
  obtain ⟨q2, e_q2, h⟩ := zbd h
  refine zj_callV (mc := 134) (ms := 41620) (mc' := 0) (ms' := 0) o (zdd k_Q_law_1 49 rfl) ml_Q_27 mv_M_library ⟨rfl, by decide⟩ (zg_some e_q2).1 (by decide) [] [.int q1.1] rfl (Nat.le_of_ble_eq_true rfl) rfl (m_M_library e_q2) hrm (by decide) ?_
  change zPJ X 134 41620 _ _ [.int q2.1, .int q1.1] _
  refine zj_icmp_eq (tgt := 1475) o (zdd k_Q_law_2 0 rfl) (by decide) (fun hc => ?_) (fun hc => ?_)
  · rw [if_pos hc] at h
    refine zj_iinc (v := v3 + 6) (loc' := [(3, .int (v3 + 6)), (0, .retAddr 0), (1, .ref v1), (2, .ref v2)]) o (zdd k_Q_law_20 41 rfl) 3 rfl (by rw [zki_6]) (by decide) rfl ?_
    refine zj_goto (tgt := 18) o (zdd k_Q_law_20 42 rfl) (by decide) ?_
    exact zj_sub [1, 2, 3, 0] rfl (hk18 h hr)
  · rw [if_neg hc] at h
    refine zj_iconst o (zdd k_Q_law_2 1 rfl) zki_0 ?_
    cases h
    exact zr_i o hr (zdd k_Q_law_2 2 rfl)
def f_Q_law_271 (xs : Nat → Int32) (L : Nat) (k18 : zSt → Nat → Nat → Int32 → Option (Int32 × zSt)) (σ : zSt) (v1 : Nat) (v2 : Nat) (v3 : Int32) : Option (Int32 × zSt) :=
(zsc xs L (v3 + 1)).bind fun x1 =>
(f_W_end σ v1 x1).bind fun q2 =>
(zsc xs L (v3 + 1)).bind fun x3 =>
(f_M_end q2.2 v2 x3).bind fun q4 =>
if q2.1 = q4.1 then (
k18 q4.2 v1 v2 (v3 + 6)) else
some (0, q4.2)
set_option maxRecDepth 100000 in
set_option maxHeartbeats 4000000 in
theorem r_Q_law_271 {X : zCX} (o : zOK X "WantShelvesLaw" c_Q_law n_Q_law 133) {xs : Nat → Int32} {L : Nat} (hsc : zSC X xs L) (hrm : zRM X 134 41620) {k18 : zSt → Nat → Nat → Int32 → Option (Int32 × zSt)} (hk18 : ∀ {σ : zSt} {v1 : Nat} {v2 : Nat} {v3 : Int32} {z : Int32 × zSt}, k18 σ v1 v2 v3 = some z → zRX X 134 41620 (some (.int z.1)) z.2 → zPJ X 134 41620 18 [(0, .retAddr 0), (1, .ref v1), (2, .ref v2), (3, .int v3)] [] σ) {σ : zSt} {v1 : Nat} {v2 : Nat} {v3 : Int32} {z : Int32 × zSt} (h : f_Q_law_271 xs L k18 σ v1 v2 v3 = some z) (hr : zRX X 134 41620 (some (.int z.1)) z.2) : zPJ X 134 41620 271 [(0, .retAddr 0), (1, .ref v1), (2, .ref v2), (3, .int v3)] [] σ := by
  unfold f_Q_law_271 at h
  refine zj_aload_n o (zdd k_Q_law_1 29 rfl) rfl 1 rfl ?_
  refine zj_sload_n o hsc (zdd k_Q_law_1 30 rfl) rfl 0 rfl ?_
  refine zj_iload_n o (zdd k_Q_law_1 31 rfl) rfl 3 rfl ?_
  refine zj_iconst o (zdd k_Q_law_1 32 rfl) zki_1 ?_
  refine zj_iadd o (zdd k_Q_law_1 33 rfl) ?_
  obtain ⟨x1, e_x1, h⟩ := zbd h
  refine zj_sald o hsc (zdd k_Q_law_1 34 rfl) e_x1 ?_
  obtain ⟨q2, e_q2, h⟩ := zbd h
  refine zj_callV (mc := 134) (ms := 41620) (mc' := 0) (ms' := 0) o (zdd k_Q_law_1 35 rfl) ml_Q_18 mv_W_end ⟨rfl, by decide⟩ (zg_some e_q2).1 (by decide) [.int x1] [] rfl (Nat.le_of_ble_eq_true rfl) rfl (m_W_end e_q2) hrm (by decide) ?_
  change zPJ X 134 41620 _ _ [.int q2.1] _
  refine zj_aload_n o (zdd k_Q_law_1 36 rfl) rfl 2 rfl ?_
  refine zj_sload_n o hsc (zdd k_Q_law_1 37 rfl) rfl 0 rfl ?_
  refine zj_iload_n o (zdd k_Q_law_1 38 rfl) rfl 3 rfl ?_
  refine zj_iconst o (zdd k_Q_law_1 39 rfl) zki_1 ?_
  refine zj_iadd o (zdd k_Q_law_1 40 rfl) ?_
  obtain ⟨x3, e_x3, h⟩ := zbd h
  refine zj_sald o hsc (zdd k_Q_law_1 41 rfl) e_x3 ?_
  obtain ⟨q4, e_q4, h⟩ := zbd h
  refine zj_callV (mc := 134) (ms := 41620) (mc' := 0) (ms' := 0) o (zdd k_Q_law_1 42 rfl) ml_Q_22 mv_M_end ⟨rfl, by decide⟩ (zg_some e_q4).1 (by decide) [.int x3] [.int q2.1] rfl (Nat.le_of_ble_eq_true rfl) rfl (m_M_end e_q4) hrm (by decide) ?_
  change zPJ X 134 41620 _ _ [.int q4.1, .int q2.1] _
  refine zj_icmp_eq (tgt := 1475) o (zdd k_Q_law_1 43 rfl) (by decide) (fun hc => ?_) (fun hc => ?_)
  · rw [if_pos hc] at h
    refine zj_iinc (v := v3 + 6) (loc' := [(3, .int (v3 + 6)), (0, .retAddr 0), (1, .ref v1), (2, .ref v2)]) o (zdd k_Q_law_20 41 rfl) 3 rfl (by rw [zki_6]) (by decide) rfl ?_
    refine zj_goto (tgt := 18) o (zdd k_Q_law_20 42 rfl) (by decide) ?_
    exact zj_sub [1, 2, 3, 0] rfl (hk18 h hr)
  · rw [if_neg hc] at h
    refine zj_iconst o (zdd k_Q_law_1 44 rfl) zki_0 ?_
    cases h
    exact zr_i o hr (zdd k_Q_law_1 45 rfl)
def f_Q_law_208 (xs : Nat → Int32) (L : Nat) (k18 : zSt → Nat → Nat → Int32 → Option (Int32 × zSt)) (σ : zSt) (v1 : Nat) (v2 : Nat) (v3 : Int32) : Option (Int32 × zSt) :=
(zsc xs L (v3 + 1)).bind fun x1 =>
(zsc xs L (v3 + 2)).bind fun x2 =>
(zsc xs L (v3 + 3)).bind fun x3 =>
(zsc xs L (v3 + 4)).bind fun x4 =>
(zsc xs L (v3 + 5)).bind fun x5 =>
(f_W_feed σ v1 x1 x2 x3 x4 x5).bind fun q6 =>
(zsc xs L (v3 + 1)).bind fun x7 =>
(zsc xs L (v3 + 2)).bind fun x8 =>
(zsc xs L (v3 + 3)).bind fun x9 =>
(zsc xs L (v3 + 4)).bind fun x10 =>
(zsc xs L (v3 + 5)).bind fun x11 =>
(f_M_feed q6.2 v2 x7 x8 x9 x10 x11).bind fun q12 =>
if q6.1 = q12.1 then (
k18 q12.2 v1 v2 (v3 + 6)) else
some (0, q12.2)
set_option maxRecDepth 100000 in
set_option maxHeartbeats 4000000 in
theorem r_Q_law_208 {X : zCX} (o : zOK X "WantShelvesLaw" c_Q_law n_Q_law 133) {xs : Nat → Int32} {L : Nat} (hsc : zSC X xs L) (hrm : zRM X 134 41620) {k18 : zSt → Nat → Nat → Int32 → Option (Int32 × zSt)} (hk18 : ∀ {σ : zSt} {v1 : Nat} {v2 : Nat} {v3 : Int32} {z : Int32 × zSt}, k18 σ v1 v2 v3 = some z → zRX X 134 41620 (some (.int z.1)) z.2 → zPJ X 134 41620 18 [(0, .retAddr 0), (1, .ref v1), (2, .ref v2), (3, .int v3)] [] σ) {σ : zSt} {v1 : Nat} {v2 : Nat} {v3 : Int32} {z : Int32 × zSt} (h : f_Q_law_208 xs L k18 σ v1 v2 v3 = some z) (hr : zRX X 134 41620 (some (.int z.1)) z.2) : zPJ X 134 41620 208 [(0, .retAddr 0), (1, .ref v1), (2, .ref v2), (3, .int v3)] [] σ := by
  unfold f_Q_law_208 at h
  refine zj_aload_n o (zdd k_Q_law_0 22 rfl) rfl 1 rfl ?_
  refine zj_sload_n o hsc (zdd k_Q_law_0 23 rfl) rfl 0 rfl ?_
  refine zj_iload_n o (zdd k_Q_law_0 24 rfl) rfl 3 rfl ?_
  refine zj_iconst o (zdd k_Q_law_0 25 rfl) zki_1 ?_
  refine zj_iadd o (zdd k_Q_law_0 26 rfl) ?_
  obtain ⟨x1, e_x1, h⟩ := zbd h
  refine zj_sald o hsc (zdd k_Q_law_0 27 rfl) e_x1 ?_
  refine zj_sload_n o hsc (zdd k_Q_law_0 28 rfl) rfl 0 rfl ?_
  refine zj_iload_n o (zdd k_Q_law_0 29 rfl) rfl 3 rfl ?_
  refine zj_iconst o (zdd k_Q_law_0 30 rfl) zki_2 ?_
  refine zj_iadd o (zdd k_Q_law_0 31 rfl) ?_
  obtain ⟨x2, e_x2, h⟩ := zbd h
  refine zj_sald o hsc (zdd k_Q_law_0 32 rfl) e_x2 ?_
  refine zj_sload_n o hsc (zdd k_Q_law_0 33 rfl) rfl 0 rfl ?_
  refine zj_iload_n o (zdd k_Q_law_0 34 rfl) rfl 3 rfl ?_
  refine zj_iconst o (zdd k_Q_law_0 35 rfl) zki_3 ?_
  refine zj_iadd o (zdd k_Q_law_0 36 rfl) ?_
  obtain ⟨x3, e_x3, h⟩ := zbd h
  refine zj_sald o hsc (zdd k_Q_law_0 37 rfl) e_x3 ?_
  refine zj_sload_n o hsc (zdd k_Q_law_0 38 rfl) rfl 0 rfl ?_
  refine zj_iload_n o (zdd k_Q_law_0 39 rfl) rfl 3 rfl ?_
  refine zj_iconst o (zdd k_Q_law_0 40 rfl) zki_4 ?_
  refine zj_iadd o (zdd k_Q_law_0 41 rfl) ?_
  obtain ⟨x4, e_x4, h⟩ := zbd h
  refine zj_sald o hsc (zdd k_Q_law_0 42 rfl) e_x4 ?_
  refine zj_sload_n o hsc (zdd k_Q_law_0 43 rfl) rfl 0 rfl ?_
  refine zj_iload_n o (zdd k_Q_law_0 44 rfl) rfl 3 rfl ?_
  refine zj_iconst o (zdd k_Q_law_0 45 rfl) zki_5 ?_
  refine zj_iadd o (zdd k_Q_law_0 46 rfl) ?_
  obtain ⟨x5, e_x5, h⟩ := zbd h
  refine zj_sald o hsc (zdd k_Q_law_0 47 rfl) e_x5 ?_
  obtain ⟨q6, e_q6, h⟩ := zbd h
  refine zj_callV (mc := 134) (ms := 41620) (mc' := 0) (ms' := 0) o (zdd k_Q_law_0 48 rfl) ml_Q_13 mv_W_feed ⟨rfl, by decide⟩ (zg_some e_q6).1 (by decide) [.int x1, .int x2, .int x3, .int x4, .int x5] [] rfl (Nat.le_of_ble_eq_true rfl) rfl (m_W_feed e_q6) hrm (by decide) ?_
  change zPJ X 134 41620 _ _ [.int q6.1] _
  refine zj_aload_n o (zdd k_Q_law_0 49 rfl) rfl 2 rfl ?_
  refine zj_sload_n o hsc (zdd k_Q_law_1 0 rfl) rfl 0 rfl ?_
  refine zj_iload_n o (zdd k_Q_law_1 1 rfl) rfl 3 rfl ?_
  refine zj_iconst o (zdd k_Q_law_1 2 rfl) zki_1 ?_
  refine zj_iadd o (zdd k_Q_law_1 3 rfl) ?_
  obtain ⟨x7, e_x7, h⟩ := zbd h
  refine zj_sald o hsc (zdd k_Q_law_1 4 rfl) e_x7 ?_
  refine zj_sload_n o hsc (zdd k_Q_law_1 5 rfl) rfl 0 rfl ?_
  refine zj_iload_n o (zdd k_Q_law_1 6 rfl) rfl 3 rfl ?_
  refine zj_iconst o (zdd k_Q_law_1 7 rfl) zki_2 ?_
  refine zj_iadd o (zdd k_Q_law_1 8 rfl) ?_
  obtain ⟨x8, e_x8, h⟩ := zbd h
  refine zj_sald o hsc (zdd k_Q_law_1 9 rfl) e_x8 ?_
  refine zj_sload_n o hsc (zdd k_Q_law_1 10 rfl) rfl 0 rfl ?_
  refine zj_iload_n o (zdd k_Q_law_1 11 rfl) rfl 3 rfl ?_
  refine zj_iconst o (zdd k_Q_law_1 12 rfl) zki_3 ?_
  refine zj_iadd o (zdd k_Q_law_1 13 rfl) ?_
  obtain ⟨x9, e_x9, h⟩ := zbd h
  refine zj_sald o hsc (zdd k_Q_law_1 14 rfl) e_x9 ?_
  refine zj_sload_n o hsc (zdd k_Q_law_1 15 rfl) rfl 0 rfl ?_
  refine zj_iload_n o (zdd k_Q_law_1 16 rfl) rfl 3 rfl ?_
  refine zj_iconst o (zdd k_Q_law_1 17 rfl) zki_4 ?_
  refine zj_iadd o (zdd k_Q_law_1 18 rfl) ?_
  obtain ⟨x10, e_x10, h⟩ := zbd h
  refine zj_sald o hsc (zdd k_Q_law_1 19 rfl) e_x10 ?_
  refine zj_sload_n o hsc (zdd k_Q_law_1 20 rfl) rfl 0 rfl ?_
  refine zj_iload_n o (zdd k_Q_law_1 21 rfl) rfl 3 rfl ?_
  refine zj_iconst o (zdd k_Q_law_1 22 rfl) zki_5 ?_
  refine zj_iadd o (zdd k_Q_law_1 23 rfl) ?_
  obtain ⟨x11, e_x11, h⟩ := zbd h
  refine zj_sald o hsc (zdd k_Q_law_1 24 rfl) e_x11 ?_
  obtain ⟨q12, e_q12, h⟩ := zbd h
  refine zj_callV (mc := 134) (ms := 41620) (mc' := 0) (ms' := 0) o (zdd k_Q_law_1 25 rfl) ml_Q_17 mv_M_feed ⟨rfl, by decide⟩ (zg_some e_q12).1 (by decide) [.int x7, .int x8, .int x9, .int x10, .int x11] [.int q6.1] rfl (Nat.le_of_ble_eq_true rfl) rfl (m_M_feed e_q12) hrm (by decide) ?_
  change zPJ X 134 41620 _ _ [.int q12.1, .int q6.1] _
  refine zj_icmp_eq (tgt := 1475) o (zdd k_Q_law_1 26 rfl) (by decide) (fun hc => ?_) (fun hc => ?_)
  · rw [if_pos hc] at h
    refine zj_iinc (v := v3 + 6) (loc' := [(3, .int (v3 + 6)), (0, .retAddr 0), (1, .ref v1), (2, .ref v2)]) o (zdd k_Q_law_20 41 rfl) 3 rfl (by rw [zki_6]) (by decide) rfl ?_
    refine zj_goto (tgt := 18) o (zdd k_Q_law_20 42 rfl) (by decide) ?_
    exact zj_sub [1, 2, 3, 0] rfl (hk18 h hr)
  · rw [if_neg hc] at h
    refine zj_iconst o (zdd k_Q_law_1 27 rfl) zki_0 ?_
    cases h
    exact zr_i o hr (zdd k_Q_law_1 28 rfl)
def f_Q_law_18 (xs : Nat → Int32) (L : Nat) (k18 : zSt → Nat → Nat → Int32 → Option (Int32 × zSt)) (σ : zSt) (v1 : Nat) (v2 : Nat) (v3 : Int32) : Option (Int32 × zSt) :=
if (Int32.ofNat L) - 6 < v3 then (
some (1, σ)) else
(zsc xs L v3).bind fun x1 =>
if x1 &&& 63 = 0 then (
f_Q_law_208 xs L k18 σ v1 v2 v3) else
if x1 &&& 63 = 1 then (
f_Q_law_271 xs L k18 σ v1 v2 v3) else
if x1 &&& 63 = 2 then (
f_Q_law_294 xs L k18 σ v1 v2 v3) else
if x1 &&& 63 = 3 then (
f_Q_law_307 xs L k18 σ v1 v2 v3) else
if x1 &&& 63 = 4 then (
f_Q_law_330 xs L k18 σ v1 v2 v3) else
if x1 &&& 63 = 5 then (
f_Q_law_363 xs L k18 σ v1 v2 v3) else
if x1 &&& 63 = 6 then (
f_Q_law_396 xs L k18 σ v1 v2 v3) else
if x1 &&& 63 = 7 then (
f_Q_law_429 xs L k18 σ v1 v2 v3) else
if x1 &&& 63 = 8 then (
f_Q_law_462 xs L k18 σ v1 v2 v3) else
if x1 &&& 63 = 9 then (
f_Q_law_495 xs L k18 σ v1 v2 v3) else
if x1 &&& 63 = 10 then (
f_Q_law_528 xs L k18 σ v1 v2 v3) else
if x1 &&& 63 = 11 then (
f_Q_law_551 xs L k18 σ v1 v2 v3) else
if x1 &&& 63 = 12 then (
f_Q_law_574 xs L k18 σ v1 v2 v3) else
if x1 &&& 63 = 13 then (
f_Q_law_607 xs L k18 σ v1 v2 v3) else
if x1 &&& 63 = 14 then (
f_Q_law_630 xs L k18 σ v1 v2 v3) else
if x1 &&& 63 = 15 then (
f_Q_law_663 xs L k18 σ v1 v2 v3) else
if x1 &&& 63 = 16 then (
f_Q_law_676 xs L k18 σ v1 v2 v3) else
if x1 &&& 63 = 17 then (
f_Q_law_689 xs L k18 σ v1 v2 v3) else
if x1 &&& 63 = 18 then (
f_Q_law_722 xs L k18 σ v1 v2 v3) else
if x1 &&& 63 = 19 then (
f_Q_law_755 xs L k18 σ v1 v2 v3) else
if x1 &&& 63 = 20 then (
f_Q_law_798 xs L k18 σ v1 v2 v3) else
if x1 &&& 63 = 21 then (
f_Q_law_831 xs L k18 σ v1 v2 v3) else
if x1 &&& 63 = 22 then (
f_Q_law_864 xs L k18 σ v1 v2 v3) else
if x1 &&& 63 = 23 then (
f_Q_law_917 xs L k18 σ v1 v2 v3) else
if x1 &&& 63 = 24 then (
f_Q_law_960 xs L k18 σ v1 v2 v3) else
if x1 &&& 63 = 25 then (
f_Q_law_1003 xs L k18 σ v1 v2 v3) else
if x1 &&& 63 = 26 then (
f_Q_law_1026 xs L k18 σ v1 v2 v3) else
if x1 &&& 63 = 27 then (
f_Q_law_1039 xs L k18 σ v1 v2 v3) else
if x1 &&& 63 = 28 then (
f_Q_law_1062 xs L k18 σ v1 v2 v3) else
if x1 &&& 63 = 29 then (
f_Q_law_1075 xs L k18 σ v1 v2 v3) else
if x1 &&& 63 = 30 then (
f_Q_law_1119 xs L k18 σ v1 v2 v3) else
if x1 &&& 63 = 31 then (
f_Q_law_1142 xs L k18 σ v1 v2 v3) else
if x1 &&& 63 = 32 then (
f_Q_law_1185 xs L k18 σ v1 v2 v3) else
if x1 &&& 63 = 33 then (
f_Q_law_1208 xs L k18 σ v1 v2 v3) else
if x1 &&& 63 = 34 then (
f_Q_law_1231 xs L k18 σ v1 v2 v3) else
if x1 &&& 63 = 35 then (
f_Q_law_1274 xs L k18 σ v1 v2 v3) else
if x1 &&& 63 = 36 then (
f_Q_law_1353 xs L k18 σ v1 v2 v3) else
if x1 &&& 63 = 37 then (
f_Q_law_1406 xs L k18 σ v1 v2 v3) else
if x1 &&& 63 = 38 then (
f_Q_law_1429 xs L k18 σ v1 v2 v3) else
if x1 &&& 63 = 39 then (
f_Q_law_1452 xs L k18 σ v1 v2 v3) else
k18 σ v1 v2 (v3 + 6)
set_option maxRecDepth 100000 in
set_option maxHeartbeats 4000000 in
theorem r_Q_law_18 {X : zCX} (o : zOK X "WantShelvesLaw" c_Q_law n_Q_law 133) {xs : Nat → Int32} {L : Nat} (hsc : zSC X xs L) (hrm : zRM X 134 41620) {k18 : zSt → Nat → Nat → Int32 → Option (Int32 × zSt)} (hk18 : ∀ {σ : zSt} {v1 : Nat} {v2 : Nat} {v3 : Int32} {z : Int32 × zSt}, k18 σ v1 v2 v3 = some z → zRX X 134 41620 (some (.int z.1)) z.2 → zPJ X 134 41620 18 [(0, .retAddr 0), (1, .ref v1), (2, .ref v2), (3, .int v3)] [] σ) {σ : zSt} {v1 : Nat} {v2 : Nat} {v3 : Int32} {z : Int32 × zSt} (h : f_Q_law_18 xs L k18 σ v1 v2 v3 = some z) (hr : zRX X 134 41620 (some (.int z.1)) z.2) : zPJ X 134 41620 18 [(0, .retAddr 0), (1, .ref v1), (2, .ref v2), (3, .int v3)] [] σ := by
  unfold f_Q_law_18 at h
  refine zj_iload_n o (zdd k_Q_law_0 10 rfl) rfl 3 rfl ?_
  refine zj_sload_n o hsc (zdd k_Q_law_0 11 rfl) rfl 0 rfl ?_
  refine zj_slen o hsc (zdd k_Q_law_0 12 rfl) ?_
  refine zj_bipush o (zdd k_Q_law_0 13 rfl) zkb_6 ?_
  refine zj_isub o (zdd k_Q_law_0 14 rfl) ?_
  refine zj_icmp_gt (tgt := 1481) o (zdd k_Q_law_0 15 rfl) (by decide) (fun hc => ?_) (fun hc => ?_)
  · rw [if_pos hc] at h
    refine zj_iconst o (zdd k_Q_law_20 43 rfl) zki_1 ?_
    cases h
    exact zr_i o hr (zdd k_Q_law_20 44 rfl)
  · rw [if_neg hc] at h
    refine zj_sload_n o hsc (zdd k_Q_law_0 16 rfl) rfl 0 rfl ?_
    refine zj_iload_n o (zdd k_Q_law_0 17 rfl) rfl 3 rfl ?_
    obtain ⟨x1, e_x1, h⟩ := zbd h
    refine zj_sald o hsc (zdd k_Q_law_0 18 rfl) e_x1 ?_
    refine zj_bipush o (zdd k_Q_law_0 19 rfl) zkb_63 ?_
    refine zj_iand o (zdd k_Q_law_0 20 rfl) ?_
    refine zj_tableC (dt := 1475) o [208, 271, 294, 307, 330, 363, 396, 429, 462, 495, 528, 551, 574, 607, 630, 663, 676, 689, 722, 755, 798, 831, 864, 917, 960, 1003, 1026, 1039, 1062, 1075, 1119, 1142, 1185, 1208, 1231, 1274, 1353, 1406, 1429, 1452] (zdd k_Q_law_0 21 rfl) (by decide) (by decide) (by decide) (by decide) (by decide) [(0, 208), (1, 271), (2, 294), (3, 307), (4, 330), (5, 363), (6, 396), (7, 429), (8, 462), (9, 495), (10, 528), (11, 551), (12, 574), (13, 607), (14, 630), (15, 663), (16, 676), (17, 689), (18, 722), (19, 755), (20, 798), (21, 831), (22, 864), (23, 917), (24, 960), (25, 1003), (26, 1026), (27, 1039), (28, 1062), (29, 1075), (30, 1119), (31, 1142), (32, 1185), (33, 1208), (34, 1231), (35, 1274), (36, 1353), (37, 1406), (38, 1429), (39, 1452)] (by decide) ?_
    by_cases hc : x1 &&& 63 = 0
    · rw [if_pos hc] at h
      rw [zcase_pos hc]
      exact zj_sub [0, 1, 2, 3] rfl (r_Q_law_208 o hsc hrm hk18 h hr)
    · rw [if_neg hc] at h
      rw [zcase_neg hc]
      by_cases hc : x1 &&& 63 = 1
      · rw [if_pos hc] at h
        rw [zcase_pos hc]
        exact zj_sub [0, 1, 2, 3] rfl (r_Q_law_271 o hsc hrm hk18 h hr)
      · rw [if_neg hc] at h
        rw [zcase_neg hc]
        by_cases hc : x1 &&& 63 = 2
        · rw [if_pos hc] at h
          rw [zcase_pos hc]
          exact zj_sub [0, 1, 2, 3] rfl (r_Q_law_294 o hsc hrm hk18 h hr)
        · rw [if_neg hc] at h
          rw [zcase_neg hc]
          by_cases hc : x1 &&& 63 = 3
          · rw [if_pos hc] at h
            rw [zcase_pos hc]
            exact zj_sub [0, 1, 2, 3] rfl (r_Q_law_307 o hsc hrm hk18 h hr)
          · rw [if_neg hc] at h
            rw [zcase_neg hc]
            by_cases hc : x1 &&& 63 = 4
            · rw [if_pos hc] at h
              rw [zcase_pos hc]
              exact zj_sub [0, 1, 2, 3] rfl (r_Q_law_330 o hsc hrm hk18 h hr)
            · rw [if_neg hc] at h
              rw [zcase_neg hc]
              by_cases hc : x1 &&& 63 = 5
              · rw [if_pos hc] at h
                rw [zcase_pos hc]
                exact zj_sub [0, 1, 2, 3] rfl (r_Q_law_363 o hsc hrm hk18 h hr)
              · rw [if_neg hc] at h
                rw [zcase_neg hc]
                by_cases hc : x1 &&& 63 = 6
                · rw [if_pos hc] at h
                  rw [zcase_pos hc]
                  exact zj_sub [0, 1, 2, 3] rfl (r_Q_law_396 o hsc hrm hk18 h hr)
                · rw [if_neg hc] at h
                  rw [zcase_neg hc]
                  by_cases hc : x1 &&& 63 = 7
                  · rw [if_pos hc] at h
                    rw [zcase_pos hc]
                    exact zj_sub [0, 1, 2, 3] rfl (r_Q_law_429 o hsc hrm hk18 h hr)
                  · rw [if_neg hc] at h
                    rw [zcase_neg hc]
                    by_cases hc : x1 &&& 63 = 8
                    · rw [if_pos hc] at h
                      rw [zcase_pos hc]
                      exact zj_sub [0, 1, 2, 3] rfl (r_Q_law_462 o hsc hrm hk18 h hr)
                    · rw [if_neg hc] at h
                      rw [zcase_neg hc]
                      by_cases hc : x1 &&& 63 = 9
                      · rw [if_pos hc] at h
                        rw [zcase_pos hc]
                        exact zj_sub [0, 1, 2, 3] rfl (r_Q_law_495 o hsc hrm hk18 h hr)
                      · rw [if_neg hc] at h
                        rw [zcase_neg hc]
                        by_cases hc : x1 &&& 63 = 10
                        · rw [if_pos hc] at h
                          rw [zcase_pos hc]
                          exact zj_sub [0, 1, 2, 3] rfl (r_Q_law_528 o hsc hrm hk18 h hr)
                        · rw [if_neg hc] at h
                          rw [zcase_neg hc]
                          by_cases hc : x1 &&& 63 = 11
                          · rw [if_pos hc] at h
                            rw [zcase_pos hc]
                            exact zj_sub [0, 1, 2, 3] rfl (r_Q_law_551 o hsc hrm hk18 h hr)
                          · rw [if_neg hc] at h
                            rw [zcase_neg hc]
                            by_cases hc : x1 &&& 63 = 12
                            · rw [if_pos hc] at h
                              rw [zcase_pos hc]
                              exact zj_sub [0, 1, 2, 3] rfl (r_Q_law_574 o hsc hrm hk18 h hr)
                            · rw [if_neg hc] at h
                              rw [zcase_neg hc]
                              by_cases hc : x1 &&& 63 = 13
                              · rw [if_pos hc] at h
                                rw [zcase_pos hc]
                                exact zj_sub [0, 1, 2, 3] rfl (r_Q_law_607 o hsc hrm hk18 h hr)
                              · rw [if_neg hc] at h
                                rw [zcase_neg hc]
                                by_cases hc : x1 &&& 63 = 14
                                · rw [if_pos hc] at h
                                  rw [zcase_pos hc]
                                  exact zj_sub [0, 1, 2, 3] rfl (r_Q_law_630 o hsc hrm hk18 h hr)
                                · rw [if_neg hc] at h
                                  rw [zcase_neg hc]
                                  by_cases hc : x1 &&& 63 = 15
                                  · rw [if_pos hc] at h
                                    rw [zcase_pos hc]
                                    exact zj_sub [0, 1, 2, 3] rfl (r_Q_law_663 o hsc hrm hk18 h hr)
                                  · rw [if_neg hc] at h
                                    rw [zcase_neg hc]
                                    by_cases hc : x1 &&& 63 = 16
                                    · rw [if_pos hc] at h
                                      rw [zcase_pos hc]
                                      exact zj_sub [0, 1, 2, 3] rfl (r_Q_law_676 o hsc hrm hk18 h hr)
                                    · rw [if_neg hc] at h
                                      rw [zcase_neg hc]
                                      by_cases hc : x1 &&& 63 = 17
                                      · rw [if_pos hc] at h
                                        rw [zcase_pos hc]
                                        exact zj_sub [0, 1, 2, 3] rfl (r_Q_law_689 o hsc hrm hk18 h hr)
                                      · rw [if_neg hc] at h
                                        rw [zcase_neg hc]
                                        by_cases hc : x1 &&& 63 = 18
                                        · rw [if_pos hc] at h
                                          rw [zcase_pos hc]
                                          exact zj_sub [0, 1, 2, 3] rfl (r_Q_law_722 o hsc hrm hk18 h hr)
                                        · rw [if_neg hc] at h
                                          rw [zcase_neg hc]
                                          by_cases hc : x1 &&& 63 = 19
                                          · rw [if_pos hc] at h
                                            rw [zcase_pos hc]
                                            exact zj_sub [0, 1, 2, 3] rfl (r_Q_law_755 o hsc hrm hk18 h hr)
                                          · rw [if_neg hc] at h
                                            rw [zcase_neg hc]
                                            by_cases hc : x1 &&& 63 = 20
                                            · rw [if_pos hc] at h
                                              rw [zcase_pos hc]
                                              exact zj_sub [0, 1, 2, 3] rfl (r_Q_law_798 o hsc hrm hk18 h hr)
                                            · rw [if_neg hc] at h
                                              rw [zcase_neg hc]
                                              by_cases hc : x1 &&& 63 = 21
                                              · rw [if_pos hc] at h
                                                rw [zcase_pos hc]
                                                exact zj_sub [0, 1, 2, 3] rfl (r_Q_law_831 o hsc hrm hk18 h hr)
                                              · rw [if_neg hc] at h
                                                rw [zcase_neg hc]
                                                by_cases hc : x1 &&& 63 = 22
                                                · rw [if_pos hc] at h
                                                  rw [zcase_pos hc]
                                                  exact zj_sub [0, 1, 2, 3] rfl (r_Q_law_864 o hsc hrm hk18 h hr)
                                                · rw [if_neg hc] at h
                                                  rw [zcase_neg hc]
                                                  by_cases hc : x1 &&& 63 = 23
                                                  · rw [if_pos hc] at h
                                                    rw [zcase_pos hc]
                                                    exact zj_sub [0, 1, 2, 3] rfl (r_Q_law_917 o hsc hrm hk18 h hr)
                                                  · rw [if_neg hc] at h
                                                    rw [zcase_neg hc]
                                                    by_cases hc : x1 &&& 63 = 24
                                                    · rw [if_pos hc] at h
                                                      rw [zcase_pos hc]
                                                      exact zj_sub [0, 1, 2, 3] rfl (r_Q_law_960 o hsc hrm hk18 h hr)
                                                    · rw [if_neg hc] at h
                                                      rw [zcase_neg hc]
                                                      by_cases hc : x1 &&& 63 = 25
                                                      · rw [if_pos hc] at h
                                                        rw [zcase_pos hc]
                                                        exact zj_sub [0, 1, 2, 3] rfl (r_Q_law_1003 o hsc hrm hk18 h hr)
                                                      · rw [if_neg hc] at h
                                                        rw [zcase_neg hc]
                                                        by_cases hc : x1 &&& 63 = 26
                                                        · rw [if_pos hc] at h
                                                          rw [zcase_pos hc]
                                                          exact zj_sub [0, 1, 2, 3] rfl (r_Q_law_1026 o hsc hrm hk18 h hr)
                                                        · rw [if_neg hc] at h
                                                          rw [zcase_neg hc]
                                                          by_cases hc : x1 &&& 63 = 27
                                                          · rw [if_pos hc] at h
                                                            rw [zcase_pos hc]
                                                            exact zj_sub [0, 1, 2, 3] rfl (r_Q_law_1039 o hsc hrm hk18 h hr)
                                                          · rw [if_neg hc] at h
                                                            rw [zcase_neg hc]
                                                            by_cases hc : x1 &&& 63 = 28
                                                            · rw [if_pos hc] at h
                                                              rw [zcase_pos hc]
                                                              exact zj_sub [0, 1, 2, 3] rfl (r_Q_law_1062 o hsc hrm hk18 h hr)
                                                            · rw [if_neg hc] at h
                                                              rw [zcase_neg hc]
                                                              by_cases hc : x1 &&& 63 = 29
                                                              · rw [if_pos hc] at h
                                                                rw [zcase_pos hc]
                                                                exact zj_sub [0, 1, 2, 3] rfl (r_Q_law_1075 o hsc hrm hk18 h hr)
                                                              · rw [if_neg hc] at h
                                                                rw [zcase_neg hc]
                                                                by_cases hc : x1 &&& 63 = 30
                                                                · rw [if_pos hc] at h
                                                                  rw [zcase_pos hc]
                                                                  exact zj_sub [0, 1, 2, 3] rfl (r_Q_law_1119 o hsc hrm hk18 h hr)
                                                                · rw [if_neg hc] at h
                                                                  rw [zcase_neg hc]
                                                                  by_cases hc : x1 &&& 63 = 31
                                                                  · rw [if_pos hc] at h
                                                                    rw [zcase_pos hc]
                                                                    exact zj_sub [0, 1, 2, 3] rfl (r_Q_law_1142 o hsc hrm hk18 h hr)
                                                                  · rw [if_neg hc] at h
                                                                    rw [zcase_neg hc]
                                                                    by_cases hc : x1 &&& 63 = 32
                                                                    · rw [if_pos hc] at h
                                                                      rw [zcase_pos hc]
                                                                      exact zj_sub [0, 1, 2, 3] rfl (r_Q_law_1185 o hsc hrm hk18 h hr)
                                                                    · rw [if_neg hc] at h
                                                                      rw [zcase_neg hc]
                                                                      by_cases hc : x1 &&& 63 = 33
                                                                      · rw [if_pos hc] at h
                                                                        rw [zcase_pos hc]
                                                                        exact zj_sub [0, 1, 2, 3] rfl (r_Q_law_1208 o hsc hrm hk18 h hr)
                                                                      · rw [if_neg hc] at h
                                                                        rw [zcase_neg hc]
                                                                        by_cases hc : x1 &&& 63 = 34
                                                                        · rw [if_pos hc] at h
                                                                          rw [zcase_pos hc]
                                                                          exact zj_sub [0, 1, 2, 3] rfl (r_Q_law_1231 o hsc hrm hk18 h hr)
                                                                        · rw [if_neg hc] at h
                                                                          rw [zcase_neg hc]
                                                                          by_cases hc : x1 &&& 63 = 35
                                                                          · rw [if_pos hc] at h
                                                                            rw [zcase_pos hc]
                                                                            exact zj_sub [0, 1, 2, 3] rfl (r_Q_law_1274 o hsc hrm hk18 h hr)
                                                                          · rw [if_neg hc] at h
                                                                            rw [zcase_neg hc]
                                                                            by_cases hc : x1 &&& 63 = 36
                                                                            · rw [if_pos hc] at h
                                                                              rw [zcase_pos hc]
                                                                              exact zj_sub [0, 1, 2, 3] rfl (r_Q_law_1353 o hsc hrm hk18 h hr)
                                                                            · rw [if_neg hc] at h
                                                                              rw [zcase_neg hc]
                                                                              by_cases hc : x1 &&& 63 = 37
                                                                              · rw [if_pos hc] at h
                                                                                rw [zcase_pos hc]
                                                                                exact zj_sub [0, 1, 2, 3] rfl (r_Q_law_1406 o hsc hrm hk18 h hr)
                                                                              · rw [if_neg hc] at h
                                                                                rw [zcase_neg hc]
                                                                                by_cases hc : x1 &&& 63 = 38
                                                                                · rw [if_pos hc] at h
                                                                                  rw [zcase_pos hc]
                                                                                  exact zj_sub [0, 1, 2, 3] rfl (r_Q_law_1429 o hsc hrm hk18 h hr)
                                                                                · rw [if_neg hc] at h
                                                                                  rw [zcase_neg hc]
                                                                                  by_cases hc : x1 &&& 63 = 39
                                                                                  · rw [if_pos hc] at h
                                                                                    rw [zcase_pos hc]
                                                                                    exact zj_sub [0, 1, 2, 3] rfl (r_Q_law_1452 o hsc hrm hk18 h hr)
                                                                                  · rw [if_neg hc] at h
                                                                                    rw [zcase_neg hc]
                                                                                    change zPJ X 134 41620 1475 _ _ _
                                                                                    refine zj_iinc (v := v3 + 6) (loc' := [(3, .int (v3 + 6)), (0, .retAddr 0), (1, .ref v1), (2, .ref v2)]) o (zdd k_Q_law_20 41 rfl) 3 rfl (by rw [zki_6]) (by decide) rfl ?_
                                                                                    refine zj_goto (tgt := 18) o (zdd k_Q_law_20 42 rfl) (by decide) ?_
                                                                                    exact zj_sub [1, 2, 3, 0] rfl (hk18 h hr)
def f_Q_law_18L (xs : Nat → Int32) (L : Nat) : Nat → zSt → Nat → Nat → Int32 → Option (Int32 × zSt)
  | 0 => fun _ _ _ _ => none
  | n + 1 => f_Q_law_18 xs L (f_Q_law_18L xs L n)
theorem r_Q_law_18L {X : zCX} (o : zOK X "WantShelvesLaw" c_Q_law n_Q_law 133) {xs : Nat → Int32} {L : Nat} (hsc : zSC X xs L) (hrm : zRM X 134 41620) : ∀ (n : Nat) {σ : zSt} {v1 : Nat} {v2 : Nat} {v3 : Int32} {z : Int32 × zSt}, f_Q_law_18L xs L n σ v1 v2 v3 = some z → zRX X 134 41620 (some (.int z.1)) z.2 → zPJ X 134 41620 18 [(0, .retAddr 0), (1, .ref v1), (2, .ref v2), (3, .int v3)] [] σ
  | 0 => fun h _ => by cases h
  | n + 1 => fun h hr => r_Q_law_18 o hsc hrm (r_Q_law_18L o hsc hrm  n) h hr
def f_Q_law (xs : Nat → Int32) (L : Nat) (σ : zSt) : Option (Int32 × zSt) :=
(some (znew σ (0, 11))).bind fun (σ1 : zSt) =>
(some σ.1.length).bind fun (a2 : Nat) =>
(f_W_init σ1 a2).bind fun σ3 =>
(some (znew σ3 (0, 12))).bind fun (σ4 : zSt) =>
(some σ3.1.length).bind fun (a5 : Nat) =>
(f_M_init σ4 a5).bind fun σ6 =>
f_Q_law_18L xs L zfu σ6 a2 a5 0
set_option maxRecDepth 100000 in
set_option maxHeartbeats 4000000 in
theorem r_Q_law {X : zCX} (o : zOK X "WantShelvesLaw" c_Q_law n_Q_law 133) {xs : Nat → Int32} {L : Nat} (hsc : zSC X xs L) (hrm : zRM X 134 41620) {σ : zSt} {z : Int32 × zSt} (h : f_Q_law xs L σ = some z) (hr : zRX X 134 41620 (some (.int z.1)) z.2) : zPJ X 0 0 0 [(0, .retAddr 0)] [] σ := by
  unfold f_Q_law at h
  obtain ⟨σ1, e_σ1, h⟩ := zbd h
  refine zj_new (f := 11) (mc := 134) (ms := 41620) o (zdd k_Q_law_0 0 rfl) (by decide) cl_Q_7 hrm (by decide) (by decide) ?_
  rw [Option.some.inj e_σ1]
  change zPJ X 1 19 _ _ _ _
  obtain ⟨a2, e_a2, h⟩ := zbd h
  rw [Option.some.inj e_a2]
  refine zj_dup o (zdd k_Q_law_0 1 rfl) rfl ?_
  obtain ⟨σ3, e_σ3, h⟩ := zbd h
  refine zj_callI (mc := 134) (ms := 41620) o (zdd k_Q_law_0 2 rfl) (Or.inl ml_Q_9) mi_W_init (by decide) [] [.ref a2] rfl (Nat.le_of_ble_eq_true rfl) rfl (m_W_init e_σ3) hrm (by decide) ?_
  change zPJ X 91 27920 _ _ [.ref a2] _
  refine zj_astore_n (loc' := [(1, .ref a2), (0, .retAddr 0)]) o (zdd k_Q_law_0 3 rfl) rfl (by decide) rfl ?_
  obtain ⟨σ4, e_σ4, h⟩ := zbd h
  refine zj_new (f := 12) (mc := 134) (ms := 41620) o (zdd k_Q_law_0 4 rfl) (by decide) cl_Q_10 hrm (by decide) (by decide) ?_
  rw [Option.some.inj e_σ4]
  change zPJ X 92 28003 _ _ _ _
  obtain ⟨a5, e_a5, h⟩ := zbd h
  rw [Option.some.inj e_a5]
  refine zj_dup o (zdd k_Q_law_0 5 rfl) rfl ?_
  obtain ⟨σ6, e_σ6, h⟩ := zbd h
  refine zj_callI (mc := 134) (ms := 41620) o (zdd k_Q_law_0 6 rfl) (Or.inl ml_Q_12) mi_M_init (by decide) [] [.ref a5] rfl (Nat.le_of_ble_eq_true rfl) rfl (m_M_init e_σ6) hrm (by decide) ?_
  change zPJ X 134 41620 _ _ [.ref a5] _
  refine zj_astore_n (loc' := [(2, .ref a5), (1, .ref a2), (0, .retAddr 0)]) o (zdd k_Q_law_0 7 rfl) rfl (by decide) rfl ?_
  refine zj_iconst o (zdd k_Q_law_0 8 rfl) zki_0 ?_
  refine zj_istore_n (loc' := [(3, .int 0), (2, .ref a5), (1, .ref a2), (0, .retAddr 0)]) o (zdd k_Q_law_0 9 rfl) rfl (by decide) rfl ?_
  exact zj_sub [3, 2, 1, 0] rfl (r_Q_law_18L o hsc hrm  zfu h hr)
