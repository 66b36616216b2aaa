def f_S_keyFor (σ : zSt) (t : Nat) (p0 : Int32) (p1 : Int32) : Option (Int32) :=
zg σ 8 t (
(zgP σ 8 t 3).bind fun a1 =>
(zaI σ 1 a1 ((p0 * 10) + p1)).bind fun x2 =>
some x2)
set_option maxRecDepth 100000 in
set_option maxHeartbeats 4000000 in
theorem m_S_keyFor {l : Launch} {b : Nat} {ex : Nat → Value} {D : va_G} {ca : Nat → ClassId} {σ : zSt} {t : Nat} {p0 : Int32} {p1 : Int32} {z : Int32} (h : f_S_keyFor σ t p0 p1 = some z) : zMT l b ex D ca 1 y_S_keyFor c_S_keyFor n_S_keyFor r_ret_S_keyFor [.ref t, .int p0, .int p1] σ (some (.int z)) σ 0 0 := by
  obtain ⟨_, hg0⟩ := zg_some h
  have h := hg0
  refine zmt_of (by decide) (Nat.le_of_ble_eq_true rfl) ⟨.int, rfl, rfl⟩ (fun X o hin hrm _ _ _ _ _ hr => ?_)
  have hr := hr 0 0 (by decide) (by decide)
  have o : zOK X "WantShelves$Shelves" c_S_keyFor n_S_keyFor 1 := o
  change zPJ X 0 0 0 [(0, .ref t), (1, .int p0), (2, .int p1)] [] σ
  refine zj_aload_n o (zdd k_S_keyFor 0 rfl) rfl 0 rfl ?_
  obtain ⟨a1, e_a1, h⟩ := zbd h
  refine zj_gP o (zdd k_S_keyFor 1 rfl) fl_S_9 rfl e_a1 ?_
  refine zj_iload_n o (zdd k_S_keyFor 2 rfl) rfl 1 rfl ?_
  refine zj_bipush o (zdd k_S_keyFor 3 rfl) zkb_10 ?_
  refine zj_imul o (zdd k_S_keyFor 4 rfl) ?_
  refine zj_iload_n o (zdd k_S_keyFor 5 rfl) rfl 2 rfl ?_
  refine zj_iadd o (zdd k_S_keyFor 6 rfl) ?_
  obtain ⟨x2, e_x2, h⟩ := zbd h
  refine zj_iald o (zdd k_S_keyFor 7 rfl) e_x2 ?_
  cases h
  exact zr_i o hr (zdd k_S_keyFor 8 rfl)
def f_S_firstAmong_5 (k5 : zSt → Nat → Int32 → Int32 → Int32 → Int32 → Option (Int32)) (σ : zSt) (v0 : Nat) (v1 : Int32) (v2 : Int32) (v3 : Int32) (v4 : Int32) : Option (Int32) :=
(zgP σ 8 v0 0).bind fun a1 =>
(zgI σ 10 a1 1).bind fun x2 =>
if x2 ≤ v4 then (
some v3) else
if (v2 >>> (v4 &&& 31)) &&& 1 = 0 then (
k5 σ v0 v1 v2 v3 (v4 + 1)) else
if v3 = (-1) then (
k5 σ v0 v1 v2 v4 (v4 + 1)) else
(f_S_keyFor σ v0 v1 v4).bind fun x3 =>
(f_S_keyFor σ v0 v1 v3).bind fun x4 =>
if x3 ≤ x4 then (
k5 σ v0 v1 v2 v3 (v4 + 1)) else
k5 σ v0 v1 v2 v4 (v4 + 1)
set_option maxRecDepth 100000 in
set_option maxHeartbeats 4000000 in
theorem r_S_firstAmong_5 {X : zCX} (o : zOK X "WantShelves$Shelves" c_S_firstAmong n_S_firstAmong 2) {k5 : zSt → Nat → Int32 → Int32 → Int32 → Int32 → Option (Int32)} (hk5 : ∀ {σ : zSt} {v0 : Nat} {v1 : Int32} {v2 : Int32} {v3 : Int32} {v4 : Int32} {z : Int32}, k5 σ v0 v1 v2 v3 v4 = some z → zRX X 0 0 (some (.int z)) σ → zPJ X 0 0 5 [(0, .ref v0), (1, .int v1), (2, .int v2), (3, .int v3), (4, .int v4)] [] σ) {σ : zSt} {v0 : Nat} {v1 : Int32} {v2 : Int32} {v3 : Int32} {v4 : Int32} {z : Int32} (h : f_S_firstAmong_5 k5 σ v0 v1 v2 v3 v4 = some z) (hr : zRX X 0 0 (some (.int z)) σ) : zPJ X 0 0 5 [(0, .ref v0), (1, .int v1), (2, .int v2), (3, .int v3), (4, .int v4)] [] σ := by
  unfold f_S_firstAmong_5 at h
  refine zj_iload o (zdd k_S_firstAmong 4 rfl) 4 rfl ?_
  refine zj_aload_n o (zdd k_S_firstAmong 5 rfl) rfl 0 rfl ?_
  obtain ⟨a1, e_a1, h⟩ := zbd h
  refine zj_gP o (zdd k_S_firstAmong 6 rfl) fl_S_26 rfl e_a1 ?_
  obtain ⟨x2, e_x2, h⟩ := zbd h
  refine zj_gI o (zdd k_S_firstAmong 7 rfl) fl_S_30 rfl e_x2 ?_
  refine zj_icmp_ge (tgt := 56) o (zdd k_S_firstAmong 8 rfl) (by decide) (fun hc => ?_) (fun hc => ?_)
  · rw [if_pos hc] at h
    refine zj_iload_n o (zdd k_S_firstAmong 31 rfl) rfl 3 rfl ?_
    cases h
    exact zr_i o hr (zdd k_S_firstAmong 32 rfl)
  · rw [if_neg hc] at h
    refine zj_iload_n o (zdd k_S_firstAmong 9 rfl) rfl 2 rfl ?_
    refine zj_iload o (zdd k_S_firstAmong 10 rfl) 4 rfl ?_
    refine zj_ishr o (zdd k_S_firstAmong 11 rfl) ?_
    refine zj_iconst o (zdd k_S_firstAmong 12 rfl) zki_1 ?_
    refine zj_iand o (zdd k_S_firstAmong 13 rfl) ?_
    refine zj_if_eq (tgt := 50) o (zdd k_S_firstAmong 14 rfl) (by decide) (fun hc => ?_) (fun hc => ?_)
    · rw [if_pos hc] at h
      refine zj_iinc (v := v4 + 1) (loc' := [(4, .int (v4 + 1)), (0, .ref v0), (1, .int v1), (2, .int v2), (3, .int v3)]) o (zdd k_S_firstAmong 29 rfl) 4 rfl (by rw [zki_1]) (by decide) rfl ?_
      refine zj_goto (tgt := 5) o (zdd k_S_firstAmong 30 rfl) (by decide) ?_
      exact zj_sub [1, 2, 3, 4, 0] rfl (hk5 h hr)
    · rw [if_neg hc] at h
      refine zj_iload_n o (zdd k_S_firstAmong 15 rfl) rfl 3 rfl ?_
      refine zj_iconst o (zdd k_S_firstAmong 16 rfl) zki_m1 ?_
      refine zj_icmp_eq (tgt := 47) o (zdd k_S_firstAmong 17 rfl) (by decide) (fun hc => ?_) (fun hc => ?_)
      · rw [if_pos hc] at h
        refine zj_iload o (zdd k_S_firstAmong 27 rfl) 4 rfl ?_
        refine zj_istore_n (loc' := [(3, .int v4), (0, .ref v0), (1, .int v1), (2, .int v2), (4, .int v4)]) o (zdd k_S_firstAmong 28 rfl) rfl (by decide) rfl ?_
        refine zj_iinc (v := v4 + 1) (loc' := [(4, .int (v4 + 1)), (3, .int v4), (0, .ref v0), (1, .int v1), (2, .int v2)]) o (zdd k_S_firstAmong 29 rfl) 4 rfl (by rw [zki_1]) (by decide) rfl ?_
        refine zj_goto (tgt := 5) o (zdd k_S_firstAmong 30 rfl) (by decide) ?_
        exact zj_sub [2, 3, 4, 1, 0] rfl (hk5 h hr)
      · rw [if_neg hc] at h
        refine zj_aload_n o (zdd k_S_firstAmong 18 rfl) rfl 0 rfl ?_
        refine zj_iload_n o (zdd k_S_firstAmong 19 rfl) rfl 1 rfl ?_
        refine zj_iload o (zdd k_S_firstAmong 20 rfl) 4 rfl ?_
        obtain ⟨x3, e_x3, h⟩ := zbd h
        refine zc_V o (zdd k_S_firstAmong 21 rfl) ml_S_96 mv_S_keyFor ⟨rfl, by decide⟩ (zg_some e_x3).1 (by decide) [.int v1, .int v4] [] rfl (Nat.le_of_ble_eq_true rfl) rfl (m_S_keyFor e_x3) ?_
        change zPJ X 0 0 _ _ [.int x3] _
        refine zj_aload_n o (zdd k_S_firstAmong 22 rfl) rfl 0 rfl ?_
        refine zj_iload_n o (zdd k_S_firstAmong 23 rfl) rfl 1 rfl ?_
        refine zj_iload_n o (zdd k_S_firstAmong 24 rfl) rfl 3 rfl ?_
        obtain ⟨x4, e_x4, h⟩ := zbd h
        refine zc_V o (zdd k_S_firstAmong 25 rfl) ml_S_96 mv_S_keyFor ⟨rfl, by decide⟩ (zg_some e_x4).1 (by decide) [.int v1, .int v3] [.int x3] rfl (Nat.le_of_ble_eq_true rfl) rfl (m_S_keyFor e_x4) ?_
        change zPJ X 0 0 _ _ [.int x4, .int x3] _
        refine zj_icmp_le (tgt := 50) o (zdd k_S_firstAmong 26 rfl) (by decide) (fun hc => ?_) (fun hc => ?_)
        · rw [if_pos hc] at h
          refine zj_iinc (v := v4 + 1) (loc' := [(4, .int (v4 + 1)), (0, .ref v0), (1, .int v1), (2, .int v2), (3, .int v3)]) o (zdd k_S_firstAmong 29 rfl) 4 rfl (by rw [zki_1]) (by decide) rfl ?_
          refine zj_goto (tgt := 5) o (zdd k_S_firstAmong 30 rfl) (by decide) ?_
          exact zj_sub [1, 2, 3, 4, 0] rfl (hk5 h hr)
        · rw [if_neg hc] at h
          refine zj_iload o (zdd k_S_firstAmong 27 rfl) 4 rfl ?_
          refine zj_istore_n (loc' := [(3, .int v4), (0, .ref v0), (1, .int v1), (2, .int v2), (4, .int v4)]) o (zdd k_S_firstAmong 28 rfl) rfl (by decide) rfl ?_
          refine zj_iinc (v := v4 + 1) (loc' := [(4, .int (v4 + 1)), (3, .int v4), (0, .ref v0), (1, .int v1), (2, .int v2)]) o (zdd k_S_firstAmong 29 rfl) 4 rfl (by rw [zki_1]) (by decide) rfl ?_
          refine zj_goto (tgt := 5) o (zdd k_S_firstAmong 30 rfl) (by decide) ?_
          exact zj_sub [2, 3, 4, 1, 0] rfl (hk5 h hr)
def f_S_firstAmong_5L : Nat → zSt → Nat → Int32 → Int32 → Int32 → Int32 → Option (Int32)
  | 0 => fun _ _ _ _ _ _ => none
  | n + 1 => f_S_firstAmong_5  (f_S_firstAmong_5L  n)
theorem r_S_firstAmong_5L {X : zCX} (o : zOK X "WantShelves$Shelves" c_S_firstAmong n_S_firstAmong 2) : ∀ (n : Nat) {σ : zSt} {v0 : Nat} {v1 : Int32} {v2 : Int32} {v3 : Int32} {v4 : Int32} {z : Int32}, f_S_firstAmong_5L n σ v0 v1 v2 v3 v4 = some z → zRX X 0 0 (some (.int z)) σ → zPJ X 0 0 5 [(0, .ref v0), (1, .int v1), (2, .int v2), (3, .int v3), (4, .int v4)] [] σ
  | 0 => fun h _ => by cases h
  | n + 1 => fun h hr => r_S_firstAmong_5 o (r_S_firstAmong_5L o  n) h hr
def f_S_firstAmong (σ : zSt) (t : Nat) (p0 : Int32) (p1 : Int32) : Option (Int32) :=
zg σ 8 t (
f_S_firstAmong_5L zfu σ t p0 p1 (-1) 0)
set_option maxRecDepth 100000 in
set_option maxHeartbeats 4000000 in
theorem m_S_firstAmong {l : Launch} {b : Nat} {ex : Nat → Value} {D : va_G} {ca : Nat → ClassId} {σ : zSt} {t : Nat} {p0 : Int32} {p1 : Int32} {z : Int32} (h : f_S_firstAmong σ t p0 p1 = some z) : zMT l b ex D ca 2 y_S_firstAmong c_S_firstAmong n_S_firstAmong r_ret_S_firstAmong [.ref t, .int p0, .int p1] σ (some (.int z)) σ 0 0 := by
  obtain ⟨_, hg0⟩ := zg_some h
  have h := hg0
  refine zmt_of (by decide) (Nat.le_of_ble_eq_true rfl) ⟨.int, rfl, rfl⟩ (fun X o hin hrm _ _ _ _ _ hr => ?_)
  have hr := hr 0 0 (by decide) (by decide)
  have o : zOK X "WantShelves$Shelves" c_S_firstAmong n_S_firstAmong 2 := o
  change zPJ X 0 0 0 [(0, .ref t), (1, .int p0), (2, .int p1)] [] σ
  refine zj_iconst o (zdd k_S_firstAmong 0 rfl) zki_m1 ?_
  refine zj_istore_n (loc' := [(3, .int (-1)), (0, .ref t), (1, .int p0), (2, .int p1)]) o (zdd k_S_firstAmong 1 rfl) rfl (by decide) rfl ?_
  refine zj_iconst o (zdd k_S_firstAmong 2 rfl) zki_0 ?_
  refine zj_istore (loc' := [(4, .int 0), (3, .int (-1)), (0, .ref t), (1, .int p0), (2, .int p1)]) o (zdd k_S_firstAmong 3 rfl) (by decide) rfl ?_
  exact zj_sub [2, 3, 4, 1, 0] rfl (r_S_firstAmong_5L o  zfu h hr)
def f_S_layByTurns_25 (k12 : zSt → Nat → Int32 → Int32 → Int32 → Option (zSt)) (k25 : zSt → Nat → Int32 → Int32 → Int32 → Int32 → Option (zSt)) (σ : zSt) (v0 : Nat) (v1 : Int32) (v2 : Int32) (v3 : Int32) (v4 : Int32) : Option (zSt) :=
(zgP σ 8 v0 0).bind fun a1 =>
(zgI σ 10 a1 2).bind fun x2 =>
if x2 ≤ v4 then (
k12 σ v0 v1 v2 (v3 + 1)) else
if v2 = 0 then (
k12 σ v0 v1 v2 (v3 + 1)) else
if (v1 >>> (v4 &&& 31)) &&& 1 = 0 then (
k25 σ v0 v1 v2 v3 (v4 + 1)) else
(f_S_firstAmong σ v0 v4 v2).bind fun x3 =>
if x3 = (-1) then (
some σ) else
(zgI σ 8 v0 2).bind fun x4 =>
if x4 < 10 then (
(zgP σ 8 v0 5).bind fun a5 =>
(zgI σ 8 v0 2).bind fun x6 =>
(zwI σ 1 a5 x6 x3).bind fun σ7 =>
(zgI σ7 8 v0 2).bind fun x8 =>
(zsI σ7 8 v0 2 (x8 + 1)).bind fun σ9 =>
k25 σ9 v0 v1 (v2 &&& ((1 <<< (x3 &&& 31)) ^^^ (-1))) v3 (v4 + 1)) else
some σ
set_option maxRecDepth 100000 in
set_option maxHeartbeats 4000000 in
theorem r_S_layByTurns_25 {X : zCX} (o : zOK X "WantShelves$Shelves" c_S_layByTurns n_S_layByTurns 3) {k12 : zSt → Nat → Int32 → Int32 → Int32 → Option (zSt)} {k25 : zSt → Nat → Int32 → Int32 → Int32 → Int32 → Option (zSt)} (hk12 : ∀ {σ : zSt} {v0 : Nat} {v1 : Int32} {v2 : Int32} {v3 : Int32} {z : zSt}, k12 σ v0 v1 v2 v3 = some z → zRX X 0 0 none z → zPJ X 0 0 12 [(0, .ref v0), (1, .int v1), (2, .int v2), (3, .int v3)] [] σ) (hk25 : ∀ {σ : zSt} {v0 : Nat} {v1 : Int32} {v2 : Int32} {v3 : Int32} {v4 : Int32} {z : zSt}, k25 σ v0 v1 v2 v3 v4 = some z → zRX X 0 0 none z → zPJ X 0 0 25 [(0, .ref v0), (1, .int v1), (2, .int v2), (3, .int v3), (4, .int v4)] [] σ) {σ : zSt} {v0 : Nat} {v1 : Int32} {v2 : Int32} {v3 : Int32} {v4 : Int32} {z : zSt} (h : f_S_layByTurns_25 k12 k25 σ v0 v1 v2 v3 v4 = some z) (hr : zRX X 0 0 none z) : zPJ X 0 0 25 [(0, .ref v0), (1, .int v1), (2, .int v2), (3, .int v3), (4, .int v4)] [] σ := by
  unfold f_S_layByTurns_25 at h
  refine zj_iload o (zdd k_S_layByTurns 15 rfl) 4 rfl ?_
  refine zj_aload_n o (zdd k_S_layByTurns 16 rfl) rfl 0 rfl ?_
  obtain ⟨a1, e_a1, h⟩ := zbd h
  refine zj_gP o (zdd k_S_layByTurns 17 rfl) fl_S_26 rfl e_a1 ?_
  obtain ⟨x2, e_x2, h⟩ := zbd h
  refine zj_gI o (zdd k_S_layByTurns 18 rfl) fl_S_47 rfl e_x2 ?_
  refine zj_icmp_ge (tgt := 111) o (zdd k_S_layByTurns 19 rfl) (by decide) (fun hc => ?_) (fun hc => ?_)
  · rw [if_pos hc] at h
    refine zj_iinc (v := v3 + 1) (loc' := [(3, .int (v3 + 1)), (0, .ref v0), (1, .int v1), (2, .int v2), (4, .int v4)]) o (zdd k_S_layByTurns 63 rfl) 3 rfl (by rw [zki_1]) (by decide) rfl ?_
    refine zj_goto (tgt := 12) o (zdd k_S_layByTurns 64 rfl) (by decide) ?_
    exact zj_sub [1, 2, 3, 0] rfl (hk12 h hr)
  · rw [if_neg hc] at h
    refine zj_iload_n o (zdd k_S_layByTurns 20 rfl) rfl 2 rfl ?_
    refine zj_if_eq (tgt := 111) o (zdd k_S_layByTurns 21 rfl) (by decide) (fun hc => ?_) (fun hc => ?_)
    · rw [if_pos hc] at h
      refine zj_iinc (v := v3 + 1) (loc' := [(3, .int (v3 + 1)), (0, .ref v0), (1, .int v1), (2, .int v2), (4, .int v4)]) o (zdd k_S_layByTurns 63 rfl) 3 rfl (by rw [zki_1]) (by decide) rfl ?_
      refine zj_goto (tgt := 12) o (zdd k_S_layByTurns 64 rfl) (by decide) ?_
      exact zj_sub [1, 2, 3, 0] rfl (hk12 h hr)
    · rw [if_neg hc] at h
      refine zj_iload_n o (zdd k_S_layByTurns 22 rfl) rfl 1 rfl ?_
      refine zj_iload o (zdd k_S_layByTurns 23 rfl) 4 rfl ?_
      refine zj_ishr o (zdd k_S_layByTurns 24 rfl) ?_
      refine zj_iconst o (zdd k_S_layByTurns 25 rfl) zki_1 ?_
      refine zj_iand o (zdd k_S_layByTurns 26 rfl) ?_
      refine zj_if_eq (tgt := 105) o (zdd k_S_layByTurns 27 rfl) (by decide) (fun hc => ?_) (fun hc => ?_)
      · rw [if_pos hc] at h
        refine zj_iinc (v := v4 + 1) (loc' := [(4, .int (v4 + 1)), (0, .ref v0), (1, .int v1), (2, .int v2), (3, .int v3)]) o (zdd k_S_layByTurns 61 rfl) 4 rfl (by rw [zki_1]) (by decide) rfl ?_
        refine zj_goto (tgt := 25) o (zdd k_S_layByTurns 62 rfl) (by decide) ?_
        exact zj_sub [1, 2, 3, 4, 0] rfl (hk25 h hr)
      · rw [if_neg hc] at h
        refine zj_aload_n o (zdd k_S_layByTurns 28 rfl) rfl 0 rfl ?_
        refine zj_iload o (zdd k_S_layByTurns 29 rfl) 4 rfl ?_
        refine zj_iload_n o (zdd k_S_layByTurns 30 rfl) rfl 2 rfl ?_
        obtain ⟨x3, e_x3, h⟩ := zbd h
        refine zc_V o (zdd k_S_layByTurns 31 rfl) ml_S_104 mv_S_firstAmong ⟨rfl, by decide⟩ (zg_some e_x3).1 (by decide) [.int v4, .int v2] [] rfl (Nat.le_of_ble_eq_true rfl) rfl (m_S_firstAmong e_x3) ?_
        change zPJ X 0 0 _ _ [.int x3] _
        refine zj_istore (loc' := [(5, .int x3), (0, .ref v0), (1, .int v1), (2, .int v2), (3, .int v3), (4, .int v4)]) o (zdd k_S_layByTurns 32 rfl) (by decide) rfl ?_
        refine zj_iload o (zdd k_S_layByTurns 33 rfl) 0 rfl ?_
        refine zj_iconst o (zdd k_S_layByTurns 34 rfl) zki_m1 ?_
        refine zj_icmp_eq (tgt := 74) o (zdd k_S_layByTurns 35 rfl) (by decide) (fun hc => ?_) (fun hc => ?_)
        · rw [if_pos hc] at h
          cases h
          exact zr_v o hr (zdd k_S_layByTurns 40 rfl)
        · rw [if_neg hc] at h
          refine zj_aload_n o (zdd k_S_layByTurns 36 rfl) rfl 1 rfl ?_
          obtain ⟨x4, e_x4, h⟩ := zbd h
          refine zj_gI o (zdd k_S_layByTurns 37 rfl) fl_S_44 rfl e_x4 ?_
          refine zj_bipush o (zdd k_S_layByTurns 38 rfl) zkb_10 ?_
          refine zj_icmp_lt (tgt := 75) o (zdd k_S_layByTurns 39 rfl) (by decide) (fun hc => ?_) (fun hc => ?_)
          · rw [if_pos hc] at h
            refine zj_aload_n o (zdd k_S_layByTurns 41 rfl) rfl 1 rfl ?_
            obtain ⟨a5, e_a5, h⟩ := zbd h
            refine zj_gP o (zdd k_S_layByTurns 42 rfl) fl_S_18 rfl e_a5 ?_
            refine zj_aload_n o (zdd k_S_layByTurns 43 rfl) rfl 1 rfl ?_
            obtain ⟨x6, e_x6, h⟩ := zbd h
            refine zj_gI o (zdd k_S_layByTurns 44 rfl) fl_S_44 rfl e_x6 ?_
            refine zj_iload o (zdd k_S_layByTurns 45 rfl) 0 rfl ?_
            obtain ⟨σ7, e_σ7, h⟩ := zbd h
            refine zj_iast o (zdd k_S_layByTurns 46 rfl) e_σ7 ?_
            refine zj_aload_n o (zdd k_S_layByTurns 47 rfl) rfl 1 rfl ?_
            refine zj_dup o (zdd k_S_layByTurns 48 rfl) rfl ?_
            obtain ⟨x8, e_x8, h⟩ := zbd h
            refine zj_gI o (zdd k_S_layByTurns 49 rfl) fl_S_44 rfl e_x8 ?_
            refine zj_iconst o (zdd k_S_layByTurns 50 rfl) zki_1 ?_
            refine zj_iadd o (zdd k_S_layByTurns 51 rfl) ?_
            obtain ⟨σ9, e_σ9, h⟩ := zbd h
            refine zj_pI o (zdd k_S_layByTurns 52 rfl) fl_S_44 rfl rfl e_σ9 ?_
            refine zj_iload_n o (zdd k_S_layByTurns 53 rfl) rfl 3 rfl ?_
            refine zj_iconst o (zdd k_S_layByTurns 54 rfl) zki_1 ?_
            refine zj_iload o (zdd k_S_layByTurns 55 rfl) 0 rfl ?_
            refine zj_ishl o (zdd k_S_layByTurns 56 rfl) ?_
            refine zj_iconst o (zdd k_S_layByTurns 57 rfl) zki_m1 ?_
            refine zj_ixor o (zdd k_S_layByTurns 58 rfl) ?_
            refine zj_iand o (zdd k_S_layByTurns 59 rfl) ?_
            refine zj_istore_n (loc' := [(2, .int (v2 &&& ((1 <<< (x3 &&& 31)) ^^^ (-1)))), (5, .int x3), (0, .ref v0), (1, .int v1), (3, .int v3), (4, .int v4)]) o (zdd k_S_layByTurns 60 rfl) rfl (by decide) rfl ?_
            refine zj_iinc (v := v4 + 1) (loc' := [(4, .int (v4 + 1)), (2, .int (v2 &&& ((1 <<< (x3 &&& 31)) ^^^ (-1)))), (5, .int x3), (0, .ref v0), (1, .int v1), (3, .int v3)]) o (zdd k_S_layByTurns 61 rfl) 5 rfl (by rw [zki_1]) (by decide) rfl ?_
            refine zj_goto (tgt := 25) o (zdd k_S_layByTurns 62 rfl) (by decide) ?_
            exact zj_sub [3, 4, 1, 5, 0] rfl (hk25 h hr)
          · rw [if_neg hc] at h
            cases h
            exact zr_v o hr (zdd k_S_layByTurns 40 rfl)
def f_S_layByTurns_25L (k12 : zSt → Nat → Int32 → Int32 → Int32 → Option (zSt)) : Nat → zSt → Nat → Int32 → Int32 → Int32 → Int32 → Option (zSt)
  | 0 => fun _ _ _ _ _ _ => none
  | n + 1 => f_S_layByTurns_25  k12 (f_S_layByTurns_25L k12 n)
theorem r_S_layByTurns_25L {X : zCX} (o : zOK X "WantShelves$Shelves" c_S_layByTurns n_S_layByTurns 3) {k12 : zSt → Nat → Int32 → Int32 → Int32 → Option (zSt)} (hk12 : ∀ {σ : zSt} {v0 : Nat} {v1 : Int32} {v2 : Int32} {v3 : Int32} {z : zSt}, k12 σ v0 v1 v2 v3 = some z → zRX X 0 0 none z → zPJ X 0 0 12 [(0, .ref v0), (1, .int v1), (2, .int v2), (3, .int v3)] [] σ) : ∀ (n : Nat) {σ : zSt} {v0 : Nat} {v1 : Int32} {v2 : Int32} {v3 : Int32} {v4 : Int32} {z : zSt}, f_S_layByTurns_25L k12 n σ v0 v1 v2 v3 v4 = some z → zRX X 0 0 none z → zPJ X 0 0 25 [(0, .ref v0), (1, .int v1), (2, .int v2), (3, .int v3), (4, .int v4)] [] σ
  | 0 => fun h _ => by cases h
  | n + 1 => fun h hr => r_S_layByTurns_25 o hk12 (r_S_layByTurns_25L o hk12 n) h hr
def f_S_layByTurns_12 (k12 : zSt → Nat → Int32 → Int32 → Int32 → Option (zSt)) (σ : zSt) (v0 : Nat) (v1 : Int32) (v2 : Int32) (v3 : Int32) : Option (zSt) :=
if 10 ≤ v3 then (
some σ) else
if v2 = 0 then (
some σ) else
f_S_layByTurns_25L k12 zfu σ v0 v1 v2 v3 0
set_option maxRecDepth 100000 in
set_option maxHeartbeats 4000000 in
theorem r_S_layByTurns_12 {X : zCX} (o : zOK X "WantShelves$Shelves" c_S_layByTurns n_S_layByTurns 3) {k12 : zSt → Nat → Int32 → Int32 → Int32 → Option (zSt)} (hk12 : ∀ {σ : zSt} {v0 : Nat} {v1 : Int32} {v2 : Int32} {v3 : Int32} {z : zSt}, k12 σ v0 v1 v2 v3 = some z → zRX X 0 0 none z → zPJ X 0 0 12 [(0, .ref v0), (1, .int v1), (2, .int v2), (3, .int v3)] [] σ) {σ : zSt} {v0 : Nat} {v1 : Int32} {v2 : Int32} {v3 : Int32} {z : zSt} (h : f_S_layByTurns_12 k12 σ v0 v1 v2 v3 = some z) (hr : zRX X 0 0 none z) : zPJ X 0 0 12 [(0, .ref v0), (1, .int v1), (2, .int v2), (3, .int v3)] [] σ := by
  unfold f_S_layByTurns_12 at h
  refine zj_iload_n o (zdd k_S_layByTurns 8 rfl) rfl 3 rfl ?_
  refine zj_bipush o (zdd k_S_layByTurns 9 rfl) zkb_10 ?_
  refine zj_icmp_ge (tgt := 117) o (zdd k_S_layByTurns 10 rfl) (by decide) (fun hc => ?_) (fun hc => ?_)
  · rw [if_pos hc] at h
    cases h
    exact zr_v o hr (zdd k_S_layByTurns 65 rfl)
  · rw [if_neg hc] at h
    refine zj_iload_n o (zdd k_S_layByTurns 11 rfl) rfl 2 rfl ?_
    refine zj_if_eq (tgt := 117) o (zdd k_S_layByTurns 12 rfl) (by decide) (fun hc => ?_) (fun hc => ?_)
    · rw [if_pos hc] at h
      cases h
      exact zr_v o hr (zdd k_S_layByTurns 65 rfl)
    · rw [if_neg hc] at h
      refine zj_iconst o (zdd k_S_layByTurns 13 rfl) zki_0 ?_
      refine zj_istore (loc' := [(4, .int 0), (0, .ref v0), (1, .int v1), (2, .int v2), (3, .int v3)]) o (zdd k_S_layByTurns 14 rfl) (by decide) rfl ?_
      exact zj_sub [1, 2, 3, 4, 0] rfl (r_S_layByTurns_25L o hk12 zfu h hr)
def f_S_layByTurns_12L : Nat → zSt → Nat → Int32 → Int32 → Int32 → Option (zSt)
  | 0 => fun _ _ _ _ _ => none
  | n + 1 => f_S_layByTurns_12  (f_S_layByTurns_12L  n)
theorem r_S_layByTurns_12L {X : zCX} (o : zOK X "WantShelves$Shelves" c_S_layByTurns n_S_layByTurns 3) : ∀ (n : Nat) {σ : zSt} {v0 : Nat} {v1 : Int32} {v2 : Int32} {v3 : Int32} {z : zSt}, f_S_layByTurns_12L n σ v0 v1 v2 v3 = some z → zRX X 0 0 none z → zPJ X 0 0 12 [(0, .ref v0), (1, .int v1), (2, .int v2), (3, .int v3)] [] σ
  | 0 => fun h _ => by cases h
  | n + 1 => fun h hr => r_S_layByTurns_12 o (r_S_layByTurns_12L o  n) h hr
def f_S_layByTurns (σ : zSt) (t : Nat) (p0 : Int32) : Option (zSt) :=
zg σ 8 t (
(zsI σ 8 t 2 0).bind fun σ1 =>
(zgI σ1 8 t 1).bind fun x2 =>
f_S_layByTurns_12L zfu σ1 t p0 x2 0)
set_option maxRecDepth 100000 in
set_option maxHeartbeats 4000000 in
theorem m_S_layByTurns {l : Launch} {b : Nat} {ex : Nat → Value} {D : va_G} {ca : Nat → ClassId} {σ : zSt} {t : Nat} {p0 : Int32} {z : zSt} (h : f_S_layByTurns σ t p0 = some z) : zMT l b ex D ca 3 y_S_layByTurns c_S_layByTurns n_S_layByTurns r_ret_S_layByTurns [.ref t, .int p0] σ none z 0 0 := by
  obtain ⟨_, hg0⟩ := zg_some h
  have h := hg0
  refine zmt_of (by decide) (Nat.le_of_ble_eq_true rfl) rfl (fun X o hin hrm _ _ _ _ _ hr => ?_)
  have hr := hr 0 0 (by decide) (by decide)
  have o : zOK X "WantShelves$Shelves" c_S_layByTurns n_S_layByTurns 3 := o
  change zPJ X 0 0 0 [(0, .ref t), (1, .int p0)] [] σ
  refine zj_aload_n o (zdd k_S_layByTurns 0 rfl) rfl 0 rfl ?_
  refine zj_iconst o (zdd k_S_layByTurns 1 rfl) zki_0 ?_
  obtain ⟨σ1, e_σ1, h⟩ := zbd h
  refine zj_pI o (zdd k_S_layByTurns 2 rfl) fl_S_44 rfl rfl e_σ1 ?_
  refine zj_aload_n o (zdd k_S_layByTurns 3 rfl) rfl 0 rfl ?_
  obtain ⟨x2, e_x2, h⟩ := zbd h
  refine zj_gI o (zdd k_S_layByTurns 4 rfl) fl_S_41 rfl e_x2 ?_
  refine zj_istore_n (loc' := [(2, .int x2), (0, .ref t), (1, .int p0)]) o (zdd k_S_layByTurns 5 rfl) rfl (by decide) rfl ?_
  refine zj_iconst o (zdd k_S_layByTurns 6 rfl) zki_0 ?_
  refine zj_istore_n (loc' := [(3, .int 0), (2, .int x2), (0, .ref t), (1, .int p0)]) o (zdd k_S_layByTurns 7 rfl) rfl (by decide) rfl ?_
  exact zj_sub [2, 3, 1, 0] rfl (r_S_layByTurns_12L o  zfu h hr)
def f_S_joined (σ : zSt) (t : Nat) (p0 : Int32) (p1 : Int32) : Option (Int32) :=
zg σ 8 t (
(zgP σ 8 t 0).bind fun a1 =>
(zgI σ 10 a1 3).bind fun x2 =>
if x2 = 0 then (
some (p0 + p1)) else
if x2 = 1 then (
some (zmin p0 p1)) else
some (zmax p0 p1))
set_option maxRecDepth 100000 in
set_option maxHeartbeats 4000000 in
theorem m_S_joined {l : Launch} {b : Nat} {ex : Nat → Value} {D : va_G} {ca : Nat → ClassId} {σ : zSt} {t : Nat} {p0 : Int32} {p1 : Int32} {z : Int32} (h : f_S_joined σ t p0 p1 = some z) : zMT l b ex D ca 2 y_S_joined c_S_joined n_S_joined r_ret_S_joined [.ref t, .int p0, .int p1] σ (some (.int z)) σ 0 0 := by
  obtain ⟨_, hg0⟩ := zg_some h
  have h := hg0
  refine zmt_of (by decide) (Nat.le_of_ble_eq_true rfl) ⟨.int, rfl, rfl⟩ (fun X o hin hrm _ _ _ _ _ hr => ?_)
  have hr := hr 0 0 (by decide) (by decide)
  have o : zOK X "WantShelves$Shelves" c_S_joined n_S_joined 2 := o
  change zPJ X 0 0 0 [(0, .ref t), (1, .int p0), (2, .int p1)] [] σ
  refine zj_aload_n o (zdd k_S_joined 0 rfl) rfl 0 rfl ?_
  obtain ⟨a1, e_a1, h⟩ := zbd h
  refine zj_gP o (zdd k_S_joined 1 rfl) fl_S_26 rfl e_a1 ?_
  obtain ⟨x2, e_x2, h⟩ := zbd h
  refine zj_gI o (zdd k_S_joined 2 rfl) fl_S_107 rfl e_x2 ?_
  refine zj_lookupC (dt := 42) o [(0, 32), (1, 36)] (zdd k_S_joined 3 rfl) (by decide) (by decide) (by decide) ?_
  by_cases hc : x2 = 0
  · rw [if_pos hc] at h
    rw [zcase_pos hc]
    refine zj_iload_n o (zdd k_S_joined 4 rfl) rfl 1 rfl ?_
    refine zj_iload_n o (zdd k_S_joined 5 rfl) rfl 2 rfl ?_
    refine zj_iadd o (zdd k_S_joined 6 rfl) ?_
    cases h
    exact zr_i o hr (zdd k_S_joined 7 rfl)
  · rw [if_neg hc] at h
    rw [zcase_neg hc]
    by_cases hc : x2 = 1
    · rw [if_pos hc] at h
      rw [zcase_pos hc]
      refine zj_iload_n o (zdd k_S_joined 8 rfl) rfl 1 rfl ?_
      refine zj_iload_n o (zdd k_S_joined 9 rfl) rfl 2 rfl ?_
      refine zj_mmin o (zdd k_S_joined 10 rfl) ml_S_148 (by decide) (Nat.le_of_ble_eq_true rfl) ?_
      cases h
      exact zr_i o hr (zdd k_S_joined 11 rfl)
    · rw [if_neg hc] at h
      rw [zcase_neg hc]
      change zPJ X 0 0 42 _ _ _
      refine zj_iload_n o (zdd k_S_joined 12 rfl) rfl 1 rfl ?_
      refine zj_iload_n o (zdd k_S_joined 13 rfl) rfl 2 rfl ?_
      refine zj_mmax o (zdd k_S_joined 14 rfl) ml_S_153 (by decide) (Nat.le_of_ble_eq_true rfl) ?_
      cases h
      exact zr_i o hr (zdd k_S_joined 15 rfl)
def f_S_bringTogether_34 (k12 : zSt → Nat → Int32 → Int32 → Int32 → Option (zSt)) (k34 : zSt → Nat → Int32 → Int32 → Int32 → Int32 → Option (zSt)) (σ : zSt) (v0 : Nat) (v1 : Int32) (v2 : Int32) (v3 : Int32) (v4 : Int32) : Option (zSt) :=
(zgP σ 8 v0 0).bind fun a1 =>
(zgI σ 10 a1 1).bind fun x2 =>
if x2 ≤ v4 then (
k12 σ v0 v1 0 (v3 + 1)) else
(f_S_keyFor σ v0 v3 v4).bind fun x3 =>
(zgP σ 8 v0 4).bind fun a4 =>
if v2 = 0 then (
(zgP σ 8 v0 4).bind fun a5 =>
(zaI σ 1 a5 v4).bind fun x6 =>
(f_S_joined σ v0 x6 x3).bind fun x7 =>
(zwI σ 1 a4 v4 x7).bind fun σ8 =>
k34 σ8 v0 v1 v2 v3 (v4 + 1)) else
(zwI σ 1 a4 v4 x3).bind fun σ9 =>
k34 σ9 v0 v1 v2 v3 (v4 + 1)
set_option maxRecDepth 100000 in
set_option maxHeartbeats 4000000 in
theorem r_S_bringTogether_34 {X : zCX} (o : zOK X "WantShelves$Shelves" c_S_bringTogether n_S_bringTogether 3) {k12 : zSt → Nat → Int32 → Int32 → Int32 → Option (zSt)} {k34 : zSt → Nat → Int32 → Int32 → Int32 → Int32 → Option (zSt)} (hk12 : ∀ {σ : zSt} {v0 : Nat} {v1 : Int32} {v2 : Int32} {v3 : Int32} {z : zSt}, k12 σ v0 v1 v2 v3 = some z → zRX X 0 0 none z → zPJ X 0 0 12 [(0, .ref v0), (1, .int v1), (2, .int v2), (3, .int v3)] [] σ) (hk34 : ∀ {σ : zSt} {v0 : Nat} {v1 : Int32} {v2 : Int32} {v3 : Int32} {v4 : Int32} {z : zSt}, k34 σ v0 v1 v2 v3 v4 = some z → zRX X 0 0 none z → zPJ X 0 0 34 [(0, .ref v0), (1, .int v1), (2, .int v2), (3, .int v3), (4, .int v4)] [] σ) {σ : zSt} {v0 : Nat} {v1 : Int32} {v2 : Int32} {v3 : Int32} {v4 : Int32} {z : zSt} (h : f_S_bringTogether_34 k12 k34 σ v0 v1 v2 v3 v4 = some z) (hr : zRX X 0 0 none z) : zPJ X 0 0 34 [(0, .ref v0), (1, .int v1), (2, .int v2), (3, .int v3), (4, .int v4)] [] σ := by
  unfold f_S_bringTogether_34 at h
  refine zj_iload o (zdd k_S_bringTogether 21 rfl) 4 rfl ?_
  refine zj_aload_n o (zdd k_S_bringTogether 22 rfl) rfl 0 rfl ?_
  obtain ⟨a1, e_a1, h⟩ := zbd h
  refine zj_gP o (zdd k_S_bringTogether 23 rfl) fl_S_26 rfl e_a1 ?_
  obtain ⟨x2, e_x2, h⟩ := zbd h
  refine zj_gI o (zdd k_S_bringTogether 24 rfl) fl_S_30 rfl e_x2 ?_
  refine zj_icmp_ge (tgt := 90) o (zdd k_S_bringTogether 25 rfl) (by decide) (fun hc => ?_) (fun hc => ?_)
  · rw [if_pos hc] at h
    refine zj_iconst o (zdd k_S_bringTogether 48 rfl) zki_0 ?_
    refine zj_istore_n (loc' := [(2, .int 0), (0, .ref v0), (1, .int v1), (3, .int v3), (4, .int v4)]) o (zdd k_S_bringTogether 49 rfl) rfl (by decide) rfl ?_
    refine zj_iinc (v := v3 + 1) (loc' := [(3, .int (v3 + 1)), (2, .int 0), (0, .ref v0), (1, .int v1), (4, .int v4)]) o (zdd k_S_bringTogether 50 rfl) 3 rfl (by rw [zki_1]) (by decide) rfl ?_
    refine zj_goto (tgt := 12) o (zdd k_S_bringTogether 51 rfl) (by decide) ?_
    exact zj_sub [2, 3, 1, 0] rfl (hk12 h hr)
  · rw [if_neg hc] at h
    refine zj_aload_n o (zdd k_S_bringTogether 26 rfl) rfl 0 rfl ?_
    refine zj_iload_n o (zdd k_S_bringTogether 27 rfl) rfl 3 rfl ?_
    refine zj_iload o (zdd k_S_bringTogether 28 rfl) 4 rfl ?_
    obtain ⟨x3, e_x3, h⟩ := zbd h
    refine zc_V o (zdd k_S_bringTogether 29 rfl) ml_S_96 mv_S_keyFor ⟨rfl, by decide⟩ (zg_some e_x3).1 (by decide) [.int v3, .int v4] [] rfl (Nat.le_of_ble_eq_true rfl) rfl (m_S_keyFor e_x3) ?_
    change zPJ X 0 0 _ _ [.int x3] _
    refine zj_istore (loc' := [(5, .int x3), (0, .ref v0), (1, .int v1), (2, .int v2), (3, .int v3), (4, .int v4)]) o (zdd k_S_bringTogether 30 rfl) (by decide) rfl ?_
    refine zj_aload_n o (zdd k_S_bringTogether 31 rfl) rfl 1 rfl ?_
    obtain ⟨a4, e_a4, h⟩ := zbd h
    refine zj_gP o (zdd k_S_bringTogether 32 rfl) fl_S_15 rfl e_a4 ?_
    refine zj_iload o (zdd k_S_bringTogether 33 rfl) 5 rfl ?_
    refine zj_iload_n o (zdd k_S_bringTogether 34 rfl) rfl 3 rfl ?_
    refine zj_if_eq (tgt := 70) o (zdd k_S_bringTogether 35 rfl) (by decide) (fun hc => ?_) (fun hc => ?_)
    · rw [if_pos hc] at h
      refine zj_aload_n o (zdd k_S_bringTogether 38 rfl) rfl 1 rfl ?_
      refine zj_aload_n o (zdd k_S_bringTogether 39 rfl) rfl 1 rfl ?_
      obtain ⟨a5, e_a5, h⟩ := zbd h
      refine zj_gP o (zdd k_S_bringTogether 40 rfl) fl_S_15 rfl e_a5 ?_
      refine zj_iload o (zdd k_S_bringTogether 41 rfl) 5 rfl ?_
      obtain ⟨x6, e_x6, h⟩ := zbd h
      refine zj_iald o (zdd k_S_bringTogether 42 rfl) e_x6 ?_
      refine zj_iload o (zdd k_S_bringTogether 43 rfl) 0 rfl ?_
      obtain ⟨x7, e_x7, h⟩ := zbd h
      refine zc_V o (zdd k_S_bringTogether 44 rfl) ml_S_145 mv_S_joined ⟨rfl, by decide⟩ (zg_some e_x7).1 (by decide) [.int x6, .int x3] [.int v4, .ref a4] rfl (Nat.le_of_ble_eq_true rfl) rfl (m_S_joined e_x7) ?_
      change zPJ X 0 0 _ _ [.int x7, .int v4, .ref a4] _
      obtain ⟨σ8, e_σ8, h⟩ := zbd h
      refine zj_iast o (zdd k_S_bringTogether 45 rfl) e_σ8 ?_
      refine zj_iinc (v := v4 + 1) (loc' := [(4, .int (v4 + 1)), (5, .int x3), (0, .ref v0), (1, .int v1), (2, .int v2), (3, .int v3)]) o (zdd k_S_bringTogether 46 rfl) 5 rfl (by rw [zki_1]) (by decide) rfl ?_
      refine zj_goto (tgt := 34) o (zdd k_S_bringTogether 47 rfl) (by decide) ?_
      exact zj_sub [2, 3, 4, 5, 0] rfl (hk34 h hr)
    · rw [if_neg hc] at h
      refine zj_iload o (zdd k_S_bringTogether 36 rfl) 0 rfl ?_
      refine zj_goto (tgt := 83) o (zdd k_S_bringTogether 37 rfl) (by decide) ?_
      obtain ⟨σ9, e_σ9, h⟩ := zbd h
      refine zj_iast o (zdd k_S_bringTogether 45 rfl) e_σ9 ?_
      refine zj_iinc (v := v4 + 1) (loc' := [(4, .int (v4 + 1)), (5, .int x3), (0, .ref v0), (1, .int v1), (2, .int v2), (3, .int v3)]) o (zdd k_S_bringTogether 46 rfl) 5 rfl (by rw [zki_1]) (by decide) rfl ?_
      refine zj_goto (tgt := 34) o (zdd k_S_bringTogether 47 rfl) (by decide) ?_
      exact zj_sub [2, 3, 4, 5, 0] rfl (hk34 h hr)
def f_S_bringTogether_34L (k12 : zSt → Nat → Int32 → Int32 → Int32 → Option (zSt)) : Nat → zSt → Nat → Int32 → Int32 → Int32 → Int32 → Option (zSt)
  | 0 => fun _ _ _ _ _ _ => none
  | n + 1 => f_S_bringTogether_34  k12 (f_S_bringTogether_34L k12 n)
theorem r_S_bringTogether_34L {X : zCX} (o : zOK X "WantShelves$Shelves" c_S_bringTogether n_S_bringTogether 3) {k12 : zSt → Nat → Int32 → Int32 → Int32 → Option (zSt)} (hk12 : ∀ {σ : zSt} {v0 : Nat} {v1 : Int32} {v2 : Int32} {v3 : Int32} {z : zSt}, k12 σ v0 v1 v2 v3 = some z → zRX X 0 0 none z → zPJ X 0 0 12 [(0, .ref v0), (1, .int v1), (2, .int v2), (3, .int v3)] [] σ) : ∀ (n : Nat) {σ : zSt} {v0 : Nat} {v1 : Int32} {v2 : Int32} {v3 : Int32} {v4 : Int32} {z : zSt}, f_S_bringTogether_34L k12 n σ v0 v1 v2 v3 v4 = some z → zRX X 0 0 none z → zPJ X 0 0 34 [(0, .ref v0), (1, .int v1), (2, .int v2), (3, .int v3), (4, .int v4)] [] σ
  | 0 => fun h _ => by cases h
  | n + 1 => fun h hr => r_S_bringTogether_34 o hk12 (r_S_bringTogether_34L o hk12 n) h hr
def f_S_bringTogether_12 (k12 : zSt → Nat → Int32 → Int32 → Int32 → Option (zSt)) (σ : zSt) (v0 : Nat) (v1 : Int32) (v2 : Int32) (v3 : Int32) : Option (zSt) :=
(zgP σ 8 v0 0).bind fun a1 =>
(zgI σ 10 a1 2).bind fun x2 =>
if x2 ≤ v3 then (
some σ) else
if (v1 >>> (v3 &&& 31)) &&& 1 = 0 then (
k12 σ v0 v1 v2 (v3 + 1)) else
f_S_bringTogether_34L k12 zfu σ v0 v1 v2 v3 0
set_option maxRecDepth 100000 in
set_option maxHeartbeats 4000000 in
theorem r_S_bringTogether_12 {X : zCX} (o : zOK X "WantShelves$Shelves" c_S_bringTogether n_S_bringTogether 3) {k12 : zSt → Nat → Int32 → Int32 → Int32 → Option (zSt)} (hk12 : ∀ {σ : zSt} {v0 : Nat} {v1 : Int32} {v2 : Int32} {v3 : Int32} {z : zSt}, k12 σ v0 v1 v2 v3 = some z → zRX X 0 0 none z → zPJ X 0 0 12 [(0, .ref v0), (1, .int v1), (2, .int v2), (3, .int v3)] [] σ) {σ : zSt} {v0 : Nat} {v1 : Int32} {v2 : Int32} {v3 : Int32} {z : zSt} (h : f_S_bringTogether_12 k12 σ v0 v1 v2 v3 = some z) (hr : zRX X 0 0 none z) : zPJ X 0 0 12 [(0, .ref v0), (1, .int v1), (2, .int v2), (3, .int v3)] [] σ := by
  unfold f_S_bringTogether_12 at h
  refine zj_iload_n o (zdd k_S_bringTogether 8 rfl) rfl 3 rfl ?_
  refine zj_aload_n o (zdd k_S_bringTogether 9 rfl) rfl 0 rfl ?_
  obtain ⟨a1, e_a1, h⟩ := zbd h
  refine zj_gP o (zdd k_S_bringTogether 10 rfl) fl_S_26 rfl e_a1 ?_
  obtain ⟨x2, e_x2, h⟩ := zbd h
  refine zj_gI o (zdd k_S_bringTogether 11 rfl) fl_S_47 rfl e_x2 ?_
  refine zj_icmp_ge (tgt := 98) o (zdd k_S_bringTogether 12 rfl) (by decide) (fun hc => ?_) (fun hc => ?_)
  · rw [if_pos hc] at h
    cases h
    exact zr_v o hr (zdd k_S_bringTogether 52 rfl)
  · rw [if_neg hc] at h
    refine zj_iload_n o (zdd k_S_bringTogether 13 rfl) rfl 1 rfl ?_
    refine zj_iload_n o (zdd k_S_bringTogether 14 rfl) rfl 3 rfl ?_
    refine zj_ishr o (zdd k_S_bringTogether 15 rfl) ?_
    refine zj_iconst o (zdd k_S_bringTogether 16 rfl) zki_1 ?_
    refine zj_iand o (zdd k_S_bringTogether 17 rfl) ?_
    refine zj_if_eq (tgt := 92) o (zdd k_S_bringTogether 18 rfl) (by decide) (fun hc => ?_) (fun hc => ?_)
    · rw [if_pos hc] at h
      refine zj_iinc (v := v3 + 1) (loc' := [(3, .int (v3 + 1)), (0, .ref v0), (1, .int v1), (2, .int v2)]) o (zdd k_S_bringTogether 50 rfl) 3 rfl (by rw [zki_1]) (by decide) rfl ?_
      refine zj_goto (tgt := 12) o (zdd k_S_bringTogether 51 rfl) (by decide) ?_
      exact zj_sub [1, 2, 3, 0] rfl (hk12 h hr)
    · rw [if_neg hc] at h
      refine zj_iconst o (zdd k_S_bringTogether 19 rfl) zki_0 ?_
      refine zj_istore (loc' := [(4, .int 0), (0, .ref v0), (1, .int v1), (2, .int v2), (3, .int v3)]) o (zdd k_S_bringTogether 20 rfl) (by decide) rfl ?_
      exact zj_sub [1, 2, 3, 4, 0] rfl (r_S_bringTogether_34L o hk12 zfu h hr)
def f_S_bringTogether_12L : Nat → zSt → Nat → Int32 → Int32 → Int32 → Option (zSt)
  | 0 => fun _ _ _ _ _ => none
  | n + 1 => f_S_bringTogether_12  (f_S_bringTogether_12L  n)
theorem r_S_bringTogether_12L {X : zCX} (o : zOK X "WantShelves$Shelves" c_S_bringTogether n_S_bringTogether 3) : ∀ (n : Nat) {σ : zSt} {v0 : Nat} {v1 : Int32} {v2 : Int32} {v3 : Int32} {z : zSt}, f_S_bringTogether_12L n σ v0 v1 v2 v3 = some z → zRX X 0 0 none z → zPJ X 0 0 12 [(0, .ref v0), (1, .int v1), (2, .int v2), (3, .int v3)] [] σ
  | 0 => fun h _ => by cases h
  | n + 1 => fun h hr => r_S_bringTogether_12 o (r_S_bringTogether_12L o  n) h hr
def f_S_bringTogether (σ : zSt) (t : Nat) (p0 : Int32) : Option (zSt) :=
zg σ 8 t (
(zgP σ 8 t 4).bind fun a1 =>
(f_J_fill σ a1 0).bind fun σ2 =>
f_S_bringTogether_12L zfu σ2 t p0 1 0)
set_option maxRecDepth 100000 in
set_option maxHeartbeats 4000000 in
theorem m_S_bringTogether {l : Launch} {b : Nat} {ex : Nat → Value} {D : va_G} {ca : Nat → ClassId} {σ : zSt} {t : Nat} {p0 : Int32} {z : zSt} (h : f_S_bringTogether σ t p0 = some z) : zMT l b ex D ca 3 y_S_bringTogether c_S_bringTogether n_S_bringTogether r_ret_S_bringTogether [.ref t, .int p0] σ none z 0 0 := by
  obtain ⟨_, hg0⟩ := zg_some h
  have h := hg0
  refine zmt_of (by decide) (Nat.le_of_ble_eq_true rfl) rfl (fun X o hin hrm _ _ _ _ _ hr => ?_)
  have hr := hr 0 0 (by decide) (by decide)
  have o : zOK X "WantShelves$Shelves" c_S_bringTogether n_S_bringTogether 3 := o
  change zPJ X 0 0 0 [(0, .ref t), (1, .int p0)] [] σ
  refine zj_aload_n o (zdd k_S_bringTogether 0 rfl) rfl 0 rfl ?_
  obtain ⟨a1, e_a1, h⟩ := zbd h
  refine zj_gP o (zdd k_S_bringTogether 1 rfl) fl_S_15 rfl e_a1 ?_
  refine zj_iconst o (zdd k_S_bringTogether 2 rfl) zki_0 ?_
  obtain ⟨σ2, e_σ2, h⟩ := zbd h
  refine zc_S o (zdd k_S_bringTogether 3 rfl) ml_S_126 ms_J_fill (by decide) [.ref a1, .int 0] [] rfl (Nat.le_of_ble_eq_true rfl) rfl (m_J_fill e_σ2) ?_
  change zPJ X 0 0 _ _ [] _
  refine zj_iconst o (zdd k_S_bringTogether 4 rfl) zki_1 ?_
  refine zj_istore_n (loc' := [(2, .int 1), (0, .ref t), (1, .int p0)]) o (zdd k_S_bringTogether 5 rfl) rfl (by decide) rfl ?_
  refine zj_iconst o (zdd k_S_bringTogether 6 rfl) zki_0 ?_
  refine zj_istore_n (loc' := [(3, .int 0), (2, .int 1), (0, .ref t), (1, .int p0)]) o (zdd k_S_bringTogether 7 rfl) rfl (by decide) rfl ?_
  exact zj_sub [2, 3, 1, 0] rfl (r_S_bringTogether_12L o  zfu h hr)
def f_S_countHere (σ : zSt) (t : Nat) : Option (Int32) :=
zg σ 8 t (
(zgI σ 8 t 1).bind fun x1 =>
(f_J_bitCount x1).bind fun x2 =>
some x2)
set_option maxRecDepth 100000 in
set_option maxHeartbeats 4000000 in
theorem m_S_countHere {l : Launch} {b : Nat} {ex : Nat → Value} {D : va_G} {ca : Nat → ClassId} {σ : zSt} {t : Nat} {z : Int32} (h : f_S_countHere σ t = some z) : zMT l b ex D ca 2 y_S_countHere c_S_countHere n_S_countHere r_ret_S_countHere [.ref t] σ (some (.int z)) σ 0 0 := by
  obtain ⟨_, hg0⟩ := zg_some h
  have h := hg0
  refine zmt_of (by decide) (Nat.le_of_ble_eq_true rfl) ⟨.int, rfl, rfl⟩ (fun X o hin hrm _ _ _ _ _ hr => ?_)
  have hr := hr 0 0 (by decide) (by decide)
  have o : zOK X "WantShelves$Shelves" c_S_countHere n_S_countHere 2 := o
  change zPJ X 0 0 0 [(0, .ref t)] [] σ
  refine zj_aload_n o (zdd k_S_countHere 0 rfl) rfl 0 rfl ?_
  obtain ⟨x1, e_x1, h⟩ := zbd h
  refine zj_gI o (zdd k_S_countHere 1 rfl) fl_S_41 rfl e_x1 ?_
  obtain ⟨x2, e_x2, h⟩ := zbd h
  refine zc_S o (zdd k_S_countHere 2 rfl) ml_S_140 ms_J_bitCount (by decide) [.int x1] [] rfl (Nat.le_of_ble_eq_true rfl) rfl (m_J_bitCount e_x2) ?_
  change zPJ X 0 0 _ _ [.int x2] _
  cases h
  exact zr_i o hr (zdd k_S_countHere 3 rfl)
def f_S_isHere (σ : zSt) (t : Nat) (p0 : Int32) : Option (Int32) :=
zg σ 8 t (
((zgI σ 8 t 1).bind fun x1 =>
if (x1 >>> (p0 &&& 31)) &&& 1 = 0 then (
some 0) else
some 1).bind zbool)
set_option maxRecDepth 100000 in
set_option maxHeartbeats 4000000 in
theorem m_S_isHere {l : Launch} {b : Nat} {ex : Nat → Value} {D : va_G} {ca : Nat → ClassId} {σ : zSt} {t : Nat} {p0 : Int32} {z : Int32} (h : f_S_isHere σ t p0 = some z) : zMT l b ex D ca 1 y_S_isHere c_S_isHere n_S_isHere r_ret_S_isHere [.ref t, .int p0] σ (some (.int z)) σ 0 0 := by
  obtain ⟨_, hg0⟩ := zg_some h
  obtain ⟨z0, hbd, hz⟩ := zbd hg0
  obtain ⟨hzb, rfl⟩ := zbool_some hz
  have h := hbd
  refine zmt_of (by decide) (Nat.le_of_ble_eq_true rfl) ⟨.boolean, rfl, zb_nar hzb⟩ (fun X o hin hrm _ _ _ _ _ hr => ?_)
  have hr := hr 0 0 (by decide) (by decide)
  have o : zOK X "WantShelves$Shelves" c_S_isHere n_S_isHere 1 := o
  change zPJ X 0 0 0 [(0, .ref t), (1, .int p0)] [] σ
  refine zj_aload_n o (zdd k_S_isHere 0 rfl) rfl 0 rfl ?_
  obtain ⟨x1, e_x1, h⟩ := zbd h
  refine zj_gI o (zdd k_S_isHere 1 rfl) fl_S_41 rfl e_x1 ?_
  refine zj_iload_n o (zdd k_S_isHere 2 rfl) rfl 1 rfl ?_
  refine zj_ishr o (zdd k_S_isHere 3 rfl) ?_
  refine zj_iconst o (zdd k_S_isHere 4 rfl) zki_1 ?_
  refine zj_iand o (zdd k_S_isHere 5 rfl) ?_
  refine zj_if_eq (tgt := 15) o (zdd k_S_isHere 6 rfl) (by decide) (fun hc => ?_) (fun hc => ?_)
  · rw [if_pos hc] at h
    refine zj_iconst o (zdd k_S_isHere 9 rfl) zki_0 ?_
    cases h
    exact zr_i o hr (zdd k_S_isHere 10 rfl)
  · rw [if_neg hc] at h
    refine zj_iconst o (zdd k_S_isHere 7 rfl) zki_1 ?_
    refine zj_goto (tgt := 16) o (zdd k_S_isHere 8 rfl) (by decide) ?_
    cases h
    exact zr_i o hr (zdd k_S_isHere 10 rfl)
def f_S_comesAhead (p0 : Int32) (p1 : Int32) (p2 : Int32) (p3 : Int32) : Option (Int32) :=
(if p2 < p0 then (
some 1) else
if p0 = p2 then (
if p3 ≤ p1 then (
some 0) else
some 1) else
some 0).bind zbool
set_option maxRecDepth 100000 in
set_option maxHeartbeats 4000000 in
theorem m_S_comesAhead {l : Launch} {b : Nat} {ex : Nat → Value} {D : va_G} {ca : Nat → ClassId} {σ : zSt} {p0 : Int32} {p1 : Int32} {p2 : Int32} {p3 : Int32} {z : Int32} (h : f_S_comesAhead p0 p1 p2 p3 = some z) : zMT l b ex D ca 1 y_S_comesAhead c_S_comesAhead n_S_comesAhead r_ret_S_comesAhead [.int p0, .int p1, .int p2, .int p3] σ (some (.int z)) σ 0 0 := by
  obtain ⟨z0, hbd, hz⟩ := zbd h
  obtain ⟨hzb, rfl⟩ := zbool_some hz
  have h := hbd
  refine zmt_of (by decide) (Nat.le_of_ble_eq_true rfl) ⟨.boolean, rfl, zb_nar hzb⟩ (fun X o hin hrm _ _ _ _ _ hr => ?_)
  have hr := hr 0 0 (by decide) (by decide)
  have o : zOK X "WantShelves$Shelves" c_S_comesAhead n_S_comesAhead 1 := o
  change zPJ X 0 0 0 [(0, .int p0), (1, .int p1), (2, .int p2), (3, .int p3)] [] σ
  refine zj_iload_n o (zdd k_S_comesAhead 0 rfl) rfl 0 rfl ?_
  refine zj_iload_n o (zdd k_S_comesAhead 1 rfl) rfl 2 rfl ?_
  refine zj_icmp_gt (tgt := 15) o (zdd k_S_comesAhead 2 rfl) (by decide) (fun hc => ?_) (fun hc => ?_)
  · rw [if_pos hc] at h
    refine zj_iconst o (zdd k_S_comesAhead 9 rfl) zki_1 ?_
    refine zj_goto (tgt := 20) o (zdd k_S_comesAhead 10 rfl) (by decide) ?_
    cases h
    exact zr_i o hr (zdd k_S_comesAhead 12 rfl)
  · rw [if_neg hc] at h
    refine zj_iload_n o (zdd k_S_comesAhead 3 rfl) rfl 0 rfl ?_
    refine zj_iload_n o (zdd k_S_comesAhead 4 rfl) rfl 2 rfl ?_
    refine zj_icmp_ne (tgt := 19) o (zdd k_S_comesAhead 5 rfl) (by decide) (fun hc => ?_) (fun hc => ?_)
    · rw [if_neg hc] at h
      refine zj_iconst o (zdd k_S_comesAhead 11 rfl) zki_0 ?_
      cases h
      exact zr_i o hr (zdd k_S_comesAhead 12 rfl)
    · rw [if_pos hc] at h
      refine zj_iload_n o (zdd k_S_comesAhead 6 rfl) rfl 1 rfl ?_
      refine zj_iload_n o (zdd k_S_comesAhead 7 rfl) rfl 3 rfl ?_
      refine zj_icmp_ge (tgt := 19) o (zdd k_S_comesAhead 8 rfl) (by decide) (fun hc => ?_) (fun hc => ?_)
      · rw [if_pos hc] at h
        refine zj_iconst o (zdd k_S_comesAhead 11 rfl) zki_0 ?_
        cases h
        exact zr_i o hr (zdd k_S_comesAhead 12 rfl)
      · rw [if_neg hc] at h
        refine zj_iconst o (zdd k_S_comesAhead 9 rfl) zki_1 ?_
        refine zj_goto (tgt := 20) o (zdd k_S_comesAhead 10 rfl) (by decide) ?_
        cases h
        exact zr_i o hr (zdd k_S_comesAhead 12 rfl)
def f_S_placeTogether_4 (k4 : zSt → Nat → Int32 → Int32 → Int32 → Option (Int32)) (σ : zSt) (v0 : Nat) (v1 : Int32) (v2 : Int32) (v3 : Int32) : Option (Int32) :=
(zgP σ 8 v0 0).bind fun a1 =>
(zgI σ 10 a1 1).bind fun x2 =>
if x2 ≤ v3 then (
some v2) else
if v3 = v1 then (
k4 σ v0 v1 v2 (v3 + 1)) else
(f_S_isHere σ v0 v3).bind fun x3 =>
if x3 = 0 then (
k4 σ v0 v1 v2 (v3 + 1)) else
(zgP σ 8 v0 4).bind fun a4 =>
(zaI σ 1 a4 v3).bind fun x5 =>
(zgP σ 8 v0 4).bind fun a6 =>
(zaI σ 1 a6 v1).bind fun x7 =>
(f_S_comesAhead x5 v3 x7 v1).bind fun x8 =>
if x8 = 0 then (
k4 σ v0 v1 v2 (v3 + 1)) else
k4 σ v0 v1 (v2 + 1) (v3 + 1)
set_option maxRecDepth 100000 in
set_option maxHeartbeats 4000000 in
theorem r_S_placeTogether_4 {X : zCX} (o : zOK X "WantShelves$Shelves" c_S_placeTogether n_S_placeTogether 2) {k4 : zSt → Nat → Int32 → Int32 → Int32 → Option (Int32)} (hk4 : ∀ {σ : zSt} {v0 : Nat} {v1 : Int32} {v2 : Int32} {v3 : Int32} {z : Int32}, k4 σ v0 v1 v2 v3 = some z → zRX X 0 0 (some (.int z)) σ → zPJ X 0 0 4 [(0, .ref v0), (1, .int v1), (2, .int v2), (3, .int v3)] [] σ) {σ : zSt} {v0 : Nat} {v1 : Int32} {v2 : Int32} {v3 : Int32} {z : Int32} (h : f_S_placeTogether_4 k4 σ v0 v1 v2 v3 = some z) (hr : zRX X 0 0 (some (.int z)) σ) : zPJ X 0 0 4 [(0, .ref v0), (1, .int v1), (2, .int v2), (3, .int v3)] [] σ := by
  unfold f_S_placeTogether_4 at h
  refine zj_iload_n o (zdd k_S_placeTogether 4 rfl) rfl 3 rfl ?_
  refine zj_aload_n o (zdd k_S_placeTogether 5 rfl) rfl 0 rfl ?_
  obtain ⟨a1, e_a1, h⟩ := zbd h
  refine zj_gP o (zdd k_S_placeTogether 6 rfl) fl_S_26 rfl e_a1 ?_
  obtain ⟨x2, e_x2, h⟩ := zbd h
  refine zj_gI o (zdd k_S_placeTogether 7 rfl) fl_S_30 rfl e_x2 ?_
  refine zj_icmp_ge (tgt := 57) o (zdd k_S_placeTogether 8 rfl) (by decide) (fun hc => ?_) (fun hc => ?_)
  · rw [if_pos hc] at h
    refine zj_iload_n o (zdd k_S_placeTogether 31 rfl) rfl 2 rfl ?_
    cases h
    exact zr_i o hr (zdd k_S_placeTogether 32 rfl)
  · rw [if_neg hc] at h
    refine zj_iload_n o (zdd k_S_placeTogether 9 rfl) rfl 3 rfl ?_
    refine zj_iload_n o (zdd k_S_placeTogether 10 rfl) rfl 1 rfl ?_
    refine zj_icmp_eq (tgt := 51) o (zdd k_S_placeTogether 11 rfl) (by decide) (fun hc => ?_) (fun hc => ?_)
    · rw [if_pos hc] at h
      refine zj_iinc (v := v3 + 1) (loc' := [(3, .int (v3 + 1)), (0, .ref v0), (1, .int v1), (2, .int v2)]) o (zdd k_S_placeTogether 29 rfl) 3 rfl (by rw [zki_1]) (by decide) rfl ?_
      refine zj_goto (tgt := 4) o (zdd k_S_placeTogether 30 rfl) (by decide) ?_
      exact zj_sub [1, 2, 3, 0] rfl (hk4 h hr)
    · rw [if_neg hc] at h
      refine zj_aload_n o (zdd k_S_placeTogether 12 rfl) rfl 0 rfl ?_
      refine zj_iload_n o (zdd k_S_placeTogether 13 rfl) rfl 3 rfl ?_
      obtain ⟨x3, e_x3, h⟩ := zbd h
      refine zc_V o (zdd k_S_placeTogether 14 rfl) ml_S_160 mv_S_isHere ⟨rfl, by decide⟩ (zg_some e_x3).1 (by decide) [.int v3] [] rfl (Nat.le_of_ble_eq_true rfl) rfl (m_S_isHere e_x3) ?_
      change zPJ X 0 0 _ _ [.int x3] _
      refine zj_if_eq (tgt := 51) o (zdd k_S_placeTogether 15 rfl) (by decide) (fun hc => ?_) (fun hc => ?_)
      · rw [if_pos hc] at h
        refine zj_iinc (v := v3 + 1) (loc' := [(3, .int (v3 + 1)), (0, .ref v0), (1, .int v1), (2, .int v2)]) o (zdd k_S_placeTogether 29 rfl) 3 rfl (by rw [zki_1]) (by decide) rfl ?_
        refine zj_goto (tgt := 4) o (zdd k_S_placeTogether 30 rfl) (by decide) ?_
        exact zj_sub [1, 2, 3, 0] rfl (hk4 h hr)
      · rw [if_neg hc] at h
        refine zj_aload_n o (zdd k_S_placeTogether 16 rfl) rfl 0 rfl ?_
        obtain ⟨a4, e_a4, h⟩ := zbd h
        refine zj_gP o (zdd k_S_placeTogether 17 rfl) fl_S_15 rfl e_a4 ?_
        refine zj_iload_n o (zdd k_S_placeTogether 18 rfl) rfl 3 rfl ?_
        obtain ⟨x5, e_x5, h⟩ := zbd h
        refine zj_iald o (zdd k_S_placeTogether 19 rfl) e_x5 ?_
        refine zj_iload_n o (zdd k_S_placeTogether 20 rfl) rfl 3 rfl ?_
        refine zj_aload_n o (zdd k_S_placeTogether 21 rfl) rfl 0 rfl ?_
        obtain ⟨a6, e_a6, h⟩ := zbd h
        refine zj_gP o (zdd k_S_placeTogether 22 rfl) fl_S_15 rfl e_a6 ?_
        refine zj_iload_n o (zdd k_S_placeTogether 23 rfl) rfl 1 rfl ?_
        obtain ⟨x7, e_x7, h⟩ := zbd h
        refine zj_iald o (zdd k_S_placeTogether 24 rfl) e_x7 ?_
        refine zj_iload_n o (zdd k_S_placeTogether 25 rfl) rfl 1 rfl ?_
        obtain ⟨x8, e_x8, h⟩ := zbd h
        refine zc_S o (zdd k_S_placeTogether 26 rfl) ml_S_100 ms_S_comesAhead (by decide) [.int x5, .int v3, .int x7, .int v1] [] rfl (Nat.le_of_ble_eq_true rfl) rfl (m_S_comesAhead e_x8) ?_
        change zPJ X 0 0 _ _ [.int x8] _
        refine zj_if_eq (tgt := 51) o (zdd k_S_placeTogether 27 rfl) (by decide) (fun hc => ?_) (fun hc => ?_)
        · rw [if_pos hc] at h
          refine zj_iinc (v := v3 + 1) (loc' := [(3, .int (v3 + 1)), (0, .ref v0), (1, .int v1), (2, .int v2)]) o (zdd k_S_placeTogether 29 rfl) 3 rfl (by rw [zki_1]) (by decide) rfl ?_
          refine zj_goto (tgt := 4) o (zdd k_S_placeTogether 30 rfl) (by decide) ?_
          exact zj_sub [1, 2, 3, 0] rfl (hk4 h hr)
        · rw [if_neg hc] at h
          refine zj_iinc (v := v2 + 1) (loc' := [(2, .int (v2 + 1)), (0, .ref v0), (1, .int v1), (3, .int v3)]) o (zdd k_S_placeTogether 28 rfl) 2 rfl (by rw [zki_1]) (by decide) rfl ?_
          refine zj_iinc (v := v3 + 1) (loc' := [(3, .int (v3 + 1)), (2, .int (v2 + 1)), (0, .ref v0), (1, .int v1)]) o (zdd k_S_placeTogether 29 rfl) 3 rfl (by rw [zki_1]) (by decide) rfl ?_
          refine zj_goto (tgt := 4) o (zdd k_S_placeTogether 30 rfl) (by decide) ?_
          exact zj_sub [2, 3, 1, 0] rfl (hk4 h hr)
def f_S_placeTogether_4L : Nat → zSt → Nat → Int32 → Int32 → Int32 → Option (Int32)
  | 0 => fun _ _ _ _ _ => none
  | n + 1 => f_S_placeTogether_4  (f_S_placeTogether_4L  n)
theorem r_S_placeTogether_4L {X : zCX} (o : zOK X "WantShelves$Shelves" c_S_placeTogether n_S_placeTogether 2) : ∀ (n : Nat) {σ : zSt} {v0 : Nat} {v1 : Int32} {v2 : Int32} {v3 : Int32} {z : Int32}, f_S_placeTogether_4L n σ v0 v1 v2 v3 = some z → zRX X 0 0 (some (.int z)) σ → zPJ X 0 0 4 [(0, .ref v0), (1, .int v1), (2, .int v2), (3, .int v3)] [] σ
  | 0 => fun h _ => by cases h
  | n + 1 => fun h hr => r_S_placeTogether_4 o (r_S_placeTogether_4L o  n) h hr
def f_S_placeTogether (σ : zSt) (t : Nat) (p0 : Int32) : Option (Int32) :=
zg σ 8 t (
f_S_placeTogether_4L zfu σ t p0 0 0)
set_option maxRecDepth 100000 in
set_option maxHeartbeats 4000000 in
theorem m_S_placeTogether {l : Launch} {b : Nat} {ex : Nat → Value} {D : va_G} {ca : Nat → ClassId} {σ : zSt} {t : Nat} {p0 : Int32} {z : Int32} (h : f_S_placeTogether σ t p0 = some z) : zMT l b ex D ca 2 y_S_placeTogether c_S_placeTogether n_S_placeTogether r_ret_S_placeTogether [.ref t, .int p0] σ (some (.int z)) σ 0 0 := by
  obtain ⟨_, hg0⟩ := zg_some h
  have h := hg0
  refine zmt_of (by decide) (Nat.le_of_ble_eq_true rfl) ⟨.int, rfl, rfl⟩ (fun X o hin hrm _ _ _ _ _ hr => ?_)
  have hr := hr 0 0 (by decide) (by decide)
  have o : zOK X "WantShelves$Shelves" c_S_placeTogether n_S_placeTogether 2 := o
  change zPJ X 0 0 0 [(0, .ref t), (1, .int p0)] [] σ
  refine zj_iconst o (zdd k_S_placeTogether 0 rfl) zki_0 ?_
  refine zj_istore_n (loc' := [(2, .int 0), (0, .ref t), (1, .int p0)]) o (zdd k_S_placeTogether 1 rfl) rfl (by decide) rfl ?_
  refine zj_iconst o (zdd k_S_placeTogether 2 rfl) zki_0 ?_
  refine zj_istore_n (loc' := [(3, .int 0), (2, .int 0), (0, .ref t), (1, .int p0)]) o (zdd k_S_placeTogether 3 rfl) rfl (by decide) rfl ?_
  exact zj_sub [2, 3, 1, 0] rfl (r_S_placeTogether_4L o  zfu h hr)
def f_S_layTogether_10 (k10 : zSt → Nat → Int32 → Option (zSt)) (σ : zSt) (v0 : Nat) (v1 : Int32) : Option (zSt) :=
(zgP σ 8 v0 0).bind fun a1 =>
(zgI σ 10 a1 1).bind fun x2 =>
if x2 ≤ v1 then (
some σ) else
(f_S_isHere σ v0 v1).bind fun x3 =>
if x3 = 0 then (
k10 σ v0 (v1 + 1)) else
(zgP σ 8 v0 5).bind fun a4 =>
(f_S_placeTogether σ v0 v1).bind fun x5 =>
(zwI σ 1 a4 x5 v1).bind fun σ6 =>
k10 σ6 v0 (v1 + 1)
set_option maxRecDepth 100000 in
set_option maxHeartbeats 4000000 in
theorem r_S_layTogether_10 {X : zCX} (o : zOK X "WantShelves$Shelves" c_S_layTogether n_S_layTogether 3) {k10 : zSt → Nat → Int32 → Option (zSt)} (hk10 : ∀ {σ : zSt} {v0 : Nat} {v1 : Int32} {z : zSt}, k10 σ v0 v1 = some z → zRX X 0 0 none z → zPJ X 0 0 10 [(0, .ref v0), (1, .int v1)] [] σ) {σ : zSt} {v0 : Nat} {v1 : Int32} {z : zSt} (h : f_S_layTogether_10 k10 σ v0 v1 = some z) (hr : zRX X 0 0 none z) : zPJ X 0 0 10 [(0, .ref v0), (1, .int v1)] [] σ := by
  unfold f_S_layTogether_10 at h
  refine zj_iload_n o (zdd k_S_layTogether 6 rfl) rfl 1 rfl ?_
  refine zj_aload_n o (zdd k_S_layTogether 7 rfl) rfl 0 rfl ?_
  obtain ⟨a1, e_a1, h⟩ := zbd h
  refine zj_gP o (zdd k_S_layTogether 8 rfl) fl_S_26 rfl e_a1 ?_
  obtain ⟨x2, e_x2, h⟩ := zbd h
  refine zj_gI o (zdd k_S_layTogether 9 rfl) fl_S_30 rfl e_x2 ?_
  refine zj_icmp_ge (tgt := 46) o (zdd k_S_layTogether 10 rfl) (by decide) (fun hc => ?_) (fun hc => ?_)
  · rw [if_pos hc] at h
    cases h
    exact zr_v o hr (zdd k_S_layTogether 24 rfl)
  · rw [if_neg hc] at h
    refine zj_aload_n o (zdd k_S_layTogether 11 rfl) rfl 0 rfl ?_
    refine zj_iload_n o (zdd k_S_layTogether 12 rfl) rfl 1 rfl ?_
    obtain ⟨x3, e_x3, h⟩ := zbd h
    refine zc_V o (zdd k_S_layTogether 13 rfl) ml_S_160 mv_S_isHere ⟨rfl, by decide⟩ (zg_some e_x3).1 (by decide) [.int v1] [] rfl (Nat.le_of_ble_eq_true rfl) rfl (m_S_isHere e_x3) ?_
    change zPJ X 0 0 _ _ [.int x3] _
    refine zj_if_eq (tgt := 40) o (zdd k_S_layTogether 14 rfl) (by decide) (fun hc => ?_) (fun hc => ?_)
    · rw [if_pos hc] at h
      refine zj_iinc (v := v1 + 1) (loc' := [(1, .int (v1 + 1)), (0, .ref v0)]) o (zdd k_S_layTogether 22 rfl) 1 rfl (by rw [zki_1]) (by decide) rfl ?_
      refine zj_goto (tgt := 10) o (zdd k_S_layTogether 23 rfl) (by decide) ?_
      exact zj_sub [1, 0] rfl (hk10 h hr)
    · rw [if_neg hc] at h
      refine zj_aload_n o (zdd k_S_layTogether 15 rfl) rfl 0 rfl ?_
      obtain ⟨a4, e_a4, h⟩ := zbd h
      refine zj_gP o (zdd k_S_layTogether 16 rfl) fl_S_18 rfl e_a4 ?_
      refine zj_aload_n o (zdd k_S_layTogether 17 rfl) rfl 0 rfl ?_
      refine zj_iload_n o (zdd k_S_layTogether 18 rfl) rfl 1 rfl ?_
      obtain ⟨x5, e_x5, h⟩ := zbd h
      refine zc_V o (zdd k_S_layTogether 19 rfl) ml_S_120 mv_S_placeTogether ⟨rfl, by decide⟩ (zg_some e_x5).1 (by decide) [.int v1] [.ref a4] rfl (Nat.le_of_ble_eq_true rfl) rfl (m_S_placeTogether e_x5) ?_
      change zPJ X 0 0 _ _ [.int x5, .ref a4] _
      refine zj_iload_n o (zdd k_S_layTogether 20 rfl) rfl 1 rfl ?_
      obtain ⟨σ6, e_σ6, h⟩ := zbd h
      refine zj_iast o (zdd k_S_layTogether 21 rfl) e_σ6 ?_
      refine zj_iinc (v := v1 + 1) (loc' := [(1, .int (v1 + 1)), (0, .ref v0)]) o (zdd k_S_layTogether 22 rfl) 1 rfl (by rw [zki_1]) (by decide) rfl ?_
      refine zj_goto (tgt := 10) o (zdd k_S_layTogether 23 rfl) (by decide) ?_
      exact zj_sub [1, 0] rfl (hk10 h hr)
def f_S_layTogether_10L : Nat → zSt → Nat → Int32 → Option (zSt)
  | 0 => fun _ _ _ => none
  | n + 1 => f_S_layTogether_10  (f_S_layTogether_10L  n)
theorem r_S_layTogether_10L {X : zCX} (o : zOK X "WantShelves$Shelves" c_S_layTogether n_S_layTogether 3) : ∀ (n : Nat) {σ : zSt} {v0 : Nat} {v1 : Int32} {z : zSt}, f_S_layTogether_10L n σ v0 v1 = some z → zRX X 0 0 none z → zPJ X 0 0 10 [(0, .ref v0), (1, .int v1)] [] σ
  | 0 => fun h _ => by cases h
  | n + 1 => fun h hr => r_S_layTogether_10 o (r_S_layTogether_10L o  n) h hr
def f_S_layTogether (σ : zSt) (t : Nat) : Option (zSt) :=
zg σ 8 t (
(f_S_countHere σ t).bind fun x1 =>
(zsI σ 8 t 2 x1).bind fun σ2 =>
f_S_layTogether_10L zfu σ2 t 0)
set_option maxRecDepth 100000 in
set_option maxHeartbeats 4000000 in
theorem m_S_layTogether {l : Launch} {b : Nat} {ex : Nat → Value} {D : va_G} {ca : Nat → ClassId} {σ : zSt} {t : Nat} {z : zSt} (h : f_S_layTogether σ t = some z) : zMT l b ex D ca 3 y_S_layTogether c_S_layTogether n_S_layTogether r_ret_S_layTogether [.ref t] σ none z 0 0 := by
  obtain ⟨_, hg0⟩ := zg_some h
  have h := hg0
  refine zmt_of (by decide) (Nat.le_of_ble_eq_true rfl) rfl (fun X o hin hrm _ _ _ _ _ hr => ?_)
  have hr := hr 0 0 (by decide) (by decide)
  have o : zOK X "WantShelves$Shelves" c_S_layTogether n_S_layTogether 3 := o
  change zPJ X 0 0 0 [(0, .ref t)] [] σ
  refine zj_aload_n o (zdd k_S_layTogether 0 rfl) rfl 0 rfl ?_
  refine zj_aload_n o (zdd k_S_layTogether 1 rfl) rfl 0 rfl ?_
  obtain ⟨x1, e_x1, h⟩ := zbd h
  refine zc_V o (zdd k_S_layTogether 2 rfl) ml_S_156 mv_S_countHere ⟨rfl, by decide⟩ (zg_some e_x1).1 (by decide) [] [.ref t] rfl (Nat.le_of_ble_eq_true rfl) rfl (m_S_countHere e_x1) ?_
  change zPJ X 0 0 _ _ [.int x1, .ref t] _
  obtain ⟨σ2, e_σ2, h⟩ := zbd h
  refine zj_pI o (zdd k_S_layTogether 3 rfl) fl_S_44 rfl rfl e_σ2 ?_
  refine zj_iconst o (zdd k_S_layTogether 4 rfl) zki_0 ?_
  refine zj_istore_n (loc' := [(1, .int 0), (0, .ref t)]) o (zdd k_S_layTogether 5 rfl) rfl (by decide) rfl ?_
  exact zj_sub [1, 0] rfl (r_S_layTogether_10L o  zfu h hr)
def f_S_lay_21 (σ : zSt) (v0 : Nat) (v1 : Int32) : Option (zSt) :=
(f_S_bringTogether σ v0 v1).bind fun σ1 =>
(f_S_layTogether σ1 v0).bind fun σ2 =>
some σ2
set_option maxRecDepth 100000 in
set_option maxHeartbeats 4000000 in
theorem r_S_lay_21 {X : zCX} (o : zOK X "WantShelves$Shelves" c_S_lay n_S_lay 4) {σ : zSt} {v0 : Nat} {v1 : Int32} {z : zSt} (h : f_S_lay_21 σ v0 v1 = some z) (hr : zRX X 0 0 none z) : zPJ X 0 0 21 [(0, .ref v0), (1, .int v1)] [] σ := by
  unfold f_S_lay_21 at h
  refine zj_aload_n o (zdd k_S_lay 11 rfl) rfl 0 rfl ?_
  refine zj_iload_n o (zdd k_S_lay 12 rfl) rfl 1 rfl ?_
  obtain ⟨σ1, e_σ1, h⟩ := zbd h
  refine zc_V o (zdd k_S_lay 13 rfl) ml_S_117 mv_S_bringTogether ⟨rfl, by decide⟩ (zg_some e_σ1).1 (by decide) [.int v1] [] rfl (Nat.le_of_ble_eq_true rfl) rfl (m_S_bringTogether e_σ1) ?_
  change zPJ X 0 0 _ _ [] _
  refine zj_aload_n o (zdd k_S_lay 14 rfl) rfl 0 rfl ?_
  obtain ⟨σ2, e_σ2, h⟩ := zbd h
  refine zc_V o (zdd k_S_lay 15 rfl) ml_S_123 mv_S_layTogether ⟨rfl, by decide⟩ (zg_some e_σ2).1 (by decide) [] [] rfl (Nat.le_of_ble_eq_true rfl) rfl (m_S_layTogether e_σ2) ?_
  change zPJ X 0 0 _ _ [] _
  cases h
  exact zr_v o hr (zdd k_S_lay 16 rfl)
def f_S_lay (σ : zSt) (t : Nat) (p0 : Int32) : Option (zSt) :=
zg σ 8 t (
(zgP σ 8 t 0).bind fun a1 =>
(zgI σ 10 a1 3).bind fun x2 =>
if x2 = 3 then (
if p0 = 0 then (
f_S_lay_21 σ t p0) else
(f_S_layByTurns σ t p0).bind fun σ3 =>
some σ3) else
f_S_lay_21 σ t p0)
set_option maxRecDepth 100000 in
set_option maxHeartbeats 4000000 in
theorem m_S_lay {l : Launch} {b : Nat} {ex : Nat → Value} {D : va_G} {ca : Nat → ClassId} {σ : zSt} {t : Nat} {p0 : Int32} {z : zSt} (h : f_S_lay σ t p0 = some z) : zMT l b ex D ca 4 y_S_lay c_S_lay n_S_lay r_ret_S_lay [.ref t, .int p0] σ none z 0 0 := by
  obtain ⟨_, hg0⟩ := zg_some h
  have h := hg0
  refine zmt_of (by decide) (Nat.le_of_ble_eq_true rfl) rfl (fun X o hin hrm _ _ _ _ _ hr => ?_)
  have hr := hr 0 0 (by decide) (by decide)
  have o : zOK X "WantShelves$Shelves" c_S_lay n_S_lay 4 := o
  change zPJ X 0 0 0 [(0, .ref t), (1, .int p0)] [] σ
  refine zj_aload_n o (zdd k_S_lay 0 rfl) rfl 0 rfl ?_
  obtain ⟨a1, e_a1, h⟩ := zbd h
  refine zj_gP o (zdd k_S_lay 1 rfl) fl_S_26 rfl e_a1 ?_
  obtain ⟨x2, e_x2, h⟩ := zbd h
  refine zj_gI o (zdd k_S_lay 2 rfl) fl_S_107 rfl e_x2 ?_
  refine zj_iconst o (zdd k_S_lay 3 rfl) zki_3 ?_
  refine zj_icmp_ne (tgt := 21) o (zdd k_S_lay 4 rfl) (by decide) (fun hc => ?_) (fun hc => ?_)
  · rw [if_neg hc] at h
    exact zj_sub [0, 1] rfl (r_S_lay_21 o  h hr)
  · rw [if_pos hc] at h
    refine zj_iload_n o (zdd k_S_lay 5 rfl) rfl 1 rfl ?_
    refine zj_if_eq (tgt := 21) o (zdd k_S_lay 6 rfl) (by decide) (fun hc => ?_) (fun hc => ?_)
    · rw [if_pos hc] at h
      exact zj_sub [0, 1] rfl (r_S_lay_21 o  h hr)
    · rw [if_neg hc] at h
      refine zj_aload_n o (zdd k_S_lay 7 rfl) rfl 0 rfl ?_
      refine zj_iload_n o (zdd k_S_lay 8 rfl) rfl 1 rfl ?_
      obtain ⟨σ3, e_σ3, h⟩ := zbd h
      refine zc_V o (zdd k_S_lay 9 rfl) ml_S_110 mv_S_layByTurns ⟨rfl, by decide⟩ (zg_some e_σ3).1 (by decide) [.int p0] [] rfl (Nat.le_of_ble_eq_true rfl) rfl (m_S_layByTurns e_σ3) ?_
      change zPJ X 0 0 _ _ [] _
      cases h
      exact zr_v o hr (zdd k_S_lay 10 rfl)
def f_S_laidAt (σ : zSt) (t : Nat) (p0 : Int32) : Option (Int32) :=
zg σ 8 t (
if p0 < 0 then (
some (-1)) else
(zgI σ 8 t 2).bind fun x1 =>
if x1 ≤ p0 then (
some (-1)) else
(zgP σ 8 t 5).bind fun a2 =>
(zaI σ 1 a2 p0).bind fun x3 =>
some x3)
set_option maxRecDepth 100000 in
set_option maxHeartbeats 4000000 in
theorem m_S_laidAt {l : Launch} {b : Nat} {ex : Nat → Value} {D : va_G} {ca : Nat → ClassId} {σ : zSt} {t : Nat} {p0 : Int32} {z : Int32} (h : f_S_laidAt σ t p0 = some z) : zMT l b ex D ca 1 y_S_laidAt c_S_laidAt n_S_laidAt r_ret_S_laidAt [.ref t, .int p0] σ (some (.int z)) σ 0 0 := by
  obtain ⟨_, hg0⟩ := zg_some h
  have h := hg0
  refine zmt_of (by decide) (Nat.le_of_ble_eq_true rfl) ⟨.int, rfl, rfl⟩ (fun X o hin hrm _ _ _ _ _ hr => ?_)
  have hr := hr 0 0 (by decide) (by decide)
  have o : zOK X "WantShelves$Shelves" c_S_laidAt n_S_laidAt 1 := o
  change zPJ X 0 0 0 [(0, .ref t), (1, .int p0)] [] σ
  refine zj_iload_n o (zdd k_S_laidAt 0 rfl) rfl 1 rfl ?_
  refine zj_if_lt (tgt := 21) o (zdd k_S_laidAt 1 rfl) (by decide) (fun hc => ?_) (fun hc => ?_)
  · rw [if_pos hc] at h
    refine zj_iconst o (zdd k_S_laidAt 11 rfl) zki_m1 ?_
    cases h
    exact zr_i o hr (zdd k_S_laidAt 12 rfl)
  · rw [if_neg hc] at h
    refine zj_iload_n o (zdd k_S_laidAt 2 rfl) rfl 1 rfl ?_
    refine zj_aload_n o (zdd k_S_laidAt 3 rfl) rfl 0 rfl ?_
    obtain ⟨x1, e_x1, h⟩ := zbd h
    refine zj_gI o (zdd k_S_laidAt 4 rfl) fl_S_44 rfl e_x1 ?_
    refine zj_icmp_ge (tgt := 21) o (zdd k_S_laidAt 5 rfl) (by decide) (fun hc => ?_) (fun hc => ?_)
    · rw [if_pos hc] at h
      refine zj_iconst o (zdd k_S_laidAt 11 rfl) zki_m1 ?_
      cases h
      exact zr_i o hr (zdd k_S_laidAt 12 rfl)
    · rw [if_neg hc] at h
      refine zj_aload_n o (zdd k_S_laidAt 6 rfl) rfl 0 rfl ?_
      obtain ⟨a2, e_a2, h⟩ := zbd h
      refine zj_gP o (zdd k_S_laidAt 7 rfl) fl_S_18 rfl e_a2 ?_
      refine zj_iload_n o (zdd k_S_laidAt 8 rfl) rfl 1 rfl ?_
      obtain ⟨x3, e_x3, h⟩ := zbd h
      refine zj_iald o (zdd k_S_laidAt 9 rfl) e_x3 ?_
      refine zj_goto (tgt := 22) o (zdd k_S_laidAt 10 rfl) (by decide) ?_
      cases h
      exact zr_i o hr (zdd k_S_laidAt 12 rfl)
def f_S_pretendRow (σ : zSt) (t : Nat) (p0 : Int32) (p1 : Nat) (p2 : Int32) : Option (zSt) :=
zg σ 8 t (
(zgP σ 8 t 3).bind fun a1 =>
(zcpy σ p1 p2 a1 (p0 * 10) 10).bind fun σ2 =>
some σ2)
set_option maxRecDepth 100000 in
set_option maxHeartbeats 4000000 in
theorem m_S_pretendRow {l : Launch} {b : Nat} {ex : Nat → Value} {D : va_G} {ca : Nat → ClassId} {σ : zSt} {t : Nat} {p0 : Int32} {p1 : Nat} {p2 : Int32} {z : zSt} (h : f_S_pretendRow σ t p0 p1 p2 = some z) : zMT l b ex D ca 1 y_S_pretendRow c_S_pretendRow n_S_pretendRow r_ret_S_pretendRow [.ref t, .int p0, .ref p1, .int p2] σ none z 0 0 := by
  obtain ⟨_, hg0⟩ := zg_some h
  have h := hg0
  refine zmt_of (by decide) (Nat.le_of_ble_eq_true rfl) rfl (fun X o hin hrm _ _ _ _ _ hr => ?_)
  have hr := hr 0 0 (by decide) (by decide)
  have o : zOK X "WantShelves$Shelves" c_S_pretendRow n_S_pretendRow 1 := o
  change zPJ X 0 0 0 [(0, .ref t), (1, .int p0), (2, .ref p1), (3, .int p2)] [] σ
  refine zj_aload_n o (zdd k_S_pretendRow 0 rfl) rfl 2 rfl ?_
  refine zj_iload_n o (zdd k_S_pretendRow 1 rfl) rfl 3 rfl ?_
  refine zj_aload_n o (zdd k_S_pretendRow 2 rfl) rfl 0 rfl ?_
  obtain ⟨a1, e_a1, h⟩ := zbd h
  refine zj_gP o (zdd k_S_pretendRow 3 rfl) fl_S_9 rfl e_a1 ?_
  refine zj_iload_n o (zdd k_S_pretendRow 4 rfl) rfl 1 rfl ?_
  refine zj_bipush o (zdd k_S_pretendRow 5 rfl) zkb_10 ?_
  refine zj_imul o (zdd k_S_pretendRow 6 rfl) ?_
  refine zj_bipush o (zdd k_S_pretendRow 7 rfl) zkb_10 ?_
  obtain ⟨σ2, e_σ2, h⟩ := zbd h
  refine zj_cpy o (zdd k_S_pretendRow 8 rfl) ml_S_90 ac_nat ac_stat ac_ini (by decide) (Nat.le_of_ble_eq_true rfl) e_σ2 ?_
  cases h
  exact zr_v o hr (zdd k_S_pretendRow 9 rfl)
def f_S_laidAsNumber_4 (k4 : zSt → Nat → Int64 → Int32 → Option (Int64)) (σ : zSt) (v0 : Nat) (v1 : Int64) (v3 : Int32) : Option (Int64) :=
(zgI σ 8 v0 2).bind fun x1 =>
if x1 ≤ v3 then (
some v1) else
(zgP σ 8 v0 5).bind fun a2 =>
(zaI σ 1 a2 v3).bind fun x3 =>
k4 σ v0 ((v1 * 16) + (Int32.toInt64 x3)) (v3 + 1)
set_option maxRecDepth 100000 in
set_option maxHeartbeats 4000000 in
theorem r_S_laidAsNumber_4 {X : zCX} (o : zOK X "WantShelves$Shelves" c_S_laidAsNumber n_S_laidAsNumber 1) {k4 : zSt → Nat → Int64 → Int32 → Option (Int64)} (hk4 : ∀ {σ : zSt} {v0 : Nat} {v1 : Int64} {v3 : Int32} {z : Int64}, k4 σ v0 v1 v3 = some z → zRX X 0 0 (some (.long z)) σ → zPJ X 0 0 4 [(0, .ref v0), (1, .long v1), (3, .int v3)] [] σ) {σ : zSt} {v0 : Nat} {v1 : Int64} {v3 : Int32} {z : Int64} (h : f_S_laidAsNumber_4 k4 σ v0 v1 v3 = some z) (hr : zRX X 0 0 (some (.long z)) σ) : zPJ X 0 0 4 [(0, .ref v0), (1, .long v1), (3, .int v3)] [] σ := by
  unfold f_S_laidAsNumber_4 at h
  refine zj_iload_n o (zdd k_S_laidAsNumber 4 rfl) rfl 2 rfl ?_
  refine zj_aload_n o (zdd k_S_laidAsNumber 5 rfl) rfl 0 rfl ?_
  obtain ⟨x1, e_x1, h⟩ := zbd h
  refine zj_gI o (zdd k_S_laidAsNumber 6 rfl) fl_S_44 rfl e_x1 ?_
  refine zj_icmp_ge (tgt := 32) o (zdd k_S_laidAsNumber 7 rfl) (by decide) (fun hc => ?_) (fun hc => ?_)
  · rw [if_pos hc] at h
    refine zj_lload_n o (zdd k_S_laidAsNumber 20 rfl) rfl 1 rfl ?_
    cases h
    exact zr_l o hr (zdd k_S_laidAsNumber 21 rfl)
  · rw [if_neg hc] at h
    refine zj_lload_n o (zdd k_S_laidAsNumber 8 rfl) rfl 1 rfl ?_
    refine zj_ldc2 o (zdd k_S_laidAsNumber 9 rfl) lc_S_138 ?_
    refine zj_lmul o (zdd k_S_laidAsNumber 10 rfl) ?_
    refine zj_aload_n o (zdd k_S_laidAsNumber 11 rfl) rfl 0 rfl ?_
    obtain ⟨a2, e_a2, h⟩ := zbd h
    refine zj_gP o (zdd k_S_laidAsNumber 12 rfl) fl_S_18 rfl e_a2 ?_
    refine zj_iload_n o (zdd k_S_laidAsNumber 13 rfl) rfl 2 rfl ?_
    obtain ⟨x3, e_x3, h⟩ := zbd h
    refine zj_iald o (zdd k_S_laidAsNumber 14 rfl) e_x3 ?_
    refine zj_i2l o (zdd k_S_laidAsNumber 15 rfl) ?_
    refine zj_ladd o (zdd k_S_laidAsNumber 16 rfl) ?_
    refine zj_lstore_n (loc' := [(1, .long ((v1 * 16) + (Int32.toInt64 x3))), (0, .ref v0), (3, .int v3)]) o (zdd k_S_laidAsNumber 17 rfl) rfl (by decide) rfl ?_
    refine zj_iinc (v := v3 + 1) (loc' := [(3, .int (v3 + 1)), (1, .long ((v1 * 16) + (Int32.toInt64 x3))), (0, .ref v0)]) o (zdd k_S_laidAsNumber 18 rfl) 2 rfl (by rw [zki_1]) (by decide) rfl ?_
    refine zj_goto (tgt := 4) o (zdd k_S_laidAsNumber 19 rfl) (by decide) ?_
    exact zj_sub [2, 1, 0] rfl (hk4 h hr)
def f_S_laidAsNumber_4L : Nat → zSt → Nat → Int64 → Int32 → Option (Int64)
  | 0 => fun _ _ _ _ => none
  | n + 1 => f_S_laidAsNumber_4  (f_S_laidAsNumber_4L  n)
theorem r_S_laidAsNumber_4L {X : zCX} (o : zOK X "WantShelves$Shelves" c_S_laidAsNumber n_S_laidAsNumber 1) : ∀ (n : Nat) {σ : zSt} {v0 : Nat} {v1 : Int64} {v3 : Int32} {z : Int64}, f_S_laidAsNumber_4L n σ v0 v1 v3 = some z → zRX X 0 0 (some (.long z)) σ → zPJ X 0 0 4 [(0, .ref v0), (1, .long v1), (3, .int v3)] [] σ
  | 0 => fun h _ => by cases h
  | n + 1 => fun h hr => r_S_laidAsNumber_4 o (r_S_laidAsNumber_4L o  n) h hr
def f_S_laidAsNumber (σ : zSt) (t : Nat) : Option (Int64) :=
zg σ 8 t (
f_S_laidAsNumber_4L zfu σ t 0 0)
set_option maxRecDepth 100000 in
set_option maxHeartbeats 4000000 in
theorem m_S_laidAsNumber {l : Launch} {b : Nat} {ex : Nat → Value} {D : va_G} {ca : Nat → ClassId} {σ : zSt} {t : Nat} {z : Int64} (h : f_S_laidAsNumber σ t = some z) : zMT l b ex D ca 1 y_S_laidAsNumber c_S_laidAsNumber n_S_laidAsNumber r_ret_S_laidAsNumber [.ref t] σ (some (.long z)) σ 0 0 := by
  obtain ⟨_, hg0⟩ := zg_some h
  have h := hg0
  refine zmt_of (by decide) (Nat.le_of_ble_eq_true rfl) rfl (fun X o hin hrm _ _ _ _ _ hr => ?_)
  have hr := hr 0 0 (by decide) (by decide)
  have o : zOK X "WantShelves$Shelves" c_S_laidAsNumber n_S_laidAsNumber 1 := o
  change zPJ X 0 0 0 [(0, .ref t)] [] σ
  refine zj_lconst (v := 0) o (zdd k_S_laidAsNumber 0 rfl) rfl ?_
  refine zj_lstore_n (loc' := [(1, .long 0), (0, .ref t)]) o (zdd k_S_laidAsNumber 1 rfl) rfl (by decide) rfl ?_
  refine zj_iconst o (zdd k_S_laidAsNumber 2 rfl) zki_0 ?_
  refine zj_istore_n (loc' := [(3, .int 0), (1, .long 0), (0, .ref t)]) o (zdd k_S_laidAsNumber 3 rfl) rfl (by decide) rfl ?_
  exact zj_sub [2, 1, 0] rfl (r_S_laidAsNumber_4L o  zfu h hr)
def f_S_turnTo_58 (σ : zSt) (v0 : Nat) (v1 : Nat) (v2 : Int32) (v3 : Int32) (v4 : Int32) : Option (zSt) :=
(zgP σ 8 v0 6).bind fun a1 =>
(zwI σ 1 a1 1 v4).bind fun σ2 =>
(zgP σ2 8 v0 6).bind fun a3 =>
(zgP σ2 4 v1 2).bind fun a4 =>
(zaI σ2 1 a4 ((v2 * 10) + v3)).bind fun x5 =>
(zwI σ2 1 a3 4 x5).bind fun σ6 =>
(zgP σ6 8 v0 6).bind fun a7 =>
(zwI σ6 1 a7 5 v3).bind fun σ8 =>
some σ8
set_option maxRecDepth 100000 in
set_option maxHeartbeats 4000000 in
theorem r_S_turnTo_58 {X : zCX} (o : zOK X "WantShelves$Shelves" c_S_turnTo n_S_turnTo 1) {σ : zSt} {v0 : Nat} {v1 : Nat} {v2 : Int32} {v3 : Int32} {v4 : Int32} {z : zSt} (h : f_S_turnTo_58 σ v0 v1 v2 v3 v4 = some z) (hr : zRX X 0 0 none z) : zPJ X 0 0 58 [(0, .ref v0), (1, .ref v1), (2, .int v2), (3, .int v3), (4, .int v4)] [] σ := by
  unfold f_S_turnTo_58 at h
  refine zj_aload_n o (zdd k_S_turnTo 33 rfl) rfl 0 rfl ?_
  obtain ⟨a1, e_a1, h⟩ := zbd h
  refine zj_gP o (zdd k_S_turnTo 34 rfl) fl_S_23 rfl e_a1 ?_
  refine zj_iconst o (zdd k_S_turnTo 35 rfl) zki_1 ?_
  refine zj_iload o (zdd k_S_turnTo 36 rfl) 4 rfl ?_
  obtain ⟨σ2, e_σ2, h⟩ := zbd h
  refine zj_iast o (zdd k_S_turnTo 37 rfl) e_σ2 ?_
  refine zj_aload_n o (zdd k_S_turnTo 38 rfl) rfl 0 rfl ?_
  obtain ⟨a3, e_a3, h⟩ := zbd h
  refine zj_gP o (zdd k_S_turnTo 39 rfl) fl_S_23 rfl e_a3 ?_
  refine zj_iconst o (zdd k_S_turnTo 40 rfl) zki_4 ?_
  refine zj_aload_n o (zdd k_S_turnTo 41 rfl) rfl 1 rfl ?_
  obtain ⟨a4, e_a4, h⟩ := zbd h
  refine zj_gP o (zdd k_S_turnTo 42 rfl) fl_S_79 rfl e_a4 ?_
  refine zj_iload_n o (zdd k_S_turnTo 43 rfl) rfl 2 rfl ?_
  refine zj_bipush o (zdd k_S_turnTo 44 rfl) zkb_10 ?_
  refine zj_imul o (zdd k_S_turnTo 45 rfl) ?_
  refine zj_iload_n o (zdd k_S_turnTo 46 rfl) rfl 3 rfl ?_
  refine zj_iadd o (zdd k_S_turnTo 47 rfl) ?_
  obtain ⟨x5, e_x5, h⟩ := zbd h
  refine zj_iald o (zdd k_S_turnTo 48 rfl) e_x5 ?_
  obtain ⟨σ6, e_σ6, h⟩ := zbd h
  refine zj_iast o (zdd k_S_turnTo 49 rfl) e_σ6 ?_
  refine zj_aload_n o (zdd k_S_turnTo 50 rfl) rfl 0 rfl ?_
  obtain ⟨a7, e_a7, h⟩ := zbd h
  refine zj_gP o (zdd k_S_turnTo 51 rfl) fl_S_23 rfl e_a7 ?_
  refine zj_iconst o (zdd k_S_turnTo 52 rfl) zki_5 ?_
  refine zj_iload_n o (zdd k_S_turnTo 53 rfl) rfl 3 rfl ?_
  obtain ⟨σ8, e_σ8, h⟩ := zbd h
  refine zj_iast o (zdd k_S_turnTo 54 rfl) e_σ8 ?_
  cases h
  exact zr_v o hr (zdd k_S_turnTo 55 rfl)
def f_S_turnTo_6 (k6 : zSt → Nat → Nat → Int32 → Int32 → Int32 → Int32 → Option (zSt)) (σ : zSt) (v0 : Nat) (v1 : Nat) (v2 : Int32) (v3 : Int32) (v4 : Int32) (v5 : Int32) : Option (zSt) :=
(zgP σ 8 v0 0).bind fun a1 =>
(zgI σ 10 a1 0).bind fun x2 =>
if x2 ≤ v5 then (
f_S_turnTo_58 σ v0 v1 v2 v3 v4) else
(zgP σ 8 v0 0).bind fun a3 =>
(zgP σ 10 a3 9).bind fun a4 =>
(zaI σ 1 a4 ((v2 * 4) + v5)).bind fun x5 =>
(zgP σ 8 v0 0).bind fun a6 =>
(zgP σ 10 a6 7).bind fun a7 =>
(zaI σ 1 a7 ((v3 * 4) + v5)).bind fun x8 =>
k6 σ v0 v1 v2 v3 (v4 + (x5 * x8)) (v5 + 1)
set_option maxRecDepth 100000 in
set_option maxHeartbeats 4000000 in
theorem r_S_turnTo_6 {X : zCX} (o : zOK X "WantShelves$Shelves" c_S_turnTo n_S_turnTo 1) {k6 : zSt → Nat → Nat → Int32 → Int32 → Int32 → Int32 → Option (zSt)} (hk6 : ∀ {σ : zSt} {v0 : Nat} {v1 : Nat} {v2 : Int32} {v3 : Int32} {v4 : Int32} {v5 : Int32} {z : zSt}, k6 σ v0 v1 v2 v3 v4 v5 = some z → zRX X 0 0 none z → zPJ X 0 0 6 [(0, .ref v0), (1, .ref v1), (2, .int v2), (3, .int v3), (4, .int v4), (5, .int v5)] [] σ) {σ : zSt} {v0 : Nat} {v1 : Nat} {v2 : Int32} {v3 : Int32} {v4 : Int32} {v5 : Int32} {z : zSt} (h : f_S_turnTo_6 k6 σ v0 v1 v2 v3 v4 v5 = some z) (hr : zRX X 0 0 none z) : zPJ X 0 0 6 [(0, .ref v0), (1, .ref v1), (2, .int v2), (3, .int v3), (4, .int v4), (5, .int v5)] [] σ := by
  unfold f_S_turnTo_6 at h
  refine zj_iload o (zdd k_S_turnTo 4 rfl) 5 rfl ?_
  refine zj_aload_n o (zdd k_S_turnTo 5 rfl) rfl 0 rfl ?_
  obtain ⟨a1, e_a1, h⟩ := zbd h
  refine zj_gP o (zdd k_S_turnTo 6 rfl) fl_S_26 rfl e_a1 ?_
  obtain ⟨x2, e_x2, h⟩ := zbd h
  refine zj_gI o (zdd k_S_turnTo 7 rfl) fl_S_57 rfl e_x2 ?_
  refine zj_icmp_ge (tgt := 58) o (zdd k_S_turnTo 8 rfl) (by decide) (fun hc => ?_) (fun hc => ?_)
  · rw [if_pos hc] at h
    exact zj_sub [0, 1, 2, 3, 4] rfl (r_S_turnTo_58 o  h hr)
  · rw [if_neg hc] at h
    refine zj_iload o (zdd k_S_turnTo 9 rfl) 4 rfl ?_
    refine zj_aload_n o (zdd k_S_turnTo 10 rfl) rfl 0 rfl ?_
    obtain ⟨a3, e_a3, h⟩ := zbd h
    refine zj_gP o (zdd k_S_turnTo 11 rfl) fl_S_26 rfl e_a3 ?_
    obtain ⟨a4, e_a4, h⟩ := zbd h
    refine zj_gP o (zdd k_S_turnTo 12 rfl) fl_S_76 rfl e_a4 ?_
    refine zj_iload_n o (zdd k_S_turnTo 13 rfl) rfl 2 rfl ?_
    refine zj_iconst o (zdd k_S_turnTo 14 rfl) zki_4 ?_
    refine zj_imul o (zdd k_S_turnTo 15 rfl) ?_
    refine zj_iload o (zdd k_S_turnTo 16 rfl) 5 rfl ?_
    refine zj_iadd o (zdd k_S_turnTo 17 rfl) ?_
    obtain ⟨x5, e_x5, h⟩ := zbd h
    refine zj_iald o (zdd k_S_turnTo 18 rfl) e_x5 ?_
    refine zj_aload_n o (zdd k_S_turnTo 19 rfl) rfl 0 rfl ?_
    obtain ⟨a6, e_a6, h⟩ := zbd h
    refine zj_gP o (zdd k_S_turnTo 20 rfl) fl_S_26 rfl e_a6 ?_
    obtain ⟨a7, e_a7, h⟩ := zbd h
    refine zj_gP o (zdd k_S_turnTo 21 rfl) fl_S_66 rfl e_a7 ?_
    refine zj_iload_n o (zdd k_S_turnTo 22 rfl) rfl 3 rfl ?_
    refine zj_iconst o (zdd k_S_turnTo 23 rfl) zki_4 ?_
    refine zj_imul o (zdd k_S_turnTo 24 rfl) ?_
    refine zj_iload o (zdd k_S_turnTo 25 rfl) 5 rfl ?_
    refine zj_iadd o (zdd k_S_turnTo 26 rfl) ?_
    obtain ⟨x8, e_x8, h⟩ := zbd h
    refine zj_iald o (zdd k_S_turnTo 27 rfl) e_x8 ?_
    refine zj_imul o (zdd k_S_turnTo 28 rfl) ?_
    refine zj_iadd o (zdd k_S_turnTo 29 rfl) ?_
    refine zj_istore (loc' := [(4, .int (v4 + (x5 * x8))), (0, .ref v0), (1, .ref v1), (2, .int v2), (3, .int v3), (5, .int v5)]) o (zdd k_S_turnTo 30 rfl) (by decide) rfl ?_
    refine zj_iinc (v := v5 + 1) (loc' := [(5, .int (v5 + 1)), (4, .int (v4 + (x5 * x8))), (0, .ref v0), (1, .ref v1), (2, .int v2), (3, .int v3)]) o (zdd k_S_turnTo 31 rfl) 5 rfl (by rw [zki_1]) (by decide) rfl ?_
    refine zj_goto (tgt := 6) o (zdd k_S_turnTo 32 rfl) (by decide) ?_
    exact zj_sub [2, 3, 4, 5, 1, 0] rfl (hk6 h hr)
def f_S_turnTo_6L : Nat → zSt → Nat → Nat → Int32 → Int32 → Int32 → Int32 → Option (zSt)
  | 0 => fun _ _ _ _ _ _ _ => none
  | n + 1 => f_S_turnTo_6  (f_S_turnTo_6L  n)
theorem r_S_turnTo_6L {X : zCX} (o : zOK X "WantShelves$Shelves" c_S_turnTo n_S_turnTo 1) : ∀ (n : Nat) {σ : zSt} {v0 : Nat} {v1 : Nat} {v2 : Int32} {v3 : Int32} {v4 : Int32} {v5 : Int32} {z : zSt}, f_S_turnTo_6L n σ v0 v1 v2 v3 v4 v5 = some z → zRX X 0 0 none z → zPJ X 0 0 6 [(0, .ref v0), (1, .ref v1), (2, .int v2), (3, .int v3), (4, .int v4), (5, .int v5)] [] σ
  | 0 => fun h _ => by cases h
  | n + 1 => fun h hr => r_S_turnTo_6 o (r_S_turnTo_6L o  n) h hr
def f_S_turnTo (σ : zSt) (t : Nat) (p0 : Nat) (p1 : Int32) (p2 : Int32) : Option (zSt) :=
zg σ 8 t (
f_S_turnTo_6L zfu σ t p0 p1 p2 0 0)
set_option maxRecDepth 100000 in
set_option maxHeartbeats 4000000 in
theorem m_S_turnTo {l : Launch} {b : Nat} {ex : Nat → Value} {D : va_G} {ca : Nat → ClassId} {σ : zSt} {t : Nat} {p0 : Nat} {p1 : Int32} {p2 : Int32} {z : zSt} (h : f_S_turnTo σ t p0 p1 p2 = some z) : zMT l b ex D ca 1 y_S_turnTo c_S_turnTo n_S_turnTo r_ret_S_turnTo [.ref t, .ref p0, .int p1, .int p2] σ none z 0 0 := by
  obtain ⟨_, hg0⟩ := zg_some h
  have h := hg0
  refine zmt_of (by decide) (Nat.le_of_ble_eq_true rfl) rfl (fun X o hin hrm _ _ _ _ _ hr => ?_)
  have hr := hr 0 0 (by decide) (by decide)
  have o : zOK X "WantShelves$Shelves" c_S_turnTo n_S_turnTo 1 := o
  change zPJ X 0 0 0 [(0, .ref t), (1, .ref p0), (2, .int p1), (3, .int p2)] [] σ
  refine zj_iconst o (zdd k_S_turnTo 0 rfl) zki_0 ?_
  refine zj_istore (loc' := [(4, .int 0), (0, .ref t), (1, .ref p0), (2, .int p1), (3, .int p2)]) o (zdd k_S_turnTo 1 rfl) (by decide) rfl ?_
  refine zj_iconst o (zdd k_S_turnTo 2 rfl) zki_0 ?_
  refine zj_istore (loc' := [(5, .int 0), (4, .int 0), (0, .ref t), (1, .ref p0), (2, .int p1), (3, .int p2)]) o (zdd k_S_turnTo 3 rfl) (by decide) rfl ?_
  exact zj_sub [2, 3, 4, 5, 1, 0] rfl (r_S_turnTo_6L o  zfu h hr)
def f_S_keyByWant (σ : zSt) (t : Nat) (p0 : Int32) : Option (Int32 × zSt) :=
zg σ 8 t (
(zgP σ 8 t 6).bind fun a1 =>
(zwI σ 1 a1 0 p0).bind fun σ2 =>
(zgP σ2 8 t 0).bind fun a3 =>
(zgP σ2 10 a3 11).bind fun a4 =>
(zgP σ2 8 t 6).bind fun a5 =>
(f_F_value σ2 a4 a5).bind fun q6 =>
some (q6.1, q6.2))
set_option maxRecDepth 100000 in
set_option maxHeartbeats 4000000 in
theorem m_S_keyByWant {l : Launch} {b : Nat} {ex : Nat → Value} {D : va_G} {ca : Nat → ClassId} {σ : zSt} {t : Nat} {p0 : Int32} {z : Int32 × zSt} (h : f_S_keyByWant σ t p0 = some z) : zMT l b ex D ca 4 y_S_keyByWant c_S_keyByWant n_S_keyByWant r_ret_S_keyByWant [.ref t, .int p0] σ (some (.int z.1)) z.2 0 0 := by
  obtain ⟨_, hg0⟩ := zg_some h
  have h := hg0
  refine zmt_of (by decide) (Nat.le_of_ble_eq_true rfl) ⟨.int, rfl, rfl⟩ (fun X o hin hrm _ _ _ _ _ hr => ?_)
  have hr := hr 0 0 (by decide) (by decide)
  have o : zOK X "WantShelves$Shelves" c_S_keyByWant n_S_keyByWant 4 := o
  change zPJ X 0 0 0 [(0, .ref t), (1, .int p0)] [] σ
  refine zj_aload_n o (zdd k_S_keyByWant 0 rfl) rfl 0 rfl ?_
  obtain ⟨a1, e_a1, h⟩ := zbd h
  refine zj_gP o (zdd k_S_keyByWant 1 rfl) fl_S_23 rfl e_a1 ?_
  refine zj_iconst o (zdd k_S_keyByWant 2 rfl) zki_0 ?_
  refine zj_iload_n o (zdd k_S_keyByWant 3 rfl) rfl 1 rfl ?_
  obtain ⟨σ2, e_σ2, h⟩ := zbd h
  refine zj_iast o (zdd k_S_keyByWant 4 rfl) e_σ2 ?_
  refine zj_aload_n o (zdd k_S_keyByWant 5 rfl) rfl 0 rfl ?_
  obtain ⟨a3, e_a3, h⟩ := zbd h
  refine zj_gP o (zdd k_S_keyByWant 6 rfl) fl_S_26 rfl e_a3 ?_
  obtain ⟨a4, e_a4, h⟩ := zbd h
  refine zj_gP o (zdd k_S_keyByWant 7 rfl) fl_S_82 rfl e_a4 ?_
  refine zj_aload_n o (zdd k_S_keyByWant 8 rfl) rfl 0 rfl ?_
  obtain ⟨a5, e_a5, h⟩ := zbd h
  refine zj_gP o (zdd k_S_keyByWant 9 rfl) fl_S_23 rfl e_a5 ?_
  obtain ⟨q6, e_q6, h⟩ := zbd h
  refine zc_V o (zdd k_S_keyByWant 10 rfl) ml_S_86 mv_F_value ⟨rfl, by decide⟩ (zg_some e_q6).1 (by decide) [.ref a5] [] rfl (Nat.le_of_ble_eq_true rfl) rfl (m_F_value e_q6) ?_
  change zPJ X 0 0 _ _ [.int q6.1] _
  cases h
  exact zr_i o hr (zdd k_S_keyByWant 11 rfl)
def f_S_placeLaid_2 (k2 : zSt → Nat → Int32 → Int32 → Option (Int32)) (σ : zSt) (v0 : Nat) (v1 : Int32) (v2 : Int32) : Option (Int32) :=
(zgI σ 8 v0 2).bind fun x1 =>
if x1 ≤ v2 then (
some (-1)) else
(zgP σ 8 v0 5).bind fun a2 =>
(zaI σ 1 a2 v2).bind fun x3 =>
if x3 = v1 then (
some v2) else
k2 σ v0 v1 (v2 + 1)
set_option maxRecDepth 100000 in
set_option maxHeartbeats 4000000 in
theorem r_S_placeLaid_2 {X : zCX} (o : zOK X "WantShelves$Shelves" c_S_placeLaid n_S_placeLaid 1) {k2 : zSt → Nat → Int32 → Int32 → Option (Int32)} (hk2 : ∀ {σ : zSt} {v0 : Nat} {v1 : Int32} {v2 : Int32} {z : Int32}, k2 σ v0 v1 v2 = some z → zRX X 0 0 (some (.int z)) σ → zPJ X 0 0 2 [(0, .ref v0), (1, .int v1), (2, .int v2)] [] σ) {σ : zSt} {v0 : Nat} {v1 : Int32} {v2 : Int32} {z : Int32} (h : f_S_placeLaid_2 k2 σ v0 v1 v2 = some z) (hr : zRX X 0 0 (some (.int z)) σ) : zPJ X 0 0 2 [(0, .ref v0), (1, .int v1), (2, .int v2)] [] σ := by
  unfold f_S_placeLaid_2 at h
  refine zj_iload_n o (zdd k_S_placeLaid 2 rfl) rfl 2 rfl ?_
  refine zj_aload_n o (zdd k_S_placeLaid 3 rfl) rfl 0 rfl ?_
  obtain ⟨x1, e_x1, h⟩ := zbd h
  refine zj_gI o (zdd k_S_placeLaid 4 rfl) fl_S_44 rfl e_x1 ?_
  refine zj_icmp_ge (tgt := 28) o (zdd k_S_placeLaid 5 rfl) (by decide) (fun hc => ?_) (fun hc => ?_)
  · rw [if_pos hc] at h
    refine zj_iconst o (zdd k_S_placeLaid 16 rfl) zki_m1 ?_
    cases h
    exact zr_i o hr (zdd k_S_placeLaid 17 rfl)
  · rw [if_neg hc] at h
    refine zj_aload_n o (zdd k_S_placeLaid 6 rfl) rfl 0 rfl ?_
    obtain ⟨a2, e_a2, h⟩ := zbd h
    refine zj_gP o (zdd k_S_placeLaid 7 rfl) fl_S_18 rfl e_a2 ?_
    refine zj_iload_n o (zdd k_S_placeLaid 8 rfl) rfl 2 rfl ?_
    obtain ⟨x3, e_x3, h⟩ := zbd h
    refine zj_iald o (zdd k_S_placeLaid 9 rfl) e_x3 ?_
    refine zj_iload_n o (zdd k_S_placeLaid 10 rfl) rfl 1 rfl ?_
    refine zj_icmp_ne (tgt := 22) o (zdd k_S_placeLaid 11 rfl) (by decide) (fun hc => ?_) (fun hc => ?_)
    · rw [if_neg hc] at h
      refine zj_iinc (v := v2 + 1) (loc' := [(2, .int (v2 + 1)), (0, .ref v0), (1, .int v1)]) o (zdd k_S_placeLaid 14 rfl) 2 rfl (by rw [zki_1]) (by decide) rfl ?_
      refine zj_goto (tgt := 2) o (zdd k_S_placeLaid 15 rfl) (by decide) ?_
      exact zj_sub [1, 2, 0] rfl (hk2 h hr)
    · rw [if_pos hc] at h
      refine zj_iload_n o (zdd k_S_placeLaid 12 rfl) rfl 2 rfl ?_
      cases h
      exact zr_i o hr (zdd k_S_placeLaid 13 rfl)
def f_S_placeLaid_2L : Nat → zSt → Nat → Int32 → Int32 → Option (Int32)
  | 0 => fun _ _ _ _ => none
  | n + 1 => f_S_placeLaid_2  (f_S_placeLaid_2L  n)
theorem r_S_placeLaid_2L {X : zCX} (o : zOK X "WantShelves$Shelves" c_S_placeLaid n_S_placeLaid 1) : ∀ (n : Nat) {σ : zSt} {v0 : Nat} {v1 : Int32} {v2 : Int32} {z : Int32}, f_S_placeLaid_2L n σ v0 v1 v2 = some z → zRX X 0 0 (some (.int z)) σ → zPJ X 0 0 2 [(0, .ref v0), (1, .int v1), (2, .int v2)] [] σ
  | 0 => fun h _ => by cases h
  | n + 1 => fun h hr => r_S_placeLaid_2 o (r_S_placeLaid_2L o  n) h hr
def f_S_placeLaid (σ : zSt) (t : Nat) (p0 : Int32) : Option (Int32) :=
zg σ 8 t (
f_S_placeLaid_2L zfu σ t p0 0)
set_option maxRecDepth 100000 in
set_option maxHeartbeats 4000000 in
theorem m_S_placeLaid {l : Launch} {b : Nat} {ex : Nat → Value} {D : va_G} {ca : Nat → ClassId} {σ : zSt} {t : Nat} {p0 : Int32} {z : Int32} (h : f_S_placeLaid σ t p0 = some z) : zMT l b ex D ca 1 y_S_placeLaid c_S_placeLaid n_S_placeLaid r_ret_S_placeLaid [.ref t, .int p0] σ (some (.int z)) σ 0 0 := by
  obtain ⟨_, hg0⟩ := zg_some h
  have h := hg0
  refine zmt_of (by decide) (Nat.le_of_ble_eq_true rfl) ⟨.int, rfl, rfl⟩ (fun X o hin hrm _ _ _ _ _ hr => ?_)
  have hr := hr 0 0 (by decide) (by decide)
  have o : zOK X "WantShelves$Shelves" c_S_placeLaid n_S_placeLaid 1 := o
  change zPJ X 0 0 0 [(0, .ref t), (1, .int p0)] [] σ
  refine zj_iconst o (zdd k_S_placeLaid 0 rfl) zki_0 ?_
  refine zj_istore_n (loc' := [(2, .int 0), (0, .ref t), (1, .int p0)]) o (zdd k_S_placeLaid 1 rfl) rfl (by decide) rfl ?_
  exact zj_sub [1, 2, 0] rfl (r_S_placeLaid_2L o  zfu h hr)
def f_S_placeFor_26 (σ : zSt) (v0 : Nat) (v1 : Int32) (v2 : Int32) : Option (Int32 × zSt) :=
(f_S_bringTogether σ v0 v1).bind fun σ1 =>
(f_S_placeTogether σ1 v0 v2).bind fun x2 =>
some (x2, σ1)
set_option maxRecDepth 100000 in
set_option maxHeartbeats 4000000 in
theorem r_S_placeFor_26 {X : zCX} (o : zOK X "WantShelves$Shelves" c_S_placeFor n_S_placeFor 4) {σ : zSt} {v0 : Nat} {v1 : Int32} {v2 : Int32} {z : Int32 × zSt} (h : f_S_placeFor_26 σ v0 v1 v2 = some z) (hr : zRX X 0 0 (some (.int z.1)) z.2) : zPJ X 0 0 26 [(0, .ref v0), (1, .int v1), (2, .int v2)] [] σ := by
  unfold f_S_placeFor_26 at h
  refine zj_aload_n o (zdd k_S_placeFor 14 rfl) rfl 0 rfl ?_
  refine zj_iload_n o (zdd k_S_placeFor 15 rfl) rfl 1 rfl ?_
  obtain ⟨σ1, e_σ1, h⟩ := zbd h
  refine zc_V o (zdd k_S_placeFor 16 rfl) ml_S_117 mv_S_bringTogether ⟨rfl, by decide⟩ (zg_some e_σ1).1 (by decide) [.int v1] [] rfl (Nat.le_of_ble_eq_true rfl) rfl (m_S_bringTogether e_σ1) ?_
  change zPJ X 0 0 _ _ [] _
  refine zj_aload_n o (zdd k_S_placeFor 17 rfl) rfl 0 rfl ?_
  refine zj_iload_n o (zdd k_S_placeFor 18 rfl) rfl 2 rfl ?_
  obtain ⟨x2, e_x2, h⟩ := zbd h
  refine zc_V o (zdd k_S_placeFor 19 rfl) ml_S_120 mv_S_placeTogether ⟨rfl, by decide⟩ (zg_some e_x2).1 (by decide) [.int v2] [] rfl (Nat.le_of_ble_eq_true rfl) rfl (m_S_placeTogether e_x2) ?_
  change zPJ X 0 0 _ _ [.int x2] _
  cases h
  exact zr_i o hr (zdd k_S_placeFor 20 rfl)
def f_S_placeFor (σ : zSt) (t : Nat) (p0 : Int32) (p1 : Int32) : Option (Int32 × zSt) :=
zg σ 8 t (
(zgP σ 8 t 0).bind fun a1 =>
(zgI σ 10 a1 3).bind fun x2 =>
if x2 = 3 then (
if p0 = 0 then (
f_S_placeFor_26 σ t p0 p1) else
(f_S_layByTurns σ t p0).bind fun σ3 =>
(f_S_placeLaid σ3 t p1).bind fun x4 =>
some (x4, σ3)) else
f_S_placeFor_26 σ t p0 p1)
set_option maxRecDepth 100000 in
set_option maxHeartbeats 4000000 in
theorem m_S_placeFor {l : Launch} {b : Nat} {ex : Nat → Value} {D : va_G} {ca : Nat → ClassId} {σ : zSt} {t : Nat} {p0 : Int32} {p1 : Int32} {z : Int32 × zSt} (h : f_S_placeFor σ t p0 p1 = some z) : zMT l b ex D ca 4 y_S_placeFor c_S_placeFor n_S_placeFor r_ret_S_placeFor [.ref t, .int p0, .int p1] σ (some (.int z.1)) z.2 0 0 := by
  obtain ⟨_, hg0⟩ := zg_some h
  have h := hg0
  refine zmt_of (by decide) (Nat.le_of_ble_eq_true rfl) ⟨.int, rfl, rfl⟩ (fun X o hin hrm _ _ _ _ _ hr => ?_)
  have hr := hr 0 0 (by decide) (by decide)
  have o : zOK X "WantShelves$Shelves" c_S_placeFor n_S_placeFor 4 := o
  change zPJ X 0 0 0 [(0, .ref t), (1, .int p0), (2, .int p1)] [] σ
  refine zj_aload_n o (zdd k_S_placeFor 0 rfl) rfl 0 rfl ?_
  obtain ⟨a1, e_a1, h⟩ := zbd h
  refine zj_gP o (zdd k_S_placeFor 1 rfl) fl_S_26 rfl e_a1 ?_
  obtain ⟨x2, e_x2, h⟩ := zbd h
  refine zj_gI o (zdd k_S_placeFor 2 rfl) fl_S_107 rfl e_x2 ?_
  refine zj_iconst o (zdd k_S_placeFor 3 rfl) zki_3 ?_
  refine zj_icmp_ne (tgt := 26) o (zdd k_S_placeFor 4 rfl) (by decide) (fun hc => ?_) (fun hc => ?_)
  · rw [if_neg hc] at h
    exact zj_sub [0, 1, 2] rfl (r_S_placeFor_26 o  h hr)
  · rw [if_pos hc] at h
    refine zj_iload_n o (zdd k_S_placeFor 5 rfl) rfl 1 rfl ?_
    refine zj_if_eq (tgt := 26) o (zdd k_S_placeFor 6 rfl) (by decide) (fun hc => ?_) (fun hc => ?_)
    · rw [if_pos hc] at h
      exact zj_sub [0, 1, 2] rfl (r_S_placeFor_26 o  h hr)
    · rw [if_neg hc] at h
      refine zj_aload_n o (zdd k_S_placeFor 7 rfl) rfl 0 rfl ?_
      refine zj_iload_n o (zdd k_S_placeFor 8 rfl) rfl 1 rfl ?_
      obtain ⟨σ3, e_σ3, h⟩ := zbd h
      refine zc_V o (zdd k_S_placeFor 9 rfl) ml_S_110 mv_S_layByTurns ⟨rfl, by decide⟩ (zg_some e_σ3).1 (by decide) [.int p0] [] rfl (Nat.le_of_ble_eq_true rfl) rfl (m_S_layByTurns e_σ3) ?_
      change zPJ X 0 0 _ _ [] _
      refine zj_aload_n o (zdd k_S_placeFor 10 rfl) rfl 0 rfl ?_
      refine zj_iload_n o (zdd k_S_placeFor 11 rfl) rfl 2 rfl ?_
      obtain ⟨x4, e_x4, h⟩ := zbd h
      refine zc_V o (zdd k_S_placeFor 12 rfl) ml_S_114 mv_S_placeLaid ⟨rfl, by decide⟩ (zg_some e_x4).1 (by decide) [.int p1] [] rfl (Nat.le_of_ble_eq_true rfl) rfl (m_S_placeLaid e_x4) ?_
      change zPJ X 0 0 _ _ [.int x4] _
      cases h
      exact zr_i o hr (zdd k_S_placeFor 13 rfl)
def f_S_weigh_50 (k3 : zSt → Nat → Nat → Int32 → Int32 → Int32 → Option (zSt)) (k21 : zSt → Nat → Nat → Int32 → Int32 → Int32 → Int32 → Int32 → Option (zSt)) (σ : zSt) (v0 : Nat) (v1 : Nat) (v2 : Int32) (v3 : Int32) (v4 : Int32) (v5 : Int32) (v6 : Int32) (s0 : Int32) : Option (zSt) :=
(zgP σ 4 v1 0).bind fun a1 =>
(zaI σ 1 a1 ((v2 * 4) + v6)).bind fun x2 =>
(zgP σ 8 v0 0).bind fun a3 =>
(zgP σ 10 a3 7).bind fun a4 =>
(zaI σ 1 a4 ((v4 * 4) + v6)).bind fun x5 =>
k21 σ v0 v1 v2 v3 v4 (v5 + ((x2 + s0) * x5)) (v6 + 1)
set_option maxRecDepth 100000 in
set_option maxHeartbeats 4000000 in
theorem r_S_weigh_50 {X : zCX} (o : zOK X "WantShelves$Shelves" c_S_weigh n_S_weigh 5) {k3 : zSt → Nat → Nat → Int32 → Int32 → Int32 → Option (zSt)} {k21 : zSt → Nat → Nat → Int32 → Int32 → Int32 → Int32 → Int32 → Option (zSt)} (hk3 : ∀ {σ : zSt} {v0 : Nat} {v1 : Nat} {v2 : Int32} {v3 : Int32} {v4 : Int32} {z : zSt}, k3 σ v0 v1 v2 v3 v4 = some z → zRX X 0 0 none z → zPJ X 0 0 3 [(0, .ref v0), (1, .ref v1), (2, .int v2), (3, .int v3), (4, .int v4)] [] σ) (hk21 : ∀ {σ : zSt} {v0 : Nat} {v1 : Nat} {v2 : Int32} {v3 : Int32} {v4 : Int32} {v5 : Int32} {v6 : Int32} {z : zSt}, k21 σ v0 v1 v2 v3 v4 v5 v6 = some z → zRX X 0 0 none z → zPJ X 0 0 21 [(0, .ref v0), (1, .ref v1), (2, .int v2), (3, .int v3), (4, .int v4), (5, .int v5), (6, .int v6)] [] σ) {σ : zSt} {v0 : Nat} {v1 : Nat} {v2 : Int32} {v3 : Int32} {v4 : Int32} {v5 : Int32} {v6 : Int32} {s0 : Int32} {z : zSt} (h : f_S_weigh_50 k3 k21 σ v0 v1 v2 v3 v4 v5 v6 s0 = some z) (hr : zRX X 0 0 none z) : zPJ X 0 0 50 [(0, .ref v0), (1, .ref v1), (2, .int v2), (3, .int v3), (4, .int v4), (5, .int v5), (6, .int v6)] [.int s0] σ := by
  unfold f_S_weigh_50 at h
  refine zj_istore (loc' := [(7, .int s0), (0, .ref v0), (1, .ref v1), (2, .int v2), (3, .int v3), (4, .int v4), (5, .int v5), (6, .int v6)]) o (zdd k_S_weigh 24 rfl) (by decide) rfl ?_
  refine zj_iload o (zdd k_S_weigh 25 rfl) 6 rfl ?_
  refine zj_aload_n o (zdd k_S_weigh 26 rfl) rfl 2 rfl ?_
  obtain ⟨a1, e_a1, h⟩ := zbd h
  refine zj_gP o (zdd k_S_weigh 27 rfl) fl_S_63 rfl e_a1 ?_
  refine zj_iload_n o (zdd k_S_weigh 28 rfl) rfl 3 rfl ?_
  refine zj_iconst o (zdd k_S_weigh 29 rfl) zki_4 ?_
  refine zj_imul o (zdd k_S_weigh 30 rfl) ?_
  refine zj_iload o (zdd k_S_weigh 31 rfl) 7 rfl ?_
  refine zj_iadd o (zdd k_S_weigh 32 rfl) ?_
  obtain ⟨x2, e_x2, h⟩ := zbd h
  refine zj_iald o (zdd k_S_weigh 33 rfl) e_x2 ?_
  refine zj_iload o (zdd k_S_weigh 34 rfl) 0 rfl ?_
  refine zj_iadd o (zdd k_S_weigh 35 rfl) ?_
  refine zj_aload_n o (zdd k_S_weigh 36 rfl) rfl 1 rfl ?_
  obtain ⟨a3, e_a3, h⟩ := zbd h
  refine zj_gP o (zdd k_S_weigh 37 rfl) fl_S_26 rfl e_a3 ?_
  obtain ⟨a4, e_a4, h⟩ := zbd h
  refine zj_gP o (zdd k_S_weigh 38 rfl) fl_S_66 rfl e_a4 ?_
  refine zj_iload o (zdd k_S_weigh 39 rfl) 5 rfl ?_
  refine zj_iconst o (zdd k_S_weigh 40 rfl) zki_4 ?_
  refine zj_imul o (zdd k_S_weigh 41 rfl) ?_
  refine zj_iload o (zdd k_S_weigh 42 rfl) 7 rfl ?_
  refine zj_iadd o (zdd k_S_weigh 43 rfl) ?_
  obtain ⟨x5, e_x5, h⟩ := zbd h
  refine zj_iald o (zdd k_S_weigh 44 rfl) e_x5 ?_
  refine zj_imul o (zdd k_S_weigh 45 rfl) ?_
  refine zj_iadd o (zdd k_S_weigh 46 rfl) ?_
  refine zj_istore (loc' := [(5, .int (v5 + ((x2 + s0) * x5))), (7, .int s0), (0, .ref v0), (1, .ref v1), (2, .int v2), (3, .int v3), (4, .int v4), (6, .int v6)]) o (zdd k_S_weigh 47 rfl) (by decide) rfl ?_
  refine zj_iinc (v := v6 + 1) (loc' := [(6, .int (v6 + 1)), (5, .int (v5 + ((x2 + s0) * x5))), (7, .int s0), (0, .ref v0), (1, .ref v1), (2, .int v2), (3, .int v3), (4, .int v4)]) o (zdd k_S_weigh 48 rfl) 7 rfl (by rw [zki_1]) (by decide) rfl ?_
  refine zj_goto (tgt := 21) o (zdd k_S_weigh 49 rfl) (by decide) ?_
  exact zj_sub [3, 4, 5, 6, 7, 1, 0] rfl (hk21 h hr)
def f_S_weigh_93 (k3 : zSt → Nat → Nat → Int32 → Int32 → Int32 → Option (zSt)) (σ : zSt) (v0 : Nat) (v1 : Nat) (v2 : Int32) (v3 : Int32) (v4 : Int32) (v5 : Int32) : Option (zSt) :=
(f_S_turnTo σ v0 v1 v2 v4).bind fun σ1 =>
(zgP σ1 8 v0 3).bind fun a2 =>
(f_S_keyByWant σ1 v0 v5).bind fun q3 =>
(zwI q3.2 1 a2 ((v2 * 10) + v4) q3.1).bind fun σ4 =>
k3 σ4 v0 v1 v2 v3 (v4 + 1)
set_option maxRecDepth 100000 in
set_option maxHeartbeats 4000000 in
theorem r_S_weigh_93 {X : zCX} (o : zOK X "WantShelves$Shelves" c_S_weigh n_S_weigh 5) {k3 : zSt → Nat → Nat → Int32 → Int32 → Int32 → Option (zSt)} (hk3 : ∀ {σ : zSt} {v0 : Nat} {v1 : Nat} {v2 : Int32} {v3 : Int32} {v4 : Int32} {z : zSt}, k3 σ v0 v1 v2 v3 v4 = some z → zRX X 0 0 none z → zPJ X 0 0 3 [(0, .ref v0), (1, .ref v1), (2, .int v2), (3, .int v3), (4, .int v4)] [] σ) {σ : zSt} {v0 : Nat} {v1 : Nat} {v2 : Int32} {v3 : Int32} {v4 : Int32} {v5 : Int32} {z : zSt} (h : f_S_weigh_93 k3 σ v0 v1 v2 v3 v4 v5 = some z) (hr : zRX X 0 0 none z) : zPJ X 0 0 93 [(0, .ref v0), (1, .ref v1), (2, .int v2), (3, .int v3), (4, .int v4), (5, .int v5)] [] σ := by
  unfold f_S_weigh_93 at h
  refine zj_aload_n o (zdd k_S_weigh 50 rfl) rfl 0 rfl ?_
  refine zj_aload_n o (zdd k_S_weigh 51 rfl) rfl 1 rfl ?_
  refine zj_iload_n o (zdd k_S_weigh 52 rfl) rfl 2 rfl ?_
  refine zj_iload o (zdd k_S_weigh 53 rfl) 4 rfl ?_
  obtain ⟨σ1, e_σ1, h⟩ := zbd h
  refine zc_V o (zdd k_S_weigh 54 rfl) ml_S_69 mv_S_turnTo ⟨rfl, by decide⟩ (zg_some e_σ1).1 (by decide) [.ref v1, .int v2, .int v4] [] rfl (Nat.le_of_ble_eq_true rfl) rfl (m_S_turnTo e_σ1) ?_
  change zPJ X 0 0 _ _ [] _
  refine zj_aload_n o (zdd k_S_weigh 55 rfl) rfl 0 rfl ?_
  obtain ⟨a2, e_a2, h⟩ := zbd h
  refine zj_gP o (zdd k_S_weigh 56 rfl) fl_S_9 rfl e_a2 ?_
  refine zj_iload_n o (zdd k_S_weigh 57 rfl) rfl 2 rfl ?_
  refine zj_bipush o (zdd k_S_weigh 58 rfl) zkb_10 ?_
  refine zj_imul o (zdd k_S_weigh 59 rfl) ?_
  refine zj_iload o (zdd k_S_weigh 60 rfl) 4 rfl ?_
  refine zj_iadd o (zdd k_S_weigh 61 rfl) ?_
  refine zj_aload_n o (zdd k_S_weigh 62 rfl) rfl 0 rfl ?_
  refine zj_iload o (zdd k_S_weigh 63 rfl) 5 rfl ?_
  obtain ⟨q3, e_q3, h⟩ := zbd h
  refine zc_V o (zdd k_S_weigh 64 rfl) ml_S_72 mv_S_keyByWant ⟨rfl, by decide⟩ (zg_some e_q3).1 (by decide) [.int v5] [.int ((v2 * 10) + v4), .ref a2] rfl (Nat.le_of_ble_eq_true rfl) rfl (m_S_keyByWant e_q3) ?_
  change zPJ X 0 0 _ _ [.int q3.1, .int ((v2 * 10) + v4), .ref a2] _
  obtain ⟨σ4, e_σ4, h⟩ := zbd h
  refine zj_iast o (zdd k_S_weigh 65 rfl) e_σ4 ?_
  refine zj_iinc (v := v4 + 1) (loc' := [(4, .int (v4 + 1)), (0, .ref v0), (1, .ref v1), (2, .int v2), (3, .int v3), (5, .int v5)]) o (zdd k_S_weigh 66 rfl) 4 rfl (by rw [zki_1]) (by decide) rfl ?_
  refine zj_goto (tgt := 3) o (zdd k_S_weigh 67 rfl) (by decide) ?_
  exact zj_sub [1, 2, 3, 4, 0] rfl (hk3 h hr)
def f_S_weigh_21 (k3 : zSt → Nat → Nat → Int32 → Int32 → Int32 → Option (zSt)) (k21 : zSt → Nat → Nat → Int32 → Int32 → Int32 → Int32 → Int32 → Option (zSt)) (σ : zSt) (v0 : Nat) (v1 : Nat) (v2 : Int32) (v3 : Int32) (v4 : Int32) (v5 : Int32) (v6 : Int32) : Option (zSt) :=
(zgP σ 8 v0 0).bind fun a1 =>
(zgI σ 10 a1 0).bind fun x2 =>
if x2 ≤ v6 then (
f_S_weigh_93 k3 σ v0 v1 v2 v3 v4 v5) else
if v6 = v3 then (
(zgP σ 8 v0 0).bind fun a3 =>
(zgI σ 10 a3 5).bind fun x4 =>
f_S_weigh_50 k3 k21 σ v0 v1 v2 v3 v4 v5 v6 x4) else
f_S_weigh_50 k3 k21 σ v0 v1 v2 v3 v4 v5 v6 0
set_option maxRecDepth 100000 in
set_option maxHeartbeats 4000000 in
theorem r_S_weigh_21 {X : zCX} (o : zOK X "WantShelves$Shelves" c_S_weigh n_S_weigh 5) {k3 : zSt → Nat → Nat → Int32 → Int32 → Int32 → Option (zSt)} {k21 : zSt → Nat → Nat → Int32 → Int32 → Int32 → Int32 → Int32 → Option (zSt)} (hk3 : ∀ {σ : zSt} {v0 : Nat} {v1 : Nat} {v2 : Int32} {v3 : Int32} {v4 : Int32} {z : zSt}, k3 σ v0 v1 v2 v3 v4 = some z → zRX X 0 0 none z → zPJ X 0 0 3 [(0, .ref v0), (1, .ref v1), (2, .int v2), (3, .int v3), (4, .int v4)] [] σ) (hk21 : ∀ {σ : zSt} {v0 : Nat} {v1 : Nat} {v2 : Int32} {v3 : Int32} {v4 : Int32} {v5 : Int32} {v6 : Int32} {z : zSt}, k21 σ v0 v1 v2 v3 v4 v5 v6 = some z → zRX X 0 0 none z → zPJ X 0 0 21 [(0, .ref v0), (1, .ref v1), (2, .int v2), (3, .int v3), (4, .int v4), (5, .int v5), (6, .int v6)] [] σ) {σ : zSt} {v0 : Nat} {v1 : Nat} {v2 : Int32} {v3 : Int32} {v4 : Int32} {v5 : Int32} {v6 : Int32} {z : zSt} (h : f_S_weigh_21 k3 k21 σ v0 v1 v2 v3 v4 v5 v6 = some z) (hr : zRX X 0 0 none z) : zPJ X 0 0 21 [(0, .ref v0), (1, .ref v1), (2, .int v2), (3, .int v3), (4, .int v4), (5, .int v5), (6, .int v6)] [] σ := by
  unfold f_S_weigh_21 at h
  refine zj_iload o (zdd k_S_weigh 11 rfl) 6 rfl ?_
  refine zj_aload_n o (zdd k_S_weigh 12 rfl) rfl 0 rfl ?_
  obtain ⟨a1, e_a1, h⟩ := zbd h
  refine zj_gP o (zdd k_S_weigh 13 rfl) fl_S_26 rfl e_a1 ?_
  obtain ⟨x2, e_x2, h⟩ := zbd h
  refine zj_gI o (zdd k_S_weigh 14 rfl) fl_S_57 rfl e_x2 ?_
  refine zj_icmp_ge (tgt := 93) o (zdd k_S_weigh 15 rfl) (by decide) (fun hc => ?_) (fun hc => ?_)
  · rw [if_pos hc] at h
    exact zj_sub [0, 1, 2, 3, 4, 5] rfl (r_S_weigh_93 o hk3 h hr)
  · rw [if_neg hc] at h
    refine zj_iload o (zdd k_S_weigh 16 rfl) 6 rfl ?_
    refine zj_iload_n o (zdd k_S_weigh 17 rfl) rfl 3 rfl ?_
    refine zj_icmp_ne (tgt := 49) o (zdd k_S_weigh 18 rfl) (by decide) (fun hc => ?_) (fun hc => ?_)
    · rw [if_neg hc] at h
      refine zj_iconst o (zdd k_S_weigh 23 rfl) zki_0 ?_
      exact zj_sub [0, 1, 2, 3, 4, 5, 6] rfl (r_S_weigh_50 o hk3 hk21 h hr)
    · rw [if_pos hc] at h
      refine zj_aload_n o (zdd k_S_weigh 19 rfl) rfl 0 rfl ?_
      obtain ⟨a3, e_a3, h⟩ := zbd h
      refine zj_gP o (zdd k_S_weigh 20 rfl) fl_S_26 rfl e_a3 ?_
      obtain ⟨x4, e_x4, h⟩ := zbd h
      refine zj_gI o (zdd k_S_weigh 21 rfl) fl_S_60 rfl e_x4 ?_
      refine zj_goto (tgt := 50) o (zdd k_S_weigh 22 rfl) (by decide) ?_
      exact zj_sub [0, 1, 2, 3, 4, 5, 6] rfl (r_S_weigh_50 o hk3 hk21 h hr)
def f_S_weigh_21L (k3 : zSt → Nat → Nat → Int32 → Int32 → Int32 → Option (zSt)) : Nat → zSt → Nat → Nat → Int32 → Int32 → Int32 → Int32 → Int32 → Option (zSt)
  | 0 => fun _ _ _ _ _ _ _ _ => none
  | n + 1 => f_S_weigh_21  k3 (f_S_weigh_21L k3 n)
theorem r_S_weigh_21L {X : zCX} (o : zOK X "WantShelves$Shelves" c_S_weigh n_S_weigh 5) {k3 : zSt → Nat → Nat → Int32 → Int32 → Int32 → Option (zSt)} (hk3 : ∀ {σ : zSt} {v0 : Nat} {v1 : Nat} {v2 : Int32} {v3 : Int32} {v4 : Int32} {z : zSt}, k3 σ v0 v1 v2 v3 v4 = some z → zRX X 0 0 none z → zPJ X 0 0 3 [(0, .ref v0), (1, .ref v1), (2, .int v2), (3, .int v3), (4, .int v4)] [] σ) : ∀ (n : Nat) {σ : zSt} {v0 : Nat} {v1 : Nat} {v2 : Int32} {v3 : Int32} {v4 : Int32} {v5 : Int32} {v6 : Int32} {z : zSt}, f_S_weigh_21L k3 n σ v0 v1 v2 v3 v4 v5 v6 = some z → zRX X 0 0 none z → zPJ X 0 0 21 [(0, .ref v0), (1, .ref v1), (2, .int v2), (3, .int v3), (4, .int v4), (5, .int v5), (6, .int v6)] [] σ
  | 0 => fun h _ => by cases h
  | n + 1 => fun h hr => r_S_weigh_21 o hk3 (r_S_weigh_21L o hk3 n) h hr
def f_S_weigh_3 (k3 : zSt → Nat → Nat → Int32 → Int32 → Int32 → Option (zSt)) (σ : zSt) (v0 : Nat) (v1 : Nat) (v2 : Int32) (v3 : Int32) (v4 : Int32) : Option (zSt) :=
(zgP σ 8 v0 0).bind fun a1 =>
(zgI σ 10 a1 1).bind fun x2 =>
if x2 ≤ v4 then (
some σ) else
f_S_weigh_21L k3 zfu σ v0 v1 v2 v3 v4 0 0
set_option maxRecDepth 100000 in
set_option maxHeartbeats 4000000 in
theorem r_S_weigh_3 {X : zCX} (o : zOK X "WantShelves$Shelves" c_S_weigh n_S_weigh 5) {k3 : zSt → Nat → Nat → Int32 → Int32 → Int32 → Option (zSt)} (hk3 : ∀ {σ : zSt} {v0 : Nat} {v1 : Nat} {v2 : Int32} {v3 : Int32} {v4 : Int32} {z : zSt}, k3 σ v0 v1 v2 v3 v4 = some z → zRX X 0 0 none z → zPJ X 0 0 3 [(0, .ref v0), (1, .ref v1), (2, .int v2), (3, .int v3), (4, .int v4)] [] σ) {σ : zSt} {v0 : Nat} {v1 : Nat} {v2 : Int32} {v3 : Int32} {v4 : Int32} {z : zSt} (h : f_S_weigh_3 k3 σ v0 v1 v2 v3 v4 = some z) (hr : zRX X 0 0 none z) : zPJ X 0 0 3 [(0, .ref v0), (1, .ref v1), (2, .int v2), (3, .int v3), (4, .int v4)] [] σ := by
  unfold f_S_weigh_3 at h
  refine zj_iload o (zdd k_S_weigh 2 rfl) 4 rfl ?_
  refine zj_aload_n o (zdd k_S_weigh 3 rfl) rfl 0 rfl ?_
  obtain ⟨a1, e_a1, h⟩ := zbd h
  refine zj_gP o (zdd k_S_weigh 4 rfl) fl_S_26 rfl e_a1 ?_
  obtain ⟨x2, e_x2, h⟩ := zbd h
  refine zj_gI o (zdd k_S_weigh 5 rfl) fl_S_30 rfl e_x2 ?_
  refine zj_icmp_ge (tgt := 125) o (zdd k_S_weigh 6 rfl) (by decide) (fun hc => ?_) (fun hc => ?_)
  · rw [if_pos hc] at h
    cases h
    exact zr_v o hr (zdd k_S_weigh 68 rfl)
  · rw [if_neg hc] at h
    refine zj_iconst o (zdd k_S_weigh 7 rfl) zki_0 ?_
    refine zj_istore (loc' := [(5, .int 0), (0, .ref v0), (1, .ref v1), (2, .int v2), (3, .int v3), (4, .int v4)]) o (zdd k_S_weigh 8 rfl) (by decide) rfl ?_
    refine zj_iconst o (zdd k_S_weigh 9 rfl) zki_0 ?_
    refine zj_istore (loc' := [(6, .int 0), (5, .int 0), (0, .ref v0), (1, .ref v1), (2, .int v2), (3, .int v3), (4, .int v4)]) o (zdd k_S_weigh 10 rfl) (by decide) rfl ?_
    exact zj_sub [2, 3, 4, 5, 6, 1, 0] rfl (r_S_weigh_21L o hk3 zfu h hr)
def f_S_weigh_3L : Nat → zSt → Nat → Nat → Int32 → Int32 → Int32 → Option (zSt)
  | 0 => fun _ _ _ _ _ _ => none
  | n + 1 => f_S_weigh_3  (f_S_weigh_3L  n)
theorem r_S_weigh_3L {X : zCX} (o : zOK X "WantShelves$Shelves" c_S_weigh n_S_weigh 5) : ∀ (n : Nat) {σ : zSt} {v0 : Nat} {v1 : Nat} {v2 : Int32} {v3 : Int32} {v4 : Int32} {z : zSt}, f_S_weigh_3L n σ v0 v1 v2 v3 v4 = some z → zRX X 0 0 none z → zPJ X 0 0 3 [(0, .ref v0), (1, .ref v1), (2, .int v2), (3, .int v3), (4, .int v4)] [] σ
  | 0 => fun h _ => by cases h
  | n + 1 => fun h hr => r_S_weigh_3 o (r_S_weigh_3L o  n) h hr
def f_S_weigh (σ : zSt) (t : Nat) (p0 : Nat) (p1 : Int32) (p2 : Int32) : Option (zSt) :=
zg σ 8 t (
f_S_weigh_3L zfu σ t p0 p1 p2 0)
set_option maxRecDepth 100000 in
set_option maxHeartbeats 4000000 in
theorem m_S_weigh {l : Launch} {b : Nat} {ex : Nat → Value} {D : va_G} {ca : Nat → ClassId} {σ : zSt} {t : Nat} {p0 : Nat} {p1 : Int32} {p2 : Int32} {z : zSt} (h : f_S_weigh σ t p0 p1 p2 = some z) : zMT l b ex D ca 5 y_S_weigh c_S_weigh n_S_weigh r_ret_S_weigh [.ref t, .ref p0, .int p1, .int p2] σ none z 0 0 := by
  obtain ⟨_, hg0⟩ := zg_some h
  have h := hg0
  refine zmt_of (by decide) (Nat.le_of_ble_eq_true rfl) rfl (fun X o hin hrm _ _ _ _ _ hr => ?_)
  have hr := hr 0 0 (by decide) (by decide)
  have o : zOK X "WantShelves$Shelves" c_S_weigh n_S_weigh 5 := o
  change zPJ X 0 0 0 [(0, .ref t), (1, .ref p0), (2, .int p1), (3, .int p2)] [] σ
  refine zj_iconst o (zdd k_S_weigh 0 rfl) zki_0 ?_
  refine zj_istore (loc' := [(4, .int 0), (0, .ref t), (1, .ref p0), (2, .int p1), (3, .int p2)]) o (zdd k_S_weigh 1 rfl) (by decide) rfl ?_
  exact zj_sub [1, 2, 3, 4, 0] rfl (r_S_weigh_3L o  zfu h hr)
def f_S_init (σ : zSt) (t : Nat) (p0 : Nat) : Option (zSt) :=
zg σ 8 t (
(some (znew σ (1, 60))).bind fun (σ1 : zSt) =>
(some σ.1.length).bind fun (a2 : Nat) =>
(zsP σ1 8 t 3 a2).bind fun σ3 =>
(some (znew σ3 (1, 10))).bind fun (σ4 : zSt) =>
(some σ3.1.length).bind fun (a5 : Nat) =>
(zsP σ4 8 t 4 a5).bind fun σ6 =>
(some (znew σ6 (1, 10))).bind fun (σ7 : zSt) =>
(some σ6.1.length).bind fun (a8 : Nat) =>
(zsP σ7 8 t 5 a8).bind fun σ9 =>
(some (znew σ9 (1, 6))).bind fun (σ10 : zSt) =>
(some σ9.1.length).bind fun (a11 : Nat) =>
(zsP σ10 8 t 6 a11).bind fun σ12 =>
(zsP σ12 8 t 0 p0).bind fun σ13 =>
some σ13)
set_option maxRecDepth 100000 in
set_option maxHeartbeats 4000000 in
theorem m_S_init {l : Launch} {b : Nat} {ex : Nat → Value} {D : va_G} {ca : Nat → ClassId} {σ : zSt} {t : Nat} {p0 : Nat} {z : zSt} (h : f_S_init σ t p0 = some z) : zMT l b ex D ca 1 y_S_init c_S_init n_S_init r_ret_S_init [.ref t, .ref p0] σ none z 4 86 := by
  obtain ⟨_, hg0⟩ := zg_some h
  have h := hg0
  refine zmt_of (by decide) (Nat.le_of_ble_eq_true rfl) rfl (fun X o hin hrm _ _ _ _ _ hr => ?_)
  have hin := hin rfl
  have hr := hr 4 86 (by decide) (by decide)
  have o : zOK X "WantShelves$Shelves" c_S_init n_S_init 1 := o
  change zPJ X 0 0 0 [(0, .ref t), (1, .ref p0)] [] σ
  refine zj_aload_n o (zdd k_S_init 0 rfl) rfl 0 rfl ?_
  refine zj_objInit o (zdd k_S_init 1 rfl) ml_S_3 ob_im ob_code (by decide) (Nat.le_of_ble_eq_true rfl) ?_
  refine zj_aload_n o (zdd k_S_init 2 rfl) rfl 0 rfl ?_
  refine zj_bipush o (zdd k_S_init 3 rfl) zkb_60 ?_
  obtain ⟨σ1, e_σ1, h⟩ := zbd h
  refine zj_newa_int (N := 60) (mc := 4) (ms := 86) o (zdd k_S_init 4 rfl) ac_int (by decide) (by decide) (by decide) hrm (by decide) (by decide) ?_
  rw [Option.some.inj e_σ1]
  change zPJ X 1 60 _ _ _ _
  obtain ⟨a2, e_a2, h⟩ := zbd h
  rw [Option.some.inj e_a2]
  obtain ⟨σ3, e_σ3, h⟩ := zbd h
  refine zj_fP o (zdd k_S_init 5 rfl) fl_S_9 (Or.inr ⟨_, rfl⟩) hin rfl rfl e_σ3 ?_
  refine zj_aload_n o (zdd k_S_init 6 rfl) rfl 0 rfl ?_
  refine zj_bipush o (zdd k_S_init 7 rfl) zkb_10 ?_
  obtain ⟨σ4, e_σ4, h⟩ := zbd h
  refine zj_newa_int (N := 10) (mc := 4) (ms := 86) o (zdd k_S_init 8 rfl) ac_int (by decide) (by decide) (by decide) hrm (by decide) (by decide) ?_
  rw [Option.some.inj e_σ4]
  change zPJ X 2 70 _ _ _ _
  obtain ⟨a5, e_a5, h⟩ := zbd h
  rw [Option.some.inj e_a5]
  obtain ⟨σ6, e_σ6, h⟩ := zbd h
  refine zj_fP o (zdd k_S_init 9 rfl) fl_S_15 (Or.inr ⟨_, rfl⟩) hin rfl rfl e_σ6 ?_
  refine zj_aload_n o (zdd k_S_init 10 rfl) rfl 0 rfl ?_
  refine zj_bipush o (zdd k_S_init 11 rfl) zkb_10 ?_
  obtain ⟨σ7, e_σ7, h⟩ := zbd h
  refine zj_newa_int (N := 10) (mc := 4) (ms := 86) o (zdd k_S_init 12 rfl) ac_int (by decide) (by decide) (by decide) hrm (by decide) (by decide) ?_
  rw [Option.some.inj e_σ7]
  change zPJ X 3 80 _ _ _ _
  obtain ⟨a8, e_a8, h⟩ := zbd h
  rw [Option.some.inj e_a8]
  obtain ⟨σ9, e_σ9, h⟩ := zbd h
  refine zj_fP o (zdd k_S_init 13 rfl) fl_S_18 (Or.inr ⟨_, rfl⟩) hin rfl rfl e_σ9 ?_
  refine zj_aload_n o (zdd k_S_init 14 rfl) rfl 0 rfl ?_
  refine zj_bipush o (zdd k_S_init 15 rfl) zkb_6 ?_
  obtain ⟨σ10, e_σ10, h⟩ := zbd h
  refine zj_newa_int (N := 6) (mc := 4) (ms := 86) o (zdd k_S_init 16 rfl) ac_int (by decide) (by decide) (by decide) hrm (by decide) (by decide) ?_
  rw [Option.some.inj e_σ10]
  change zPJ X 4 86 _ _ _ _
  obtain ⟨a11, e_a11, h⟩ := zbd h
  rw [Option.some.inj e_a11]
  obtain ⟨σ12, e_σ12, h⟩ := zbd h
  refine zj_fP o (zdd k_S_init 17 rfl) fl_S_23 (Or.inr ⟨_, rfl⟩) hin rfl rfl e_σ12 ?_
  refine zj_aload_n o (zdd k_S_init 18 rfl) rfl 0 rfl ?_
  refine zj_aload_n o (zdd k_S_init 19 rfl) rfl 1 rfl ?_
  obtain ⟨σ13, e_σ13, h⟩ := zbd h
  refine zj_pP o (zdd k_S_init 20 rfl) fl_S_26 (Or.inl ⟨_, rfl⟩) rfl e_σ13 ?_
  cases h
  exact zr_v o hr (zdd k_S_init 21 rfl)
def f_S_open_34 (k34 : zSt → Nat → Nat → Int32 → Option (zSt)) (σ : zSt) (v0 : Nat) (v2 : Nat) (v3 : Int32) : Option (zSt) :=
(zgP σ 8 v0 0).bind fun a1 =>
(zgI σ 10 a1 2).bind fun x2 =>
if x2 ≤ v3 then (
some σ) else
(zgP σ 4 v2 1).bind fun a3 =>
(zaI σ 1 a3 v3).bind fun x4 =>
(f_S_weigh σ v0 v2 v3 x4).bind fun σ5 =>
k34 σ5 v0 v2 (v3 + 1)
set_option maxRecDepth 100000 in
set_option maxHeartbeats 4000000 in
theorem r_S_open_34 {X : zCX} (o : zOK X "WantShelves$Shelves" c_S_open n_S_open 6) {k34 : zSt → Nat → Nat → Int32 → Option (zSt)} (hk34 : ∀ {σ : zSt} {v0 : Nat} {v2 : Nat} {v3 : Int32} {z : zSt}, k34 σ v0 v2 v3 = some z → zRX X 0 0 none z → zPJ X 0 0 34 [(0, .ref v0), (2, .ref v2), (3, .int v3)] [] σ) {σ : zSt} {v0 : Nat} {v2 : Nat} {v3 : Int32} {z : zSt} (h : f_S_open_34 k34 σ v0 v2 v3 = some z) (hr : zRX X 0 0 none z) : zPJ X 0 0 34 [(0, .ref v0), (2, .ref v2), (3, .int v3)] [] σ := by
  unfold f_S_open_34 at h
  refine zj_iload_n o (zdd k_S_open 22 rfl) rfl 2 rfl ?_
  refine zj_aload_n o (zdd k_S_open 23 rfl) rfl 0 rfl ?_
  obtain ⟨a1, e_a1, h⟩ := zbd h
  refine zj_gP o (zdd k_S_open 24 rfl) fl_S_26 rfl e_a1 ?_
  obtain ⟨x2, e_x2, h⟩ := zbd h
  refine zj_gI o (zdd k_S_open 25 rfl) fl_S_47 rfl e_x2 ?_
  refine zj_icmp_ge (tgt := 63) o (zdd k_S_open 26 rfl) (by decide) (fun hc => ?_) (fun hc => ?_)
  · rw [if_pos hc] at h
    cases h
    exact zr_v o hr (zdd k_S_open 37 rfl)
  · rw [if_neg hc] at h
    refine zj_aload_n o (zdd k_S_open 27 rfl) rfl 0 rfl ?_
    refine zj_aload_n o (zdd k_S_open 28 rfl) rfl 1 rfl ?_
    refine zj_iload_n o (zdd k_S_open 29 rfl) rfl 2 rfl ?_
    refine zj_aload_n o (zdd k_S_open 30 rfl) rfl 1 rfl ?_
    obtain ⟨a3, e_a3, h⟩ := zbd h
    refine zj_gP o (zdd k_S_open 31 rfl) fl_S_50 rfl e_a3 ?_
    refine zj_iload_n o (zdd k_S_open 32 rfl) rfl 2 rfl ?_
    obtain ⟨x4, e_x4, h⟩ := zbd h
    refine zj_iald o (zdd k_S_open 33 rfl) e_x4 ?_
    obtain ⟨σ5, e_σ5, h⟩ := zbd h
    refine zc_V o (zdd k_S_open 34 rfl) ml_S_53 mv_S_weigh ⟨rfl, by decide⟩ (zg_some e_σ5).1 (by decide) [.ref v2, .int v3, .int x4] [] rfl (Nat.le_of_ble_eq_true rfl) rfl (m_S_weigh e_σ5) ?_
    change zPJ X 0 0 _ _ [] _
    refine zj_iinc (v := v3 + 1) (loc' := [(3, .int (v3 + 1)), (0, .ref v0), (2, .ref v2)]) o (zdd k_S_open 35 rfl) 2 rfl (by rw [zki_1]) (by decide) rfl ?_
    refine zj_goto (tgt := 34) o (zdd k_S_open 36 rfl) (by decide) ?_
    exact zj_sub [1, 2, 0] rfl (hk34 h hr)
def f_S_open_34L : Nat → zSt → Nat → Nat → Int32 → Option (zSt)
  | 0 => fun _ _ _ _ => none
  | n + 1 => f_S_open_34  (f_S_open_34L  n)
theorem r_S_open_34L {X : zCX} (o : zOK X "WantShelves$Shelves" c_S_open n_S_open 6) : ∀ (n : Nat) {σ : zSt} {v0 : Nat} {v2 : Nat} {v3 : Int32} {z : zSt}, f_S_open_34L n σ v0 v2 v3 = some z → zRX X 0 0 none z → zPJ X 0 0 34 [(0, .ref v0), (2, .ref v2), (3, .int v3)] [] σ
  | 0 => fun h _ => by cases h
  | n + 1 => fun h hr => r_S_open_34 o (r_S_open_34L o  n) h hr
def f_S_open (σ : zSt) (t : Nat) (p0 : Nat) (p1 : Nat) : Option (zSt) :=
zg σ 8 t (
(zsP σ 8 t 0 p0).bind fun σ1 =>
(zgP σ1 8 t 0).bind fun a2 =>
(zgI σ1 10 a2 1).bind fun x3 =>
(zgI σ1 4 p1 4).bind fun x4 =>
(zsI σ1 8 t 1 (((1 <<< (x3 &&& 31)) - 1) &&& (x4 ^^^ (-1)))).bind fun σ5 =>
(zsI σ5 8 t 2 0).bind fun σ6 =>
f_S_open_34L zfu σ6 t p1 0)
set_option maxRecDepth 100000 in
set_option maxHeartbeats 4000000 in
theorem m_S_open {l : Launch} {b : Nat} {ex : Nat → Value} {D : va_G} {ca : Nat → ClassId} {σ : zSt} {t : Nat} {p0 : Nat} {p1 : Nat} {z : zSt} (h : f_S_open σ t p0 p1 = some z) : zMT l b ex D ca 6 y_S_open c_S_open n_S_open r_ret_S_open [.ref t, .ref p0, .ref p1] σ none z 0 0 := by
  obtain ⟨_, hg0⟩ := zg_some h
  have h := hg0
  refine zmt_of (by decide) (Nat.le_of_ble_eq_true rfl) rfl (fun X o hin hrm _ _ _ _ _ hr => ?_)
  have hr := hr 0 0 (by decide) (by decide)
  have o : zOK X "WantShelves$Shelves" c_S_open n_S_open 6 := o
  change zPJ X 0 0 0 [(0, .ref t), (1, .ref p0), (2, .ref p1)] [] σ
  refine zj_aload_n o (zdd k_S_open 0 rfl) rfl 0 rfl ?_
  refine zj_aload_n o (zdd k_S_open 1 rfl) rfl 1 rfl ?_
  obtain ⟨σ1, e_σ1, h⟩ := zbd h
  refine zj_pP o (zdd k_S_open 2 rfl) fl_S_26 (Or.inl ⟨_, rfl⟩) rfl e_σ1 ?_
  refine zj_aload_n o (zdd k_S_open 3 rfl) rfl 0 rfl ?_
  refine zj_iconst o (zdd k_S_open 4 rfl) zki_1 ?_
  refine zj_aload_n o (zdd k_S_open 5 rfl) rfl 0 rfl ?_
  obtain ⟨a2, e_a2, h⟩ := zbd h
  refine zj_gP o (zdd k_S_open 6 rfl) fl_S_26 rfl e_a2 ?_
  obtain ⟨x3, e_x3, h⟩ := zbd h
  refine zj_gI o (zdd k_S_open 7 rfl) fl_S_30 rfl e_x3 ?_
  refine zj_ishl o (zdd k_S_open 8 rfl) ?_
  refine zj_iconst o (zdd k_S_open 9 rfl) zki_1 ?_
  refine zj_isub o (zdd k_S_open 10 rfl) ?_
  refine zj_aload_n o (zdd k_S_open 11 rfl) rfl 2 rfl ?_
  obtain ⟨x4, e_x4, h⟩ := zbd h
  refine zj_gI o (zdd k_S_open 12 rfl) fl_S_36 rfl e_x4 ?_
  refine zj_iconst o (zdd k_S_open 13 rfl) zki_m1 ?_
  refine zj_ixor o (zdd k_S_open 14 rfl) ?_
  refine zj_iand o (zdd k_S_open 15 rfl) ?_
  obtain ⟨σ5, e_σ5, h⟩ := zbd h
  refine zj_pI o (zdd k_S_open 16 rfl) fl_S_41 rfl rfl e_σ5 ?_
  refine zj_aload_n o (zdd k_S_open 17 rfl) rfl 0 rfl ?_
  refine zj_iconst o (zdd k_S_open 18 rfl) zki_0 ?_
  obtain ⟨σ6, e_σ6, h⟩ := zbd h
  refine zj_pI o (zdd k_S_open 19 rfl) fl_S_44 rfl rfl e_σ6 ?_
  refine zj_iconst o (zdd k_S_open 20 rfl) zki_0 ?_
  refine zj_istore_n (loc' := [(3, .int 0), (0, .ref t), (1, .ref p0), (2, .ref p1)]) o (zdd k_S_open 21 rfl) rfl (by decide) rfl ?_
  exact zj_sub [1, 3, 0] rfl (r_S_open_34L o  zfu h hr)
def f_S_isAhead (σ : zSt) (t : Nat) (p0 : Int32) (p1 : Int32) (p2 : Int32) : Option (Int32) :=
zg σ 8 t (
((f_S_keyFor σ t p0 p1).bind fun x1 =>
(f_S_keyFor σ t p0 p2).bind fun x2 =>
(f_S_comesAhead x1 p1 x2 p2).bind fun x3 =>
some x3).bind zbool)
set_option maxRecDepth 100000 in
set_option maxHeartbeats 4000000 in
theorem m_S_isAhead {l : Launch} {b : Nat} {ex : Nat → Value} {D : va_G} {ca : Nat → ClassId} {σ : zSt} {t : Nat} {p0 : Int32} {p1 : Int32} {p2 : Int32} {z : Int32} (h : f_S_isAhead σ t p0 p1 p2 = some z) : zMT l b ex D ca 2 y_S_isAhead c_S_isAhead n_S_isAhead r_ret_S_isAhead [.ref t, .int p0, .int p1, .int p2] σ (some (.int z)) σ 0 0 := by
  obtain ⟨_, hg0⟩ := zg_some h
  obtain ⟨z0, hbd, hz⟩ := zbd hg0
  obtain ⟨hzb, rfl⟩ := zbool_some hz
  have h := hbd
  refine zmt_of (by decide) (Nat.le_of_ble_eq_true rfl) ⟨.boolean, rfl, zb_nar hzb⟩ (fun X o hin hrm _ _ _ _ _ hr => ?_)
  have hr := hr 0 0 (by decide) (by decide)
  have o : zOK X "WantShelves$Shelves" c_S_isAhead n_S_isAhead 2 := o
  change zPJ X 0 0 0 [(0, .ref t), (1, .int p0), (2, .int p1), (3, .int p2)] [] σ
  refine zj_aload_n o (zdd k_S_isAhead 0 rfl) rfl 0 rfl ?_
  refine zj_iload_n o (zdd k_S_isAhead 1 rfl) rfl 1 rfl ?_
  refine zj_iload_n o (zdd k_S_isAhead 2 rfl) rfl 2 rfl ?_
  obtain ⟨x1, e_x1, h⟩ := zbd h
  refine zc_V o (zdd k_S_isAhead 3 rfl) ml_S_96 mv_S_keyFor ⟨rfl, by decide⟩ (zg_some e_x1).1 (by decide) [.int p0, .int p1] [] rfl (Nat.le_of_ble_eq_true rfl) rfl (m_S_keyFor e_x1) ?_
  change zPJ X 0 0 _ _ [.int x1] _
  refine zj_iload_n o (zdd k_S_isAhead 4 rfl) rfl 2 rfl ?_
  refine zj_aload_n o (zdd k_S_isAhead 5 rfl) rfl 0 rfl ?_
  refine zj_iload_n o (zdd k_S_isAhead 6 rfl) rfl 1 rfl ?_
  refine zj_iload_n o (zdd k_S_isAhead 7 rfl) rfl 3 rfl ?_
  obtain ⟨x2, e_x2, h⟩ := zbd h
  refine zc_V o (zdd k_S_isAhead 8 rfl) ml_S_96 mv_S_keyFor ⟨rfl, by decide⟩ (zg_some e_x2).1 (by decide) [.int p0, .int p2] [.int p1, .int x1] rfl (Nat.le_of_ble_eq_true rfl) rfl (m_S_keyFor e_x2) ?_
  change zPJ X 0 0 _ _ [.int x2, .int p1, .int x1] _
  refine zj_iload_n o (zdd k_S_isAhead 9 rfl) rfl 3 rfl ?_
  obtain ⟨x3, e_x3, h⟩ := zbd h
  refine zc_S o (zdd k_S_isAhead 10 rfl) ml_S_100 ms_S_comesAhead (by decide) [.int x1, .int p1, .int x2, .int p2] [] rfl (Nat.le_of_ble_eq_true rfl) rfl (m_S_comesAhead e_x3) ?_
  change zPJ X 0 0 _ _ [.int x3] _
  cases h
  exact zr_i o hr (zdd k_S_isAhead 11 rfl)
def f_S_firstOf (σ : zSt) (t : Nat) (p0 : Int32) : Option (Int32) :=
zg σ 8 t (
(zgI σ 8 t 1).bind fun x1 =>
(f_S_firstAmong σ t p0 x1).bind fun x2 =>
some x2)
set_option maxRecDepth 100000 in
set_option maxHeartbeats 4000000 in
theorem m_S_firstOf {l : Launch} {b : Nat} {ex : Nat → Value} {D : va_G} {ca : Nat → ClassId} {σ : zSt} {t : Nat} {p0 : Int32} {z : Int32} (h : f_S_firstOf σ t p0 = some z) : zMT l b ex D ca 3 y_S_firstOf c_S_firstOf n_S_firstOf r_ret_S_firstOf [.ref t, .int p0] σ (some (.int z)) σ 0 0 := by
  obtain ⟨_, hg0⟩ := zg_some h
  have h := hg0
  refine zmt_of (by decide) (Nat.le_of_ble_eq_true rfl) ⟨.int, rfl, rfl⟩ (fun X o hin hrm _ _ _ _ _ hr => ?_)
  have hr := hr 0 0 (by decide) (by decide)
  have o : zOK X "WantShelves$Shelves" c_S_firstOf n_S_firstOf 3 := o
  change zPJ X 0 0 0 [(0, .ref t), (1, .int p0)] [] σ
  refine zj_aload_n o (zdd k_S_firstOf 0 rfl) rfl 0 rfl ?_
  refine zj_iload_n o (zdd k_S_firstOf 1 rfl) rfl 1 rfl ?_
  refine zj_aload_n o (zdd k_S_firstOf 2 rfl) rfl 0 rfl ?_
  obtain ⟨x1, e_x1, h⟩ := zbd h
  refine zj_gI o (zdd k_S_firstOf 3 rfl) fl_S_41 rfl e_x1 ?_
  obtain ⟨x2, e_x2, h⟩ := zbd h
  refine zc_V o (zdd k_S_firstOf 4 rfl) ml_S_104 mv_S_firstAmong ⟨rfl, by decide⟩ (zg_some e_x2).1 (by decide) [.int p0, .int x1] [] rfl (Nat.le_of_ble_eq_true rfl) rfl (m_S_firstAmong e_x2) ?_
  change zPJ X 0 0 _ _ [.int x2] _
  cases h
  exact zr_i o hr (zdd k_S_firstOf 5 rfl)
def f_S_layByOdds_56 (σ : zSt) (v0 : Nat) : Option (zSt) :=
(f_S_layTogether σ v0).bind fun σ1 =>
some σ1
set_option maxRecDepth 100000 in
set_option maxHeartbeats 4000000 in
theorem r_S_layByOdds_56 {X : zCX} (o : zOK X "WantShelves$Shelves" c_S_layByOdds n_S_layByOdds 4) {σ : zSt} {v0 : Nat} {z : zSt} (h : f_S_layByOdds_56 σ v0 = some z) (hr : zRX X 0 0 none z) : zPJ X 0 0 56 [(0, .ref v0)] [] σ := by
  unfold f_S_layByOdds_56 at h
  refine zj_aload_n o (zdd k_S_layByOdds 32 rfl) rfl 0 rfl ?_
  obtain ⟨σ1, e_σ1, h⟩ := zbd h
  refine zc_V o (zdd k_S_layByOdds 33 rfl) ml_S_123 mv_S_layTogether ⟨rfl, by decide⟩ (zg_some e_σ1).1 (by decide) [] [] rfl (Nat.le_of_ble_eq_true rfl) rfl (m_S_layTogether e_σ1) ?_
  change zPJ X 0 0 _ _ [] _
  cases h
  exact zr_v o hr (zdd k_S_layByOdds 34 rfl)
def f_S_layByOdds_10 (k10 : zSt → Nat → Int32 → Option (zSt)) (σ : zSt) (v0 : Nat) (v1 : Int32) : Option (zSt) :=
(zgP σ 8 v0 0).bind fun a1 =>
(zgI σ 10 a1 2).bind fun x2 =>
if x2 ≤ v1 then (
f_S_layByOdds_56 σ v0) else
(f_S_firstOf σ v0 v1).bind fun x3 =>
if x3 = (-1) then (
k10 σ v0 (v1 + 1)) else
(zgP σ 8 v0 4).bind fun a4 =>
(zaI σ 1 a4 x3).bind fun x5 =>
(zgP σ 8 v0 0).bind fun a6 =>
(zgP σ 10 a6 10).bind fun a7 =>
(zaI σ 1 a7 v1).bind fun x8 =>
(zwI σ 1 a4 x3 (x5 + x8)).bind fun σ9 =>
k10 σ9 v0 (v1 + 1)
set_option maxRecDepth 100000 in
set_option maxHeartbeats 4000000 in
theorem r_S_layByOdds_10 {X : zCX} (o : zOK X "WantShelves$Shelves" c_S_layByOdds n_S_layByOdds 4) {k10 : zSt → Nat → Int32 → Option (zSt)} (hk10 : ∀ {σ : zSt} {v0 : Nat} {v1 : Int32} {z : zSt}, k10 σ v0 v1 = some z → zRX X 0 0 none z → zPJ X 0 0 10 [(0, .ref v0), (1, .int v1)] [] σ) {σ : zSt} {v0 : Nat} {v1 : Int32} {z : zSt} (h : f_S_layByOdds_10 k10 σ v0 v1 = some z) (hr : zRX X 0 0 none z) : zPJ X 0 0 10 [(0, .ref v0), (1, .int v1)] [] σ := by
  unfold f_S_layByOdds_10 at h
  refine zj_iload_n o (zdd k_S_layByOdds 6 rfl) rfl 1 rfl ?_
  refine zj_aload_n o (zdd k_S_layByOdds 7 rfl) rfl 0 rfl ?_
  obtain ⟨a1, e_a1, h⟩ := zbd h
  refine zj_gP o (zdd k_S_layByOdds 8 rfl) fl_S_26 rfl e_a1 ?_
  obtain ⟨x2, e_x2, h⟩ := zbd h
  refine zj_gI o (zdd k_S_layByOdds 9 rfl) fl_S_47 rfl e_x2 ?_
  refine zj_icmp_ge (tgt := 56) o (zdd k_S_layByOdds 10 rfl) (by decide) (fun hc => ?_) (fun hc => ?_)
  · rw [if_pos hc] at h
    exact zj_sub [0] rfl (r_S_layByOdds_56 o  h hr)
  · rw [if_neg hc] at h
    refine zj_aload_n o (zdd k_S_layByOdds 11 rfl) rfl 0 rfl ?_
    refine zj_iload_n o (zdd k_S_layByOdds 12 rfl) rfl 1 rfl ?_
    obtain ⟨x3, e_x3, h⟩ := zbd h
    refine zc_V o (zdd k_S_layByOdds 13 rfl) ml_S_132 mv_S_firstOf ⟨rfl, by decide⟩ (zg_some e_x3).1 (by decide) [.int v1] [] rfl (Nat.le_of_ble_eq_true rfl) rfl (m_S_firstOf e_x3) ?_
    change zPJ X 0 0 _ _ [.int x3] _
    refine zj_istore_n (loc' := [(2, .int x3), (0, .ref v0), (1, .int v1)]) o (zdd k_S_layByOdds 14 rfl) rfl (by decide) rfl ?_
    refine zj_iload_n o (zdd k_S_layByOdds 15 rfl) rfl 0 rfl ?_
    refine zj_iconst o (zdd k_S_layByOdds 16 rfl) zki_m1 ?_
    refine zj_icmp_eq (tgt := 50) o (zdd k_S_layByOdds 17 rfl) (by decide) (fun hc => ?_) (fun hc => ?_)
    · rw [if_pos hc] at h
      refine zj_iinc (v := v1 + 1) (loc' := [(1, .int (v1 + 1)), (2, .int x3), (0, .ref v0)]) o (zdd k_S_layByOdds 30 rfl) 2 rfl (by rw [zki_1]) (by decide) rfl ?_
      refine zj_goto (tgt := 10) o (zdd k_S_layByOdds 31 rfl) (by decide) ?_
      exact zj_sub [2, 0] rfl (hk10 h hr)
    · rw [if_neg hc] at h
      refine zj_aload_n o (zdd k_S_layByOdds 18 rfl) rfl 1 rfl ?_
      obtain ⟨a4, e_a4, h⟩ := zbd h
      refine zj_gP o (zdd k_S_layByOdds 19 rfl) fl_S_15 rfl e_a4 ?_
      refine zj_iload_n o (zdd k_S_layByOdds 20 rfl) rfl 0 rfl ?_
      refine zj_dup2 o (zdd k_S_layByOdds 21 rfl) rfl rfl ?_
      obtain ⟨x5, e_x5, h⟩ := zbd h
      refine zj_iald o (zdd k_S_layByOdds 22 rfl) e_x5 ?_
      refine zj_aload_n o (zdd k_S_layByOdds 23 rfl) rfl 1 rfl ?_
      obtain ⟨a6, e_a6, h⟩ := zbd h
      refine zj_gP o (zdd k_S_layByOdds 24 rfl) fl_S_26 rfl e_a6 ?_
      obtain ⟨a7, e_a7, h⟩ := zbd h
      refine zj_gP o (zdd k_S_layByOdds 25 rfl) fl_S_135 rfl e_a7 ?_
      refine zj_iload_n o (zdd k_S_layByOdds 26 rfl) rfl 2 rfl ?_
      obtain ⟨x8, e_x8, h⟩ := zbd h
      refine zj_iald o (zdd k_S_layByOdds 27 rfl) e_x8 ?_
      refine zj_iadd o (zdd k_S_layByOdds 28 rfl) ?_
      obtain ⟨σ9, e_σ9, h⟩ := zbd h
      refine zj_iast o (zdd k_S_layByOdds 29 rfl) e_σ9 ?_
      refine zj_iinc (v := v1 + 1) (loc' := [(1, .int (v1 + 1)), (2, .int x3), (0, .ref v0)]) o (zdd k_S_layByOdds 30 rfl) 2 rfl (by rw [zki_1]) (by decide) rfl ?_
      refine zj_goto (tgt := 10) o (zdd k_S_layByOdds 31 rfl) (by decide) ?_
      exact zj_sub [2, 0] rfl (hk10 h hr)
def f_S_layByOdds_10L : Nat → zSt → Nat → Int32 → Option (zSt)
  | 0 => fun _ _ _ => none
  | n + 1 => f_S_layByOdds_10  (f_S_layByOdds_10L  n)
theorem r_S_layByOdds_10L {X : zCX} (o : zOK X "WantShelves$Shelves" c_S_layByOdds n_S_layByOdds 4) : ∀ (n : Nat) {σ : zSt} {v0 : Nat} {v1 : Int32} {z : zSt}, f_S_layByOdds_10L n σ v0 v1 = some z → zRX X 0 0 none z → zPJ X 0 0 10 [(0, .ref v0), (1, .int v1)] [] σ
  | 0 => fun h _ => by cases h
  | n + 1 => fun h hr => r_S_layByOdds_10 o (r_S_layByOdds_10L o  n) h hr
def f_S_layByOdds (σ : zSt) (t : Nat) : Option (zSt) :=
zg σ 8 t (
(zgP σ 8 t 4).bind fun a1 =>
(f_J_fill σ a1 0).bind fun σ2 =>
f_S_layByOdds_10L zfu σ2 t 0)
set_option maxRecDepth 100000 in
set_option maxHeartbeats 4000000 in
theorem m_S_layByOdds {l : Launch} {b : Nat} {ex : Nat → Value} {D : va_G} {ca : Nat → ClassId} {σ : zSt} {t : Nat} {z : zSt} (h : f_S_layByOdds σ t = some z) : zMT l b ex D ca 4 y_S_layByOdds c_S_layByOdds n_S_layByOdds r_ret_S_layByOdds [.ref t] σ none z 0 0 := by
  obtain ⟨_, hg0⟩ := zg_some h
  have h := hg0
  refine zmt_of (by decide) (Nat.le_of_ble_eq_true rfl) rfl (fun X o hin hrm _ _ _ _ _ hr => ?_)
  have hr := hr 0 0 (by decide) (by decide)
  have o : zOK X "WantShelves$Shelves" c_S_layByOdds n_S_layByOdds 4 := o
  change zPJ X 0 0 0 [(0, .ref t)] [] σ
  refine zj_aload_n o (zdd k_S_layByOdds 0 rfl) rfl 0 rfl ?_
  obtain ⟨a1, e_a1, h⟩ := zbd h
  refine zj_gP o (zdd k_S_layByOdds 1 rfl) fl_S_15 rfl e_a1 ?_
  refine zj_iconst o (zdd k_S_layByOdds 2 rfl) zki_0 ?_
  obtain ⟨σ2, e_σ2, h⟩ := zbd h
  refine zc_S o (zdd k_S_layByOdds 3 rfl) ml_S_126 ms_J_fill (by decide) [.ref a1, .int 0] [] rfl (Nat.le_of_ble_eq_true rfl) rfl (m_J_fill e_σ2) ?_
  change zPJ X 0 0 _ _ [] _
  refine zj_iconst o (zdd k_S_layByOdds 4 rfl) zki_0 ?_
  refine zj_istore_n (loc' := [(1, .int 0), (0, .ref t)]) o (zdd k_S_layByOdds 5 rfl) rfl (by decide) rfl ?_
  exact zj_sub [1, 0] rfl (r_S_layByOdds_10L o  zfu h hr)
def f_S_walkersTo (σ : zSt) (t : Nat) (p0 : Int32) : Option (Int32) :=
zg σ 8 t (
(zgP σ 8 t 4).bind fun a1 =>
(zaI σ 1 a1 p0).bind fun x2 =>
some x2)
set_option maxRecDepth 100000 in
set_option maxHeartbeats 4000000 in
theorem m_S_walkersTo {l : Launch} {b : Nat} {ex : Nat → Value} {D : va_G} {ca : Nat → ClassId} {σ : zSt} {t : Nat} {p0 : Int32} {z : Int32} (h : f_S_walkersTo σ t p0 = some z) : zMT l b ex D ca 1 y_S_walkersTo c_S_walkersTo n_S_walkersTo r_ret_S_walkersTo [.ref t, .int p0] σ (some (.int z)) σ 0 0 := by
  obtain ⟨_, hg0⟩ := zg_some h
  have h := hg0
  refine zmt_of (by decide) (Nat.le_of_ble_eq_true rfl) ⟨.int, rfl, rfl⟩ (fun X o hin hrm _ _ _ _ _ hr => ?_)
  have hr := hr 0 0 (by decide) (by decide)
  have o : zOK X "WantShelves$Shelves" c_S_walkersTo n_S_walkersTo 1 := o
  change zPJ X 0 0 0 [(0, .ref t), (1, .int p0)] [] σ
  refine zj_aload_n o (zdd k_S_walkersTo 0 rfl) rfl 0 rfl ?_
  obtain ⟨a1, e_a1, h⟩ := zbd h
  refine zj_gP o (zdd k_S_walkersTo 1 rfl) fl_S_15 rfl e_a1 ?_
  refine zj_iload_n o (zdd k_S_walkersTo 2 rfl) rfl 1 rfl ?_
  obtain ⟨x2, e_x2, h⟩ := zbd h
  refine zj_iald o (zdd k_S_walkersTo 3 rfl) e_x2 ?_
  cases h
  exact zr_i o hr (zdd k_S_walkersTo 4 rfl)
def f_S_beginsWith_12 (k12 : zSt → Nat → Nat → Int32 → Int32 → Option (Int32)) (σ : zSt) (v0 : Nat) (v1 : Nat) (v2 : Int32) (v3 : Int32) : Option (Int32) :=
if v2 ≤ v3 then (
some 1) else
(zgP σ 8 v0 5).bind fun a1 =>
(zaI σ 1 a1 v3).bind fun x2 =>
(zaI σ 1 v1 v3).bind fun x3 =>
if x2 = x3 then (
k12 σ v0 v1 v2 (v3 + 1)) else
some 0
set_option maxRecDepth 100000 in
set_option maxHeartbeats 4000000 in
theorem r_S_beginsWith_12 {X : zCX} (o : zOK X "WantShelves$Shelves" c_S_beginsWith n_S_beginsWith 1) {k12 : zSt → Nat → Nat → Int32 → Int32 → Option (Int32)} (hk12 : ∀ {σ : zSt} {v0 : Nat} {v1 : Nat} {v2 : Int32} {v3 : Int32} {z : Int32}, k12 σ v0 v1 v2 v3 = some z → zRX X 0 0 (some (.int z)) σ → zPJ X 0 0 12 [(0, .ref v0), (1, .ref v1), (2, .int v2), (3, .int v3)] [] σ) {σ : zSt} {v0 : Nat} {v1 : Nat} {v2 : Int32} {v3 : Int32} {z : Int32} (h : f_S_beginsWith_12 k12 σ v0 v1 v2 v3 = some z) (hr : zRX X 0 0 (some (.int z)) σ) : zPJ X 0 0 12 [(0, .ref v0), (1, .ref v1), (2, .int v2), (3, .int v3)] [] σ := by
  unfold f_S_beginsWith_12 at h
  refine zj_iload_n o (zdd k_S_beginsWith 8 rfl) rfl 3 rfl ?_
  refine zj_iload_n o (zdd k_S_beginsWith 9 rfl) rfl 2 rfl ?_
  refine zj_icmp_ge (tgt := 37) o (zdd k_S_beginsWith 10 rfl) (by decide) (fun hc => ?_) (fun hc => ?_)
  · rw [if_pos hc] at h
    refine zj_iconst o (zdd k_S_beginsWith 23 rfl) zki_1 ?_
    cases h
    exact zr_i o hr (zdd k_S_beginsWith 24 rfl)
  · rw [if_neg hc] at h
    refine zj_aload_n o (zdd k_S_beginsWith 11 rfl) rfl 0 rfl ?_
    obtain ⟨a1, e_a1, h⟩ := zbd h
    refine zj_gP o (zdd k_S_beginsWith 12 rfl) fl_S_18 rfl e_a1 ?_
    refine zj_iload_n o (zdd k_S_beginsWith 13 rfl) rfl 3 rfl ?_
    obtain ⟨x2, e_x2, h⟩ := zbd h
    refine zj_iald o (zdd k_S_beginsWith 14 rfl) e_x2 ?_
    refine zj_aload_n o (zdd k_S_beginsWith 15 rfl) rfl 1 rfl ?_
    refine zj_iload_n o (zdd k_S_beginsWith 16 rfl) rfl 3 rfl ?_
    obtain ⟨x3, e_x3, h⟩ := zbd h
    refine zj_iald o (zdd k_S_beginsWith 17 rfl) e_x3 ?_
    refine zj_icmp_eq (tgt := 31) o (zdd k_S_beginsWith 18 rfl) (by decide) (fun hc => ?_) (fun hc => ?_)
    · rw [if_pos hc] at h
      refine zj_iinc (v := v3 + 1) (loc' := [(3, .int (v3 + 1)), (0, .ref v0), (1, .ref v1), (2, .int v2)]) o (zdd k_S_beginsWith 21 rfl) 3 rfl (by rw [zki_1]) (by decide) rfl ?_
      refine zj_goto (tgt := 12) o (zdd k_S_beginsWith 22 rfl) (by decide) ?_
      exact zj_sub [1, 2, 3, 0] rfl (hk12 h hr)
    · rw [if_neg hc] at h
      refine zj_iconst o (zdd k_S_beginsWith 19 rfl) zki_0 ?_
      cases h
      exact zr_i o hr (zdd k_S_beginsWith 20 rfl)
def f_S_beginsWith_12L : Nat → zSt → Nat → Nat → Int32 → Int32 → Option (Int32)
  | 0 => fun _ _ _ _ _ => none
  | n + 1 => f_S_beginsWith_12  (f_S_beginsWith_12L  n)
theorem r_S_beginsWith_12L {X : zCX} (o : zOK X "WantShelves$Shelves" c_S_beginsWith n_S_beginsWith 1) : ∀ (n : Nat) {σ : zSt} {v0 : Nat} {v1 : Nat} {v2 : Int32} {v3 : Int32} {z : Int32}, f_S_beginsWith_12L n σ v0 v1 v2 v3 = some z → zRX X 0 0 (some (.int z)) σ → zPJ X 0 0 12 [(0, .ref v0), (1, .ref v1), (2, .int v2), (3, .int v3)] [] σ
  | 0 => fun h _ => by cases h
  | n + 1 => fun h hr => r_S_beginsWith_12 o (r_S_beginsWith_12L o  n) h hr
def f_S_beginsWith (σ : zSt) (t : Nat) (p0 : Nat) (p1 : Int32) : Option (Int32) :=
zg σ 8 t (
((zgI σ 8 t 2).bind fun x1 =>
if p1 ≤ x1 then (
f_S_beginsWith_12L zfu σ t p0 p1 0) else
some 0).bind zbool)
set_option maxRecDepth 100000 in
set_option maxHeartbeats 4000000 in
theorem m_S_beginsWith {l : Launch} {b : Nat} {ex : Nat → Value} {D : va_G} {ca : Nat → ClassId} {σ : zSt} {t : Nat} {p0 : Nat} {p1 : Int32} {z : Int32} (h : f_S_beginsWith σ t p0 p1 = some z) : zMT l b ex D ca 1 y_S_beginsWith c_S_beginsWith n_S_beginsWith r_ret_S_beginsWith [.ref t, .ref p0, .int p1] σ (some (.int z)) σ 0 0 := by
  obtain ⟨_, hg0⟩ := zg_some h
  obtain ⟨z0, hbd, hz⟩ := zbd hg0
  obtain ⟨hzb, rfl⟩ := zbool_some hz
  have h := hbd
  refine zmt_of (by decide) (Nat.le_of_ble_eq_true rfl) ⟨.boolean, rfl, zb_nar hzb⟩ (fun X o hin hrm _ _ _ _ _ hr => ?_)
  have hr := hr 0 0 (by decide) (by decide)
  have o : zOK X "WantShelves$Shelves" c_S_beginsWith n_S_beginsWith 1 := o
  change zPJ X 0 0 0 [(0, .ref t), (1, .ref p0), (2, .int p1)] [] σ
  refine zj_iload_n o (zdd k_S_beginsWith 0 rfl) rfl 2 rfl ?_
  refine zj_aload_n o (zdd k_S_beginsWith 1 rfl) rfl 0 rfl ?_
  obtain ⟨x1, e_x1, h⟩ := zbd h
  refine zj_gI o (zdd k_S_beginsWith 2 rfl) fl_S_44 rfl e_x1 ?_
  refine zj_icmp_le (tgt := 10) o (zdd k_S_beginsWith 3 rfl) (by decide) (fun hc => ?_) (fun hc => ?_)
  · rw [if_pos hc] at h
    refine zj_iconst o (zdd k_S_beginsWith 6 rfl) zki_0 ?_
    refine zj_istore_n (loc' := [(3, .int 0), (0, .ref t), (1, .ref p0), (2, .int p1)]) o (zdd k_S_beginsWith 7 rfl) rfl (by decide) rfl ?_
    exact zj_sub [1, 2, 3, 0] rfl (r_S_beginsWith_12L o  zfu h hr)
  · rw [if_neg hc] at h
    refine zj_iconst o (zdd k_S_beginsWith 4 rfl) zki_0 ?_
    cases h
    exact zr_i o hr (zdd k_S_beginsWith 5 rfl)
