def f_E_init (σ : zSt) (t : Nat) : Option (zSt) :=
zg σ 1 t (
(some (znew σ (1, 1024))).bind fun (σ1 : zSt) =>
(some σ.1.length).bind fun (a2 : Nat) =>
(zsP σ1 1 t 0 a2).bind fun σ3 =>
(some (znew σ3 (1, 1024))).bind fun (σ4 : zSt) =>
(some σ3.1.length).bind fun (a5 : Nat) =>
(zsP σ4 1 t 1 a5).bind fun σ6 =>
(some (znew σ6 (1, 1024))).bind fun (σ7 : zSt) =>
(some σ6.1.length).bind fun (a8 : Nat) =>
(zsP σ7 1 t 2 a8).bind fun σ9 =>
some σ9)
set_option maxRecDepth 100000 in
set_option maxHeartbeats 4000000 in
theorem m_E_init {l : Launch} {b : Nat} {ex : Nat → Value} {D : va_G} {ca : Nat → ClassId} {σ : zSt} {t : Nat} {z : zSt} (h : f_E_init σ t = some z) : zMT l b ex D ca 1 y_E_init c_E_init n_E_init r_ret_E_init [.ref t] σ none z 3 3072 := by
  obtain ⟨_, hg0⟩ := zg_some h
  have h := hg0
  refine zmt_of (by decide) (Nat.le_of_ble_eq_true rfl) rfl (fun X o hin hrm _ _ _ _ _ hr => ?_)
  have hin := hin rfl
  have hr := hr 3 3072 (by decide) (by decide)
  have o : zOK X "WantShelves$Errand" c_E_init n_E_init 1 := o
  change zPJ X 0 0 0 [(0, .ref t)] [] σ
  refine zj_aload_n o (zdd k_E_init 0 rfl) rfl 0 rfl ?_
  refine zj_objInit o (zdd k_E_init 1 rfl) ml_E_3 ob_im ob_code (by decide) (Nat.le_of_ble_eq_true rfl) ?_
  refine zj_aload_n o (zdd k_E_init 2 rfl) rfl 0 rfl ?_
  refine zj_sipush o (zdd k_E_init 3 rfl) zks_1024 ?_
  obtain ⟨σ1, e_σ1, h⟩ := zbd h
  refine zj_newa_int (N := 1024) (mc := 3) (ms := 3072) o (zdd k_E_init 4 rfl) ac_int (by decide) (by decide) (by decide) hrm (by decide) (by decide) ?_
  rw [Option.some.inj e_σ1]
  change zPJ X 1 1024 _ _ _ _
  obtain ⟨a2, e_a2, h⟩ := zbd h
  rw [Option.some.inj e_a2]
  obtain ⟨σ3, e_σ3, h⟩ := zbd h
  refine zj_fP o (zdd k_E_init 5 rfl) fl_E_11 (Or.inr ⟨_, rfl⟩) hin rfl rfl e_σ3 ?_
  refine zj_aload_n o (zdd k_E_init 6 rfl) rfl 0 rfl ?_
  refine zj_sipush o (zdd k_E_init 7 rfl) zks_1024 ?_
  obtain ⟨σ4, e_σ4, h⟩ := zbd h
  refine zj_newa_int (N := 1024) (mc := 3) (ms := 3072) o (zdd k_E_init 8 rfl) ac_int (by decide) (by decide) (by decide) hrm (by decide) (by decide) ?_
  rw [Option.some.inj e_σ4]
  change zPJ X 2 2048 _ _ _ _
  obtain ⟨a5, e_a5, h⟩ := zbd h
  rw [Option.some.inj e_a5]
  obtain ⟨σ6, e_σ6, h⟩ := zbd h
  refine zj_fP o (zdd k_E_init 9 rfl) fl_E_15 (Or.inr ⟨_, rfl⟩) hin rfl rfl e_σ6 ?_
  refine zj_aload_n o (zdd k_E_init 10 rfl) rfl 0 rfl ?_
  refine zj_sipush o (zdd k_E_init 11 rfl) zks_1024 ?_
  obtain ⟨σ7, e_σ7, h⟩ := zbd h
  refine zj_newa_int (N := 1024) (mc := 3) (ms := 3072) o (zdd k_E_init 12 rfl) ac_int (by decide) (by decide) (by decide) hrm (by decide) (by decide) ?_
  rw [Option.some.inj e_σ7]
  change zPJ X 3 3072 _ _ _ _
  obtain ⟨a8, e_a8, h⟩ := zbd h
  rw [Option.some.inj e_a8]
  obtain ⟨σ9, e_σ9, h⟩ := zbd h
  refine zj_fP o (zdd k_E_init 13 rfl) fl_E_18 (Or.inr ⟨_, rfl⟩) hin rfl rfl e_σ9 ?_
  cases h
  exact zr_v o hr (zdd k_E_init 14 rfl)
def f_E_walkWith_60 (k60 : zSt → Nat → Int32 → Int32 → Option (zSt)) (σ : zSt) (v0 : Nat) (v4 : Int32) (v5 : Int32) : Option (zSt) :=
if v4 < v5 then (
some σ) else
if v5 &&& (v4 ^^^ (-1)) = 0 then (
(zgP σ 1 v0 0).bind fun a1 =>
(zgP σ 1 v0 0).bind fun a2 =>
(zaI σ 1 a2 (v5 &&& (-v5))).bind fun x3 =>
(zgP σ 1 v0 0).bind fun a4 =>
(zaI σ 1 a4 (v5 - (v5 &&& (-v5)))).bind fun x5 =>
(zwI σ 1 a1 v5 (zmax x3 x5)).bind fun σ6 =>
(zgP σ6 1 v0 1).bind fun a7 =>
(zgP σ6 1 v0 1).bind fun a8 =>
(zaI σ6 1 a8 v5).bind fun x9 =>
(zgP σ6 1 v0 0).bind fun a10 =>
(zaI σ6 1 a10 v5).bind fun x11 =>
(zwI σ6 1 a7 v5 (zmin x9 x11)).bind fun σ12 =>
k60 σ12 v0 v4 (v5 + 1)) else
k60 σ v0 v4 (v5 + 1)
set_option maxRecDepth 100000 in
set_option maxHeartbeats 4000000 in
theorem r_E_walkWith_60 {X : zCX} (o : zOK X "WantShelves$Errand" c_E_walkWith n_E_walkWith 5) {k60 : zSt → Nat → Int32 → Int32 → Option (zSt)} (hk60 : ∀ {σ : zSt} {v0 : Nat} {v4 : Int32} {v5 : Int32} {z : zSt}, k60 σ v0 v4 v5 = some z → zRX X 0 0 none z → zPJ X 0 0 60 [(0, .ref v0), (4, .int v4), (5, .int v5)] [] σ) {σ : zSt} {v0 : Nat} {v4 : Int32} {v5 : Int32} {z : zSt} (h : f_E_walkWith_60 k60 σ v0 v4 v5 = some z) (hr : zRX X 0 0 none z) : zPJ X 0 0 60 [(0, .ref v0), (4, .int v4), (5, .int v5)] [] σ := by
  unfold f_E_walkWith_60 at h
  refine zj_iload o (zdd k_E_walkWith 33 rfl) 2 rfl ?_
  refine zj_iload o (zdd k_E_walkWith 34 rfl) 1 rfl ?_
  refine zj_icmp_gt (tgt := 142) o (zdd k_E_walkWith 35 rfl) (by decide) (fun hc => ?_) (fun hc => ?_)
  · rw [if_pos hc] at h
    cases h
    exact zr_v o hr (zdd k_E_walkWith 77 rfl)
  · rw [if_neg hc] at h
    refine zj_iload o (zdd k_E_walkWith 36 rfl) 2 rfl ?_
    refine zj_iload o (zdd k_E_walkWith 37 rfl) 1 rfl ?_
    refine zj_iconst o (zdd k_E_walkWith 38 rfl) zki_m1 ?_
    refine zj_ixor o (zdd k_E_walkWith 39 rfl) ?_
    refine zj_iand o (zdd k_E_walkWith 40 rfl) ?_
    refine zj_if_ne (tgt := 136) o (zdd k_E_walkWith 41 rfl) (by decide) (fun hc => ?_) (fun hc => ?_)
    · rw [if_neg hc] at h
      refine zj_iinc (v := v5 + 1) (loc' := [(5, .int (v5 + 1)), (0, .ref v0), (4, .int v4)]) o (zdd k_E_walkWith 75 rfl) 2 rfl (by rw [zki_1]) (by decide) rfl ?_
      refine zj_goto (tgt := 60) o (zdd k_E_walkWith 76 rfl) (by decide) ?_
      exact zj_sub [1, 2, 0] rfl (hk60 h hr)
    · rw [if_pos hc] at h
      refine zj_iload o (zdd k_E_walkWith 42 rfl) 2 rfl ?_
      refine zj_iload o (zdd k_E_walkWith 43 rfl) 2 rfl ?_
      refine zj_ineg o (zdd k_E_walkWith 44 rfl) ?_
      refine zj_iand o (zdd k_E_walkWith 45 rfl) ?_
      refine zj_istore (loc' := [(6, .int (v5 &&& (-v5))), (0, .ref v0), (4, .int v4), (5, .int v5)]) o (zdd k_E_walkWith 46 rfl) (by decide) rfl ?_
      refine zj_aload_n o (zdd k_E_walkWith 47 rfl) rfl 1 rfl ?_
      obtain ⟨a1, e_a1, h⟩ := zbd h
      refine zj_gP o (zdd k_E_walkWith 48 rfl) fl_E_11 rfl e_a1 ?_
      refine zj_iload o (zdd k_E_walkWith 49 rfl) 3 rfl ?_
      refine zj_aload_n o (zdd k_E_walkWith 50 rfl) rfl 1 rfl ?_
      obtain ⟨a2, e_a2, h⟩ := zbd h
      refine zj_gP o (zdd k_E_walkWith 51 rfl) fl_E_11 rfl e_a2 ?_
      refine zj_iload o (zdd k_E_walkWith 52 rfl) 0 rfl ?_
      obtain ⟨x3, e_x3, h⟩ := zbd h
      refine zj_iald o (zdd k_E_walkWith 53 rfl) e_x3 ?_
      refine zj_aload_n o (zdd k_E_walkWith 54 rfl) rfl 1 rfl ?_
      obtain ⟨a4, e_a4, h⟩ := zbd h
      refine zj_gP o (zdd k_E_walkWith 55 rfl) fl_E_11 rfl e_a4 ?_
      refine zj_iload o (zdd k_E_walkWith 56 rfl) 3 rfl ?_
      refine zj_iload o (zdd k_E_walkWith 57 rfl) 0 rfl ?_
      refine zj_isub o (zdd k_E_walkWith 58 rfl) ?_
      obtain ⟨x5, e_x5, h⟩ := zbd h
      refine zj_iald o (zdd k_E_walkWith 59 rfl) e_x5 ?_
      refine zj_mmax o (zdd k_E_walkWith 60 rfl) ml_E_55 (by decide) (Nat.le_of_ble_eq_true rfl) ?_
      obtain ⟨σ6, e_σ6, h⟩ := zbd h
      refine zj_iast o (zdd k_E_walkWith 61 rfl) e_σ6 ?_
      refine zj_aload_n o (zdd k_E_walkWith 62 rfl) rfl 1 rfl ?_
      obtain ⟨a7, e_a7, h⟩ := zbd h
      refine zj_gP o (zdd k_E_walkWith 63 rfl) fl_E_15 rfl e_a7 ?_
      refine zj_iload o (zdd k_E_walkWith 64 rfl) 3 rfl ?_
      refine zj_aload_n o (zdd k_E_walkWith 65 rfl) rfl 1 rfl ?_
      obtain ⟨a8, e_a8, h⟩ := zbd h
      refine zj_gP o (zdd k_E_walkWith 66 rfl) fl_E_15 rfl e_a8 ?_
      refine zj_iload o (zdd k_E_walkWith 67 rfl) 3 rfl ?_
      obtain ⟨x9, e_x9, h⟩ := zbd h
      refine zj_iald o (zdd k_E_walkWith 68 rfl) e_x9 ?_
      refine zj_aload_n o (zdd k_E_walkWith 69 rfl) rfl 1 rfl ?_
      obtain ⟨a10, e_a10, h⟩ := zbd h
      refine zj_gP o (zdd k_E_walkWith 70 rfl) fl_E_11 rfl e_a10 ?_
      refine zj_iload o (zdd k_E_walkWith 71 rfl) 3 rfl ?_
      obtain ⟨x11, e_x11, h⟩ := zbd h
      refine zj_iald o (zdd k_E_walkWith 72 rfl) e_x11 ?_
      refine zj_mmin o (zdd k_E_walkWith 73 rfl) ml_E_61 (by decide) (Nat.le_of_ble_eq_true rfl) ?_
      obtain ⟨σ12, e_σ12, h⟩ := zbd h
      refine zj_iast o (zdd k_E_walkWith 74 rfl) e_σ12 ?_
      refine zj_iinc (v := v5 + 1) (loc' := [(5, .int (v5 + 1)), (6, .int (v5 &&& (-v5))), (0, .ref v0), (4, .int v4)]) o (zdd k_E_walkWith 75 rfl) 3 rfl (by rw [zki_1]) (by decide) rfl ?_
      refine zj_goto (tgt := 60) o (zdd k_E_walkWith 76 rfl) (by decide) ?_
      exact zj_sub [2, 3, 0] rfl (hk60 h hr)
def f_E_walkWith_60L : Nat → zSt → Nat → Int32 → Int32 → Option (zSt)
  | 0 => fun _ _ _ _ => none
  | n + 1 => f_E_walkWith_60  (f_E_walkWith_60L  n)
theorem r_E_walkWith_60L {X : zCX} (o : zOK X "WantShelves$Errand" c_E_walkWith n_E_walkWith 5) : ∀ (n : Nat) {σ : zSt} {v0 : Nat} {v4 : Int32} {v5 : Int32} {z : zSt}, f_E_walkWith_60L n σ v0 v4 v5 = some z → zRX X 0 0 none z → zPJ X 0 0 60 [(0, .ref v0), (4, .int v4), (5, .int v5)] [] σ
  | 0 => fun h _ => by cases h
  | n + 1 => fun h hr => r_E_walkWith_60 o (r_E_walkWith_60L o  n) h hr
def f_E_walkWith_15 (k15 : zSt → Nat → Nat → Nat → Int32 → Int32 → Option (zSt)) (σ : zSt) (v0 : Nat) (v1 : Nat) (v2 : Nat) (v4 : Int32) (v5 : Int32) : Option (zSt) :=
if 10 ≤ v5 then (
f_E_walkWith_60L zfu σ v0 v4 1) else
(f_S_laidAt σ v1 v5).bind fun x1 =>
if x1 = (-1) then (
k15 σ v0 v1 v2 v4 (v5 + 1)) else
(zgP σ 1 v0 0).bind fun a2 =>
(f_D_stepsTo σ v2 v5).bind fun x3 =>
(zwI σ 1 a2 (1 <<< (x1 &&& 31)) x3).bind fun σ4 =>
k15 σ4 v0 v1 v2 v4 (v5 + 1)
set_option maxRecDepth 100000 in
set_option maxHeartbeats 4000000 in
theorem r_E_walkWith_15 {X : zCX} (o : zOK X "WantShelves$Errand" c_E_walkWith n_E_walkWith 5) {k15 : zSt → Nat → Nat → Nat → Int32 → Int32 → Option (zSt)} (hk15 : ∀ {σ : zSt} {v0 : Nat} {v1 : Nat} {v2 : Nat} {v4 : Int32} {v5 : Int32} {z : zSt}, k15 σ v0 v1 v2 v4 v5 = some z → zRX X 0 0 none z → zPJ X 0 0 15 [(0, .ref v0), (1, .ref v1), (2, .ref v2), (4, .int v4), (5, .int v5)] [] σ) {σ : zSt} {v0 : Nat} {v1 : Nat} {v2 : Nat} {v4 : Int32} {v5 : Int32} {z : zSt} (h : f_E_walkWith_15 k15 σ v0 v1 v2 v4 v5 = some z) (hr : zRX X 0 0 none z) : zPJ X 0 0 15 [(0, .ref v0), (1, .ref v1), (2, .ref v2), (4, .int v4), (5, .int v5)] [] σ := by
  unfold f_E_walkWith_15 at h
  refine zj_iload o (zdd k_E_walkWith 10 rfl) 4 rfl ?_
  refine zj_bipush o (zdd k_E_walkWith 11 rfl) zkb_10 ?_
  refine zj_icmp_ge (tgt := 57) o (zdd k_E_walkWith 12 rfl) (by decide) (fun hc => ?_) (fun hc => ?_)
  · rw [if_pos hc] at h
    refine zj_iconst o (zdd k_E_walkWith 31 rfl) zki_1 ?_
    refine zj_istore (loc' := [(5, .int 1), (0, .ref v0), (1, .ref v1), (2, .ref v2), (4, .int v4)]) o (zdd k_E_walkWith 32 rfl) (by decide) rfl ?_
    exact zj_sub [1, 4, 0] rfl (r_E_walkWith_60L o  zfu h hr)
  · rw [if_neg hc] at h
    refine zj_aload_n o (zdd k_E_walkWith 13 rfl) rfl 1 rfl ?_
    refine zj_iload o (zdd k_E_walkWith 14 rfl) 4 rfl ?_
    obtain ⟨x1, e_x1, h⟩ := zbd h
    refine zc_V o (zdd k_E_walkWith 15 rfl) ml_E_48 mv_S_laidAt ⟨rfl, by decide⟩ (zg_some e_x1).1 (by decide) [.int v5] [] rfl (Nat.le_of_ble_eq_true rfl) rfl (m_S_laidAt e_x1) ?_
    change zPJ X 0 0 _ _ [.int x1] _
    refine zj_istore (loc' := [(6, .int x1), (0, .ref v0), (1, .ref v1), (2, .ref v2), (4, .int v4), (5, .int v5)]) o (zdd k_E_walkWith 16 rfl) (by decide) rfl ?_
    refine zj_iload o (zdd k_E_walkWith 17 rfl) 0 rfl ?_
    refine zj_iconst o (zdd k_E_walkWith 18 rfl) zki_m1 ?_
    refine zj_icmp_eq (tgt := 51) o (zdd k_E_walkWith 19 rfl) (by decide) (fun hc => ?_) (fun hc => ?_)
    · rw [if_pos hc] at h
      refine zj_iinc (v := v5 + 1) (loc' := [(5, .int (v5 + 1)), (6, .int x1), (0, .ref v0), (1, .ref v1), (2, .ref v2), (4, .int v4)]) o (zdd k_E_walkWith 29 rfl) 5 rfl (by rw [zki_1]) (by decide) rfl ?_
      refine zj_goto (tgt := 15) o (zdd k_E_walkWith 30 rfl) (by decide) ?_
      exact zj_sub [2, 3, 4, 5, 0] rfl (hk15 h hr)
    · rw [if_neg hc] at h
      refine zj_aload_n o (zdd k_E_walkWith 20 rfl) rfl 1 rfl ?_
      obtain ⟨a2, e_a2, h⟩ := zbd h
      refine zj_gP o (zdd k_E_walkWith 21 rfl) fl_E_11 rfl e_a2 ?_
      refine zj_iconst o (zdd k_E_walkWith 22 rfl) zki_1 ?_
      refine zj_iload o (zdd k_E_walkWith 23 rfl) 0 rfl ?_
      refine zj_ishl o (zdd k_E_walkWith 24 rfl) ?_
      refine zj_aload_n o (zdd k_E_walkWith 25 rfl) rfl 3 rfl ?_
      refine zj_iload o (zdd k_E_walkWith 26 rfl) 5 rfl ?_
      obtain ⟨x3, e_x3, h⟩ := zbd h
      refine zc_V o (zdd k_E_walkWith 27 rfl) ml_E_52 mv_D_stepsTo ⟨rfl, by decide⟩ (zg_some e_x3).1 (by decide) [.int v5] [.int (1 <<< (x1 &&& 31)), .ref a2] rfl (Nat.le_of_ble_eq_true rfl) rfl (m_D_stepsTo e_x3) ?_
      change zPJ X 0 0 _ _ [.int x3, .int (1 <<< (x1 &&& 31)), .ref a2] _
      obtain ⟨σ4, e_σ4, h⟩ := zbd h
      refine zj_iast o (zdd k_E_walkWith 28 rfl) e_σ4 ?_
      refine zj_iinc (v := v5 + 1) (loc' := [(5, .int (v5 + 1)), (6, .int x1), (0, .ref v0), (1, .ref v1), (2, .ref v2), (4, .int v4)]) o (zdd k_E_walkWith 29 rfl) 5 rfl (by rw [zki_1]) (by decide) rfl ?_
      refine zj_goto (tgt := 15) o (zdd k_E_walkWith 30 rfl) (by decide) ?_
      exact zj_sub [2, 3, 4, 5, 0] rfl (hk15 h hr)
def f_E_walkWith_15L : Nat → zSt → Nat → Nat → Nat → Int32 → Int32 → Option (zSt)
  | 0 => fun _ _ _ _ _ _ => none
  | n + 1 => f_E_walkWith_15  (f_E_walkWith_15L  n)
theorem r_E_walkWith_15L {X : zCX} (o : zOK X "WantShelves$Errand" c_E_walkWith n_E_walkWith 5) : ∀ (n : Nat) {σ : zSt} {v0 : Nat} {v1 : Nat} {v2 : Nat} {v4 : Int32} {v5 : Int32} {z : zSt}, f_E_walkWith_15L n σ v0 v1 v2 v4 v5 = some z → zRX X 0 0 none z → zPJ X 0 0 15 [(0, .ref v0), (1, .ref v1), (2, .ref v2), (4, .int v4), (5, .int v5)] [] σ
  | 0 => fun h _ => by cases h
  | n + 1 => fun h hr => r_E_walkWith_15 o (r_E_walkWith_15L o  n) h hr
def f_E_walkWith (σ : zSt) (t : Nat) (p0 : Nat) (p1 : Nat) (p2 : Int32) (p3 : Int32) : Option (zSt) :=
zg σ 1 t (
(zgP σ 1 t 0).bind fun a1 =>
(zwI σ 1 a1 0 0).bind fun σ2 =>
(f_S_lay σ2 p0 p2).bind fun σ3 =>
f_E_walkWith_15L zfu σ3 t p0 p1 p3 0)
set_option maxRecDepth 100000 in
set_option maxHeartbeats 4000000 in
theorem m_E_walkWith {l : Launch} {b : Nat} {ex : Nat → Value} {D : va_G} {ca : Nat → ClassId} {σ : zSt} {t : Nat} {p0 : Nat} {p1 : Nat} {p2 : Int32} {p3 : Int32} {z : zSt} (h : f_E_walkWith σ t p0 p1 p2 p3 = some z) : zMT l b ex D ca 5 y_E_walkWith c_E_walkWith n_E_walkWith r_ret_E_walkWith [.ref t, .ref p0, .ref p1, .int p2, .int p3] σ none z 0 0 := by
  obtain ⟨_, hg0⟩ := zg_some h
  have h := hg0
  refine zmt_of (by decide) (Nat.le_of_ble_eq_true rfl) rfl (fun X o hin hrm _ _ _ _ _ hr => ?_)
  have hr := hr 0 0 (by decide) (by decide)
  have o : zOK X "WantShelves$Errand" c_E_walkWith n_E_walkWith 5 := o
  change zPJ X 0 0 0 [(0, .ref t), (1, .ref p0), (2, .ref p1), (3, .int p2), (4, .int p3)] [] σ
  refine zj_aload_n o (zdd k_E_walkWith 0 rfl) rfl 0 rfl ?_
  obtain ⟨a1, e_a1, h⟩ := zbd h
  refine zj_gP o (zdd k_E_walkWith 1 rfl) fl_E_11 rfl e_a1 ?_
  refine zj_iconst o (zdd k_E_walkWith 2 rfl) zki_0 ?_
  refine zj_iconst o (zdd k_E_walkWith 3 rfl) zki_0 ?_
  obtain ⟨σ2, e_σ2, h⟩ := zbd h
  refine zj_iast o (zdd k_E_walkWith 4 rfl) e_σ2 ?_
  refine zj_aload_n o (zdd k_E_walkWith 5 rfl) rfl 1 rfl ?_
  refine zj_iload_n o (zdd k_E_walkWith 6 rfl) rfl 3 rfl ?_
  obtain ⟨σ3, e_σ3, h⟩ := zbd h
  refine zc_V o (zdd k_E_walkWith 7 rfl) ml_E_42 mv_S_lay ⟨rfl, by decide⟩ (zg_some e_σ3).1 (by decide) [.int p2] [] rfl (Nat.le_of_ble_eq_true rfl) rfl (m_S_lay e_σ3) ?_
  change zPJ X 0 0 _ _ [] _
  refine zj_iconst o (zdd k_E_walkWith 8 rfl) zki_0 ?_
  refine zj_istore (loc' := [(5, .int 0), (0, .ref t), (1, .ref p0), (2, .ref p1), (3, .int p2), (4, .int p3)]) o (zdd k_E_walkWith 9 rfl) (by decide) rfl ?_
  exact zj_sub [1, 2, 3, 5, 0] rfl (r_E_walkWith_15L o  zfu h hr)
def f_E_parted_9 (k9 : zSt → Nat → Nat → Int32 → Int32 → Int32 → Int32 → Option (Int32)) (σ : zSt) (v0 : Nat) (v1 : Nat) (v2 : Int32) (v3 : Int32) (v4 : Int32) (v5 : Int32) : Option (Int32) :=
if 1024 ≤ v5 then (
some v3) else
if v4 < 0 then (
some v3) else
(zgP σ 1 v0 1).bind fun a1 =>
(zaI σ 1 a1 v4).bind fun x2 =>
(zaI σ 1 v1 (v2 - v4)).bind fun x3 =>
if v4 = 0 then (
k9 σ v0 v1 v2 (zmin v3 (x2 + x3)) (-1) (v5 + 1)) else
k9 σ v0 v1 v2 (zmin v3 (x2 + x3)) ((v4 - 1) &&& v2) (v5 + 1)
set_option maxRecDepth 100000 in
set_option maxHeartbeats 4000000 in
theorem r_E_parted_9 {X : zCX} (o : zOK X "WantShelves$Errand" c_E_parted n_E_parted 2) {k9 : zSt → Nat → Nat → Int32 → Int32 → Int32 → Int32 → Option (Int32)} (hk9 : ∀ {σ : zSt} {v0 : Nat} {v1 : Nat} {v2 : Int32} {v3 : Int32} {v4 : Int32} {v5 : Int32} {z : Int32}, k9 σ v0 v1 v2 v3 v4 v5 = some z → zRX X 0 0 (some (.int z)) σ → zPJ X 0 0 9 [(0, .ref v0), (1, .ref v1), (2, .int v2), (3, .int v3), (4, .int v4), (5, .int v5)] [] σ) {σ : zSt} {v0 : Nat} {v1 : Nat} {v2 : Int32} {v3 : Int32} {v4 : Int32} {v5 : Int32} {z : Int32} (h : f_E_parted_9 k9 σ v0 v1 v2 v3 v4 v5 = some z) (hr : zRX X 0 0 (some (.int z)) σ) : zPJ X 0 0 9 [(0, .ref v0), (1, .ref v1), (2, .int v2), (3, .int v3), (4, .int v4), (5, .int v5)] [] σ := by
  unfold f_E_parted_9 at h
  refine zj_iload o (zdd k_E_parted 6 rfl) 5 rfl ?_
  refine zj_sipush o (zdd k_E_parted 7 rfl) zks_1024 ?_
  refine zj_icmp_ge (tgt := 64) o (zdd k_E_parted 8 rfl) (by decide) (fun hc => ?_) (fun hc => ?_)
  · rw [if_pos hc] at h
    refine zj_iload_n o (zdd k_E_parted 36 rfl) rfl 3 rfl ?_
    cases h
    exact zr_i o hr (zdd k_E_parted 37 rfl)
  · rw [if_neg hc] at h
    refine zj_iload o (zdd k_E_parted 9 rfl) 4 rfl ?_
    refine zj_if_lt (tgt := 64) o (zdd k_E_parted 10 rfl) (by decide) (fun hc => ?_) (fun hc => ?_)
    · rw [if_pos hc] at h
      refine zj_iload_n o (zdd k_E_parted 36 rfl) rfl 3 rfl ?_
      cases h
      exact zr_i o hr (zdd k_E_parted 37 rfl)
    · rw [if_neg hc] at h
      refine zj_iload_n o (zdd k_E_parted 11 rfl) rfl 3 rfl ?_
      refine zj_aload_n o (zdd k_E_parted 12 rfl) rfl 0 rfl ?_
      obtain ⟨a1, e_a1, h⟩ := zbd h
      refine zj_gP o (zdd k_E_parted 13 rfl) fl_E_15 rfl e_a1 ?_
      refine zj_iload o (zdd k_E_parted 14 rfl) 4 rfl ?_
      obtain ⟨x2, e_x2, h⟩ := zbd h
      refine zj_iald o (zdd k_E_parted 15 rfl) e_x2 ?_
      refine zj_aload_n o (zdd k_E_parted 16 rfl) rfl 1 rfl ?_
      refine zj_iload_n o (zdd k_E_parted 17 rfl) rfl 2 rfl ?_
      refine zj_iload o (zdd k_E_parted 18 rfl) 4 rfl ?_
      refine zj_isub o (zdd k_E_parted 19 rfl) ?_
      obtain ⟨x3, e_x3, h⟩ := zbd h
      refine zj_iald o (zdd k_E_parted 20 rfl) e_x3 ?_
      refine zj_iadd o (zdd k_E_parted 21 rfl) ?_
      refine zj_mmin o (zdd k_E_parted 22 rfl) ml_E_61 (by decide) (Nat.le_of_ble_eq_true rfl) ?_
      refine zj_istore_n (loc' := [(3, .int (zmin v3 (x2 + x3))), (0, .ref v0), (1, .ref v1), (2, .int v2), (4, .int v4), (5, .int v5)]) o (zdd k_E_parted 23 rfl) rfl (by decide) rfl ?_
      refine zj_iload o (zdd k_E_parted 24 rfl) 4 rfl ?_
      refine zj_if_ne (tgt := 50) o (zdd k_E_parted 25 rfl) (by decide) (fun hc => ?_) (fun hc => ?_)
      · rw [if_neg hc] at h
        refine zj_iload o (zdd k_E_parted 28 rfl) 4 rfl ?_
        refine zj_iconst o (zdd k_E_parted 29 rfl) zki_1 ?_
        refine zj_isub o (zdd k_E_parted 30 rfl) ?_
        refine zj_iload_n o (zdd k_E_parted 31 rfl) rfl 3 rfl ?_
        refine zj_iand o (zdd k_E_parted 32 rfl) ?_
        refine zj_istore (loc' := [(4, .int ((v4 - 1) &&& v2)), (3, .int (zmin v3 (x2 + x3))), (0, .ref v0), (1, .ref v1), (2, .int v2), (5, .int v5)]) o (zdd k_E_parted 33 rfl) (by decide) rfl ?_
        refine zj_iinc (v := v5 + 1) (loc' := [(5, .int (v5 + 1)), (4, .int ((v4 - 1) &&& v2)), (3, .int (zmin v3 (x2 + x3))), (0, .ref v0), (1, .ref v1), (2, .int v2)]) o (zdd k_E_parted 34 rfl) 5 rfl (by rw [zki_1]) (by decide) rfl ?_
        refine zj_goto (tgt := 9) o (zdd k_E_parted 35 rfl) (by decide) ?_
        exact zj_sub [3, 4, 5, 2, 1, 0] rfl (hk9 h hr)
      · rw [if_pos hc] at h
        refine zj_iconst o (zdd k_E_parted 26 rfl) zki_m1 ?_
        refine zj_goto (tgt := 56) o (zdd k_E_parted 27 rfl) (by decide) ?_
        refine zj_istore (loc' := [(4, .int (-1)), (3, .int (zmin v3 (x2 + x3))), (0, .ref v0), (1, .ref v1), (2, .int v2), (5, .int v5)]) o (zdd k_E_parted 33 rfl) (by decide) rfl ?_
        refine zj_iinc (v := v5 + 1) (loc' := [(5, .int (v5 + 1)), (4, .int (-1)), (3, .int (zmin v3 (x2 + x3))), (0, .ref v0), (1, .ref v1), (2, .int v2)]) o (zdd k_E_parted 34 rfl) 5 rfl (by rw [zki_1]) (by decide) rfl ?_
        refine zj_goto (tgt := 9) o (zdd k_E_parted 35 rfl) (by decide) ?_
        exact zj_sub [3, 4, 5, 2, 1, 0] rfl (hk9 h hr)
def f_E_parted_9L : Nat → zSt → Nat → Nat → Int32 → Int32 → Int32 → Int32 → Option (Int32)
  | 0 => fun _ _ _ _ _ _ _ => none
  | n + 1 => f_E_parted_9  (f_E_parted_9L  n)
theorem r_E_parted_9L {X : zCX} (o : zOK X "WantShelves$Errand" c_E_parted n_E_parted 2) : ∀ (n : Nat) {σ : zSt} {v0 : Nat} {v1 : Nat} {v2 : Int32} {v3 : Int32} {v4 : Int32} {v5 : Int32} {z : Int32}, f_E_parted_9L n σ v0 v1 v2 v3 v4 v5 = some z → zRX X 0 0 (some (.int z)) σ → zPJ X 0 0 9 [(0, .ref v0), (1, .ref v1), (2, .int v2), (3, .int v3), (4, .int v4), (5, .int v5)] [] σ
  | 0 => fun h _ => by cases h
  | n + 1 => fun h hr => r_E_parted_9 o (r_E_parted_9L o  n) h hr
def f_E_parted (σ : zSt) (t : Nat) (p0 : Nat) (p1 : Int32) : Option (Int32) :=
zg σ 1 t (
f_E_parted_9L zfu σ t p0 p1 1000000 p1 0)
set_option maxRecDepth 100000 in
set_option maxHeartbeats 4000000 in
theorem m_E_parted {l : Launch} {b : Nat} {ex : Nat → Value} {D : va_G} {ca : Nat → ClassId} {σ : zSt} {t : Nat} {p0 : Nat} {p1 : Int32} {z : Int32} (h : f_E_parted σ t p0 p1 = some z) : zMT l b ex D ca 2 y_E_parted c_E_parted n_E_parted r_ret_E_parted [.ref t, .ref p0, .int p1] σ (some (.int z)) σ 0 0 := by
  obtain ⟨_, hg0⟩ := zg_some h
  have h := hg0
  refine zmt_of (by decide) (Nat.le_of_ble_eq_true rfl) ⟨.int, rfl, rfl⟩ (fun X o hin hrm _ _ _ _ _ hr => ?_)
  have hr := hr 0 0 (by decide) (by decide)
  have o : zOK X "WantShelves$Errand" c_E_parted n_E_parted 2 := o
  change zPJ X 0 0 0 [(0, .ref t), (1, .ref p0), (2, .int p1)] [] σ
  refine zj_ldc o (zdd k_E_parted 0 rfl) co_E_21 ?_
  refine zj_istore_n (loc' := [(3, .int 1000000), (0, .ref t), (1, .ref p0), (2, .int p1)]) o (zdd k_E_parted 1 rfl) rfl (by decide) rfl ?_
  refine zj_iload_n o (zdd k_E_parted 2 rfl) rfl 3 rfl ?_
  refine zj_istore (loc' := [(4, .int p1), (3, .int 1000000), (0, .ref t), (1, .ref p0), (2, .int p1)]) o (zdd k_E_parted 3 rfl) (by decide) rfl ?_
  refine zj_iconst o (zdd k_E_parted 4 rfl) zki_0 ?_
  refine zj_istore (loc' := [(5, .int 0), (4, .int p1), (3, .int 1000000), (0, .ref t), (1, .ref p0), (2, .int p1)]) o (zdd k_E_parted 5 rfl) (by decide) rfl ?_
  exact zj_sub [3, 4, 5, 2, 1, 0] rfl (r_E_parted_9L o  zfu h hr)
def f_E_fewest_119 (σ : zSt) (v0 : Nat) (v3 : Int32) : Option (Int32 × zSt) :=
(zgP σ 1 v0 2).bind fun a1 =>
(f_E_parted σ v0 a1 v3).bind fun x2 =>
some (2 * x2, σ)
set_option maxRecDepth 100000 in
set_option maxHeartbeats 4000000 in
theorem r_E_fewest_119 {X : zCX} (o : zOK X "WantShelves$Errand" c_E_fewest n_E_fewest 6) {σ : zSt} {v0 : Nat} {v3 : Int32} {z : Int32 × zSt} (h : f_E_fewest_119 σ v0 v3 = some z) (hr : zRX X 0 0 (some (.int z.1)) z.2) : zPJ X 0 0 119 [(0, .ref v0), (3, .int v3)] [] σ := by
  unfold f_E_fewest_119 at h
  refine zj_iconst o (zdd k_E_fewest 68 rfl) zki_2 ?_
  refine zj_aload_n o (zdd k_E_fewest 69 rfl) rfl 0 rfl ?_
  refine zj_aload_n o (zdd k_E_fewest 70 rfl) rfl 0 rfl ?_
  obtain ⟨a1, e_a1, h⟩ := zbd h
  refine zj_gP o (zdd k_E_fewest 71 rfl) fl_E_18 rfl e_a1 ?_
  refine zj_iload_n o (zdd k_E_fewest 72 rfl) rfl 1 rfl ?_
  obtain ⟨x2, e_x2, h⟩ := zbd h
  refine zc_V o (zdd k_E_fewest 73 rfl) ml_E_38 mv_E_parted ⟨rfl, by decide⟩ (zg_some e_x2).1 (by decide) [.ref a1, .int v3] [.int 2] rfl (Nat.le_of_ble_eq_true rfl) rfl (m_E_parted e_x2) ?_
  change zPJ X 0 0 _ _ [.int x2, .int 2] _
  refine zj_imul o (zdd k_E_fewest 74 rfl) ?_
  cases h
  exact zr_i o hr (zdd k_E_fewest 75 rfl)
def f_E_fewest_81 (k81 : zSt → Nat → Int32 → Int32 → Option (Int32 × zSt)) (σ : zSt) (v0 : Nat) (v3 : Int32) (v5 : Int32) : Option (Int32 × zSt) :=
if v3 < v5 then (
f_E_fewest_119 σ v0 v3) else
if v5 &&& (v3 ^^^ (-1)) = 0 then (
(zgP σ 1 v0 2).bind fun a1 =>
(zgP σ 1 v0 1).bind fun a2 =>
(f_E_parted σ v0 a2 v5).bind fun x3 =>
(zwI σ 1 a1 v5 x3).bind fun σ4 =>
k81 σ4 v0 v3 (v5 + 1)) else
k81 σ v0 v3 (v5 + 1)
set_option maxRecDepth 100000 in
set_option maxHeartbeats 4000000 in
theorem r_E_fewest_81 {X : zCX} (o : zOK X "WantShelves$Errand" c_E_fewest n_E_fewest 6) {k81 : zSt → Nat → Int32 → Int32 → Option (Int32 × zSt)} (hk81 : ∀ {σ : zSt} {v0 : Nat} {v3 : Int32} {v5 : Int32} {z : Int32 × zSt}, k81 σ v0 v3 v5 = some z → zRX X 0 0 (some (.int z.1)) z.2 → zPJ X 0 0 81 [(0, .ref v0), (3, .int v3), (5, .int v5)] [] σ) {σ : zSt} {v0 : Nat} {v3 : Int32} {v5 : Int32} {z : Int32 × zSt} (h : f_E_fewest_81 k81 σ v0 v3 v5 = some z) (hr : zRX X 0 0 (some (.int z.1)) z.2) : zPJ X 0 0 81 [(0, .ref v0), (3, .int v3), (5, .int v5)] [] σ := by
  unfold f_E_fewest_81 at h
  refine zj_iload o (zdd k_E_fewest 48 rfl) 2 rfl ?_
  refine zj_iload_n o (zdd k_E_fewest 49 rfl) rfl 1 rfl ?_
  refine zj_icmp_gt (tgt := 119) o (zdd k_E_fewest 50 rfl) (by decide) (fun hc => ?_) (fun hc => ?_)
  · rw [if_pos hc] at h
    exact zj_sub [0, 1] rfl (r_E_fewest_119 o  h hr)
  · rw [if_neg hc] at h
    refine zj_iload o (zdd k_E_fewest 51 rfl) 2 rfl ?_
    refine zj_iload_n o (zdd k_E_fewest 52 rfl) rfl 1 rfl ?_
    refine zj_iconst o (zdd k_E_fewest 53 rfl) zki_m1 ?_
    refine zj_ixor o (zdd k_E_fewest 54 rfl) ?_
    refine zj_iand o (zdd k_E_fewest 55 rfl) ?_
    refine zj_if_ne (tgt := 113) o (zdd k_E_fewest 56 rfl) (by decide) (fun hc => ?_) (fun hc => ?_)
    · rw [if_neg hc] at h
      refine zj_iinc (v := v5 + 1) (loc' := [(5, .int (v5 + 1)), (0, .ref v0), (3, .int v3)]) o (zdd k_E_fewest 66 rfl) 2 rfl (by rw [zki_1]) (by decide) rfl ?_
      refine zj_goto (tgt := 81) o (zdd k_E_fewest 67 rfl) (by decide) ?_
      exact zj_sub [1, 2, 0] rfl (hk81 h hr)
    · rw [if_pos hc] at h
      refine zj_aload_n o (zdd k_E_fewest 57 rfl) rfl 0 rfl ?_
      obtain ⟨a1, e_a1, h⟩ := zbd h
      refine zj_gP o (zdd k_E_fewest 58 rfl) fl_E_18 rfl e_a1 ?_
      refine zj_iload o (zdd k_E_fewest 59 rfl) 2 rfl ?_
      refine zj_aload_n o (zdd k_E_fewest 60 rfl) rfl 0 rfl ?_
      refine zj_aload_n o (zdd k_E_fewest 61 rfl) rfl 0 rfl ?_
      obtain ⟨a2, e_a2, h⟩ := zbd h
      refine zj_gP o (zdd k_E_fewest 62 rfl) fl_E_15 rfl e_a2 ?_
      refine zj_iload o (zdd k_E_fewest 63 rfl) 2 rfl ?_
      obtain ⟨x3, e_x3, h⟩ := zbd h
      refine zc_V o (zdd k_E_fewest 64 rfl) ml_E_38 mv_E_parted ⟨rfl, by decide⟩ (zg_some e_x3).1 (by decide) [.ref a2, .int v5] [.int v5, .ref a1] rfl (Nat.le_of_ble_eq_true rfl) rfl (m_E_parted e_x3) ?_
      change zPJ X 0 0 _ _ [.int x3, .int v5, .ref a1] _
      obtain ⟨σ4, e_σ4, h⟩ := zbd h
      refine zj_iast o (zdd k_E_fewest 65 rfl) e_σ4 ?_
      refine zj_iinc (v := v5 + 1) (loc' := [(5, .int (v5 + 1)), (0, .ref v0), (3, .int v3)]) o (zdd k_E_fewest 66 rfl) 2 rfl (by rw [zki_1]) (by decide) rfl ?_
      refine zj_goto (tgt := 81) o (zdd k_E_fewest 67 rfl) (by decide) ?_
      exact zj_sub [1, 2, 0] rfl (hk81 h hr)
def f_E_fewest_81L : Nat → zSt → Nat → Int32 → Int32 → Option (Int32 × zSt)
  | 0 => fun _ _ _ _ => none
  | n + 1 => f_E_fewest_81  (f_E_fewest_81L  n)
theorem r_E_fewest_81L {X : zCX} (o : zOK X "WantShelves$Errand" c_E_fewest n_E_fewest 6) : ∀ (n : Nat) {σ : zSt} {v0 : Nat} {v3 : Int32} {v5 : Int32} {z : Int32 × zSt}, f_E_fewest_81L n σ v0 v3 v5 = some z → zRX X 0 0 (some (.int z.1)) z.2 → zPJ X 0 0 81 [(0, .ref v0), (3, .int v3), (5, .int v5)] [] σ
  | 0 => fun h _ => by cases h
  | n + 1 => fun h hr => r_E_fewest_81 o (r_E_fewest_81L o  n) h hr
def f_E_fewest_45 (σ : zSt) (v0 : Nat) (v3 : Int32) (v4 : Int32) : Option (Int32 × zSt) :=
if v4 = 1 then (
(zgP σ 1 v0 1).bind fun a3 =>
(zaI σ 1 a3 v3).bind fun x4 =>
some (2 * x4, σ)) else
if v4 = 2 then (
(zgP σ 1 v0 1).bind fun a1 =>
(f_E_parted σ v0 a1 v3).bind fun x2 =>
some (2 * x2, σ)) else
f_E_fewest_81L zfu σ v0 v3 0
set_option maxRecDepth 100000 in
set_option maxHeartbeats 4000000 in
theorem r_E_fewest_45 {X : zCX} (o : zOK X "WantShelves$Errand" c_E_fewest n_E_fewest 6) {σ : zSt} {v0 : Nat} {v3 : Int32} {v4 : Int32} {z : Int32 × zSt} (h : f_E_fewest_45 σ v0 v3 v4 = some z) (hr : zRX X 0 0 (some (.int z.1)) z.2) : zPJ X 0 0 45 [(0, .ref v0), (3, .int v3), (4, .int v4)] [] σ := by
  unfold f_E_fewest_45 at h
  refine zj_iload o (zdd k_E_fewest 25 rfl) 2 rfl ?_
  refine zj_iconst o (zdd k_E_fewest 26 rfl) zki_1 ?_
  refine zj_icmp_ne (tgt := 60) o (zdd k_E_fewest 27 rfl) (by decide) (fun hc => ?_) (fun hc => ?_)
  · rw [if_neg hc] at h
    refine zj_iload o (zdd k_E_fewest 35 rfl) 2 rfl ?_
    refine zj_iconst o (zdd k_E_fewest 36 rfl) zki_2 ?_
    refine zj_icmp_ne (tgt := 78) o (zdd k_E_fewest 37 rfl) (by decide) (fun hc => ?_) (fun hc => ?_)
    · rw [if_neg hc] at h
      refine zj_iconst o (zdd k_E_fewest 46 rfl) zki_0 ?_
      refine zj_istore (loc' := [(5, .int 0), (0, .ref v0), (3, .int v3), (4, .int v4)]) o (zdd k_E_fewest 47 rfl) (by decide) rfl ?_
      exact zj_sub [1, 2, 0] rfl (r_E_fewest_81L o  zfu h hr)
    · rw [if_pos hc] at h
      refine zj_iconst o (zdd k_E_fewest 38 rfl) zki_2 ?_
      refine zj_aload_n o (zdd k_E_fewest 39 rfl) rfl 0 rfl ?_
      refine zj_aload_n o (zdd k_E_fewest 40 rfl) rfl 0 rfl ?_
      obtain ⟨a1, e_a1, h⟩ := zbd h
      refine zj_gP o (zdd k_E_fewest 41 rfl) fl_E_15 rfl e_a1 ?_
      refine zj_iload_n o (zdd k_E_fewest 42 rfl) rfl 1 rfl ?_
      obtain ⟨x2, e_x2, h⟩ := zbd h
      refine zc_V o (zdd k_E_fewest 43 rfl) ml_E_38 mv_E_parted ⟨rfl, by decide⟩ (zg_some e_x2).1 (by decide) [.ref a1, .int v3] [.int 2] rfl (Nat.le_of_ble_eq_true rfl) rfl (m_E_parted e_x2) ?_
      change zPJ X 0 0 _ _ [.int x2, .int 2] _
      refine zj_imul o (zdd k_E_fewest 44 rfl) ?_
      cases h
      exact zr_i o hr (zdd k_E_fewest 45 rfl)
  · rw [if_pos hc] at h
    refine zj_iconst o (zdd k_E_fewest 28 rfl) zki_2 ?_
    refine zj_aload_n o (zdd k_E_fewest 29 rfl) rfl 0 rfl ?_
    obtain ⟨a3, e_a3, h⟩ := zbd h
    refine zj_gP o (zdd k_E_fewest 30 rfl) fl_E_15 rfl e_a3 ?_
    refine zj_iload_n o (zdd k_E_fewest 31 rfl) rfl 1 rfl ?_
    obtain ⟨x4, e_x4, h⟩ := zbd h
    refine zj_iald o (zdd k_E_fewest 32 rfl) e_x4 ?_
    refine zj_imul o (zdd k_E_fewest 33 rfl) ?_
    cases h
    exact zr_i o hr (zdd k_E_fewest 34 rfl)
def f_E_fewest_19 (k19 : zSt → Nat → Nat → Nat → Int32 → Int32 → Int32 → Option (Int32 × zSt)) (σ : zSt) (v0 : Nat) (v1 : Nat) (v2 : Nat) (v3 : Int32) (v4 : Int32) (v5 : Int32) : Option (Int32 × zSt) :=
(zgI σ 10 v2 2).bind fun x1 =>
if 1 <<< (x1 &&& 31) ≤ v5 then (
f_E_fewest_45 σ v0 v3 v4) else
(f_E_walkWith σ v0 v1 v2 v5 v3).bind fun σ2 =>
k19 σ2 v0 v1 v2 v3 v4 (v5 + 1)
set_option maxRecDepth 100000 in
set_option maxHeartbeats 4000000 in
theorem r_E_fewest_19 {X : zCX} (o : zOK X "WantShelves$Errand" c_E_fewest n_E_fewest 6) {k19 : zSt → Nat → Nat → Nat → Int32 → Int32 → Int32 → Option (Int32 × zSt)} (hk19 : ∀ {σ : zSt} {v0 : Nat} {v1 : Nat} {v2 : Nat} {v3 : Int32} {v4 : Int32} {v5 : Int32} {z : Int32 × zSt}, k19 σ v0 v1 v2 v3 v4 v5 = some z → zRX X 0 0 (some (.int z.1)) z.2 → zPJ X 0 0 19 [(0, .ref v0), (1, .ref v1), (2, .ref v2), (3, .int v3), (4, .int v4), (5, .int v5)] [] σ) {σ : zSt} {v0 : Nat} {v1 : Nat} {v2 : Nat} {v3 : Int32} {v4 : Int32} {v5 : Int32} {z : Int32 × zSt} (h : f_E_fewest_19 k19 σ v0 v1 v2 v3 v4 v5 = some z) (hr : zRX X 0 0 (some (.int z.1)) z.2) : zPJ X 0 0 19 [(0, .ref v0), (1, .ref v1), (2, .ref v2), (3, .int v3), (4, .int v4), (5, .int v5)] [] σ := by
  unfold f_E_fewest_19 at h
  refine zj_iload o (zdd k_E_fewest 11 rfl) 5 rfl ?_
  refine zj_iconst o (zdd k_E_fewest 12 rfl) zki_1 ?_
  refine zj_aload_n o (zdd k_E_fewest 13 rfl) rfl 2 rfl ?_
  obtain ⟨x1, e_x1, h⟩ := zbd h
  refine zj_gI o (zdd k_E_fewest 14 rfl) fl_E_28 rfl e_x1 ?_
  refine zj_ishl o (zdd k_E_fewest 15 rfl) ?_
  refine zj_icmp_ge (tgt := 45) o (zdd k_E_fewest 16 rfl) (by decide) (fun hc => ?_) (fun hc => ?_)
  · rw [if_pos hc] at h
    exact zj_sub [0, 3, 4] rfl (r_E_fewest_45 o  h hr)
  · rw [if_neg hc] at h
    refine zj_aload_n o (zdd k_E_fewest 17 rfl) rfl 0 rfl ?_
    refine zj_aload_n o (zdd k_E_fewest 18 rfl) rfl 1 rfl ?_
    refine zj_aload_n o (zdd k_E_fewest 19 rfl) rfl 2 rfl ?_
    refine zj_iload o (zdd k_E_fewest 20 rfl) 5 rfl ?_
    refine zj_iload_n o (zdd k_E_fewest 21 rfl) rfl 3 rfl ?_
    obtain ⟨σ2, e_σ2, h⟩ := zbd h
    refine zc_V o (zdd k_E_fewest 22 rfl) ml_E_34 mv_E_walkWith ⟨rfl, by decide⟩ (zg_some e_σ2).1 (by decide) [.ref v1, .ref v2, .int v5, .int v3] [] rfl (Nat.le_of_ble_eq_true rfl) rfl (m_E_walkWith e_σ2) ?_
    change zPJ X 0 0 _ _ [] _
    refine zj_iinc (v := v5 + 1) (loc' := [(5, .int (v5 + 1)), (0, .ref v0), (1, .ref v1), (2, .ref v2), (3, .int v3), (4, .int v4)]) o (zdd k_E_fewest 23 rfl) 5 rfl (by rw [zki_1]) (by decide) rfl ?_
    refine zj_goto (tgt := 19) o (zdd k_E_fewest 24 rfl) (by decide) ?_
    exact zj_sub [1, 2, 3, 4, 5, 0] rfl (hk19 h hr)
def f_E_fewest_19L : Nat → zSt → Nat → Nat → Nat → Int32 → Int32 → Int32 → Option (Int32 × zSt)
  | 0 => fun _ _ _ _ _ _ _ => none
  | n + 1 => f_E_fewest_19  (f_E_fewest_19L  n)
theorem r_E_fewest_19L {X : zCX} (o : zOK X "WantShelves$Errand" c_E_fewest n_E_fewest 6) : ∀ (n : Nat) {σ : zSt} {v0 : Nat} {v1 : Nat} {v2 : Nat} {v3 : Int32} {v4 : Int32} {v5 : Int32} {z : Int32 × zSt}, f_E_fewest_19L n σ v0 v1 v2 v3 v4 v5 = some z → zRX X 0 0 (some (.int z.1)) z.2 → zPJ X 0 0 19 [(0, .ref v0), (1, .ref v1), (2, .ref v2), (3, .int v3), (4, .int v4), (5, .int v5)] [] σ
  | 0 => fun h _ => by cases h
  | n + 1 => fun h hr => r_E_fewest_19 o (r_E_fewest_19L o  n) h hr
def f_E_fewest (σ : zSt) (t : Nat) (p0 : Nat) (p1 : Nat) (p2 : Int32) (p3 : Int32) : Option (Int32 × zSt) :=
zg σ 1 t (
(zgP σ 1 t 1).bind fun a1 =>
(f_J_fill σ a1 1000000).bind fun σ2 =>
(zgP σ2 1 t 1).bind fun a3 =>
(zwI σ2 1 a3 0 0).bind fun σ4 =>
f_E_fewest_19L zfu σ4 t p0 p1 p2 p3 1)
set_option maxRecDepth 100000 in
set_option maxHeartbeats 4000000 in
theorem m_E_fewest {l : Launch} {b : Nat} {ex : Nat → Value} {D : va_G} {ca : Nat → ClassId} {σ : zSt} {t : Nat} {p0 : Nat} {p1 : Nat} {p2 : Int32} {p3 : Int32} {z : Int32 × zSt} (h : f_E_fewest σ t p0 p1 p2 p3 = some z) : zMT l b ex D ca 6 y_E_fewest c_E_fewest n_E_fewest r_ret_E_fewest [.ref t, .ref p0, .ref p1, .int p2, .int p3] σ (some (.int z.1)) z.2 0 0 := by
  obtain ⟨_, hg0⟩ := zg_some h
  have h := hg0
  refine zmt_of (by decide) (Nat.le_of_ble_eq_true rfl) ⟨.int, rfl, rfl⟩ (fun X o hin hrm _ _ _ _ _ hr => ?_)
  have hr := hr 0 0 (by decide) (by decide)
  have o : zOK X "WantShelves$Errand" c_E_fewest n_E_fewest 6 := o
  change zPJ X 0 0 0 [(0, .ref t), (1, .ref p0), (2, .ref p1), (3, .int p2), (4, .int p3)] [] σ
  refine zj_aload_n o (zdd k_E_fewest 0 rfl) rfl 0 rfl ?_
  obtain ⟨a1, e_a1, h⟩ := zbd h
  refine zj_gP o (zdd k_E_fewest 1 rfl) fl_E_15 rfl e_a1 ?_
  refine zj_ldc o (zdd k_E_fewest 2 rfl) co_E_21 ?_
  obtain ⟨σ2, e_σ2, h⟩ := zbd h
  refine zc_S o (zdd k_E_fewest 3 rfl) ml_E_22 ms_J_fill (by decide) [.ref a1, .int 1000000] [] rfl (Nat.le_of_ble_eq_true rfl) rfl (m_J_fill e_σ2) ?_
  change zPJ X 0 0 _ _ [] _
  refine zj_aload_n o (zdd k_E_fewest 4 rfl) rfl 0 rfl ?_
  obtain ⟨a3, e_a3, h⟩ := zbd h
  refine zj_gP o (zdd k_E_fewest 5 rfl) fl_E_15 rfl e_a3 ?_
  refine zj_iconst o (zdd k_E_fewest 6 rfl) zki_0 ?_
  refine zj_iconst o (zdd k_E_fewest 7 rfl) zki_0 ?_
  obtain ⟨σ4, e_σ4, h⟩ := zbd h
  refine zj_iast o (zdd k_E_fewest 8 rfl) e_σ4 ?_
  refine zj_iconst o (zdd k_E_fewest 9 rfl) zki_1 ?_
  refine zj_istore (loc' := [(5, .int 1), (0, .ref t), (1, .ref p0), (2, .ref p1), (3, .int p2), (4, .int p3)]) o (zdd k_E_fewest 10 rfl) (by decide) rfl ?_
  exact zj_sub [1, 2, 3, 4, 5, 0] rfl (r_E_fewest_19L o  zfu h hr)
