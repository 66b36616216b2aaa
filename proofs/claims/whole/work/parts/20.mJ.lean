def f_J_fill_5 (k5 : zSt → Nat → Int32 → Int32 → Int32 → Option (zSt)) (σ : zSt) (v0 : Nat) (v1 : Int32) (v2 : Int32) (v3 : Int32) : Option (zSt) :=
if v3 ≤ v2 then (
some σ) else
(zwI σ 1 v0 v2 v1).bind fun σ1 =>
k5 σ1 v0 v1 (v2 + 1) v3
set_option maxRecDepth 100000 in
set_option maxHeartbeats 4000000 in
theorem r_J_fill_5 {X : zCX} (o : zOK X "java/util/Arrays" c_J_fill n_J_fill 1) {k5 : zSt → Nat → Int32 → Int32 → Int32 → Option (zSt)} (hk5 : ∀ {σ : zSt} {v0 : Nat} {v1 : Int32} {v2 : Int32} {v3 : Int32} {z : zSt}, k5 σ v0 v1 v2 v3 = some z → zRX X 0 0 none z → zPJ X 0 0 5 [(0, .ref v0), (1, .int v1), (2, .int v2), (3, .int v3)] [] σ) {σ : zSt} {v0 : Nat} {v1 : Int32} {v2 : Int32} {v3 : Int32} {z : zSt} (h : f_J_fill_5 k5 σ v0 v1 v2 v3 = some z) (hr : zRX X 0 0 none z) : zPJ X 0 0 5 [(0, .ref v0), (1, .int v1), (2, .int v2), (3, .int v3)] [] σ := by
  unfold f_J_fill_5 at h
  refine zj_iload_n o (zdd k_J_fill 5 rfl) rfl 2 rfl ?_
  refine zj_iload_n o (zdd k_J_fill 6 rfl) rfl 3 rfl ?_
  refine zj_icmp_ge (tgt := 20) o (zdd k_J_fill 7 rfl) (by decide) (fun hc => ?_) (fun hc => ?_)
  · rw [if_pos hc] at h
    cases h
    exact zr_v o hr (zdd k_J_fill 14 rfl)
  · rw [if_neg hc] at h
    refine zj_aload_n o (zdd k_J_fill 8 rfl) rfl 0 rfl ?_
    refine zj_iload_n o (zdd k_J_fill 9 rfl) rfl 2 rfl ?_
    refine zj_iload_n o (zdd k_J_fill 10 rfl) rfl 1 rfl ?_
    obtain ⟨σ1, e_σ1, h⟩ := zbd h
    refine zj_iast o (zdd k_J_fill 11 rfl) e_σ1 ?_
    refine zj_iinc (v := v2 + 1) (loc' := [(2, .int (v2 + 1)), (0, .ref v0), (1, .int v1), (3, .int v3)]) o (zdd k_J_fill 12 rfl) 2 rfl (by rw [zki_1]) (by decide) rfl ?_
    refine zj_goto (tgt := 5) o (zdd k_J_fill 13 rfl) (by decide) ?_
    exact zj_sub [1, 2, 0, 3] rfl (hk5 h hr)
def f_J_fill_5L : Nat → zSt → Nat → Int32 → Int32 → Int32 → Option (zSt)
  | 0 => fun _ _ _ _ _ => none
  | n + 1 => f_J_fill_5  (f_J_fill_5L  n)
theorem r_J_fill_5L {X : zCX} (o : zOK X "java/util/Arrays" c_J_fill n_J_fill 1) : ∀ (n : Nat) {σ : zSt} {v0 : Nat} {v1 : Int32} {v2 : Int32} {v3 : Int32} {z : zSt}, f_J_fill_5L n σ v0 v1 v2 v3 = some z → zRX X 0 0 none z → zPJ X 0 0 5 [(0, .ref v0), (1, .int v1), (2, .int v2), (3, .int v3)] [] σ
  | 0 => fun h _ => by cases h
  | n + 1 => fun h hr => r_J_fill_5 o (r_J_fill_5L o  n) h hr
def f_J_fill (σ : zSt) (p0 : Nat) (p1 : Int32) : Option (zSt) :=
(zlen σ 1 p0).bind fun x1 =>
f_J_fill_5L zfu σ p0 p1 0 x1
set_option maxRecDepth 100000 in
set_option maxHeartbeats 4000000 in
theorem m_J_fill {l : Launch} {b : Nat} {ex : Nat → Value} {D : va_G} {ca : Nat → ClassId} {σ : zSt} {p0 : Nat} {p1 : Int32} {z : zSt} (h : f_J_fill σ p0 p1 = some z) : zMT l b ex D ca 1 y_J_fill c_J_fill n_J_fill r_ret_J_fill [.ref p0, .int p1] σ none z 0 0 := by
  unfold f_J_fill at h
  refine zmt_of (by decide) (Nat.le_of_ble_eq_true rfl) rfl (fun X o hin hrm _ _ _ _ _ hr => ?_)
  have hr := hr 0 0 (by decide) (by decide)
  have o : zOK X "java/util/Arrays" c_J_fill n_J_fill 1 := o
  change zPJ X 0 0 0 [(0, .ref p0), (1, .int p1)] [] σ
  refine zj_iconst o (zdd k_J_fill 0 rfl) zki_0 ?_
  refine zj_istore_n (loc' := [(2, .int 0), (0, .ref p0), (1, .int p1)]) o (zdd k_J_fill 1 rfl) rfl (by decide) rfl ?_
  refine zj_aload_n o (zdd k_J_fill 2 rfl) rfl 1 rfl ?_
  obtain ⟨x1, e_x1, h⟩ := zbd h
  refine zj_alen1 o (zdd k_J_fill 3 rfl) e_x1 ?_
  refine zj_istore_n (loc' := [(3, .int x1), (2, .int 0), (0, .ref p0), (1, .int p1)]) o (zdd k_J_fill 4 rfl) rfl (by decide) rfl ?_
  exact zj_sub [2, 3, 1, 0] rfl (r_J_fill_5L o  zfu h hr)
def f_J_bitCount (p0 : Int32) : Option (Int32) :=
(some (p0 - ((((p0 : Int32).toUInt32 >>> ((1 : Int32).toUInt32 &&& Int32.toUInt32 31)).toInt32) &&& 1431655765))).bind fun (y1 : Int32) =>
(some ((y1 &&& 858993459) + ((((y1 : Int32).toUInt32 >>> ((2 : Int32).toUInt32 &&& Int32.toUInt32 31)).toInt32) &&& 858993459))).bind fun (y2 : Int32) =>
(some ((y2 + (((y2 : Int32).toUInt32 >>> ((4 : Int32).toUInt32 &&& Int32.toUInt32 31)).toInt32)) &&& 252645135)).bind fun (y3 : Int32) =>
(some (y3 + (((y3 : Int32).toUInt32 >>> ((8 : Int32).toUInt32 &&& Int32.toUInt32 31)).toInt32))).bind fun (y4 : Int32) =>
(some (y4 + (((y4 : Int32).toUInt32 >>> ((16 : Int32).toUInt32 &&& Int32.toUInt32 31)).toInt32))).bind fun (y5 : Int32) =>
some (y5 &&& 63)
set_option maxRecDepth 100000 in
set_option maxHeartbeats 4000000 in
theorem m_J_bitCount {l : Launch} {b : Nat} {ex : Nat → Value} {D : va_G} {ca : Nat → ClassId} {σ : zSt} {p0 : Int32} {z : Int32} (h : f_J_bitCount p0 = some z) : zMT l b ex D ca 1 y_J_bitCount c_J_bitCount n_J_bitCount r_ret_J_bitCount [.int p0] σ (some (.int z)) σ 0 0 := by
  unfold f_J_bitCount at h
  refine zmt_of (by decide) (Nat.le_of_ble_eq_true rfl) ⟨.int, rfl, rfl⟩ (fun X o hin hrm _ _ _ _ _ hr => ?_)
  have hr := hr 0 0 (by decide) (by decide)
  have o : zOK X "java/lang/Integer" c_J_bitCount n_J_bitCount 1 := o
  change zPJ X 0 0 0 [(0, .int p0)] [] σ
  refine zj_iload_n o (zdd k_J_bitCount 0 rfl) rfl 0 rfl ?_
  refine zj_iload_n o (zdd k_J_bitCount 1 rfl) rfl 0 rfl ?_
  refine zj_iconst o (zdd k_J_bitCount 2 rfl) zki_1 ?_
  refine zj_iushr o (zdd k_J_bitCount 3 rfl) ?_
  refine zj_ldcw o (zdd k_J_bitCount 4 rfl) co_Integer_265 ?_
  refine zj_iand o (zdd k_J_bitCount 5 rfl) ?_
  refine zj_isub o (zdd k_J_bitCount 6 rfl) ?_
  obtain ⟨y1, e_y1, h⟩ := zbd h
  rw [Option.some.inj e_y1]
  refine zj_istore_n (loc' := [(0, .int y1)]) o (zdd k_J_bitCount 7 rfl) rfl (by decide) rfl ?_
  refine zj_iload_n o (zdd k_J_bitCount 8 rfl) rfl 0 rfl ?_
  refine zj_ldcw o (zdd k_J_bitCount 9 rfl) co_Integer_266 ?_
  refine zj_iand o (zdd k_J_bitCount 10 rfl) ?_
  refine zj_iload_n o (zdd k_J_bitCount 11 rfl) rfl 0 rfl ?_
  refine zj_iconst o (zdd k_J_bitCount 12 rfl) zki_2 ?_
  refine zj_iushr o (zdd k_J_bitCount 13 rfl) ?_
  refine zj_ldcw o (zdd k_J_bitCount 14 rfl) co_Integer_266 ?_
  refine zj_iand o (zdd k_J_bitCount 15 rfl) ?_
  refine zj_iadd o (zdd k_J_bitCount 16 rfl) ?_
  obtain ⟨y2, e_y2, h⟩ := zbd h
  rw [Option.some.inj e_y2]
  refine zj_istore_n (loc' := [(0, .int y2)]) o (zdd k_J_bitCount 17 rfl) rfl (by decide) rfl ?_
  refine zj_iload_n o (zdd k_J_bitCount 18 rfl) rfl 0 rfl ?_
  refine zj_iload_n o (zdd k_J_bitCount 19 rfl) rfl 0 rfl ?_
  refine zj_iconst o (zdd k_J_bitCount 20 rfl) zki_4 ?_
  refine zj_iushr o (zdd k_J_bitCount 21 rfl) ?_
  refine zj_iadd o (zdd k_J_bitCount 22 rfl) ?_
  refine zj_ldcw o (zdd k_J_bitCount 23 rfl) co_Integer_267 ?_
  refine zj_iand o (zdd k_J_bitCount 24 rfl) ?_
  obtain ⟨y3, e_y3, h⟩ := zbd h
  rw [Option.some.inj e_y3]
  refine zj_istore_n (loc' := [(0, .int y3)]) o (zdd k_J_bitCount 25 rfl) rfl (by decide) rfl ?_
  refine zj_iload_n o (zdd k_J_bitCount 26 rfl) rfl 0 rfl ?_
  refine zj_iload_n o (zdd k_J_bitCount 27 rfl) rfl 0 rfl ?_
  refine zj_bipush o (zdd k_J_bitCount 28 rfl) zkb_8 ?_
  refine zj_iushr o (zdd k_J_bitCount 29 rfl) ?_
  refine zj_iadd o (zdd k_J_bitCount 30 rfl) ?_
  obtain ⟨y4, e_y4, h⟩ := zbd h
  rw [Option.some.inj e_y4]
  refine zj_istore_n (loc' := [(0, .int y4)]) o (zdd k_J_bitCount 31 rfl) rfl (by decide) rfl ?_
  refine zj_iload_n o (zdd k_J_bitCount 32 rfl) rfl 0 rfl ?_
  refine zj_iload_n o (zdd k_J_bitCount 33 rfl) rfl 0 rfl ?_
  refine zj_bipush o (zdd k_J_bitCount 34 rfl) zkb_16 ?_
  refine zj_iushr o (zdd k_J_bitCount 35 rfl) ?_
  refine zj_iadd o (zdd k_J_bitCount 36 rfl) ?_
  obtain ⟨y5, e_y5, h⟩ := zbd h
  rw [Option.some.inj e_y5]
  refine zj_istore_n (loc' := [(0, .int y5)]) o (zdd k_J_bitCount 37 rfl) rfl (by decide) rfl ?_
  refine zj_iload_n o (zdd k_J_bitCount 38 rfl) rfl 0 rfl ?_
  refine zj_bipush o (zdd k_J_bitCount 39 rfl) zkb_63 ?_
  refine zj_iand o (zdd k_J_bitCount 40 rfl) ?_
  cases h
  exact zr_i o hr (zdd k_J_bitCount 41 rfl)
def f_J_coder (t : Nat) : Option (Int32) :=
zgx t (
(some 0).bind zbyt2)
set_option maxRecDepth 100000 in
set_option maxHeartbeats 4000000 in
theorem m_J_coder {l : Launch} {b : Nat} {ex : Nat → Value} {D : va_G} {ca : Nat → ClassId} {σ : zSt} {t : Nat} {z : Int32} (h : f_J_coder t = some z) : zMT l b ex D ca 1 y_J_coder c_J_coder n_J_coder r_ret_J_coder [.retAddr t] σ (some (.int z)) σ 0 0 := by
  obtain ⟨hx, hg0⟩ := zgx_some h
  obtain ⟨z0, hbd, hz⟩ := zbd hg0
  obtain ⟨hzb, rfl⟩ := zbyt2_some hz
  have h := hbd
  refine zmt_of (by decide) (Nat.le_of_ble_eq_true rfl) ⟨.byte, rfl, hzb⟩ (fun X o hin hrm _ _ _ _ _ hr => ?_)
  have hr := hr 0 0 (by decide) (by decide)
  have o : zOK X "java/lang/String" c_J_coder n_J_coder 1 := o
  change zPJ X 0 0 0 [(0, .retAddr t)] [] σ
  refine zj_gsC o (zdd k_J_coder 0 rfl) xl_String_38 ?_
  refine zj_if_eq (tgt := 13) o (zdd k_J_coder 1 rfl) (by decide) (fun hc => absurd hc (by decide)) (fun _ => ?_)
  refine zj_xload_n o (zdd k_J_coder 2 rfl) rfl 0 rfl (by omega) ?_
  refine zj_xcoder o (zdd k_J_coder 3 rfl) xl_String_15 hx ?_
  refine zj_goto (tgt := 14) o (zdd k_J_coder 4 rfl) (by decide) ?_
  cases h
  exact zr_i o hr (zdd k_J_coder 6 rfl)
def f_J_length0 (t : Nat) : Option (Int32) :=
zgx t (
(zxlen (t + 2)).bind fun x1 =>
(f_J_coder t).bind fun x2 =>
some (x1 >>> (x2 &&& 31)))
set_option maxRecDepth 100000 in
set_option maxHeartbeats 4000000 in
theorem m_J_length0 {l : Launch} {b : Nat} {ex : Nat → Value} {D : va_G} {ca : Nat → ClassId} {σ : zSt} {t : Nat} {z : Int32} (h : f_J_length0 t = some z) : zMT l b ex D ca 2 y_J_length0 c_J_length0 n_J_length0 r_ret_J_length0 [.retAddr t] σ (some (.int z)) σ 0 0 := by
  obtain ⟨hx, hg0⟩ := zgx_some h
  have h := hg0
  refine zmt_of (by decide) (Nat.le_of_ble_eq_true rfl) ⟨.int, rfl, rfl⟩ (fun X o hin hrm _ _ _ _ _ hr => ?_)
  have hr := hr 0 0 (by decide) (by decide)
  have o : zOK X "java/lang/String" c_J_length0 n_J_length0 2 := o
  change zPJ X 0 0 0 [(0, .retAddr t)] [] σ
  refine zj_xload_n o (zdd k_J_length0 0 rfl) rfl 0 rfl (by omega) ?_
  refine zj_xvalue o (zdd k_J_length0 1 rfl) xl_String_9 hx ?_
  obtain ⟨x1, e_x1, h⟩ := zbd h
  refine zj_xlen o (zdd k_J_length0 2 rfl) e_x1 ?_
  refine zj_xload_n o (zdd k_J_length0 3 rfl) rfl 0 rfl (by omega) ?_
  obtain ⟨x2, e_x2, h⟩ := zbd h
  refine zc_X o (zdd k_J_length0 4 rfl) ml_String_335 mv_J_coder rfl (zgx_some e_x2).1 (by decide) [] [.int x1] rfl (Nat.le_of_ble_eq_true rfl) rfl (m_J_coder e_x2) ?_
  change zPJ X 0 0 _ _ [.int x2, .int x1] _
  refine zj_ishr o (zdd k_J_length0 5 rfl) ?_
  cases h
  exact zr_i o hr (zdd k_J_length0 6 rfl)
def f_J_isLatin1 (t : Nat) : Option (Int32) :=
zgx t (
(some 1).bind zbool)
set_option maxRecDepth 100000 in
set_option maxHeartbeats 4000000 in
theorem m_J_isLatin1 {l : Launch} {b : Nat} {ex : Nat → Value} {D : va_G} {ca : Nat → ClassId} {σ : zSt} {t : Nat} {z : Int32} (h : f_J_isLatin1 t = some z) : zMT l b ex D ca 1 y_J_isLatin1 c_J_isLatin1 n_J_isLatin1 r_ret_J_isLatin1 [.retAddr t] σ (some (.int z)) σ 0 0 := by
  obtain ⟨hx, hg0⟩ := zgx_some h
  obtain ⟨z0, hbd, hz⟩ := zbd hg0
  obtain ⟨hzb, rfl⟩ := zbool_some hz
  have h := hbd
  refine zmt_of (by decide) (Nat.le_of_ble_eq_true rfl) ⟨.boolean, rfl, zb_nar hzb⟩ (fun X o hin hrm _ _ _ _ _ hr => ?_)
  have hr := hr 0 0 (by decide) (by decide)
  have o : zOK X "java/lang/String" c_J_isLatin1 n_J_isLatin1 1 := o
  change zPJ X 0 0 0 [(0, .retAddr t)] [] σ
  refine zj_gsC o (zdd k_J_isLatin1 0 rfl) xl_String_38 ?_
  refine zj_if_eq (tgt := 17) o (zdd k_J_isLatin1 1 rfl) (by decide) (fun hc => absurd hc (by decide)) (fun _ => ?_)
  refine zj_xload_n o (zdd k_J_isLatin1 2 rfl) rfl 0 rfl (by omega) ?_
  refine zj_xcoder o (zdd k_J_isLatin1 3 rfl) xl_String_15 hx ?_
  refine zj_if_ne (tgt := 17) o (zdd k_J_isLatin1 4 rfl) (by decide) (fun hc => absurd hc (by decide)) (fun _ => ?_)
  refine zj_iconst o (zdd k_J_isLatin1 5 rfl) zki_1 ?_
  refine zj_goto (tgt := 18) o (zdd k_J_isLatin1 6 rfl) (by decide) ?_
  cases h
  exact zr_i o hr (zdd k_J_isLatin1 8 rfl)
def f_J_checkIndex2_9 (v0 : Int32) (v1 : Int32) (v2 : Nat) : Option (Int32) :=
none
set_option maxRecDepth 100000 in
set_option maxHeartbeats 4000000 in
theorem r_J_checkIndex2_9 {X : zCX} (o : zOK X "jdk/internal/util/Preconditions" c_J_checkIndex2 n_J_checkIndex2 1) {σ : zSt} {v0 : Int32} {v1 : Int32} {v2 : Nat} {z : Int32} (h : f_J_checkIndex2_9 v0 v1 v2 = some z) (hr : zRX X 0 0 (some (.int z)) σ) : zPJ X 0 0 9 [(0, .int v0), (1, .int v1), (2, .retAddr v2)] [] σ := by
  unfold f_J_checkIndex2_9 at h
  cases h
def f_J_checkIndex2 (p0 : Int32) (p1 : Int32) (p2 : Nat) : Option (Int32) :=
if p0 < 0 then (
f_J_checkIndex2_9 p0 p1 p2) else
if p0 < p1 then (
some p0) else
f_J_checkIndex2_9 p0 p1 p2
set_option maxRecDepth 100000 in
set_option maxHeartbeats 4000000 in
theorem m_J_checkIndex2 {l : Launch} {b : Nat} {ex : Nat → Value} {D : va_G} {ca : Nat → ClassId} {σ : zSt} {p0 : Int32} {p1 : Int32} {p2 : Nat} {z : Int32} (h : f_J_checkIndex2 p0 p1 p2 = some z) : zMT l b ex D ca 1 y_J_checkIndex2 c_J_checkIndex2 n_J_checkIndex2 r_ret_J_checkIndex2 [.int p0, .int p1, .retAddr p2] σ (some (.int z)) σ 0 0 := by
  unfold f_J_checkIndex2 at h
  refine zmt_of (by decide) (Nat.le_of_ble_eq_true rfl) ⟨.int, rfl, rfl⟩ (fun X o hin hrm _ _ _ _ _ hr => ?_)
  have hr := hr 0 0 (by decide) (by decide)
  have o : zOK X "jdk/internal/util/Preconditions" c_J_checkIndex2 n_J_checkIndex2 1 := o
  change zPJ X 0 0 0 [(0, .int p0), (1, .int p1), (2, .retAddr p2)] [] σ
  refine zj_iload_n o (zdd k_J_checkIndex2 0 rfl) rfl 0 rfl ?_
  refine zj_if_lt (tgt := 9) o (zdd k_J_checkIndex2 1 rfl) (by decide) (fun hc => ?_) (fun hc => ?_)
  · rw [if_pos hc] at h
    exact zj_sub [0, 1, 2] rfl (r_J_checkIndex2_9 o  h hr)
  · rw [if_neg hc] at h
    refine zj_iload_n o (zdd k_J_checkIndex2 2 rfl) rfl 0 rfl ?_
    refine zj_iload_n o (zdd k_J_checkIndex2 3 rfl) rfl 1 rfl ?_
    refine zj_icmp_lt (tgt := 16) o (zdd k_J_checkIndex2 4 rfl) (by decide) (fun hc => ?_) (fun hc => ?_)
    · rw [if_pos hc] at h
      refine zj_iload_n o (zdd k_J_checkIndex2 10 rfl) rfl 0 rfl ?_
      cases h
      exact zr_i o hr (zdd k_J_checkIndex2 11 rfl)
    · rw [if_neg hc] at h
      exact zj_sub [0, 1, 2] rfl (r_J_checkIndex2_9 o  h hr)
def f_J_checkIndex0 (p0 : Int32) (p1 : Int32) : Option (Unit) :=
(f_J_checkIndex2 p0 p1 5).bind fun x1 =>
some ()
set_option maxRecDepth 100000 in
set_option maxHeartbeats 4000000 in
theorem m_J_checkIndex0 {l : Launch} {b : Nat} {ex : Nat → Value} {D : va_G} {ca : Nat → ClassId} {σ : zSt} {p0 : Int32} {p1 : Int32} {z : Unit} (h : f_J_checkIndex0 p0 p1 = some z) : zMT l b ex D ca 2 y_J_checkIndex0 c_J_checkIndex0 n_J_checkIndex0 r_ret_J_checkIndex0 [.int p0, .int p1] σ none σ 0 0 := by
  unfold f_J_checkIndex0 at h
  refine zmt_of (by decide) (Nat.le_of_ble_eq_true rfl) rfl (fun X o hin hrm _ _ _ _ _ hr => ?_)
  have hr := hr 0 0 (by decide) (by decide)
  have o : zOK X "java/lang/String" c_J_checkIndex0 n_J_checkIndex0 2 := o
  change zPJ X 0 0 0 [(0, .int p0), (1, .int p1)] [] σ
  refine zj_iload_n o (zdd k_J_checkIndex0 0 rfl) rfl 0 rfl ?_
  refine zj_iload_n o (zdd k_J_checkIndex0 1 rfl) rfl 1 rfl ?_
  refine zj_gsF o (zdd k_J_checkIndex0 2 rfl) xl_String_1053 ?_
  obtain ⟨x1, e_x1, h⟩ := zbd h
  refine zc_S o (zdd k_J_checkIndex0 3 rfl) ml_String_1059 ms_J_checkIndex2 (by decide) [.int p0, .int p1, .retAddr 5] [] rfl (Nat.le_of_ble_eq_true rfl) rfl (m_J_checkIndex2 e_x1) ?_
  change zPJ X 0 0 _ _ [.int x1] _
  refine zj_pop o (zdd k_J_checkIndex0 4 rfl) rfl ?_
  cases h
  exact zr_v o hr (zdd k_J_checkIndex0 5 rfl)
def f_J_charAt1 (p0 : Nat) (p1 : Int32) : Option (Int32) :=
zgy p0 (
((zxlen p0).bind fun x1 =>
(f_J_checkIndex0 p1 x1).bind fun u2 =>
(zxb p0 p1).bind fun x3 =>
some (zchr (x3 &&& 255))).bind zchr2)
set_option maxRecDepth 100000 in
set_option maxHeartbeats 4000000 in
theorem m_J_charAt1 {l : Launch} {b : Nat} {ex : Nat → Value} {D : va_G} {ca : Nat → ClassId} {σ : zSt} {p0 : Nat} {p1 : Int32} {z : Int32} (h : f_J_charAt1 p0 p1 = some z) : zMT l b ex D ca 3 y_J_charAt1 c_J_charAt1 n_J_charAt1 r_ret_J_charAt1 [.retAddr p0, .int p1] σ (some (.int z)) σ 0 0 := by
  obtain ⟨hx, hg0⟩ := zgy_some h
  obtain ⟨z0, hbd, hz⟩ := zbd hg0
  obtain ⟨hzb, rfl⟩ := zchr2_some hz
  have h := hbd
  refine zmt_of (by decide) (Nat.le_of_ble_eq_true rfl) ⟨.char, rfl, hzb⟩ (fun X o hin hrm _ _ _ _ _ hr => ?_)
  have hr := hr 0 0 (by decide) (by decide)
  have o : zOK X "java/lang/StringLatin1" c_J_charAt1 n_J_charAt1 3 := o
  change zPJ X 0 0 0 [(0, .retAddr p0), (1, .int p1)] [] σ
  refine zj_iload_n o (zdd k_J_charAt1 0 rfl) rfl 1 rfl ?_
  refine zj_xload_n o (zdd k_J_charAt1 1 rfl) rfl 0 rfl (by omega) ?_
  obtain ⟨x1, e_x1, h⟩ := zbd h
  refine zj_xlen o (zdd k_J_charAt1 2 rfl) e_x1 ?_
  obtain ⟨u2, e_u2, h⟩ := zbd h
  refine zc_S o (zdd k_J_charAt1 3 rfl) ml_StringLatin1_9 ms_J_checkIndex0 (by decide) [.int p1, .int x1] [] rfl (Nat.le_of_ble_eq_true rfl) rfl (m_J_checkIndex0 e_u2) ?_
  change zPJ X 0 0 _ _ [] _
  refine zj_xload_n o (zdd k_J_charAt1 4 rfl) rfl 0 rfl (by omega) ?_
  refine zj_iload_n o (zdd k_J_charAt1 5 rfl) rfl 1 rfl ?_
  obtain ⟨x3, e_x3, h⟩ := zbd h
  refine zj_xbald o (zdd k_J_charAt1 6 rfl) e_x3 ?_
  refine zj_sipush o (zdd k_J_charAt1 7 rfl) zks_255 ?_
  refine zj_iand o (zdd k_J_charAt1 8 rfl) ?_
  refine zj_i2c o (zdd k_J_charAt1 9 rfl) ?_
  change zPJ X 0 0 _ _ [.int (zchr (x3 &&& 255))] _
  cases h
  exact zr_i o hr (zdd k_J_charAt1 10 rfl)
def f_J_charAt0 (t : Nat) (p0 : Int32) : Option (Int32) :=
zgx t (
((f_J_isLatin1 t).bind fun x1 =>
if x1 = 0 then (
none) else
(f_J_charAt1 (t + 2) p0).bind fun x2 =>
some x2).bind zchr2)
set_option maxRecDepth 100000 in
set_option maxHeartbeats 4000000 in
theorem m_J_charAt0 {l : Launch} {b : Nat} {ex : Nat → Value} {D : va_G} {ca : Nat → ClassId} {σ : zSt} {t : Nat} {p0 : Int32} {z : Int32} (h : f_J_charAt0 t p0 = some z) : zMT l b ex D ca 4 y_J_charAt0 c_J_charAt0 n_J_charAt0 r_ret_J_charAt0 [.retAddr t, .int p0] σ (some (.int z)) σ 0 0 := by
  obtain ⟨hx, hg0⟩ := zgx_some h
  obtain ⟨z0, hbd, hz⟩ := zbd hg0
  obtain ⟨hzb, rfl⟩ := zchr2_some hz
  have h := hbd
  refine zmt_of (by decide) (Nat.le_of_ble_eq_true rfl) ⟨.char, rfl, hzb⟩ (fun X o hin hrm _ _ _ _ _ hr => ?_)
  have hr := hr 0 0 (by decide) (by decide)
  have o : zOK X "java/lang/String" c_J_charAt0 n_J_charAt0 4 := o
  change zPJ X 0 0 0 [(0, .retAddr t), (1, .int p0)] [] σ
  refine zj_xload_n o (zdd k_J_charAt0 0 rfl) rfl 0 rfl (by omega) ?_
  obtain ⟨x1, e_x1, h⟩ := zbd h
  refine zc_X o (zdd k_J_charAt0 1 rfl) ml_String_492 mv_J_isLatin1 rfl (zgx_some e_x1).1 (by decide) [] [] rfl (Nat.le_of_ble_eq_true rfl) rfl (m_J_isLatin1 e_x1) ?_
  change zPJ X 0 0 _ _ [.int x1] _
  refine zj_if_eq (tgt := 16) o (zdd k_J_charAt0 2 rfl) (by decide) (fun hc => ?_) (fun hc => ?_)
  · rw [if_pos hc] at h
    cases h
  · rw [if_neg hc] at h
    refine zj_xload_n o (zdd k_J_charAt0 3 rfl) rfl 0 rfl (by omega) ?_
    refine zj_xvalue o (zdd k_J_charAt0 4 rfl) xl_String_9 hx ?_
    refine zj_iload_n o (zdd k_J_charAt0 5 rfl) rfl 1 rfl ?_
    obtain ⟨x2, e_x2, h⟩ := zbd h
    refine zc_S o (zdd k_J_charAt0 6 rfl) ml_String_495 ms_J_charAt1 (by decide) [.retAddr (t + 2), .int p0] [] rfl (Nat.le_of_ble_eq_true rfl) rfl (m_J_charAt1 e_x2) ?_
    change zPJ X 0 0 _ _ [.int x2] _
    cases h
    exact zr_i o hr (zdd k_J_charAt0 7 rfl)
def f_J_canEncode (p0 : Int32) : Option (Int32) :=
(if p0 < 0 then (
some 0) else
if 255 < p0 then (
some 0) else
some 1).bind zbool
set_option maxRecDepth 100000 in
set_option maxHeartbeats 4000000 in
theorem m_J_canEncode {l : Launch} {b : Nat} {ex : Nat → Value} {D : va_G} {ca : Nat → ClassId} {σ : zSt} {p0 : Int32} {z : Int32} (h : f_J_canEncode p0 = some z) : zMT l b ex D ca 1 y_J_canEncode c_J_canEncode n_J_canEncode r_ret_J_canEncode [.int p0] σ (some (.int z)) σ 0 0 := by
  obtain ⟨z0, hbd, hz⟩ := zbd h
  obtain ⟨hzb, rfl⟩ := zbool_some hz
  have h := hbd
  refine zmt_of (by decide) (Nat.le_of_ble_eq_true rfl) ⟨.boolean, rfl, zb_nar hzb⟩ (fun X o hin hrm _ _ _ _ _ hr => ?_)
  have hr := hr 0 0 (by decide) (by decide)
  have o : zOK X "java/lang/StringLatin1" c_J_canEncode n_J_canEncode 1 := o
  change zPJ X 0 0 0 [(0, .int p0)] [] σ
  refine zj_iload_n o (zdd k_J_canEncode 0 rfl) rfl 0 rfl ?_
  refine zj_if_lt (tgt := 15) o (zdd k_J_canEncode 1 rfl) (by decide) (fun hc => ?_) (fun hc => ?_)
  · rw [if_pos hc] at h
    refine zj_iconst o (zdd k_J_canEncode 7 rfl) zki_0 ?_
    cases h
    exact zr_i o hr (zdd k_J_canEncode 8 rfl)
  · rw [if_neg hc] at h
    refine zj_iload_n o (zdd k_J_canEncode 2 rfl) rfl 0 rfl ?_
    refine zj_sipush o (zdd k_J_canEncode 3 rfl) zks_255 ?_
    refine zj_icmp_gt (tgt := 15) o (zdd k_J_canEncode 4 rfl) (by decide) (fun hc => ?_) (fun hc => ?_)
    · rw [if_pos hc] at h
      refine zj_iconst o (zdd k_J_canEncode 7 rfl) zki_0 ?_
      cases h
      exact zr_i o hr (zdd k_J_canEncode 8 rfl)
    · rw [if_neg hc] at h
      refine zj_iconst o (zdd k_J_canEncode 5 rfl) zki_1 ?_
      refine zj_goto (tgt := 16) o (zdd k_J_canEncode 6 rfl) (by decide) ?_
      cases h
      exact zr_i o hr (zdd k_J_canEncode 8 rfl)
def f_J_indexOfChar0_7 (k7 : Nat → Int32 → Int32 → Int32 → Option (Int32)) (v0 : Nat) (v3 : Int32) (v4 : Int32) (v5 : Int32) : Option (Int32) :=
if v3 ≤ v5 then (
some (-1)) else
(zxb v0 v5).bind fun x1 =>
if x1 = v4 then (
some v5) else
k7 v0 v3 v4 (v5 + 1)
set_option maxRecDepth 100000 in
set_option maxHeartbeats 4000000 in
theorem r_J_indexOfChar0_7 {X : zCX} (o : zOK X "java/lang/StringLatin1" c_J_indexOfChar0 n_J_indexOfChar0 1) {k7 : Nat → Int32 → Int32 → Int32 → Option (Int32)} (hk7 : ∀ {σ : zSt} {v0 : Nat} {v3 : Int32} {v4 : Int32} {v5 : Int32} {z : Int32}, k7 v0 v3 v4 v5 = some z → zRX X 0 0 (some (.int z)) σ → (v0 = 3 ∨ v0 = 4) → zPJ X 0 0 7 [(0, .retAddr v0), (3, .int v3), (4, .int v4), (5, .int v5)] [] σ) {σ : zSt} {v0 : Nat} {v3 : Int32} {v4 : Int32} {v5 : Int32} {z : Int32} (h : f_J_indexOfChar0_7 k7 v0 v3 v4 v5 = some z) (hr : zRX X 0 0 (some (.int z)) σ) (hx : v0 = 3 ∨ v0 = 4) : zPJ X 0 0 7 [(0, .retAddr v0), (3, .int v3), (4, .int v4), (5, .int v5)] [] σ := by
  unfold f_J_indexOfChar0_7 at h
  refine zj_iload o (zdd k_J_indexOfChar0 5 rfl) 3 rfl ?_
  refine zj_iload_n o (zdd k_J_indexOfChar0 6 rfl) rfl 1 rfl ?_
  refine zj_icmp_ge (tgt := 31) o (zdd k_J_indexOfChar0 7 rfl) (by decide) (fun hc => ?_) (fun hc => ?_)
  · rw [if_pos hc] at h
    refine zj_iconst o (zdd k_J_indexOfChar0 17 rfl) zki_m1 ?_
    cases h
    exact zr_i o hr (zdd k_J_indexOfChar0 18 rfl)
  · rw [if_neg hc] at h
    refine zj_xload_n o (zdd k_J_indexOfChar0 8 rfl) rfl 0 rfl (by omega) ?_
    refine zj_iload o (zdd k_J_indexOfChar0 9 rfl) 3 rfl ?_
    obtain ⟨x1, e_x1, h⟩ := zbd h
    refine zj_xbald o (zdd k_J_indexOfChar0 10 rfl) e_x1 ?_
    refine zj_iload o (zdd k_J_indexOfChar0 11 rfl) 2 rfl ?_
    refine zj_icmp_ne (tgt := 25) o (zdd k_J_indexOfChar0 12 rfl) (by decide) (fun hc => ?_) (fun hc => ?_)
    · rw [if_neg hc] at h
      refine zj_iinc (v := v5 + 1) (loc' := [(5, .int (v5 + 1)), (0, .retAddr v0), (3, .int v3), (4, .int v4)]) o (zdd k_J_indexOfChar0 15 rfl) 3 rfl (by rw [zki_1]) (by decide) rfl ?_
      refine zj_goto (tgt := 7) o (zdd k_J_indexOfChar0 16 rfl) (by decide) ?_
      exact zj_sub [1, 2, 3, 0] rfl (hk7 h hr hx)
    · rw [if_pos hc] at h
      refine zj_iload o (zdd k_J_indexOfChar0 13 rfl) 3 rfl ?_
      cases h
      exact zr_i o hr (zdd k_J_indexOfChar0 14 rfl)
def f_J_indexOfChar0_7L : Nat → Nat → Int32 → Int32 → Int32 → Option (Int32)
  | 0 => fun _ _ _ _ => none
  | n + 1 => f_J_indexOfChar0_7  (f_J_indexOfChar0_7L  n)
theorem r_J_indexOfChar0_7L {X : zCX} (o : zOK X "java/lang/StringLatin1" c_J_indexOfChar0 n_J_indexOfChar0 1) : ∀ (n : Nat) {σ : zSt} {v0 : Nat} {v3 : Int32} {v4 : Int32} {v5 : Int32} {z : Int32}, f_J_indexOfChar0_7L n v0 v3 v4 v5 = some z → zRX X 0 0 (some (.int z)) σ → (v0 = 3 ∨ v0 = 4) → zPJ X 0 0 7 [(0, .retAddr v0), (3, .int v3), (4, .int v4), (5, .int v5)] [] σ
  | 0 => fun h _ _ => by cases h
  | n + 1 => fun h hr hx => r_J_indexOfChar0_7 o (r_J_indexOfChar0_7L o  n) h hr hx
def f_J_indexOfChar0 (p0 : Nat) (p1 : Int32) (p2 : Int32) (p3 : Int32) : Option (Int32) :=
zgy p0 (
f_J_indexOfChar0_7L zfu p0 p3 (zbyt p1) p2)
set_option maxRecDepth 100000 in
set_option maxHeartbeats 4000000 in
theorem m_J_indexOfChar0 {l : Launch} {b : Nat} {ex : Nat → Value} {D : va_G} {ca : Nat → ClassId} {σ : zSt} {p0 : Nat} {p1 : Int32} {p2 : Int32} {p3 : Int32} {z : Int32} (h : f_J_indexOfChar0 p0 p1 p2 p3 = some z) : zMT l b ex D ca 1 y_J_indexOfChar0 c_J_indexOfChar0 n_J_indexOfChar0 r_ret_J_indexOfChar0 [.retAddr p0, .int p1, .int p2, .int p3] σ (some (.int z)) σ 0 0 := by
  obtain ⟨hx, hg0⟩ := zgy_some h
  have h := hg0
  refine zmt_of (by decide) (Nat.le_of_ble_eq_true rfl) ⟨.int, rfl, rfl⟩ (fun X o hin hrm _ _ _ _ _ hr => ?_)
  have hr := hr 0 0 (by decide) (by decide)
  have o : zOK X "java/lang/StringLatin1" c_J_indexOfChar0 n_J_indexOfChar0 1 := o
  change zPJ X 0 0 0 [(0, .retAddr p0), (1, .int p1), (2, .int p2), (3, .int p3)] [] σ
  refine zj_iload_n o (zdd k_J_indexOfChar0 0 rfl) rfl 1 rfl ?_
  refine zj_i2b o (zdd k_J_indexOfChar0 1 rfl) ?_
  change zPJ X 0 0 _ _ [.int (zbyt p1)] _
  refine zj_istore (loc' := [(4, .int (zbyt p1)), (0, .retAddr p0), (1, .int p1), (2, .int p2), (3, .int p3)]) o (zdd k_J_indexOfChar0 2 rfl) (by decide) rfl ?_
  refine zj_iload_n o (zdd k_J_indexOfChar0 3 rfl) rfl 3 rfl ?_
  refine zj_istore (loc' := [(5, .int p2), (4, .int (zbyt p1)), (0, .retAddr p0), (1, .int p1), (2, .int p2), (3, .int p3)]) o (zdd k_J_indexOfChar0 4 rfl) (by decide) rfl ?_
  exact zj_sub [2, 5, 1, 0] rfl (r_J_indexOfChar0_7L o  zfu h hr hx)
def f_J_indexOf2 (p0 : Nat) (p1 : Int32) (p2 : Int32) (p3 : Int32) : Option (Int32) :=
zgy p0 (
(f_J_canEncode p1).bind fun x1 =>
if x1 = 0 then (
some (-1)) else
(zxlen p0).bind fun x2 =>
if zmax p2 0 < zmin p3 x2 then (
(f_J_indexOfChar0 p0 p1 (zmax p2 0) (zmin p3 x2)).bind fun x3 =>
some x3) else
some (-1))
set_option maxRecDepth 100000 in
set_option maxHeartbeats 4000000 in
theorem m_J_indexOf2 {l : Launch} {b : Nat} {ex : Nat → Value} {D : va_G} {ca : Nat → ClassId} {σ : zSt} {p0 : Nat} {p1 : Int32} {p2 : Int32} {p3 : Int32} {z : Int32} (h : f_J_indexOf2 p0 p1 p2 p3 = some z) : zMT l b ex D ca 2 y_J_indexOf2 c_J_indexOf2 n_J_indexOf2 r_ret_J_indexOf2 [.retAddr p0, .int p1, .int p2, .int p3] σ (some (.int z)) σ 0 0 := by
  obtain ⟨hx, hg0⟩ := zgy_some h
  have h := hg0
  refine zmt_of (by decide) (Nat.le_of_ble_eq_true rfl) ⟨.int, rfl, rfl⟩ (fun X o hin hrm _ _ _ _ _ hr => ?_)
  have hr := hr 0 0 (by decide) (by decide)
  have o : zOK X "java/lang/StringLatin1" c_J_indexOf2 n_J_indexOf2 2 := o
  change zPJ X 0 0 0 [(0, .retAddr p0), (1, .int p1), (2, .int p2), (3, .int p3)] [] σ
  refine zj_iload_n o (zdd k_J_indexOf2 0 rfl) rfl 1 rfl ?_
  obtain ⟨x1, e_x1, h⟩ := zbd h
  refine zc_S o (zdd k_J_indexOf2 1 rfl) ml_StringLatin1_88 ms_J_canEncode (by decide) [.int p1] [] rfl (Nat.le_of_ble_eq_true rfl) rfl (m_J_canEncode e_x1) ?_
  change zPJ X 0 0 _ _ [.int x1] _
  refine zj_if_ne (tgt := 9) o (zdd k_J_indexOf2 2 rfl) (by decide) (fun hc => ?_) (fun hc => ?_)
  · rw [if_neg hc] at h
    refine zj_iload_n o (zdd k_J_indexOf2 5 rfl) rfl 2 rfl ?_
    refine zj_iconst o (zdd k_J_indexOf2 6 rfl) zki_0 ?_
    refine zj_mmax o (zdd k_J_indexOf2 7 rfl) ml_StringLatin1_92 (by decide) (Nat.le_of_ble_eq_true rfl) ?_
    refine zj_istore_n (loc' := [(2, .int (zmax p2 0)), (0, .retAddr p0), (1, .int p1), (3, .int p3)]) o (zdd k_J_indexOf2 8 rfl) rfl (by decide) rfl ?_
    refine zj_iload_n o (zdd k_J_indexOf2 9 rfl) rfl 3 rfl ?_
    refine zj_xload_n o (zdd k_J_indexOf2 10 rfl) rfl 1 rfl (by omega) ?_
    obtain ⟨x2, e_x2, h⟩ := zbd h
    refine zj_xlen o (zdd k_J_indexOf2 11 rfl) e_x2 ?_
    refine zj_mmin o (zdd k_J_indexOf2 12 rfl) ml_StringLatin1_38 (by decide) (Nat.le_of_ble_eq_true rfl) ?_
    refine zj_istore_n (loc' := [(3, .int (zmin p3 x2)), (2, .int (zmax p2 0)), (0, .retAddr p0), (1, .int p1)]) o (zdd k_J_indexOf2 13 rfl) rfl (by decide) rfl ?_
    refine zj_iload_n o (zdd k_J_indexOf2 14 rfl) rfl 1 rfl ?_
    refine zj_iload_n o (zdd k_J_indexOf2 15 rfl) rfl 0 rfl ?_
    refine zj_icmp_lt (tgt := 29) o (zdd k_J_indexOf2 16 rfl) (by decide) (fun hc => ?_) (fun hc => ?_)
    · rw [if_pos hc] at h
      refine zj_xload_n o (zdd k_J_indexOf2 19 rfl) rfl 2 rfl (by omega) ?_
      refine zj_iload_n o (zdd k_J_indexOf2 20 rfl) rfl 3 rfl ?_
      refine zj_iload_n o (zdd k_J_indexOf2 21 rfl) rfl 1 rfl ?_
      refine zj_iload_n o (zdd k_J_indexOf2 22 rfl) rfl 0 rfl ?_
      obtain ⟨x3, e_x3, h⟩ := zbd h
      refine zc_S o (zdd k_J_indexOf2 23 rfl) ml_StringLatin1_95 ms_J_indexOfChar0 (by decide) [.retAddr p0, .int p1, .int (zmax p2 0), .int (zmin p3 x2)] [] rfl (Nat.le_of_ble_eq_true rfl) rfl (m_J_indexOfChar0 e_x3) ?_
      change zPJ X 0 0 _ _ [.int x3] _
      cases h
      exact zr_i o hr (zdd k_J_indexOf2 24 rfl)
    · rw [if_neg hc] at h
      refine zj_iconst o (zdd k_J_indexOf2 17 rfl) zki_m1 ?_
      cases h
      exact zr_i o hr (zdd k_J_indexOf2 18 rfl)
  · rw [if_pos hc] at h
    refine zj_iconst o (zdd k_J_indexOf2 3 rfl) zki_m1 ?_
    cases h
    exact zr_i o hr (zdd k_J_indexOf2 4 rfl)
def f_J_indexOf1 (t : Nat) (p0 : Int32) (p1 : Int32) : Option (Int32) :=
zgx t (
(f_J_isLatin1 t).bind fun x1 =>
if x1 = 0 then (
none) else
(f_J_length0 t).bind fun x3 =>
(f_J_indexOf2 (t + 2) p0 p1 x3).bind fun x4 =>
some x4)
set_option maxRecDepth 100000 in
set_option maxHeartbeats 4000000 in
theorem m_J_indexOf1 {l : Launch} {b : Nat} {ex : Nat → Value} {D : va_G} {ca : Nat → ClassId} {σ : zSt} {t : Nat} {p0 : Int32} {p1 : Int32} {z : Int32} (h : f_J_indexOf1 t p0 p1 = some z) : zMT l b ex D ca 3 y_J_indexOf1 c_J_indexOf1 n_J_indexOf1 r_ret_J_indexOf1 [.retAddr t, .int p0, .int p1] σ (some (.int z)) σ 0 0 := by
  obtain ⟨hx, hg0⟩ := zgx_some h
  have h := hg0
  refine zmt_of (by decide) (Nat.le_of_ble_eq_true rfl) ⟨.int, rfl, rfl⟩ (fun X o hin hrm _ _ _ _ _ hr => ?_)
  have hr := hr 0 0 (by decide) (by decide)
  have o : zOK X "java/lang/String" c_J_indexOf1 n_J_indexOf1 3 := o
  change zPJ X 0 0 0 [(0, .retAddr t), (1, .int p0), (2, .int p1)] [] σ
  refine zj_xload_n o (zdd k_J_indexOf1 0 rfl) rfl 0 rfl (by omega) ?_
  obtain ⟨x1, e_x1, h⟩ := zbd h
  refine zc_X o (zdd k_J_indexOf1 1 rfl) ml_String_492 mv_J_isLatin1 rfl (zgx_some e_x1).1 (by decide) [] [] rfl (Nat.le_of_ble_eq_true rfl) rfl (m_J_isLatin1 e_x1) ?_
  change zPJ X 0 0 _ _ [.int x1] _
  refine zj_if_eq (tgt := 23) o (zdd k_J_indexOf1 2 rfl) (by decide) (fun hc => ?_) (fun hc => ?_)
  · rw [if_pos hc] at h
    cases h
  · rw [if_neg hc] at h
    refine zj_xload_n o (zdd k_J_indexOf1 3 rfl) rfl 0 rfl (by omega) ?_
    refine zj_xvalue o (zdd k_J_indexOf1 4 rfl) xl_String_9 hx ?_
    refine zj_iload_n o (zdd k_J_indexOf1 5 rfl) rfl 1 rfl ?_
    refine zj_iload_n o (zdd k_J_indexOf1 6 rfl) rfl 2 rfl ?_
    refine zj_xload_n o (zdd k_J_indexOf1 7 rfl) rfl 0 rfl (by omega) ?_
    obtain ⟨x3, e_x3, h⟩ := zbd h
    refine zc_X o (zdd k_J_indexOf1 8 rfl) ml_String_505 mv_J_length0 rfl (zgx_some e_x3).1 (by decide) [] [.int p1, .int p0, .retAddr (t + 2)] rfl (Nat.le_of_ble_eq_true rfl) rfl (m_J_length0 e_x3) ?_
    change zPJ X 0 0 _ _ [.int x3, .int p1, .int p0, .retAddr (t + 2)] _
    obtain ⟨x4, e_x4, h⟩ := zbd h
    refine zc_S o (zdd k_J_indexOf1 9 rfl) ml_String_637 ms_J_indexOf2 (by decide) [.retAddr (t + 2), .int p0, .int p1, .int x3] [] rfl (Nat.le_of_ble_eq_true rfl) rfl (m_J_indexOf2 e_x4) ?_
    change zPJ X 0 0 _ _ [.int x4] _
    refine zj_goto (tgt := 36) o (zdd k_J_indexOf1 10 rfl) (by decide) ?_
    cases h
    exact zr_i o hr (zdd k_J_indexOf1 18 rfl)
def f_J_indexOf0 (t : Nat) (p0 : Int32) : Option (Int32) :=
zgx t (
(f_J_indexOf1 t p0 0).bind fun x1 =>
some x1)
set_option maxRecDepth 100000 in
set_option maxHeartbeats 4000000 in
theorem m_J_indexOf0 {l : Launch} {b : Nat} {ex : Nat → Value} {D : va_G} {ca : Nat → ClassId} {σ : zSt} {t : Nat} {p0 : Int32} {z : Int32} (h : f_J_indexOf0 t p0 = some z) : zMT l b ex D ca 4 y_J_indexOf0 c_J_indexOf0 n_J_indexOf0 r_ret_J_indexOf0 [.retAddr t, .int p0] σ (some (.int z)) σ 0 0 := by
  obtain ⟨hx, hg0⟩ := zgx_some h
  have h := hg0
  refine zmt_of (by decide) (Nat.le_of_ble_eq_true rfl) ⟨.int, rfl, rfl⟩ (fun X o hin hrm _ _ _ _ _ hr => ?_)
  have hr := hr 0 0 (by decide) (by decide)
  have o : zOK X "java/lang/String" c_J_indexOf0 n_J_indexOf0 4 := o
  change zPJ X 0 0 0 [(0, .retAddr t), (1, .int p0)] [] σ
  refine zj_xload_n o (zdd k_J_indexOf0 0 rfl) rfl 0 rfl (by omega) ?_
  refine zj_iload_n o (zdd k_J_indexOf0 1 rfl) rfl 1 rfl ?_
  refine zj_iconst o (zdd k_J_indexOf0 2 rfl) zki_0 ?_
  obtain ⟨x1, e_x1, h⟩ := zbd h
  refine zc_X o (zdd k_J_indexOf0 3 rfl) ml_String_633 mv_J_indexOf1 rfl (zgx_some e_x1).1 (by decide) [.int p0, .int 0] [] rfl (Nat.le_of_ble_eq_true rfl) rfl (m_J_indexOf1 e_x1) ?_
  change zPJ X 0 0 _ _ [.int x1] _
  cases h
  exact zr_i o hr (zdd k_J_indexOf0 4 rfl)
