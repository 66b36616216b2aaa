def f_F_asNumber (p0 : Int32) : Option (Int32) :=
if p0 = 0 then (
some 0) else
some 1
set_option maxRecDepth 100000 in
set_option maxHeartbeats 4000000 in
theorem m_F_asNumber {l : Launch} {b : Nat} {ex : Nat → Value} {D : va_G} {ca : Nat → ClassId} {σ : zSt} {p0 : Int32} {z : Int32} (h : f_F_asNumber p0 = some z) : zMT l b ex D ca 1 y_F_asNumber c_F_asNumber n_F_asNumber r_ret_F_asNumber [.int p0] σ (some (.int z)) σ 0 0 := by
  unfold f_F_asNumber at h
  refine zmt_of (by decide) (Nat.le_of_ble_eq_true rfl) ⟨.int, rfl, rfl⟩ (fun X o hin hrm _ _ _ _ _ hr => ?_)
  have hr := hr 0 0 (by decide) (by decide)
  have o : zOK X "WantShelves$Formula" c_F_asNumber n_F_asNumber 1 := o
  change zPJ X 0 0 0 [(0, .int p0)] [] σ
  refine zj_iload_n o (zdd k_F_asNumber 0 rfl) rfl 0 rfl ?_
  refine zj_if_eq (tgt := 8) o (zdd k_F_asNumber 1 rfl) (by decide) (fun hc => ?_) (fun hc => ?_)
  · rw [if_pos hc] at h
    refine zj_iconst o (zdd k_F_asNumber 4 rfl) zki_0 ?_
    cases h
    exact zr_i o hr (zdd k_F_asNumber 5 rfl)
  · rw [if_neg hc] at h
    refine zj_iconst o (zdd k_F_asNumber 2 rfl) zki_1 ?_
    refine zj_goto (tgt := 9) o (zdd k_F_asNumber 3 rfl) (by decide) ?_
    cases h
    exact zr_i o hr (zdd k_F_asNumber 5 rfl)
def f_F_joined_97 (s0 : Int32) : Option (Int32) :=
(f_F_asNumber s0).bind fun x1 =>
some x1
set_option maxRecDepth 100000 in
set_option maxHeartbeats 4000000 in
theorem r_F_joined_97 {X : zCX} (o : zOK X "WantShelves$Formula" c_F_joined n_F_joined 2) {σ : zSt} {s0 : Int32} {z : Int32} (h : f_F_joined_97 s0 = some z) (hr : zRX X 0 0 (some (.int z)) σ) : zPJ X 0 0 97 [] [.int s0] σ := by
  unfold f_F_joined_97 at h
  obtain ⟨x1, e_x1, h⟩ := zbd h
  refine zc_S o (zdd k_F_joined 9 rfl) ml_F_24 ms_F_asNumber (by decide) [.int s0] [] rfl (Nat.le_of_ble_eq_true rfl) rfl (m_F_asNumber e_x1) ?_
  change zPJ X 0 0 _ _ [.int x1] _
  cases h
  exact zr_i o hr (zdd k_F_joined 10 rfl)
def f_F_joined_92 : Option (Int32) :=
f_F_joined_97 1
set_option maxRecDepth 100000 in
set_option maxHeartbeats 4000000 in
theorem r_F_joined_92 {X : zCX} (o : zOK X "WantShelves$Formula" c_F_joined n_F_joined 2) {σ : zSt} {z : Int32} (h : f_F_joined_92 = some z) (hr : zRX X 0 0 (some (.int z)) σ) : zPJ X 0 0 92 [] [] σ := by
  unfold f_F_joined_92 at h
  refine zj_iconst o (zdd k_F_joined 6 rfl) zki_1 ?_
  refine zj_goto (tgt := 97) o (zdd k_F_joined 7 rfl) (by decide) ?_
  exact zj_sub [] rfl (r_F_joined_97 o  h hr)
def f_F_joined_114 (s0 : Int32) : Option (Int32) :=
(f_F_asNumber s0).bind fun x1 =>
some x1
set_option maxRecDepth 100000 in
set_option maxHeartbeats 4000000 in
theorem r_F_joined_114 {X : zCX} (o : zOK X "WantShelves$Formula" c_F_joined n_F_joined 2) {σ : zSt} {s0 : Int32} {z : Int32} (h : f_F_joined_114 s0 = some z) (hr : zRX X 0 0 (some (.int z)) σ) : zPJ X 0 0 114 [] [.int s0] σ := by
  unfold f_F_joined_114 at h
  obtain ⟨x1, e_x1, h⟩ := zbd h
  refine zc_S o (zdd k_F_joined 18 rfl) ml_F_24 ms_F_asNumber (by decide) [.int s0] [] rfl (Nat.le_of_ble_eq_true rfl) rfl (m_F_asNumber e_x1) ?_
  change zPJ X 0 0 _ _ [.int x1] _
  cases h
  exact zr_i o hr (zdd k_F_joined 19 rfl)
def f_F_joined_113 : Option (Int32) :=
f_F_joined_114 0
set_option maxRecDepth 100000 in
set_option maxHeartbeats 4000000 in
theorem r_F_joined_113 {X : zCX} (o : zOK X "WantShelves$Formula" c_F_joined n_F_joined 2) {σ : zSt} {z : Int32} (h : f_F_joined_113 = some z) (hr : zRX X 0 0 (some (.int z)) σ) : zPJ X 0 0 113 [] [] σ := by
  unfold f_F_joined_113 at h
  refine zj_iconst o (zdd k_F_joined 17 rfl) zki_0 ?_
  exact zj_sub [] rfl (r_F_joined_114 o  h hr)
def f_F_joined_128 (s0 : Int32) : Option (Int32) :=
(f_F_asNumber s0).bind fun x1 =>
some x1
set_option maxRecDepth 100000 in
set_option maxHeartbeats 4000000 in
theorem r_F_joined_128 {X : zCX} (o : zOK X "WantShelves$Formula" c_F_joined n_F_joined 2) {σ : zSt} {s0 : Int32} {z : Int32} (h : f_F_joined_128 s0 = some z) (hr : zRX X 0 0 (some (.int z)) σ) : zPJ X 0 0 128 [] [.int s0] σ := by
  unfold f_F_joined_128 at h
  obtain ⟨x1, e_x1, h⟩ := zbd h
  refine zc_S o (zdd k_F_joined 26 rfl) ml_F_24 ms_F_asNumber (by decide) [.int s0] [] rfl (Nat.le_of_ble_eq_true rfl) rfl (m_F_asNumber e_x1) ?_
  change zPJ X 0 0 _ _ [.int x1] _
  cases h
  exact zr_i o hr (zdd k_F_joined 27 rfl)
def f_F_joined_156 (s0 : Int32) : Option (Int32) :=
(f_F_asNumber s0).bind fun x1 =>
some x1
set_option maxRecDepth 100000 in
set_option maxHeartbeats 4000000 in
theorem r_F_joined_156 {X : zCX} (o : zOK X "WantShelves$Formula" c_F_joined n_F_joined 2) {σ : zSt} {s0 : Int32} {z : Int32} (h : f_F_joined_156 s0 = some z) (hr : zRX X 0 0 (some (.int z)) σ) : zPJ X 0 0 156 [] [.int s0] σ := by
  unfold f_F_joined_156 at h
  obtain ⟨x1, e_x1, h⟩ := zbd h
  refine zc_S o (zdd k_F_joined 42 rfl) ml_F_24 ms_F_asNumber (by decide) [.int s0] [] rfl (Nat.le_of_ble_eq_true rfl) rfl (m_F_asNumber e_x1) ?_
  change zPJ X 0 0 _ _ [.int x1] _
  cases h
  exact zr_i o hr (zdd k_F_joined 43 rfl)
def f_F_joined_142 (s0 : Int32) : Option (Int32) :=
(f_F_asNumber s0).bind fun x1 =>
some x1
set_option maxRecDepth 100000 in
set_option maxHeartbeats 4000000 in
theorem r_F_joined_142 {X : zCX} (o : zOK X "WantShelves$Formula" c_F_joined n_F_joined 2) {σ : zSt} {s0 : Int32} {z : Int32} (h : f_F_joined_142 s0 = some z) (hr : zRX X 0 0 (some (.int z)) σ) : zPJ X 0 0 142 [] [.int s0] σ := by
  unfold f_F_joined_142 at h
  obtain ⟨x1, e_x1, h⟩ := zbd h
  refine zc_S o (zdd k_F_joined 34 rfl) ml_F_24 ms_F_asNumber (by decide) [.int s0] [] rfl (Nat.le_of_ble_eq_true rfl) rfl (m_F_asNumber e_x1) ?_
  change zPJ X 0 0 _ _ [.int x1] _
  cases h
  exact zr_i o hr (zdd k_F_joined 35 rfl)
def f_F_joined (p0 : Int32) (p1 : Int32) (p2 : Int32) : Option (Int32) :=
if p0 = (-62) then (
if p1 ≤ p2 then (
f_F_joined_142 0) else
f_F_joined_142 1) else
if p0 = (-61) then (
if p1 = p2 then (
f_F_joined_156 1) else
f_F_joined_156 0) else
if p0 = (-60) then (
if p2 ≤ p1 then (
f_F_joined_128 0) else
f_F_joined_128 1) else
if p0 = (-47) then (
if p2 = 0 then (
some 0) else
(znz p2).bind fun n1 =>
some (p1 / p2)) else
if p0 = (-45) then (
some (p1 - p2)) else
if p0 = (-43) then (
some (p1 + p2)) else
if p0 = (-42) then (
some (p1 * p2)) else
if p0 = (-12) then (
if p1 = 0 then (
f_F_joined_113) else
if p2 = 0 then (
f_F_joined_113) else
f_F_joined_114 1) else
if p0 = (-11) then (
if p1 = 0 then (
if p2 = 0 then (
f_F_joined_97 0) else
f_F_joined_92) else
f_F_joined_92) else
if p2 = 0 then (
some 0) else
(znz p2).bind fun n2 =>
some (zrem p1 p2)
set_option maxRecDepth 100000 in
set_option maxHeartbeats 4000000 in
theorem m_F_joined {l : Launch} {b : Nat} {ex : Nat → Value} {D : va_G} {ca : Nat → ClassId} {σ : zSt} {p0 : Int32} {p1 : Int32} {p2 : Int32} {z : Int32} (h : f_F_joined p0 p1 p2 = some z) : zMT l b ex D ca 2 y_F_joined c_F_joined n_F_joined r_ret_F_joined [.int p0, .int p1, .int p2] σ (some (.int z)) σ 0 0 := by
  unfold f_F_joined at h
  refine zmt_of (by decide) (Nat.le_of_ble_eq_true rfl) ⟨.int, rfl, rfl⟩ (fun X o hin hrm _ _ _ _ _ hr => ?_)
  have hr := hr 0 0 (by decide) (by decide)
  have o : zOK X "WantShelves$Formula" c_F_joined n_F_joined 2 := o
  change zPJ X 0 0 0 [(0, .int p0), (1, .int p1), (2, .int p2)] [] σ
  refine zj_iload_n o (zdd k_F_joined 0 rfl) rfl 0 rfl ?_
  refine zj_lookupC (dt := 184) o [((-62), 132), ((-61), 146), ((-60), 118), ((-47), 172), ((-45), 164), ((-43), 160), ((-42), 168), ((-12), 101), ((-11), 84)] (zdd k_F_joined 1 rfl) (by decide) (by decide) (by decide) ?_
  by_cases hc : p0 = (-62)
  · rw [if_pos hc] at h
    rw [zcase_pos hc]
    refine zj_iload_n o (zdd k_F_joined 28 rfl) rfl 1 rfl ?_
    refine zj_iload_n o (zdd k_F_joined 29 rfl) rfl 2 rfl ?_
    refine zj_icmp_le (tgt := 141) o (zdd k_F_joined 30 rfl) (by decide) (fun hc => ?_) (fun hc => ?_)
    · rw [if_pos hc] at h
      refine zj_iconst o (zdd k_F_joined 33 rfl) zki_0 ?_
      exact zj_sub [] rfl (r_F_joined_142 o  h hr)
    · rw [if_neg hc] at h
      refine zj_iconst o (zdd k_F_joined 31 rfl) zki_1 ?_
      refine zj_goto (tgt := 142) o (zdd k_F_joined 32 rfl) (by decide) ?_
      exact zj_sub [] rfl (r_F_joined_142 o  h hr)
  · rw [if_neg hc] at h
    rw [zcase_neg hc]
    by_cases hc : p0 = (-61)
    · rw [if_pos hc] at h
      rw [zcase_pos hc]
      refine zj_iload_n o (zdd k_F_joined 36 rfl) rfl 1 rfl ?_
      refine zj_iload_n o (zdd k_F_joined 37 rfl) rfl 2 rfl ?_
      refine zj_icmp_ne (tgt := 155) o (zdd k_F_joined 38 rfl) (by decide) (fun hc => ?_) (fun hc => ?_)
      · rw [if_neg hc] at h
        refine zj_iconst o (zdd k_F_joined 41 rfl) zki_0 ?_
        exact zj_sub [] rfl (r_F_joined_156 o  h hr)
      · rw [if_pos hc] at h
        refine zj_iconst o (zdd k_F_joined 39 rfl) zki_1 ?_
        refine zj_goto (tgt := 156) o (zdd k_F_joined 40 rfl) (by decide) ?_
        exact zj_sub [] rfl (r_F_joined_156 o  h hr)
    · rw [if_neg hc] at h
      rw [zcase_neg hc]
      by_cases hc : p0 = (-60)
      · rw [if_pos hc] at h
        rw [zcase_pos hc]
        refine zj_iload_n o (zdd k_F_joined 20 rfl) rfl 1 rfl ?_
        refine zj_iload_n o (zdd k_F_joined 21 rfl) rfl 2 rfl ?_
        refine zj_icmp_ge (tgt := 127) o (zdd k_F_joined 22 rfl) (by decide) (fun hc => ?_) (fun hc => ?_)
        · rw [if_pos hc] at h
          refine zj_iconst o (zdd k_F_joined 25 rfl) zki_0 ?_
          exact zj_sub [] rfl (r_F_joined_128 o  h hr)
        · rw [if_neg hc] at h
          refine zj_iconst o (zdd k_F_joined 23 rfl) zki_1 ?_
          refine zj_goto (tgt := 128) o (zdd k_F_joined 24 rfl) (by decide) ?_
          exact zj_sub [] rfl (r_F_joined_128 o  h hr)
      · rw [if_neg hc] at h
        rw [zcase_neg hc]
        by_cases hc : p0 = (-47)
        · rw [if_pos hc] at h
          rw [zcase_pos hc]
          refine zj_iload_n o (zdd k_F_joined 56 rfl) rfl 2 rfl ?_
          refine zj_if_ne (tgt := 180) o (zdd k_F_joined 57 rfl) (by decide) (fun hc => ?_) (fun hc => ?_)
          · rw [if_neg hc] at h
            refine zj_iload_n o (zdd k_F_joined 60 rfl) rfl 1 rfl ?_
            refine zj_iload_n o (zdd k_F_joined 61 rfl) rfl 2 rfl ?_
            obtain ⟨n1, e_n1, h⟩ := zbd h
            refine zj_idiv o (zdd k_F_joined 62 rfl) (znz_some e_n1).1 ?_
            cases h
            exact zr_i o hr (zdd k_F_joined 63 rfl)
          · rw [if_pos hc] at h
            refine zj_iconst o (zdd k_F_joined 58 rfl) zki_0 ?_
            refine zj_goto (tgt := 183) o (zdd k_F_joined 59 rfl) (by decide) ?_
            cases h
            exact zr_i o hr (zdd k_F_joined 63 rfl)
        · rw [if_neg hc] at h
          rw [zcase_neg hc]
          by_cases hc : p0 = (-45)
          · rw [if_pos hc] at h
            rw [zcase_pos hc]
            refine zj_iload_n o (zdd k_F_joined 48 rfl) rfl 1 rfl ?_
            refine zj_iload_n o (zdd k_F_joined 49 rfl) rfl 2 rfl ?_
            refine zj_isub o (zdd k_F_joined 50 rfl) ?_
            cases h
            exact zr_i o hr (zdd k_F_joined 51 rfl)
          · rw [if_neg hc] at h
            rw [zcase_neg hc]
            by_cases hc : p0 = (-43)
            · rw [if_pos hc] at h
              rw [zcase_pos hc]
              refine zj_iload_n o (zdd k_F_joined 44 rfl) rfl 1 rfl ?_
              refine zj_iload_n o (zdd k_F_joined 45 rfl) rfl 2 rfl ?_
              refine zj_iadd o (zdd k_F_joined 46 rfl) ?_
              cases h
              exact zr_i o hr (zdd k_F_joined 47 rfl)
            · rw [if_neg hc] at h
              rw [zcase_neg hc]
              by_cases hc : p0 = (-42)
              · rw [if_pos hc] at h
                rw [zcase_pos hc]
                refine zj_iload_n o (zdd k_F_joined 52 rfl) rfl 1 rfl ?_
                refine zj_iload_n o (zdd k_F_joined 53 rfl) rfl 2 rfl ?_
                refine zj_imul o (zdd k_F_joined 54 rfl) ?_
                cases h
                exact zr_i o hr (zdd k_F_joined 55 rfl)
              · rw [if_neg hc] at h
                rw [zcase_neg hc]
                by_cases hc : p0 = (-12)
                · rw [if_pos hc] at h
                  rw [zcase_pos hc]
                  refine zj_iload_n o (zdd k_F_joined 11 rfl) rfl 1 rfl ?_
                  refine zj_if_eq (tgt := 113) o (zdd k_F_joined 12 rfl) (by decide) (fun hc => ?_) (fun hc => ?_)
                  · rw [if_pos hc] at h
                    exact zj_sub [] rfl (r_F_joined_113 o  h hr)
                  · rw [if_neg hc] at h
                    refine zj_iload_n o (zdd k_F_joined 13 rfl) rfl 2 rfl ?_
                    refine zj_if_eq (tgt := 113) o (zdd k_F_joined 14 rfl) (by decide) (fun hc => ?_) (fun hc => ?_)
                    · rw [if_pos hc] at h
                      exact zj_sub [] rfl (r_F_joined_113 o  h hr)
                    · rw [if_neg hc] at h
                      refine zj_iconst o (zdd k_F_joined 15 rfl) zki_1 ?_
                      refine zj_goto (tgt := 114) o (zdd k_F_joined 16 rfl) (by decide) ?_
                      exact zj_sub [] rfl (r_F_joined_114 o  h hr)
                · rw [if_neg hc] at h
                  rw [zcase_neg hc]
                  by_cases hc : p0 = (-11)
                  · rw [if_pos hc] at h
                    rw [zcase_pos hc]
                    refine zj_iload_n o (zdd k_F_joined 2 rfl) rfl 1 rfl ?_
                    refine zj_if_ne (tgt := 92) o (zdd k_F_joined 3 rfl) (by decide) (fun hc => ?_) (fun hc => ?_)
                    · rw [if_neg hc] at h
                      exact zj_sub [] rfl (r_F_joined_92 o  h hr)
                    · rw [if_pos hc] at h
                      refine zj_iload_n o (zdd k_F_joined 4 rfl) rfl 2 rfl ?_
                      refine zj_if_eq (tgt := 96) o (zdd k_F_joined 5 rfl) (by decide) (fun hc => ?_) (fun hc => ?_)
                      · rw [if_pos hc] at h
                        refine zj_iconst o (zdd k_F_joined 8 rfl) zki_0 ?_
                        exact zj_sub [] rfl (r_F_joined_97 o  h hr)
                      · rw [if_neg hc] at h
                        exact zj_sub [] rfl (r_F_joined_92 o  h hr)
                  · rw [if_neg hc] at h
                    rw [zcase_neg hc]
                    change zPJ X 0 0 184 _ _ _
                    refine zj_iload_n o (zdd k_F_joined 64 rfl) rfl 2 rfl ?_
                    refine zj_if_ne (tgt := 192) o (zdd k_F_joined 65 rfl) (by decide) (fun hc => ?_) (fun hc => ?_)
                    · rw [if_neg hc] at h
                      refine zj_iload_n o (zdd k_F_joined 68 rfl) rfl 1 rfl ?_
                      refine zj_iload_n o (zdd k_F_joined 69 rfl) rfl 2 rfl ?_
                      obtain ⟨n2, e_n2, h⟩ := zbd h
                      refine zj_irem o (zdd k_F_joined 70 rfl) (znz_some e_n2).1 ?_
                      change zPJ X 0 0 _ _ [.int (zrem p1 p2)] _
                      cases h
                      exact zr_i o hr (zdd k_F_joined 71 rfl)
                    · rw [if_pos hc] at h
                      refine zj_iconst o (zdd k_F_joined 66 rfl) zki_0 ?_
                      refine zj_goto (tgt := 195) o (zdd k_F_joined 67 rfl) (by decide) ?_
                      cases h
                      exact zr_i o hr (zdd k_F_joined 71 rfl)
def f_F_value_95 (k4 : zSt → Nat → Nat → Int32 → Int32 → Option (Int32 × zSt)) (σ : zSt) (v0 : Nat) (v1 : Nat) (v2 : Int32) (v3 : Int32) (s0 : Int32) (s1 : Int32) (s2 : Nat) : Option (Int32 × zSt) :=
(f_F_asNumber s0).bind fun x1 =>
(zwI σ 1 s2 s1 x1).bind fun σ2 =>
k4 σ2 v0 v1 v2 (v3 + 1)
set_option maxRecDepth 100000 in
set_option maxHeartbeats 4000000 in
theorem r_F_value_95 {X : zCX} (o : zOK X "WantShelves$Formula" c_F_value n_F_value 3) {k4 : zSt → Nat → Nat → Int32 → Int32 → Option (Int32 × zSt)} (hk4 : ∀ {σ : zSt} {v0 : Nat} {v1 : Nat} {v2 : Int32} {v3 : Int32} {z : Int32 × zSt}, k4 σ v0 v1 v2 v3 = some z → zRX X 0 0 (some (.int z.1)) z.2 → zPJ X 0 0 4 [(0, .ref v0), (1, .ref v1), (2, .int v2), (3, .int v3)] [] σ) {σ : zSt} {v0 : Nat} {v1 : Nat} {v2 : Int32} {v3 : Int32} {s0 : Int32} {s1 : Int32} {s2 : Nat} {z : Int32 × zSt} (h : f_F_value_95 k4 σ v0 v1 v2 v3 s0 s1 s2 = some z) (hr : zRX X 0 0 (some (.int z.1)) z.2) : zPJ X 0 0 95 [(0, .ref v0), (1, .ref v1), (2, .int v2), (3, .int v3)] [.int s0, .int s1, .ref s2] σ := by
  unfold f_F_value_95 at h
  obtain ⟨x1, e_x1, h⟩ := zbd h
  refine zc_S o (zdd k_F_value 54 rfl) ml_F_24 ms_F_asNumber (by decide) [.int s0] [.int s1, .ref s2] rfl (Nat.le_of_ble_eq_true rfl) rfl (m_F_asNumber e_x1) ?_
  change zPJ X 0 0 _ _ [.int x1, .int s1, .ref s2] _
  obtain ⟨σ2, e_σ2, h⟩ := zbd h
  refine zj_iast o (zdd k_F_value 55 rfl) e_σ2 ?_
  refine zj_goto (tgt := 137) o (zdd k_F_value 56 rfl) (by decide) ?_
  refine zj_iinc (v := v3 + 1) (loc' := [(3, .int (v3 + 1)), (0, .ref v0), (1, .ref v1), (2, .int v2)]) o (zdd k_F_value 79 rfl) 3 rfl (by rw [zki_1]) (by decide) rfl ?_
  refine zj_goto (tgt := 4) o (zdd k_F_value 80 rfl) (by decide) ?_
  exact zj_sub [1, 2, 3, 0] rfl (hk4 h hr)
def f_F_value_143 (σ : zSt) (v0 : Nat) (v2 : Int32) : Option (Int32 × zSt) :=
if v2 ≤ 0 then (
some (0, σ)) else
(zgP σ 2 v0 1).bind fun a1 =>
(zaI σ 1 a1 0).bind fun x2 =>
some (x2, σ)
set_option maxRecDepth 100000 in
set_option maxHeartbeats 4000000 in
theorem r_F_value_143 {X : zCX} (o : zOK X "WantShelves$Formula" c_F_value n_F_value 3) {σ : zSt} {v0 : Nat} {v2 : Int32} {z : Int32 × zSt} (h : f_F_value_143 σ v0 v2 = some z) (hr : zRX X 0 0 (some (.int z.1)) z.2) : zPJ X 0 0 143 [(0, .ref v0), (2, .int v2)] [] σ := by
  unfold f_F_value_143 at h
  refine zj_iload_n o (zdd k_F_value 81 rfl) rfl 1 rfl ?_
  refine zj_if_le (tgt := 156) o (zdd k_F_value 82 rfl) (by decide) (fun hc => ?_) (fun hc => ?_)
  · rw [if_pos hc] at h
    refine zj_iconst o (zdd k_F_value 88 rfl) zki_0 ?_
    cases h
    exact zr_i o hr (zdd k_F_value 89 rfl)
  · rw [if_neg hc] at h
    refine zj_aload_n o (zdd k_F_value 83 rfl) rfl 0 rfl ?_
    obtain ⟨a1, e_a1, h⟩ := zbd h
    refine zj_gP o (zdd k_F_value 84 rfl) fl_F_13 rfl e_a1 ?_
    refine zj_iconst o (zdd k_F_value 85 rfl) zki_0 ?_
    obtain ⟨x2, e_x2, h⟩ := zbd h
    refine zj_iald o (zdd k_F_value 86 rfl) e_x2 ?_
    refine zj_goto (tgt := 157) o (zdd k_F_value 87 rfl) (by decide) ?_
    cases h
    exact zr_i o hr (zdd k_F_value 89 rfl)
def f_F_value_4 (k4 : zSt → Nat → Nat → Int32 → Int32 → Option (Int32 × zSt)) (σ : zSt) (v0 : Nat) (v1 : Nat) (v2 : Int32) (v3 : Int32) : Option (Int32 × zSt) :=
(zgI σ 2 v0 2).bind fun x1 =>
if x1 ≤ v3 then (
f_F_value_143 σ v0 v2) else
(zgP σ 2 v0 0).bind fun a2 =>
(zaI σ 1 a2 v3).bind fun x3 =>
if x3 ≤ (-7) then (
if x3 = (-13) then (
if v2 ≤ 0 then (
k4 σ v0 v1 v2 (v3 + 1)) else
(zgP σ 2 v0 1).bind fun a11 =>
(zgP σ 2 v0 1).bind fun a12 =>
(zaI σ 1 a12 (v2 - 1)).bind fun x13 =>
if x13 = 0 then (
f_F_value_95 k4 σ v0 v1 v2 v3 1 (v2 - 1) a11) else
f_F_value_95 k4 σ v0 v1 v2 v3 0 (v2 - 1) a11) else
if v2 ≤ 1 then (
k4 σ v0 v1 v2 (v3 + 1)) else
(zgP σ 2 v0 1).bind fun a4 =>
(zgP σ 2 v0 1).bind fun a5 =>
(zaI σ 1 a5 ((v2 + (-1)) - 1)).bind fun x6 =>
(zgP σ 2 v0 1).bind fun a7 =>
(zaI σ 1 a7 (v2 + (-1))).bind fun x8 =>
(f_F_joined x3 x6 x8).bind fun x9 =>
(zwI σ 1 a4 ((v2 + (-1)) - 1) x9).bind fun σ10 =>
k4 σ10 v0 v1 (v2 + (-1)) (v3 + 1)) else
if 30 ≤ v2 then (
k4 σ v0 v1 v2 (v3 + 1)) else
(zgP σ 2 v0 1).bind fun a14 =>
if x3 < 0 then (
(zaI σ 1 v1 ((-1) - x3)).bind fun x15 =>
(zwI σ 1 a14 v2 x15).bind fun σ16 =>
k4 σ16 v0 v1 (v2 + 1) (v3 + 1)) else
(zwI σ 1 a14 v2 x3).bind fun σ17 =>
k4 σ17 v0 v1 (v2 + 1) (v3 + 1)
set_option maxRecDepth 100000 in
set_option maxHeartbeats 4000000 in
theorem r_F_value_4 {X : zCX} (o : zOK X "WantShelves$Formula" c_F_value n_F_value 3) {k4 : zSt → Nat → Nat → Int32 → Int32 → Option (Int32 × zSt)} (hk4 : ∀ {σ : zSt} {v0 : Nat} {v1 : Nat} {v2 : Int32} {v3 : Int32} {z : Int32 × zSt}, k4 σ v0 v1 v2 v3 = some z → zRX X 0 0 (some (.int z.1)) z.2 → zPJ X 0 0 4 [(0, .ref v0), (1, .ref v1), (2, .int v2), (3, .int v3)] [] σ) {σ : zSt} {v0 : Nat} {v1 : Nat} {v2 : Int32} {v3 : Int32} {z : Int32 × zSt} (h : f_F_value_4 k4 σ v0 v1 v2 v3 = some z) (hr : zRX X 0 0 (some (.int z.1)) z.2) : zPJ X 0 0 4 [(0, .ref v0), (1, .ref v1), (2, .int v2), (3, .int v3)] [] σ := by
  unfold f_F_value_4 at h
  refine zj_iload_n o (zdd k_F_value 4 rfl) rfl 3 rfl ?_
  refine zj_aload_n o (zdd k_F_value 5 rfl) rfl 0 rfl ?_
  obtain ⟨x1, e_x1, h⟩ := zbd h
  refine zj_gI o (zdd k_F_value 6 rfl) fl_F_16 rfl e_x1 ?_
  refine zj_icmp_ge (tgt := 143) o (zdd k_F_value 7 rfl) (by decide) (fun hc => ?_) (fun hc => ?_)
  · rw [if_pos hc] at h
    exact zj_sub [0, 2] rfl (r_F_value_143 o  h hr)
  · rw [if_neg hc] at h
    refine zj_aload_n o (zdd k_F_value 8 rfl) rfl 0 rfl ?_
    obtain ⟨a2, e_a2, h⟩ := zbd h
    refine zj_gP o (zdd k_F_value 9 rfl) fl_F_9 rfl e_a2 ?_
    refine zj_iload_n o (zdd k_F_value 10 rfl) rfl 3 rfl ?_
    obtain ⟨x3, e_x3, h⟩ := zbd h
    refine zj_iald o (zdd k_F_value 11 rfl) e_x3 ?_
    refine zj_istore (loc' := [(4, .int x3), (0, .ref v0), (1, .ref v1), (2, .int v2), (3, .int v3)]) o (zdd k_F_value 12 rfl) (by decide) rfl ?_
    refine zj_iload o (zdd k_F_value 13 rfl) 0 rfl ?_
    refine zj_bipush o (zdd k_F_value 14 rfl) zkb_m7 ?_
    refine zj_icmp_le (tgt := 61) o (zdd k_F_value 15 rfl) (by decide) (fun hc => ?_) (fun hc => ?_)
    · rw [if_pos hc] at h
      refine zj_iload o (zdd k_F_value 34 rfl) 0 rfl ?_
      refine zj_bipush o (zdd k_F_value 35 rfl) zkb_m13 ?_
      refine zj_icmp_ne (tgt := 102) o (zdd k_F_value 36 rfl) (by decide) (fun hc => ?_) (fun hc => ?_)
      · rw [if_neg hc] at h
        refine zj_iload_n o (zdd k_F_value 57 rfl) rfl 3 rfl ?_
        refine zj_iconst o (zdd k_F_value 58 rfl) zki_1 ?_
        refine zj_icmp_le (tgt := 137) o (zdd k_F_value 59 rfl) (by decide) (fun hc => ?_) (fun hc => ?_)
        · rw [if_pos hc] at h
          refine zj_iinc (v := v3 + 1) (loc' := [(3, .int (v3 + 1)), (4, .int x3), (0, .ref v0), (1, .ref v1), (2, .int v2)]) o (zdd k_F_value 79 rfl) 4 rfl (by rw [zki_1]) (by decide) rfl ?_
          refine zj_goto (tgt := 4) o (zdd k_F_value 80 rfl) (by decide) ?_
          exact zj_sub [2, 3, 4, 0] rfl (hk4 h hr)
        · rw [if_neg hc] at h
          refine zj_iinc (v := v2 + (-1)) (loc' := [(2, .int (v2 + (-1))), (4, .int x3), (0, .ref v0), (1, .ref v1), (3, .int v3)]) o (zdd k_F_value 60 rfl) 3 rfl (by rw [zki_m1]) (by decide) rfl ?_
          refine zj_aload_n o (zdd k_F_value 61 rfl) rfl 2 rfl ?_
          obtain ⟨a4, e_a4, h⟩ := zbd h
          refine zj_gP o (zdd k_F_value 62 rfl) fl_F_13 rfl e_a4 ?_
          refine zj_iload_n o (zdd k_F_value 63 rfl) rfl 0 rfl ?_
          refine zj_iconst o (zdd k_F_value 64 rfl) zki_1 ?_
          refine zj_isub o (zdd k_F_value 65 rfl) ?_
          refine zj_iload o (zdd k_F_value 66 rfl) 1 rfl ?_
          refine zj_aload_n o (zdd k_F_value 67 rfl) rfl 2 rfl ?_
          obtain ⟨a5, e_a5, h⟩ := zbd h
          refine zj_gP o (zdd k_F_value 68 rfl) fl_F_13 rfl e_a5 ?_
          refine zj_iload_n o (zdd k_F_value 69 rfl) rfl 0 rfl ?_
          refine zj_iconst o (zdd k_F_value 70 rfl) zki_1 ?_
          refine zj_isub o (zdd k_F_value 71 rfl) ?_
          obtain ⟨x6, e_x6, h⟩ := zbd h
          refine zj_iald o (zdd k_F_value 72 rfl) e_x6 ?_
          refine zj_aload_n o (zdd k_F_value 73 rfl) rfl 2 rfl ?_
          obtain ⟨a7, e_a7, h⟩ := zbd h
          refine zj_gP o (zdd k_F_value 74 rfl) fl_F_13 rfl e_a7 ?_
          refine zj_iload_n o (zdd k_F_value 75 rfl) rfl 0 rfl ?_
          obtain ⟨x8, e_x8, h⟩ := zbd h
          refine zj_iald o (zdd k_F_value 76 rfl) e_x8 ?_
          obtain ⟨x9, e_x9, h⟩ := zbd h
          refine zc_S o (zdd k_F_value 77 rfl) ml_F_28 ms_F_joined (by decide) [.int x3, .int x6, .int x8] [.int ((v2 + (-1)) - 1), .ref a4] rfl (Nat.le_of_ble_eq_true rfl) rfl (m_F_joined e_x9) ?_
          change zPJ X 0 0 _ _ [.int x9, .int ((v2 + (-1)) - 1), .ref a4] _
          obtain ⟨σ10, e_σ10, h⟩ := zbd h
          refine zj_iast o (zdd k_F_value 78 rfl) e_σ10 ?_
          refine zj_iinc (v := v3 + 1) (loc' := [(3, .int (v3 + 1)), (2, .int (v2 + (-1))), (4, .int x3), (0, .ref v0), (1, .ref v1)]) o (zdd k_F_value 79 rfl) 4 rfl (by rw [zki_1]) (by decide) rfl ?_
          refine zj_goto (tgt := 4) o (zdd k_F_value 80 rfl) (by decide) ?_
          exact zj_sub [3, 4, 1, 0] rfl (hk4 h hr)
      · rw [if_pos hc] at h
        refine zj_iload_n o (zdd k_F_value 37 rfl) rfl 3 rfl ?_
        refine zj_if_le (tgt := 137) o (zdd k_F_value 38 rfl) (by decide) (fun hc => ?_) (fun hc => ?_)
        · rw [if_pos hc] at h
          refine zj_iinc (v := v3 + 1) (loc' := [(3, .int (v3 + 1)), (4, .int x3), (0, .ref v0), (1, .ref v1), (2, .int v2)]) o (zdd k_F_value 79 rfl) 4 rfl (by rw [zki_1]) (by decide) rfl ?_
          refine zj_goto (tgt := 4) o (zdd k_F_value 80 rfl) (by decide) ?_
          exact zj_sub [2, 3, 4, 0] rfl (hk4 h hr)
        · rw [if_neg hc] at h
          refine zj_aload_n o (zdd k_F_value 39 rfl) rfl 1 rfl ?_
          obtain ⟨a11, e_a11, h⟩ := zbd h
          refine zj_gP o (zdd k_F_value 40 rfl) fl_F_13 rfl e_a11 ?_
          refine zj_iload_n o (zdd k_F_value 41 rfl) rfl 3 rfl ?_
          refine zj_iconst o (zdd k_F_value 42 rfl) zki_1 ?_
          refine zj_isub o (zdd k_F_value 43 rfl) ?_
          refine zj_aload_n o (zdd k_F_value 44 rfl) rfl 1 rfl ?_
          obtain ⟨a12, e_a12, h⟩ := zbd h
          refine zj_gP o (zdd k_F_value 45 rfl) fl_F_13 rfl e_a12 ?_
          refine zj_iload_n o (zdd k_F_value 46 rfl) rfl 3 rfl ?_
          refine zj_iconst o (zdd k_F_value 47 rfl) zki_1 ?_
          refine zj_isub o (zdd k_F_value 48 rfl) ?_
          obtain ⟨x13, e_x13, h⟩ := zbd h
          refine zj_iald o (zdd k_F_value 49 rfl) e_x13 ?_
          refine zj_if_ne (tgt := 94) o (zdd k_F_value 50 rfl) (by decide) (fun hc => ?_) (fun hc => ?_)
          · rw [if_neg hc] at h
            refine zj_iconst o (zdd k_F_value 53 rfl) zki_0 ?_
            exact zj_sub [1, 2, 3, 4] rfl (r_F_value_95 o hk4 h hr)
          · rw [if_pos hc] at h
            refine zj_iconst o (zdd k_F_value 51 rfl) zki_1 ?_
            refine zj_goto (tgt := 95) o (zdd k_F_value 52 rfl) (by decide) ?_
            exact zj_sub [1, 2, 3, 4] rfl (r_F_value_95 o hk4 h hr)
    · rw [if_neg hc] at h
      refine zj_iload_n o (zdd k_F_value 16 rfl) rfl 3 rfl ?_
      refine zj_bipush o (zdd k_F_value 17 rfl) zkb_30 ?_
      refine zj_icmp_ge (tgt := 137) o (zdd k_F_value 18 rfl) (by decide) (fun hc => ?_) (fun hc => ?_)
      · rw [if_pos hc] at h
        refine zj_iinc (v := v3 + 1) (loc' := [(3, .int (v3 + 1)), (4, .int x3), (0, .ref v0), (1, .ref v1), (2, .int v2)]) o (zdd k_F_value 79 rfl) 4 rfl (by rw [zki_1]) (by decide) rfl ?_
        refine zj_goto (tgt := 4) o (zdd k_F_value 80 rfl) (by decide) ?_
        exact zj_sub [2, 3, 4, 0] rfl (hk4 h hr)
      · rw [if_neg hc] at h
        refine zj_aload_n o (zdd k_F_value 19 rfl) rfl 1 rfl ?_
        obtain ⟨a14, e_a14, h⟩ := zbd h
        refine zj_gP o (zdd k_F_value 20 rfl) fl_F_13 rfl e_a14 ?_
        refine zj_iload_n o (zdd k_F_value 21 rfl) rfl 3 rfl ?_
        refine zj_iload o (zdd k_F_value 22 rfl) 0 rfl ?_
        refine zj_if_lt (tgt := 48) o (zdd k_F_value 23 rfl) (by decide) (fun hc => ?_) (fun hc => ?_)
        · rw [if_pos hc] at h
          refine zj_aload_n o (zdd k_F_value 26 rfl) rfl 2 rfl ?_
          refine zj_iconst o (zdd k_F_value 27 rfl) zki_m1 ?_
          refine zj_iload o (zdd k_F_value 28 rfl) 0 rfl ?_
          refine zj_isub o (zdd k_F_value 29 rfl) ?_
          obtain ⟨x15, e_x15, h⟩ := zbd h
          refine zj_iald o (zdd k_F_value 30 rfl) e_x15 ?_
          obtain ⟨σ16, e_σ16, h⟩ := zbd h
          refine zj_iast o (zdd k_F_value 31 rfl) e_σ16 ?_
          refine zj_iinc (v := v2 + 1) (loc' := [(2, .int (v2 + 1)), (4, .int x3), (0, .ref v0), (1, .ref v1), (3, .int v3)]) o (zdd k_F_value 32 rfl) 3 rfl (by rw [zki_1]) (by decide) rfl ?_
          refine zj_goto (tgt := 137) o (zdd k_F_value 33 rfl) (by decide) ?_
          refine zj_iinc (v := v3 + 1) (loc' := [(3, .int (v3 + 1)), (2, .int (v2 + 1)), (4, .int x3), (0, .ref v0), (1, .ref v1)]) o (zdd k_F_value 79 rfl) 4 rfl (by rw [zki_1]) (by decide) rfl ?_
          refine zj_goto (tgt := 4) o (zdd k_F_value 80 rfl) (by decide) ?_
          exact zj_sub [3, 4, 1, 0] rfl (hk4 h hr)
        · rw [if_neg hc] at h
          refine zj_iload o (zdd k_F_value 24 rfl) 0 rfl ?_
          refine zj_goto (tgt := 54) o (zdd k_F_value 25 rfl) (by decide) ?_
          obtain ⟨σ17, e_σ17, h⟩ := zbd h
          refine zj_iast o (zdd k_F_value 31 rfl) e_σ17 ?_
          refine zj_iinc (v := v2 + 1) (loc' := [(2, .int (v2 + 1)), (4, .int x3), (0, .ref v0), (1, .ref v1), (3, .int v3)]) o (zdd k_F_value 32 rfl) 3 rfl (by rw [zki_1]) (by decide) rfl ?_
          refine zj_goto (tgt := 137) o (zdd k_F_value 33 rfl) (by decide) ?_
          refine zj_iinc (v := v3 + 1) (loc' := [(3, .int (v3 + 1)), (2, .int (v2 + 1)), (4, .int x3), (0, .ref v0), (1, .ref v1)]) o (zdd k_F_value 79 rfl) 4 rfl (by rw [zki_1]) (by decide) rfl ?_
          refine zj_goto (tgt := 4) o (zdd k_F_value 80 rfl) (by decide) ?_
          exact zj_sub [3, 4, 1, 0] rfl (hk4 h hr)
def f_F_value_4L : Nat → zSt → Nat → Nat → Int32 → Int32 → Option (Int32 × zSt)
  | 0 => fun _ _ _ _ _ => none
  | n + 1 => f_F_value_4  (f_F_value_4L  n)
theorem r_F_value_4L {X : zCX} (o : zOK X "WantShelves$Formula" c_F_value n_F_value 3) : ∀ (n : Nat) {σ : zSt} {v0 : Nat} {v1 : Nat} {v2 : Int32} {v3 : Int32} {z : Int32 × zSt}, f_F_value_4L n σ v0 v1 v2 v3 = some z → zRX X 0 0 (some (.int z.1)) z.2 → zPJ X 0 0 4 [(0, .ref v0), (1, .ref v1), (2, .int v2), (3, .int v3)] [] σ
  | 0 => fun h _ => by cases h
  | n + 1 => fun h hr => r_F_value_4 o (r_F_value_4L o  n) h hr
def f_F_value (σ : zSt) (t : Nat) (p0 : Nat) : Option (Int32 × zSt) :=
zg σ 2 t (
f_F_value_4L zfu σ t p0 0 0)
set_option maxRecDepth 100000 in
set_option maxHeartbeats 4000000 in
theorem m_F_value {l : Launch} {b : Nat} {ex : Nat → Value} {D : va_G} {ca : Nat → ClassId} {σ : zSt} {t : Nat} {p0 : Nat} {z : Int32 × zSt} (h : f_F_value σ t p0 = some z) : zMT l b ex D ca 3 y_F_value c_F_value n_F_value r_ret_F_value [.ref t, .ref p0] σ (some (.int z.1)) z.2 0 0 := by
  obtain ⟨_, hg0⟩ := zg_some h
  have h := hg0
  refine zmt_of (by decide) (Nat.le_of_ble_eq_true rfl) ⟨.int, rfl, rfl⟩ (fun X o hin hrm _ _ _ _ _ hr => ?_)
  have hr := hr 0 0 (by decide) (by decide)
  have o : zOK X "WantShelves$Formula" c_F_value n_F_value 3 := o
  change zPJ X 0 0 0 [(0, .ref t), (1, .ref p0)] [] σ
  refine zj_iconst o (zdd k_F_value 0 rfl) zki_0 ?_
  refine zj_istore_n (loc' := [(2, .int 0), (0, .ref t), (1, .ref p0)]) o (zdd k_F_value 1 rfl) rfl (by decide) rfl ?_
  refine zj_iconst o (zdd k_F_value 2 rfl) zki_0 ?_
  refine zj_istore_n (loc' := [(3, .int 0), (2, .int 0), (0, .ref t), (1, .ref p0)]) o (zdd k_F_value 3 rfl) rfl (by decide) rfl ?_
  exact zj_sub [2, 3, 1, 0] rfl (r_F_value_4L o  zfu h hr)
def f_F_init (σ : zSt) (t : Nat) : Option (zSt) :=
zg σ 2 t (
(some (znew σ (1, 270))).bind fun (σ1 : zSt) =>
(some σ.1.length).bind fun (a2 : Nat) =>
(zsP σ1 2 t 0 a2).bind fun σ3 =>
(some (znew σ3 (1, 30))).bind fun (σ4 : zSt) =>
(some σ3.1.length).bind fun (a5 : Nat) =>
(zsP σ4 2 t 1 a5).bind fun σ6 =>
some σ6)
set_option maxRecDepth 100000 in
set_option maxHeartbeats 4000000 in
theorem m_F_init {l : Launch} {b : Nat} {ex : Nat → Value} {D : va_G} {ca : Nat → ClassId} {σ : zSt} {t : Nat} {z : zSt} (h : f_F_init σ t = some z) : zMT l b ex D ca 1 y_F_init c_F_init n_F_init r_ret_F_init [.ref t] σ none z 2 300 := by
  obtain ⟨_, hg0⟩ := zg_some h
  have h := hg0
  refine zmt_of (by decide) (Nat.le_of_ble_eq_true rfl) rfl (fun X o hin hrm _ _ _ _ _ hr => ?_)
  have hin := hin rfl
  have hr := hr 2 300 (by decide) (by decide)
  have o : zOK X "WantShelves$Formula" c_F_init n_F_init 1 := o
  change zPJ X 0 0 0 [(0, .ref t)] [] σ
  refine zj_aload_n o (zdd k_F_init 0 rfl) rfl 0 rfl ?_
  refine zj_objInit o (zdd k_F_init 1 rfl) ml_F_3 ob_im ob_code (by decide) (Nat.le_of_ble_eq_true rfl) ?_
  refine zj_aload_n o (zdd k_F_init 2 rfl) rfl 0 rfl ?_
  refine zj_sipush o (zdd k_F_init 3 rfl) zks_270 ?_
  obtain ⟨σ1, e_σ1, h⟩ := zbd h
  refine zj_newa_int (N := 270) (mc := 2) (ms := 300) o (zdd k_F_init 4 rfl) ac_int (by decide) (by decide) (by decide) hrm (by decide) (by decide) ?_
  rw [Option.some.inj e_σ1]
  change zPJ X 1 270 _ _ _ _
  obtain ⟨a2, e_a2, h⟩ := zbd h
  rw [Option.some.inj e_a2]
  obtain ⟨σ3, e_σ3, h⟩ := zbd h
  refine zj_fP o (zdd k_F_init 5 rfl) fl_F_9 (Or.inr ⟨_, rfl⟩) hin rfl rfl e_σ3 ?_
  refine zj_aload_n o (zdd k_F_init 6 rfl) rfl 0 rfl ?_
  refine zj_bipush o (zdd k_F_init 7 rfl) zkb_30 ?_
  obtain ⟨σ4, e_σ4, h⟩ := zbd h
  refine zj_newa_int (N := 30) (mc := 2) (ms := 300) o (zdd k_F_init 8 rfl) ac_int (by decide) (by decide) (by decide) hrm (by decide) (by decide) ?_
  rw [Option.some.inj e_σ4]
  change zPJ X 2 300 _ _ _ _
  obtain ⟨a5, e_a5, h⟩ := zbd h
  rw [Option.some.inj e_a5]
  obtain ⟨σ6, e_σ6, h⟩ := zbd h
  refine zj_fP o (zdd k_F_init 9 rfl) fl_F_13 (Or.inr ⟨_, rfl⟩) hin rfl rfl e_σ6 ?_
  cases h
  exact zr_v o hr (zdd k_F_init 10 rfl)
def f_F_clear (σ : zSt) (t : Nat) : Option (zSt) :=
zg σ 2 t (
(zsI σ 2 t 2 0).bind fun σ1 =>
some σ1)
set_option maxRecDepth 100000 in
set_option maxHeartbeats 4000000 in
theorem m_F_clear {l : Launch} {b : Nat} {ex : Nat → Value} {D : va_G} {ca : Nat → ClassId} {σ : zSt} {t : Nat} {z : zSt} (h : f_F_clear σ t = some z) : zMT l b ex D ca 1 y_F_clear c_F_clear n_F_clear r_ret_F_clear [.ref t] σ none z 0 0 := by
  obtain ⟨_, hg0⟩ := zg_some h
  have h := hg0
  refine zmt_of (by decide) (Nat.le_of_ble_eq_true rfl) rfl (fun X o hin hrm _ _ _ _ _ hr => ?_)
  have hr := hr 0 0 (by decide) (by decide)
  have o : zOK X "WantShelves$Formula" c_F_clear n_F_clear 1 := o
  change zPJ X 0 0 0 [(0, .ref t)] [] σ
  refine zj_aload_n o (zdd k_F_clear 0 rfl) rfl 0 rfl ?_
  refine zj_iconst o (zdd k_F_clear 1 rfl) zki_0 ?_
  obtain ⟨σ1, e_σ1, h⟩ := zbd h
  refine zj_pI o (zdd k_F_clear 2 rfl) fl_F_16 rfl rfl e_σ1 ?_
  cases h
  exact zr_v o hr (zdd k_F_clear 3 rfl)
def f_F_add (σ : zSt) (t : Nat) (p0 : Int32) : Option (zSt) :=
zg σ 2 t (
(zgI σ 2 t 2).bind fun x1 =>
if 270 ≤ x1 then (
some σ) else
(zgP σ 2 t 0).bind fun a2 =>
(zgI σ 2 t 2).bind fun x3 =>
(zwI σ 1 a2 x3 p0).bind fun σ4 =>
(zgI σ4 2 t 2).bind fun x5 =>
(zsI σ4 2 t 2 (x5 + 1)).bind fun σ6 =>
some σ6)
set_option maxRecDepth 100000 in
set_option maxHeartbeats 4000000 in
theorem m_F_add {l : Launch} {b : Nat} {ex : Nat → Value} {D : va_G} {ca : Nat → ClassId} {σ : zSt} {t : Nat} {p0 : Int32} {z : zSt} (h : f_F_add σ t p0 = some z) : zMT l b ex D ca 1 y_F_add c_F_add n_F_add r_ret_F_add [.ref t, .int p0] σ none z 0 0 := by
  obtain ⟨_, hg0⟩ := zg_some h
  have h := hg0
  refine zmt_of (by decide) (Nat.le_of_ble_eq_true rfl) rfl (fun X o hin hrm _ _ _ _ _ hr => ?_)
  have hr := hr 0 0 (by decide) (by decide)
  have o : zOK X "WantShelves$Formula" c_F_add n_F_add 1 := o
  change zPJ X 0 0 0 [(0, .ref t), (1, .int p0)] [] σ
  refine zj_aload_n o (zdd k_F_add 0 rfl) rfl 0 rfl ?_
  obtain ⟨x1, e_x1, h⟩ := zbd h
  refine zj_gI o (zdd k_F_add 1 rfl) fl_F_16 rfl e_x1 ?_
  refine zj_sipush o (zdd k_F_add 2 rfl) zks_270 ?_
  refine zj_icmp_ge (tgt := 30) o (zdd k_F_add 3 rfl) (by decide) (fun hc => ?_) (fun hc => ?_)
  · rw [if_pos hc] at h
    cases h
    exact zr_v o hr (zdd k_F_add 16 rfl)
  · rw [if_neg hc] at h
    refine zj_aload_n o (zdd k_F_add 4 rfl) rfl 0 rfl ?_
    obtain ⟨a2, e_a2, h⟩ := zbd h
    refine zj_gP o (zdd k_F_add 5 rfl) fl_F_9 rfl e_a2 ?_
    refine zj_aload_n o (zdd k_F_add 6 rfl) rfl 0 rfl ?_
    obtain ⟨x3, e_x3, h⟩ := zbd h
    refine zj_gI o (zdd k_F_add 7 rfl) fl_F_16 rfl e_x3 ?_
    refine zj_iload_n o (zdd k_F_add 8 rfl) rfl 1 rfl ?_
    obtain ⟨σ4, e_σ4, h⟩ := zbd h
    refine zj_iast o (zdd k_F_add 9 rfl) e_σ4 ?_
    refine zj_aload_n o (zdd k_F_add 10 rfl) rfl 0 rfl ?_
    refine zj_dup o (zdd k_F_add 11 rfl) rfl ?_
    obtain ⟨x5, e_x5, h⟩ := zbd h
    refine zj_gI o (zdd k_F_add 12 rfl) fl_F_16 rfl e_x5 ?_
    refine zj_iconst o (zdd k_F_add 13 rfl) zki_1 ?_
    refine zj_iadd o (zdd k_F_add 14 rfl) ?_
    obtain ⟨σ6, e_σ6, h⟩ := zbd h
    refine zj_pI o (zdd k_F_add 15 rfl) fl_F_16 rfl rfl e_σ6 ?_
    cases h
    exact zr_v o hr (zdd k_F_add 16 rfl)
def f_F_addWord (σ : zSt) (t : Nat) (p0 : Int32) : Option (zSt) :=
zg σ 2 t (
(f_F_add σ t ((-1) - p0)).bind fun σ1 =>
some σ1)
set_option maxRecDepth 100000 in
set_option maxHeartbeats 4000000 in
theorem m_F_addWord {l : Launch} {b : Nat} {ex : Nat → Value} {D : va_G} {ca : Nat → ClassId} {σ : zSt} {t : Nat} {p0 : Int32} {z : zSt} (h : f_F_addWord σ t p0 = some z) : zMT l b ex D ca 2 y_F_addWord c_F_addWord n_F_addWord r_ret_F_addWord [.ref t, .int p0] σ none z 0 0 := by
  obtain ⟨_, hg0⟩ := zg_some h
  have h := hg0
  refine zmt_of (by decide) (Nat.le_of_ble_eq_true rfl) rfl (fun X o hin hrm _ _ _ _ _ hr => ?_)
  have hr := hr 0 0 (by decide) (by decide)
  have o : zOK X "WantShelves$Formula" c_F_addWord n_F_addWord 2 := o
  change zPJ X 0 0 0 [(0, .ref t), (1, .int p0)] [] σ
  refine zj_aload_n o (zdd k_F_addWord 0 rfl) rfl 0 rfl ?_
  refine zj_iconst o (zdd k_F_addWord 1 rfl) zki_m1 ?_
  refine zj_iload_n o (zdd k_F_addWord 2 rfl) rfl 1 rfl ?_
  refine zj_isub o (zdd k_F_addWord 3 rfl) ?_
  obtain ⟨σ1, e_σ1, h⟩ := zbd h
  refine zc_V o (zdd k_F_addWord 4 rfl) ml_F_20 mv_F_add ⟨rfl, by decide⟩ (zg_some e_σ1).1 (by decide) [.int ((-1) - p0)] [] rfl (Nat.le_of_ble_eq_true rfl) rfl (m_F_add e_σ1) ?_
  change zPJ X 0 0 _ _ [] _
  cases h
  exact zr_v o hr (zdd k_F_addWord 5 rfl)
