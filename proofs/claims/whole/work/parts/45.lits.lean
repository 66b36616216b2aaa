/-! printed: written numbers; loops -/
theorem zbs {α β : Type} (a : α) (f : α → Option β) : (some a).bind f = f a := by simp only [Option.bind_some]
section ZLit
variable {a b : Nat}
theorem zeq_nI (ha : a < 2 ^ 31) (hb : b < 2 ^ 31) : (nI a = nI b) = (a = b) := propext (nI_eq ha hb)
theorem zle_0 (ha : a < 2 ^ 31) : (nI a ≤ 0) = (a = 0) := by
  have := zle_nI (a := a) (b := 0) ha (by decide)
  rw [nI_0] at this
  rw [this]
  exact propext ⟨fun h => by omega, fun h => by omega⟩
theorem zeq_0 (ha : a < 2 ^ 31) : (nI a = 0) = (a = 0) := by
  have := zeq_nI (a := a) (b := 0) ha (by decide)
  rwa [nI_0] at this
theorem zlt_0 (ha : a < 2 ^ 31) : (nI a < 0) = False := by
  have := zlt_nI (a := a) (b := 0) ha (by decide)
  rw [nI_0] at this
  rw [this]
  exact propext ⟨fun h => by omega, fun h => h.elim⟩
theorem zeq_m (ha : a < 2 ^ 31) : (nI a = (-1)) = False := propext ⟨fun h => znI_ne_m1 ha h, fun h => h.elim⟩
theorem zeq_1 (ha : a < 2 ^ 31) : (nI a = 1) = (a = 1) := zeq_nI (b := 1) ha (by decide)
theorem zle_1 (ha : a < 2 ^ 31) : (nI a ≤ 1) = (a ≤ 1) := zle_nI (b := 1) ha (by decide)
theorem zlt_1 (ha : a < 2 ^ 31) : (nI a < 1) = (a < 1) := zlt_nI (b := 1) ha (by decide)
theorem zge_0 (ha : a < 2 ^ 31) : (0 ≤ nI a) = True := propext ⟨fun _ => trivial, fun _ => nI_pos' ha⟩
theorem zbt0 (ha : a < 2 ^ 31) (hb : b < 32) : ((nI a >>> (nI b &&& 31)) &&& 1 = 0) = (a.testBit b = false) := propext (zbit0 ha hb)
theorem zbt1 (ha : a < 2 ^ 31) (hb : b < 32) : ((nI a >>> (nI b &&& 31)) &&& 1 = 1) = (a.testBit b = true) := propext (zbit1 ha hb)
theorem mr2 : nI a * 2 = nI (2 * a) := (pk_mul a 2).trans (congrArg nI (Nat.mul_comm a 2))
theorem ml2 : 2 * nI a = nI (2 * a) := pk_mul 2 a
theorem ar2 : nI a + 2 = nI (a + 2) := nI_add a 2
theorem al2 : 2 + nI a = nI (2 + a) := nI_add 2 a
theorem le2 (h : a < 2 ^ 31) : (nI a ≤ 2) = (a ≤ 2) := zle_nI h (by decide)
theorem ge2 (h : a < 2 ^ 31) : (2 ≤ nI a) = (2 ≤ a) := zle_nI (by decide) h
theorem lt2 (h : a < 2 ^ 31) : (nI a < 2) = (a < 2) := zlt_nI h (by decide)
theorem gt2 (h : a < 2 ^ 31) : (2 < nI a) = (2 < a) := zlt_nI (by decide) h
theorem eq2 (h : a < 2 ^ 31) : (nI a = 2) = (a = 2) := zeq_nI h (by decide)
theorem sr2 (h : 2 ≤ a) : nI a - 2 = nI (a - 2) := pk_sub h
theorem sl2 (h : a ≤ 2) : 2 - nI a = nI (2 - a) := pk_sub h
theorem dr2 (h : a < 2 ^ 31) : nI a / 2 = nI (a / 2) := pk_div h (by decide) (by decide)
theorem mr3 : nI a * 3 = nI (3 * a) := (pk_mul a 3).trans (congrArg nI (Nat.mul_comm a 3))
theorem ml3 : 3 * nI a = nI (3 * a) := pk_mul 3 a
theorem ar3 : nI a + 3 = nI (a + 3) := nI_add a 3
theorem al3 : 3 + nI a = nI (3 + a) := nI_add 3 a
theorem le3 (h : a < 2 ^ 31) : (nI a ≤ 3) = (a ≤ 3) := zle_nI h (by decide)
theorem ge3 (h : a < 2 ^ 31) : (3 ≤ nI a) = (3 ≤ a) := zle_nI (by decide) h
theorem lt3 (h : a < 2 ^ 31) : (nI a < 3) = (a < 3) := zlt_nI h (by decide)
theorem gt3 (h : a < 2 ^ 31) : (3 < nI a) = (3 < a) := zlt_nI (by decide) h
theorem eq3 (h : a < 2 ^ 31) : (nI a = 3) = (a = 3) := zeq_nI h (by decide)
theorem sr3 (h : 3 ≤ a) : nI a - 3 = nI (a - 3) := pk_sub h
theorem sl3 (h : a ≤ 3) : 3 - nI a = nI (3 - a) := pk_sub h
theorem dr3 (h : a < 2 ^ 31) : nI a / 3 = nI (a / 3) := pk_div h (by decide) (by decide)
theorem mr4 : nI a * 4 = nI (4 * a) := (pk_mul a 4).trans (congrArg nI (Nat.mul_comm a 4))
theorem ml4 : 4 * nI a = nI (4 * a) := pk_mul 4 a
theorem ar4 : nI a + 4 = nI (a + 4) := nI_add a 4
theorem al4 : 4 + nI a = nI (4 + a) := nI_add 4 a
theorem le4 (h : a < 2 ^ 31) : (nI a ≤ 4) = (a ≤ 4) := zle_nI h (by decide)
theorem ge4 (h : a < 2 ^ 31) : (4 ≤ nI a) = (4 ≤ a) := zle_nI (by decide) h
theorem lt4 (h : a < 2 ^ 31) : (nI a < 4) = (a < 4) := zlt_nI h (by decide)
theorem gt4 (h : a < 2 ^ 31) : (4 < nI a) = (4 < a) := zlt_nI (by decide) h
theorem eq4 (h : a < 2 ^ 31) : (nI a = 4) = (a = 4) := zeq_nI h (by decide)
theorem sr4 (h : 4 ≤ a) : nI a - 4 = nI (a - 4) := pk_sub h
theorem sl4 (h : a ≤ 4) : 4 - nI a = nI (4 - a) := pk_sub h
theorem dr4 (h : a < 2 ^ 31) : nI a / 4 = nI (a / 4) := pk_div h (by decide) (by decide)
theorem mr5 : nI a * 5 = nI (5 * a) := (pk_mul a 5).trans (congrArg nI (Nat.mul_comm a 5))
theorem ml5 : 5 * nI a = nI (5 * a) := pk_mul 5 a
theorem ar5 : nI a + 5 = nI (a + 5) := nI_add a 5
theorem al5 : 5 + nI a = nI (5 + a) := nI_add 5 a
theorem le5 (h : a < 2 ^ 31) : (nI a ≤ 5) = (a ≤ 5) := zle_nI h (by decide)
theorem ge5 (h : a < 2 ^ 31) : (5 ≤ nI a) = (5 ≤ a) := zle_nI (by decide) h
theorem lt5 (h : a < 2 ^ 31) : (nI a < 5) = (a < 5) := zlt_nI h (by decide)
theorem gt5 (h : a < 2 ^ 31) : (5 < nI a) = (5 < a) := zlt_nI (by decide) h
theorem eq5 (h : a < 2 ^ 31) : (nI a = 5) = (a = 5) := zeq_nI h (by decide)
theorem sr5 (h : 5 ≤ a) : nI a - 5 = nI (a - 5) := pk_sub h
theorem sl5 (h : a ≤ 5) : 5 - nI a = nI (5 - a) := pk_sub h
theorem dr5 (h : a < 2 ^ 31) : nI a / 5 = nI (a / 5) := pk_div h (by decide) (by decide)
theorem mr6 : nI a * 6 = nI (6 * a) := (pk_mul a 6).trans (congrArg nI (Nat.mul_comm a 6))
theorem ml6 : 6 * nI a = nI (6 * a) := pk_mul 6 a
theorem ar6 : nI a + 6 = nI (a + 6) := nI_add a 6
theorem al6 : 6 + nI a = nI (6 + a) := nI_add 6 a
theorem le6 (h : a < 2 ^ 31) : (nI a ≤ 6) = (a ≤ 6) := zle_nI h (by decide)
theorem ge6 (h : a < 2 ^ 31) : (6 ≤ nI a) = (6 ≤ a) := zle_nI (by decide) h
theorem lt6 (h : a < 2 ^ 31) : (nI a < 6) = (a < 6) := zlt_nI h (by decide)
theorem gt6 (h : a < 2 ^ 31) : (6 < nI a) = (6 < a) := zlt_nI (by decide) h
theorem eq6 (h : a < 2 ^ 31) : (nI a = 6) = (a = 6) := zeq_nI h (by decide)
theorem sr6 (h : 6 ≤ a) : nI a - 6 = nI (a - 6) := pk_sub h
theorem sl6 (h : a ≤ 6) : 6 - nI a = nI (6 - a) := pk_sub h
theorem dr6 (h : a < 2 ^ 31) : nI a / 6 = nI (a / 6) := pk_div h (by decide) (by decide)
theorem mr7 : nI a * 7 = nI (7 * a) := (pk_mul a 7).trans (congrArg nI (Nat.mul_comm a 7))
theorem ml7 : 7 * nI a = nI (7 * a) := pk_mul 7 a
theorem ar7 : nI a + 7 = nI (a + 7) := nI_add a 7
theorem al7 : 7 + nI a = nI (7 + a) := nI_add 7 a
theorem le7 (h : a < 2 ^ 31) : (nI a ≤ 7) = (a ≤ 7) := zle_nI h (by decide)
theorem ge7 (h : a < 2 ^ 31) : (7 ≤ nI a) = (7 ≤ a) := zle_nI (by decide) h
theorem lt7 (h : a < 2 ^ 31) : (nI a < 7) = (a < 7) := zlt_nI h (by decide)
theorem gt7 (h : a < 2 ^ 31) : (7 < nI a) = (7 < a) := zlt_nI (by decide) h
theorem eq7 (h : a < 2 ^ 31) : (nI a = 7) = (a = 7) := zeq_nI h (by decide)
theorem sr7 (h : 7 ≤ a) : nI a - 7 = nI (a - 7) := pk_sub h
theorem sl7 (h : a ≤ 7) : 7 - nI a = nI (7 - a) := pk_sub h
theorem dr7 (h : a < 2 ^ 31) : nI a / 7 = nI (a / 7) := pk_div h (by decide) (by decide)
theorem mr8 : nI a * 8 = nI (8 * a) := (pk_mul a 8).trans (congrArg nI (Nat.mul_comm a 8))
theorem ml8 : 8 * nI a = nI (8 * a) := pk_mul 8 a
theorem ar8 : nI a + 8 = nI (a + 8) := nI_add a 8
theorem al8 : 8 + nI a = nI (8 + a) := nI_add 8 a
theorem le8 (h : a < 2 ^ 31) : (nI a ≤ 8) = (a ≤ 8) := zle_nI h (by decide)
theorem ge8 (h : a < 2 ^ 31) : (8 ≤ nI a) = (8 ≤ a) := zle_nI (by decide) h
theorem lt8 (h : a < 2 ^ 31) : (nI a < 8) = (a < 8) := zlt_nI h (by decide)
theorem gt8 (h : a < 2 ^ 31) : (8 < nI a) = (8 < a) := zlt_nI (by decide) h
theorem eq8 (h : a < 2 ^ 31) : (nI a = 8) = (a = 8) := zeq_nI h (by decide)
theorem sr8 (h : 8 ≤ a) : nI a - 8 = nI (a - 8) := pk_sub h
theorem sl8 (h : a ≤ 8) : 8 - nI a = nI (8 - a) := pk_sub h
theorem dr8 (h : a < 2 ^ 31) : nI a / 8 = nI (a / 8) := pk_div h (by decide) (by decide)
theorem mr9 : nI a * 9 = nI (9 * a) := (pk_mul a 9).trans (congrArg nI (Nat.mul_comm a 9))
theorem ml9 : 9 * nI a = nI (9 * a) := pk_mul 9 a
theorem ar9 : nI a + 9 = nI (a + 9) := nI_add a 9
theorem al9 : 9 + nI a = nI (9 + a) := nI_add 9 a
theorem le9 (h : a < 2 ^ 31) : (nI a ≤ 9) = (a ≤ 9) := zle_nI h (by decide)
theorem ge9 (h : a < 2 ^ 31) : (9 ≤ nI a) = (9 ≤ a) := zle_nI (by decide) h
theorem lt9 (h : a < 2 ^ 31) : (nI a < 9) = (a < 9) := zlt_nI h (by decide)
theorem gt9 (h : a < 2 ^ 31) : (9 < nI a) = (9 < a) := zlt_nI (by decide) h
theorem eq9 (h : a < 2 ^ 31) : (nI a = 9) = (a = 9) := zeq_nI h (by decide)
theorem sr9 (h : 9 ≤ a) : nI a - 9 = nI (a - 9) := pk_sub h
theorem sl9 (h : a ≤ 9) : 9 - nI a = nI (9 - a) := pk_sub h
theorem dr9 (h : a < 2 ^ 31) : nI a / 9 = nI (a / 9) := pk_div h (by decide) (by decide)
theorem mr10 : nI a * 10 = nI (10 * a) := (pk_mul a 10).trans (congrArg nI (Nat.mul_comm a 10))
theorem ml10 : 10 * nI a = nI (10 * a) := pk_mul 10 a
theorem ar10 : nI a + 10 = nI (a + 10) := nI_add a 10
theorem al10 : 10 + nI a = nI (10 + a) := nI_add 10 a
theorem le10 (h : a < 2 ^ 31) : (nI a ≤ 10) = (a ≤ 10) := zle_nI h (by decide)
theorem ge10 (h : a < 2 ^ 31) : (10 ≤ nI a) = (10 ≤ a) := zle_nI (by decide) h
theorem lt10 (h : a < 2 ^ 31) : (nI a < 10) = (a < 10) := zlt_nI h (by decide)
theorem gt10 (h : a < 2 ^ 31) : (10 < nI a) = (10 < a) := zlt_nI (by decide) h
theorem eq10 (h : a < 2 ^ 31) : (nI a = 10) = (a = 10) := zeq_nI h (by decide)
theorem sr10 (h : 10 ≤ a) : nI a - 10 = nI (a - 10) := pk_sub h
theorem sl10 (h : a ≤ 10) : 10 - nI a = nI (10 - a) := pk_sub h
theorem dr10 (h : a < 2 ^ 31) : nI a / 10 = nI (a / 10) := pk_div h (by decide) (by decide)
theorem mr16 : nI a * 16 = nI (16 * a) := (pk_mul a 16).trans (congrArg nI (Nat.mul_comm a 16))
theorem ml16 : 16 * nI a = nI (16 * a) := pk_mul 16 a
theorem ar16 : nI a + 16 = nI (a + 16) := nI_add a 16
theorem al16 : 16 + nI a = nI (16 + a) := nI_add 16 a
theorem le16 (h : a < 2 ^ 31) : (nI a ≤ 16) = (a ≤ 16) := zle_nI h (by decide)
theorem ge16 (h : a < 2 ^ 31) : (16 ≤ nI a) = (16 ≤ a) := zle_nI (by decide) h
theorem lt16 (h : a < 2 ^ 31) : (nI a < 16) = (a < 16) := zlt_nI h (by decide)
theorem gt16 (h : a < 2 ^ 31) : (16 < nI a) = (16 < a) := zlt_nI (by decide) h
theorem eq16 (h : a < 2 ^ 31) : (nI a = 16) = (a = 16) := zeq_nI h (by decide)
theorem sr16 (h : 16 ≤ a) : nI a - 16 = nI (a - 16) := pk_sub h
theorem sl16 (h : a ≤ 16) : 16 - nI a = nI (16 - a) := pk_sub h
theorem dr16 (h : a < 2 ^ 31) : nI a / 16 = nI (a / 16) := pk_div h (by decide) (by decide)
theorem mr20 : nI a * 20 = nI (20 * a) := (pk_mul a 20).trans (congrArg nI (Nat.mul_comm a 20))
theorem ml20 : 20 * nI a = nI (20 * a) := pk_mul 20 a
theorem ar20 : nI a + 20 = nI (a + 20) := nI_add a 20
theorem al20 : 20 + nI a = nI (20 + a) := nI_add 20 a
theorem le20 (h : a < 2 ^ 31) : (nI a ≤ 20) = (a ≤ 20) := zle_nI h (by decide)
theorem ge20 (h : a < 2 ^ 31) : (20 ≤ nI a) = (20 ≤ a) := zle_nI (by decide) h
theorem lt20 (h : a < 2 ^ 31) : (nI a < 20) = (a < 20) := zlt_nI h (by decide)
theorem gt20 (h : a < 2 ^ 31) : (20 < nI a) = (20 < a) := zlt_nI (by decide) h
theorem eq20 (h : a < 2 ^ 31) : (nI a = 20) = (a = 20) := zeq_nI h (by decide)
theorem sr20 (h : 20 ≤ a) : nI a - 20 = nI (a - 20) := pk_sub h
theorem sl20 (h : a ≤ 20) : 20 - nI a = nI (20 - a) := pk_sub h
theorem dr20 (h : a < 2 ^ 31) : nI a / 20 = nI (a / 20) := pk_div h (by decide) (by decide)
theorem mr24 : nI a * 24 = nI (24 * a) := (pk_mul a 24).trans (congrArg nI (Nat.mul_comm a 24))
theorem ml24 : 24 * nI a = nI (24 * a) := pk_mul 24 a
theorem ar24 : nI a + 24 = nI (a + 24) := nI_add a 24
theorem al24 : 24 + nI a = nI (24 + a) := nI_add 24 a
theorem le24 (h : a < 2 ^ 31) : (nI a ≤ 24) = (a ≤ 24) := zle_nI h (by decide)
theorem ge24 (h : a < 2 ^ 31) : (24 ≤ nI a) = (24 ≤ a) := zle_nI (by decide) h
theorem lt24 (h : a < 2 ^ 31) : (nI a < 24) = (a < 24) := zlt_nI h (by decide)
theorem gt24 (h : a < 2 ^ 31) : (24 < nI a) = (24 < a) := zlt_nI (by decide) h
theorem eq24 (h : a < 2 ^ 31) : (nI a = 24) = (a = 24) := zeq_nI h (by decide)
theorem sr24 (h : 24 ≤ a) : nI a - 24 = nI (a - 24) := pk_sub h
theorem sl24 (h : a ≤ 24) : 24 - nI a = nI (24 - a) := pk_sub h
theorem dr24 (h : a < 2 ^ 31) : nI a / 24 = nI (a / 24) := pk_div h (by decide) (by decide)
theorem mr30 : nI a * 30 = nI (30 * a) := (pk_mul a 30).trans (congrArg nI (Nat.mul_comm a 30))
theorem ml30 : 30 * nI a = nI (30 * a) := pk_mul 30 a
theorem ar30 : nI a + 30 = nI (a + 30) := nI_add a 30
theorem al30 : 30 + nI a = nI (30 + a) := nI_add 30 a
theorem le30 (h : a < 2 ^ 31) : (nI a ≤ 30) = (a ≤ 30) := zle_nI h (by decide)
theorem ge30 (h : a < 2 ^ 31) : (30 ≤ nI a) = (30 ≤ a) := zle_nI (by decide) h
theorem lt30 (h : a < 2 ^ 31) : (nI a < 30) = (a < 30) := zlt_nI h (by decide)
theorem gt30 (h : a < 2 ^ 31) : (30 < nI a) = (30 < a) := zlt_nI (by decide) h
theorem eq30 (h : a < 2 ^ 31) : (nI a = 30) = (a = 30) := zeq_nI h (by decide)
theorem sr30 (h : 30 ≤ a) : nI a - 30 = nI (a - 30) := pk_sub h
theorem sl30 (h : a ≤ 30) : 30 - nI a = nI (30 - a) := pk_sub h
theorem dr30 (h : a < 2 ^ 31) : nI a / 30 = nI (a / 30) := pk_div h (by decide) (by decide)
theorem mr31 : nI a * 31 = nI (31 * a) := (pk_mul a 31).trans (congrArg nI (Nat.mul_comm a 31))
theorem ml31 : 31 * nI a = nI (31 * a) := pk_mul 31 a
theorem ar31 : nI a + 31 = nI (a + 31) := nI_add a 31
theorem al31 : 31 + nI a = nI (31 + a) := nI_add 31 a
theorem le31 (h : a < 2 ^ 31) : (nI a ≤ 31) = (a ≤ 31) := zle_nI h (by decide)
theorem ge31 (h : a < 2 ^ 31) : (31 ≤ nI a) = (31 ≤ a) := zle_nI (by decide) h
theorem lt31 (h : a < 2 ^ 31) : (nI a < 31) = (a < 31) := zlt_nI h (by decide)
theorem gt31 (h : a < 2 ^ 31) : (31 < nI a) = (31 < a) := zlt_nI (by decide) h
theorem eq31 (h : a < 2 ^ 31) : (nI a = 31) = (a = 31) := zeq_nI h (by decide)
theorem sr31 (h : 31 ≤ a) : nI a - 31 = nI (a - 31) := pk_sub h
theorem sl31 (h : a ≤ 31) : 31 - nI a = nI (31 - a) := pk_sub h
theorem dr31 (h : a < 2 ^ 31) : nI a / 31 = nI (a / 31) := pk_div h (by decide) (by decide)
theorem mr32 : nI a * 32 = nI (32 * a) := (pk_mul a 32).trans (congrArg nI (Nat.mul_comm a 32))
theorem ml32 : 32 * nI a = nI (32 * a) := pk_mul 32 a
theorem ar32 : nI a + 32 = nI (a + 32) := nI_add a 32
theorem al32 : 32 + nI a = nI (32 + a) := nI_add 32 a
theorem le32 (h : a < 2 ^ 31) : (nI a ≤ 32) = (a ≤ 32) := zle_nI h (by decide)
theorem ge32 (h : a < 2 ^ 31) : (32 ≤ nI a) = (32 ≤ a) := zle_nI (by decide) h
theorem lt32 (h : a < 2 ^ 31) : (nI a < 32) = (a < 32) := zlt_nI h (by decide)
theorem gt32 (h : a < 2 ^ 31) : (32 < nI a) = (32 < a) := zlt_nI (by decide) h
theorem eq32 (h : a < 2 ^ 31) : (nI a = 32) = (a = 32) := zeq_nI h (by decide)
theorem sr32 (h : 32 ≤ a) : nI a - 32 = nI (a - 32) := pk_sub h
theorem sl32 (h : a ≤ 32) : 32 - nI a = nI (32 - a) := pk_sub h
theorem dr32 (h : a < 2 ^ 31) : nI a / 32 = nI (a / 32) := pk_div h (by decide) (by decide)
theorem mr40 : nI a * 40 = nI (40 * a) := (pk_mul a 40).trans (congrArg nI (Nat.mul_comm a 40))
theorem ml40 : 40 * nI a = nI (40 * a) := pk_mul 40 a
theorem ar40 : nI a + 40 = nI (a + 40) := nI_add a 40
theorem al40 : 40 + nI a = nI (40 + a) := nI_add 40 a
theorem le40 (h : a < 2 ^ 31) : (nI a ≤ 40) = (a ≤ 40) := zle_nI h (by decide)
theorem ge40 (h : a < 2 ^ 31) : (40 ≤ nI a) = (40 ≤ a) := zle_nI (by decide) h
theorem lt40 (h : a < 2 ^ 31) : (nI a < 40) = (a < 40) := zlt_nI h (by decide)
theorem gt40 (h : a < 2 ^ 31) : (40 < nI a) = (40 < a) := zlt_nI (by decide) h
theorem eq40 (h : a < 2 ^ 31) : (nI a = 40) = (a = 40) := zeq_nI h (by decide)
theorem sr40 (h : 40 ≤ a) : nI a - 40 = nI (a - 40) := pk_sub h
theorem sl40 (h : a ≤ 40) : 40 - nI a = nI (40 - a) := pk_sub h
theorem dr40 (h : a < 2 ^ 31) : nI a / 40 = nI (a / 40) := pk_div h (by decide) (by decide)
theorem mr60 : nI a * 60 = nI (60 * a) := (pk_mul a 60).trans (congrArg nI (Nat.mul_comm a 60))
theorem ml60 : 60 * nI a = nI (60 * a) := pk_mul 60 a
theorem ar60 : nI a + 60 = nI (a + 60) := nI_add a 60
theorem al60 : 60 + nI a = nI (60 + a) := nI_add 60 a
theorem le60 (h : a < 2 ^ 31) : (nI a ≤ 60) = (a ≤ 60) := zle_nI h (by decide)
theorem ge60 (h : a < 2 ^ 31) : (60 ≤ nI a) = (60 ≤ a) := zle_nI (by decide) h
theorem lt60 (h : a < 2 ^ 31) : (nI a < 60) = (a < 60) := zlt_nI h (by decide)
theorem gt60 (h : a < 2 ^ 31) : (60 < nI a) = (60 < a) := zlt_nI (by decide) h
theorem eq60 (h : a < 2 ^ 31) : (nI a = 60) = (a = 60) := zeq_nI h (by decide)
theorem sr60 (h : 60 ≤ a) : nI a - 60 = nI (a - 60) := pk_sub h
theorem sl60 (h : a ≤ 60) : 60 - nI a = nI (60 - a) := pk_sub h
theorem dr60 (h : a < 2 ^ 31) : nI a / 60 = nI (a / 60) := pk_div h (by decide) (by decide)
theorem mr92 : nI a * 92 = nI (92 * a) := (pk_mul a 92).trans (congrArg nI (Nat.mul_comm a 92))
theorem ml92 : 92 * nI a = nI (92 * a) := pk_mul 92 a
theorem ar92 : nI a + 92 = nI (a + 92) := nI_add a 92
theorem al92 : 92 + nI a = nI (92 + a) := nI_add 92 a
theorem le92 (h : a < 2 ^ 31) : (nI a ≤ 92) = (a ≤ 92) := zle_nI h (by decide)
theorem ge92 (h : a < 2 ^ 31) : (92 ≤ nI a) = (92 ≤ a) := zle_nI (by decide) h
theorem lt92 (h : a < 2 ^ 31) : (nI a < 92) = (a < 92) := zlt_nI h (by decide)
theorem gt92 (h : a < 2 ^ 31) : (92 < nI a) = (92 < a) := zlt_nI (by decide) h
theorem eq92 (h : a < 2 ^ 31) : (nI a = 92) = (a = 92) := zeq_nI h (by decide)
theorem sr92 (h : 92 ≤ a) : nI a - 92 = nI (a - 92) := pk_sub h
theorem sl92 (h : a ≤ 92) : 92 - nI a = nI (92 - a) := pk_sub h
theorem dr92 (h : a < 2 ^ 31) : nI a / 92 = nI (a / 92) := pk_div h (by decide) (by decide)
theorem mr96 : nI a * 96 = nI (96 * a) := (pk_mul a 96).trans (congrArg nI (Nat.mul_comm a 96))
theorem ml96 : 96 * nI a = nI (96 * a) := pk_mul 96 a
theorem ar96 : nI a + 96 = nI (a + 96) := nI_add a 96
theorem al96 : 96 + nI a = nI (96 + a) := nI_add 96 a
theorem le96 (h : a < 2 ^ 31) : (nI a ≤ 96) = (a ≤ 96) := zle_nI h (by decide)
theorem ge96 (h : a < 2 ^ 31) : (96 ≤ nI a) = (96 ≤ a) := zle_nI (by decide) h
theorem lt96 (h : a < 2 ^ 31) : (nI a < 96) = (a < 96) := zlt_nI h (by decide)
theorem gt96 (h : a < 2 ^ 31) : (96 < nI a) = (96 < a) := zlt_nI (by decide) h
theorem eq96 (h : a < 2 ^ 31) : (nI a = 96) = (a = 96) := zeq_nI h (by decide)
theorem sr96 (h : 96 ≤ a) : nI a - 96 = nI (a - 96) := pk_sub h
theorem sl96 (h : a ≤ 96) : 96 - nI a = nI (96 - a) := pk_sub h
theorem dr96 (h : a < 2 ^ 31) : nI a / 96 = nI (a / 96) := pk_div h (by decide) (by decide)
theorem mr99 : nI a * 99 = nI (99 * a) := (pk_mul a 99).trans (congrArg nI (Nat.mul_comm a 99))
theorem ml99 : 99 * nI a = nI (99 * a) := pk_mul 99 a
theorem ar99 : nI a + 99 = nI (a + 99) := nI_add a 99
theorem al99 : 99 + nI a = nI (99 + a) := nI_add 99 a
theorem le99 (h : a < 2 ^ 31) : (nI a ≤ 99) = (a ≤ 99) := zle_nI h (by decide)
theorem ge99 (h : a < 2 ^ 31) : (99 ≤ nI a) = (99 ≤ a) := zle_nI (by decide) h
theorem lt99 (h : a < 2 ^ 31) : (nI a < 99) = (a < 99) := zlt_nI h (by decide)
theorem gt99 (h : a < 2 ^ 31) : (99 < nI a) = (99 < a) := zlt_nI (by decide) h
theorem eq99 (h : a < 2 ^ 31) : (nI a = 99) = (a = 99) := zeq_nI h (by decide)
theorem sr99 (h : 99 ≤ a) : nI a - 99 = nI (a - 99) := pk_sub h
theorem sl99 (h : a ≤ 99) : 99 - nI a = nI (99 - a) := pk_sub h
theorem dr99 (h : a < 2 ^ 31) : nI a / 99 = nI (a / 99) := pk_div h (by decide) (by decide)
theorem mr100 : nI a * 100 = nI (100 * a) := (pk_mul a 100).trans (congrArg nI (Nat.mul_comm a 100))
theorem ml100 : 100 * nI a = nI (100 * a) := pk_mul 100 a
theorem ar100 : nI a + 100 = nI (a + 100) := nI_add a 100
theorem al100 : 100 + nI a = nI (100 + a) := nI_add 100 a
theorem le100 (h : a < 2 ^ 31) : (nI a ≤ 100) = (a ≤ 100) := zle_nI h (by decide)
theorem ge100 (h : a < 2 ^ 31) : (100 ≤ nI a) = (100 ≤ a) := zle_nI (by decide) h
theorem lt100 (h : a < 2 ^ 31) : (nI a < 100) = (a < 100) := zlt_nI h (by decide)
theorem gt100 (h : a < 2 ^ 31) : (100 < nI a) = (100 < a) := zlt_nI (by decide) h
theorem eq100 (h : a < 2 ^ 31) : (nI a = 100) = (a = 100) := zeq_nI h (by decide)
theorem sr100 (h : 100 ≤ a) : nI a - 100 = nI (a - 100) := pk_sub h
theorem sl100 (h : a ≤ 100) : 100 - nI a = nI (100 - a) := pk_sub h
theorem dr100 (h : a < 2 ^ 31) : nI a / 100 = nI (a / 100) := pk_div h (by decide) (by decide)
theorem mr320 : nI a * 320 = nI (320 * a) := (pk_mul a 320).trans (congrArg nI (Nat.mul_comm a 320))
theorem ml320 : 320 * nI a = nI (320 * a) := pk_mul 320 a
theorem ar320 : nI a + 320 = nI (a + 320) := nI_add a 320
theorem al320 : 320 + nI a = nI (320 + a) := nI_add 320 a
theorem le320 (h : a < 2 ^ 31) : (nI a ≤ 320) = (a ≤ 320) := zle_nI h (by decide)
theorem ge320 (h : a < 2 ^ 31) : (320 ≤ nI a) = (320 ≤ a) := zle_nI (by decide) h
theorem lt320 (h : a < 2 ^ 31) : (nI a < 320) = (a < 320) := zlt_nI h (by decide)
theorem gt320 (h : a < 2 ^ 31) : (320 < nI a) = (320 < a) := zlt_nI (by decide) h
theorem eq320 (h : a < 2 ^ 31) : (nI a = 320) = (a = 320) := zeq_nI h (by decide)
theorem sr320 (h : 320 ≤ a) : nI a - 320 = nI (a - 320) := pk_sub h
theorem sl320 (h : a ≤ 320) : 320 - nI a = nI (320 - a) := pk_sub h
theorem dr320 (h : a < 2 ^ 31) : nI a / 320 = nI (a / 320) := pk_div h (by decide) (by decide)
theorem mr1000 : nI a * 1000 = nI (1000 * a) := (pk_mul a 1000).trans (congrArg nI (Nat.mul_comm a 1000))
theorem ml1000 : 1000 * nI a = nI (1000 * a) := pk_mul 1000 a
theorem ar1000 : nI a + 1000 = nI (a + 1000) := nI_add a 1000
theorem al1000 : 1000 + nI a = nI (1000 + a) := nI_add 1000 a
theorem le1000 (h : a < 2 ^ 31) : (nI a ≤ 1000) = (a ≤ 1000) := zle_nI h (by decide)
theorem ge1000 (h : a < 2 ^ 31) : (1000 ≤ nI a) = (1000 ≤ a) := zle_nI (by decide) h
theorem lt1000 (h : a < 2 ^ 31) : (nI a < 1000) = (a < 1000) := zlt_nI h (by decide)
theorem gt1000 (h : a < 2 ^ 31) : (1000 < nI a) = (1000 < a) := zlt_nI (by decide) h
theorem eq1000 (h : a < 2 ^ 31) : (nI a = 1000) = (a = 1000) := zeq_nI h (by decide)
theorem sr1000 (h : 1000 ≤ a) : nI a - 1000 = nI (a - 1000) := pk_sub h
theorem sl1000 (h : a ≤ 1000) : 1000 - nI a = nI (1000 - a) := pk_sub h
theorem dr1000 (h : a < 2 ^ 31) : nI a / 1000 = nI (a / 1000) := pk_div h (by decide) (by decide)
theorem mr1024 : nI a * 1024 = nI (1024 * a) := (pk_mul a 1024).trans (congrArg nI (Nat.mul_comm a 1024))
theorem ml1024 : 1024 * nI a = nI (1024 * a) := pk_mul 1024 a
theorem ar1024 : nI a + 1024 = nI (a + 1024) := nI_add a 1024
theorem al1024 : 1024 + nI a = nI (1024 + a) := nI_add 1024 a
theorem le1024 (h : a < 2 ^ 31) : (nI a ≤ 1024) = (a ≤ 1024) := zle_nI h (by decide)
theorem ge1024 (h : a < 2 ^ 31) : (1024 ≤ nI a) = (1024 ≤ a) := zle_nI (by decide) h
theorem lt1024 (h : a < 2 ^ 31) : (nI a < 1024) = (a < 1024) := zlt_nI h (by decide)
theorem gt1024 (h : a < 2 ^ 31) : (1024 < nI a) = (1024 < a) := zlt_nI (by decide) h
theorem eq1024 (h : a < 2 ^ 31) : (nI a = 1024) = (a = 1024) := zeq_nI h (by decide)
theorem sr1024 (h : 1024 ≤ a) : nI a - 1024 = nI (a - 1024) := pk_sub h
theorem sl1024 (h : a ≤ 1024) : 1024 - nI a = nI (1024 - a) := pk_sub h
theorem dr1024 (h : a < 2 ^ 31) : nI a / 1024 = nI (a / 1024) := pk_div h (by decide) (by decide)
theorem mr1600 : nI a * 1600 = nI (1600 * a) := (pk_mul a 1600).trans (congrArg nI (Nat.mul_comm a 1600))
theorem ml1600 : 1600 * nI a = nI (1600 * a) := pk_mul 1600 a
theorem ar1600 : nI a + 1600 = nI (a + 1600) := nI_add a 1600
theorem al1600 : 1600 + nI a = nI (1600 + a) := nI_add 1600 a
theorem le1600 (h : a < 2 ^ 31) : (nI a ≤ 1600) = (a ≤ 1600) := zle_nI h (by decide)
theorem ge1600 (h : a < 2 ^ 31) : (1600 ≤ nI a) = (1600 ≤ a) := zle_nI (by decide) h
theorem lt1600 (h : a < 2 ^ 31) : (nI a < 1600) = (a < 1600) := zlt_nI h (by decide)
theorem gt1600 (h : a < 2 ^ 31) : (1600 < nI a) = (1600 < a) := zlt_nI (by decide) h
theorem eq1600 (h : a < 2 ^ 31) : (nI a = 1600) = (a = 1600) := zeq_nI h (by decide)
theorem sr1600 (h : 1600 ≤ a) : nI a - 1600 = nI (a - 1600) := pk_sub h
theorem sl1600 (h : a ≤ 1600) : 1600 - nI a = nI (1600 - a) := pk_sub h
theorem dr1600 (h : a < 2 ^ 31) : nI a / 1600 = nI (a / 1600) := pk_div h (by decide) (by decide)
end ZLit
section ZLoop
variable {A R : Type}
/-- a loop that counts from k to n, s beside it -/
theorem zfor (L : Nat → A → Nat → R) (n : Nat) (Inv : Nat → A → Prop) (E : A → R)
    (step : ∀ m k s, k < n → Inv k s → ∃ s', Inv (k + 1) s' ∧ L (m + 1) s k = L m s' (k + 1))
    (stop : ∀ m s, Inv n s → L (m + 1) s n = E s) :
    ∀ (d k : Nat) (s : A) (fuel : Nat), k + d = n → Inv k s → d < fuel → ∃ s', Inv n s' ∧ L fuel s k = E s' := by
  intro d
  induction d with
  | zero =>
    intro k s fuel hk hi hf
    obtain ⟨m, rfl⟩ : ∃ m, fuel = m + 1 := ⟨fuel - 1, by omega⟩
    have : k = n := by omega
    subst this
    exact ⟨s, hi, stop m s hi⟩
  | succ d ih =>
    intro k s fuel hk hi hf
    obtain ⟨m, rfl⟩ : ∃ m, fuel = m + 1 := ⟨fuel - 1, by omega⟩
    obtain ⟨s', h1, h2⟩ := step m k s (by omega) hi
    obtain ⟨s2, h3, h4⟩ := ih (k + 1) s' m (by omega) h1 (by omega)
    exact ⟨s2, h3, h2.trans h4⟩
/-- the same, where it may be left -/
theorem zforW (L : Nat → A → Nat → R) (n : Nat) (Inv : Nat → A → Prop) (Q : R → Prop)
    (step : ∀ m k s, k < n → Inv k s → Q (L (m + 1) s k) ∨ ∃ s', Inv (k + 1) s' ∧ L (m + 1) s k = L m s' (k + 1))
    (stop : ∀ m s, Inv n s → Q (L (m + 1) s n)) :
    ∀ (d k : Nat) (s : A) (fuel : Nat), k + d = n → Inv k s → d < fuel → Q (L fuel s k) := by
  intro d
  induction d with
  | zero =>
    intro k s fuel hk hi hf
    obtain ⟨m, rfl⟩ : ∃ m, fuel = m + 1 := ⟨fuel - 1, by omega⟩
    have : k = n := by omega
    subst this
    exact stop m s hi
  | succ d ih =>
    intro k s fuel hk hi hf
    obtain ⟨m, rfl⟩ : ∃ m, fuel = m + 1 := ⟨fuel - 1, by omega⟩
    rcases step m k s (by omega) hi with h | ⟨s', h1, h2⟩
    · exact h
    · rw [h2]
      exact ih (k + 1) s' m (by omega) h1 (by omega)
/-- f at k, k + 1, .. : d times -/
def zrn (f : Nat → A → A) : Nat → Nat → A → A
  | 0, _, s => s
  | d + 1, k, s => zrn f d (k + 1) (f k s)
theorem zrn_succ (f : Nat → A → A) : ∀ (d k : Nat) (s : A), zrn f (d + 1) k s = f (k + d) (zrn f d k s) := by
  intro d
  induction d with
  | zero => intro k s; rfl
  | succ d ih =>
    intro k s
    show zrn f (d + 1) (k + 1) (f k s) = _
    rw [ih, Nat.add_assoc, Nat.add_comm 1 d]
    rfl
theorem zrn_inv (f : Nat → A → A) (n : Nat) (Inv : Nat → A → Prop) (h : ∀ k s, k < n → Inv k s → Inv (k + 1) (f k s)) : ∀ (d k : Nat) (s : A), k + d ≤ n → Inv k s → Inv (k + d) (zrn f d k s) := by
  intro d
  induction d with
  | zero => intro k s _ hi; exact hi
  | succ d ih =>
    intro k s hk hi
    have := ih (k + 1) (f k s) (by omega) (h k s (by omega) hi)
    rw [show k + (d + 1) = k + 1 + d by omega]
    exact this
theorem zrn_congr (f g : Nat → A → A) (n : Nat) (h : ∀ k s, k < n → f k s = g k s) : ∀ (d k : Nat) (s : A), k + d ≤ n → zrn f d k s = zrn g d k s := by
  intro d
  induction d with
  | zero => intro k s _; rfl
  | succ d ih =>
    intro k s hk
    show zrn f d (k + 1) (f k s) = zrn g d (k + 1) (g k s)
    rw [h k s (by omega)]
    exact ih _ _ (by omega)
/-- a loop that counts, and does f -/
theorem zforF (L : Nat → A → Nat → R) (n : Nat) (f : Nat → A → A) (Inv : Nat → A → Prop) (E : A → R)
    (step : ∀ m k s, k < n → Inv k s → L (m + 1) s k = L m (f k s) (k + 1)) (keep : ∀ k s, k < n → Inv k s → Inv (k + 1) (f k s))
    (stop : ∀ m s, Inv n s → L (m + 1) s n = E s) :
    ∀ (d k : Nat) (s : A) (fuel : Nat), k + d = n → Inv k s → d < fuel → L fuel s k = E (zrn f d k s) := by
  intro d
  induction d with
  | zero =>
    intro k s fuel hk hi hf
    obtain ⟨m, rfl⟩ : ∃ m, fuel = m + 1 := ⟨fuel - 1, by omega⟩
    have : k = n := by omega
    subst this
    exact stop m s hi
  | succ d ih =>
    intro k s fuel hk hi hf
    obtain ⟨m, rfl⟩ : ∃ m, fuel = m + 1 := ⟨fuel - 1, by omega⟩
    rw [step m k s (by omega) hi]
    exact ih (k + 1) (f k s) m (by omega) (keep k s (by omega) hi) (by omega)
/-- a loop with a measure -/
theorem zwhl (L : Nat → A → R) (μ : A → Nat) (Inv : A → Prop) (Q : R → Prop)
    (step : ∀ m s, Inv s → Q (L (m + 1) s) ∨ ∃ s', Inv s' ∧ μ s' < μ s ∧ L (m + 1) s = L m s') :
    ∀ (d : Nat) (s : A) (fuel : Nat), μ s ≤ d → Inv s → d < fuel → Q (L fuel s) := by
  intro d
  induction d with
  | zero =>
    intro s fuel hk hi hf
    obtain ⟨m, rfl⟩ : ∃ m, fuel = m + 1 := ⟨fuel - 1, by omega⟩
    rcases step m s hi with h | ⟨s', h1, h2, h3⟩
    · exact h
    · omega
  | succ d ih =>
    intro s fuel hk hi hf
    obtain ⟨m, rfl⟩ : ∃ m, fuel = m + 1 := ⟨fuel - 1, by omega⟩
    rcases step m s hi with h | ⟨s', h1, h2, h3⟩
    · exact h
    · rw [h3]
      exact ih s' m (by omega) h1 (by omega)
end ZLoop
theorem zfu_lt {d : Nat} (h : d < 4000) : d < zfu := h
