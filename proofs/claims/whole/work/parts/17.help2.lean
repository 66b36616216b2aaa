def zrem (x y : Int32) : Int32 := x - x / y * y
def zremL (x y : Int64) : Int64 := x - x / y * y
def zchr (x : Int32) : Int32 := (x.toUInt32 % 65536).toInt32
def zbyt (x : Int32) : Int32 := x.toInt8.toInt32
def zchr2 (v : Int32) : Option Int32 := if narrow .char (.int v) = .int v then some v else none
def zbyt2 (v : Int32) : Option Int32 := if narrow .byte (.int v) = .int v then some v else none
theorem zchr2_some {x y : Int32} (h : zchr2 x = some y) : narrow .char (.int x) = .int x ∧ x = y := by
  unfold zchr2 at h
  split at h
  · rename_i hq; cases h; exact ⟨hq, rfl⟩
  · cases h
theorem zbyt2_some {x y : Int32} (h : zbyt2 x = some y) : narrow .byte (.int x) = .int x ∧ x = y := by
  unfold zbyt2 at h
  split at h
  · rename_i hq; cases h; exact ⟨hq, rfl⟩
  · cases h
theorem zb_nar {x : Int32} (h : x = 0 ∨ x = 1) : narrow .boolean (.int x) = .int x := by rcases h with rfl | rfl <;> rfl
def zgy {α : Type} (j : Nat) (x : Option α) : Option α := if j = 3 ∨ j = 4 then x else none
theorem zgy_some {α : Type} {j : Nat} {x : Option α} {z : α} (h : zgy j x = some z) : (j = 3 ∨ j = 4) ∧ x = some z := by
  unfold zgy at h
  split at h
  · rename_i hq; exact ⟨hq, h⟩
  · cases h
theorem zr_i {X : zCX} {own : String} {cc : ByteArray} {nL d cells slots pc pc' : Nat} {loc : List (Nat × Value)} {σ : zSt} {v : Int32} (o : zOK X own cc nL d) (hr : zRX X cells slots (some (.int v)) σ) (hd : zDD cc pc .ireturn 1 pc') : zPJ X cells slots pc loc [.int v] σ := zj_ret (r := some (.int v)) o hd rfl hr rfl
theorem zr_l {X : zCX} {own : String} {cc : ByteArray} {nL d cells slots pc pc' : Nat} {loc : List (Nat × Value)} {σ : zSt} {v : Int64} (o : zOK X own cc nL d) (hr : zRX X cells slots (some (.long v)) σ) (hd : zDD cc pc .lreturn 1 pc') : zPJ X cells slots pc loc [.long v] σ := zj_ret (r := some (.long v)) o hd rfl hr rfl
theorem zr_v {X : zCX} {own : String} {cc : ByteArray} {nL d cells slots pc pc' : Nat} {loc : List (Nat × Value)} {σ : zSt} (o : zOK X own cc nL d) (hr : zRX X cells slots none σ) (hd : zDD cc pc .return_ 1 pc') : zPJ X cells slots pc loc [] σ := zj_ret (r := none) o hd rfl hr rfl
