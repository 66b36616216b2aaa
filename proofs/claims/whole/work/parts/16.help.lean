section ZH
variable {X : zCX} {own : String} {cc : ByteArray} {nL d cells slots pc pc' : Nat} {loc loc' : List (Nat × Value)} {stk : List Value} {σ σ' : zSt}
/-- a chain of cases -/
def zcase (ps : List (Int32 × Nat)) (dflt : Nat) (x : Int32) : Nat := match ps with
  | [] => dflt
  | q :: r => if x = q.1 then q.2 else zcase r dflt x
theorem zcase_pos {k x : Int32} {t dflt : Nat} {r : List (Int32 × Nat)} (h : x = k) : zcase ((k, t) :: r) dflt x = t := by simp [zcase, h]
theorem zcase_neg {k x : Int32} {t dflt : Nat} {r : List (Int32 × Nat)} (h : ¬ x = k) : zcase ((k, t) :: r) dflt x = zcase r dflt x := by simp [zcase, h]
def zkeys (lo : Int) : List Nat → List (Int32 × Nat)
  | [] => []
  | t :: r => (Int32.ofInt lo, t) :: zkeys (lo + 1) r
theorem zofInt {x : Int32} {k : Int} (h1 : -2147483648 ≤ k) (h2 : k < 2147483648) : x = Int32.ofInt k ↔ x.toInt = k := by
  rw [← Int32.toInt_inj, Int32.toInt_ofInt_of_le (by omega) (by omega)]
theorem ztab_case (x : Int32) (dt : Nat) : ∀ (tgts : List Nat) (lo : Int), -2147483648 ≤ lo → lo + tgts.length ≤ 2147483648 → ztab lo tgts dt x = zcase (zkeys lo tgts) dt x
  | [], lo, _, _ => by simp [ztab, zkeys, zcase]
  | t :: r, lo, h1, h2 => by
    simp only [List.length_cons] at h2
    have ih := ztab_case x dt r (lo + 1) (by omega) (by omega)
    unfold zkeys
    by_cases hx : x = Int32.ofInt lo
    · rw [zcase_pos hx]
      have := (zofInt h1 (by omega)).mp hx
      unfold ztab
      rw [if_neg (by omega), this]
      simp
    · rw [zcase_neg hx, ← ih]
      have hn : ¬ x.toInt = lo := fun h => hx ((zofInt h1 (by omega)).mpr h)
      unfold ztab
      by_cases h3 : x.toInt < lo
      · rw [if_pos h3, if_pos (by omega)]
      · rw [if_neg h3, if_neg (by omega)]
        have : (x.toInt - lo).toNat = (x.toInt - (lo + 1)).toNat + 1 := by omega
        rw [this]
        rfl
theorem zj_tableC (o : zOK X own cc nL d) {x : Int32} {dflt lo hi : Int} {offs : Array Int} {len dt : Nat} (tgts : List Nat) (hd : zDD cc pc (.tableswitch dflt lo hi offs) len pc') (hdt : (pc : Int) + dflt = (dt : Int)) (hlen : hi - lo + 1 = (tgts.length : Int)) (hoffs : offs.toList.map (fun q => (pc : Int) + q) = tgts.map (fun q : Nat => (q : Int))) (h1 : -2147483648 ≤ lo) (h2 : lo + tgts.length ≤ 2147483648)
    (ks : List (Int32 × Nat)) (hks : zkeys lo tgts = ks) (kk : zPJ X cells slots (zcase ks dt x) loc stk σ) : zPJ X cells slots pc loc (.int x :: stk) σ := by
  refine zj_table o hd hdt hlen hoffs ?_
  rw [ztab_case x dt tgts lo h1 h2, hks]
  exact kk
theorem zoff_case (x : Int32) (pc dt : Nat) : ∀ (ks : List (Int32 × Nat)), (pc : Int) + Op.lookupswitch.offset (ks.map (fun q => (q.1.toInt, (q.2 : Int) - pc))) ((dt : Int) - pc) x.toInt = (zcase ks dt x : Int)
  | [] => by simp only [List.map_nil, Op.lookupswitch.offset_nil, zcase]; omega
  | q :: r => by
    have ih := zoff_case x pc dt r
    simp only [List.map_cons, Op.lookupswitch.offset_cons]
    by_cases h : x = q.1
    · subst h
      simp only [if_true, zcase]
      omega
    · rw [if_neg (fun e => h (Int32.toInt_inj.mp e.symm)), ih]
      simp [zcase, h]
theorem zj_lookupC (o : zOK X own cc nL d) {x : Int32} {dflt : Int} {ps : Array (Int × Int)} {len dt : Nat} (ks : List (Int32 × Nat)) (hd : zDD cc pc (.lookupswitch dflt ps) len pc') (hp : (ps.toList.zip (ps.toList.drop 1)).all (fun (a, next) => a.1 < next.1) = true) (hks : ps.toList = ks.map (fun q => (q.1.toInt, (q.2 : Int) - pc))) (hdt : dflt = (dt : Int) - pc)
    (kk : zPJ X cells slots (zcase ks dt x) loc stk σ) : zPJ X cells slots pc loc (.int x :: stk) σ := by
  refine zj_lookup o (tgt := zcase ks dt x) hd hp ?_ kk
  rw [hks, hdt]
  exact zoff_case x pc dt ks
-- ===== taking functions apart =====
theorem zbd {α β : Type} {x : Option α} {f : α → Option β} {z : β} (h : x.bind f = some z) : ∃ v, x = some v ∧ f v = some z := by
  cases x with
  | none => cases h
  | some v => exact ⟨v, rfl, h⟩
def zg {α : Type} (σ : zSt) (f a : Nat) (x : Option α) : Option α := if σ.1[a]? = some (0, f) then x else none
theorem zg_some {α : Type} {f a : Nat} {x : Option α} {z : α} (h : zg σ f a x = some z) : σ.1[a]? = some (0, f) ∧ x = some z := by
  unfold zg at h
  split at h
  · rename_i hq
    exact ⟨hq, h⟩
  · cases h
def zgx {α : Type} (j : Nat) (x : Option α) : Option α := if j = 1 ∨ j = 2 then x else none
theorem zgx_some {α : Type} {j : Nat} {x : Option α} {z : α} (h : zgx j x = some z) : (j = 1 ∨ j = 2) ∧ x = some z := by
  unfold zgx at h
  split at h
  · rename_i hq
    exact ⟨hq, h⟩
  · cases h
/-- a divisor -/
def znz (x : Int32) : Option Int32 := if x = 0 then none else some x
def znZ (x : Int64) : Option Int64 := if x = 0 then none else some x
theorem znz_some {x y : Int32} (h : znz x = some y) : ¬ x = 0 ∧ x = y := by
  unfold znz at h
  split at h
  · cases h
  · rename_i hq
    cases h
    exact ⟨hq, rfl⟩
theorem znZ_some {x y : Int64} (h : znZ x = some y) : ¬ x = 0 ∧ x = y := by
  unfold znZ at h
  split at h
  · cases h
  · rename_i hq
    cases h
    exact ⟨hq, rfl⟩
theorem zbool_some {x y : Int32} (h : zbool x = some y) : (x = 0 ∨ x = 1) ∧ x = y := by
  unfold zbool at h
  split at h
  · rename_i hq
    cases h
    exact ⟨hq, rfl⟩
  · cases h
/-- how often a loop may turn -/
def zfu : Nat := 4000
theorem zrm0 (X : zCX) : zRM X 0 0 := by
  obtain ⟨p, l, e, R, s, m, args, below, meth, c, Q, b, ex, D, ca⟩ := X
  exact ⟨Nat.zero_le _, Nat.zero_le _⟩
theorem zc_V (o : zOK X own cc nL d) {idx np ny a f d' : Nat} {y : MethodName} {cy : ByteArray} {ry : Option FieldType} {r : Option Value} (hd : zDD cc pc (.invokevirtual idx) 3 pc') (hl1 : Cond.methodLink own idx y ∈ zTB) (hmw : zMV y cy ny ry np) (hf : zR f = y.cls ∧ f < 13) (hcls : σ.1[a]? = some (0, f))
    (hdd : d' + 1 ≤ d) (As rest : List Value) (hst : stk = As.reverse ++ .ref a :: rest) (hrest : (rest.map Value.category).sum ≤ 8) (hlen : As.length = np) (hM : zMT (zXl X) (zXb X) (zXe X) (zXD X) (zXc X) d' y cy ny ry (.ref a :: As) σ r σ' 0 0)
    (kk : zPJ X 0 0 pc' loc (r.toList ++ rest) σ') : zPJ X 0 0 pc loc stk σ :=
  zj_callV o hd hl1 hmw hf hcls hdd As rest hst hrest hlen hM (zrm0 X) ⟨Nat.le_refl 0, Nat.le_refl 0⟩ kk
theorem zc_X (o : zOK X own cc nL d) {idx np ny a d' : Nat} {y : MethodName} {cy : ByteArray} {ry : Option FieldType} {r : Option Value} (hd : zDD cc pc (.invokevirtual idx) 3 pc') (hl1 : Cond.methodLink own idx y ∈ zTB) (hmw : zMV y cy ny ry np) (hf : y.cls = "java/lang/String") (hcls : a = 1 ∨ a = 2)
    (hdd : d' + 1 ≤ d) (As rest : List Value) (hst : stk = As.reverse ++ .retAddr a :: rest) (hrest : (rest.map Value.category).sum ≤ 8) (hlen : As.length = np) (hM : zMT (zXl X) (zXb X) (zXe X) (zXD X) (zXc X) d' y cy ny ry (.retAddr a :: As) σ r σ' 0 0)
    (kk : zPJ X 0 0 pc' loc (r.toList ++ rest) σ') : zPJ X 0 0 pc loc stk σ :=
  zj_callX (f := 0) o hd hl1 hmw hf hcls hdd As rest hst hrest hlen hM (zrm0 X) ⟨Nat.le_refl 0, Nat.le_refl 0⟩ kk
theorem zc_S (o : zOK X own cc nL d) {idx np ny d' : Nat} {y : MethodName} {cy : ByteArray} {ry : Option FieldType} {r : Option Value} (hd : zDD cc pc (.invokestatic idx) 3 pc') (hl1 : Cond.methodLink own idx y ∈ zTB) (hmw : zMS y cy ny ry np)
    (hdd : d' + 1 ≤ d) (As rest : List Value) (hst : stk = As.reverse ++ rest) (hrest : (rest.map Value.category).sum ≤ 8) (hlen : As.length = np) (hM : zMT (zXl X) (zXb X) (zXe X) (zXD X) (zXc X) d' y cy ny ry As σ r σ' 0 0)
    (kk : zPJ X 0 0 pc' loc (r.toList ++ rest) σ') : zPJ X 0 0 pc loc stk σ :=
  zj_callS o hd hl1 hmw hdd As rest hst hrest hlen hM (zrm0 X) ⟨Nat.le_refl 0, Nat.le_refl 0⟩ kk
end ZH
