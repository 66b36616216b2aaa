/-! the text, line by line, pure -/
structure yPs where
  p : Nat
  tn : List (List Nat)
  bn : List (List Nat)
  rn : List (List Nat)
  W : Nat → Int32
  wa : Nat → Int32
  ou : Nat → Int32
  od : Nat → Int32
  q : Nat
  sh : Nat
  md : Nat
  once : Nat
  law : Option (List Int32)
  bend : Option (List Int32)
  un : Nat
def yRs.bd {α β : Type} (r : yRs α) (k : α → yRs β) : yRs β := match r with
  | .er c pl => .er c pl
  | .ok a => k a
def yidx (w : List Nat) : List (List Nat) → Nat → Option Nat
  | [], _ => none
  | a :: L, k => if a = w then some k else yidx w L (k + 1)
section ZText
variable (T : Nat → yTk)
def ytake (k p : Nat) : yRs Nat := if (T p).kd = k then .ok (T p).nx else yer (T p)
def ynew (L : List (List Nat)) (p : Nat) : yRs (List Nat × Nat) :=
  if (T p).kd = 3 then (if (T p).wd ∈ L then .er 3 (T p).pl else .ok ((T p).wd, (T p).nx)) else yer (T p)
def ytop (L : List (List Nat)) (g p : Nat) : yRs (Nat × Nat) :=
  if (T p).kd = 3 then (match yidx (T p).wd L 0 with
    | none => .er 5 (T p).pl
    | some k => if g.testBit k = true then .er 3 (T p).pl else .ok (k, (T p).nx)) else yer (T p)
def ynum (lo hi p : Nat) : yRs (Nat × Nat) :=
  if (T p).kd = 2 then (if (T p).nu < lo ∨ hi < (T p).nu then .er 4 (T p).pl else .ok ((T p).nu, (T p).nx)) else yer (T p)
def ysgd2 (bl : Bool) (fr p : Nat) : yRs (Int32 × Nat) :=
  if (T p).kd = 2 then (if 9 < (T p).nu then .er 4 fr else .ok (if bl = true then -nI (T p).nu else nI (T p).nu, (T p).nx)) else yer (T p)
def ysgd (p : Nat) : yRs (Int32 × Nat) := if (T p).kd = 45 then ysgd2 T true (T p).pl (T p).nx else ysgd2 T false (T p).pl p
def ybl (L : List (List Nat)) (b : Nat) : Nat → Nat → (Nat → Int32) → Nat → yRs ((Nat → Int32) × Nat)
  | 0, _, W, p => .ok (W, p)
  | d + 1, g, W, p => if (T p).kd = 3 then (ytop T L g p).bd fun a => (ynum T 0 9 a.2).bd fun v => ybl L b d (g ||| 2 ^ a.1) (va_up W (4 * b + a.1) (nI v.1)) v.2 else .ok (W, p)
def yrl (L : List (List Nat)) (r : Nat) : Nat → Nat → Nat → (Nat → Int32) → (Nat → Int32) → Nat → yRs ((Nat → Int32) × (Nat → Int32) × Nat)
  | 0, _, _, wa, ou, p => .ok (wa, ou, p)
  | d + 1, gw, go, wa, ou, p =>
    if (T p).kd = 13 then (ytop T L gw (T p).nx).bd fun a => (ysgd T a.2).bd fun v => yrl L r d (gw ||| 2 ^ a.1) go (va_up wa (4 * r + a.1) v.1) ou v.2
    else if (T p).kd = 22 then (ytop T L go (T p).nx).bd fun a => (ynum T 0 9 a.2).bd fun v => yrl L r d gw (go ||| 2 ^ a.1) wa (va_up ou (4 * r + a.1) (nI v.1)) v.2
    else .ok (wa, ou, p)
def yline1 (s : yPs) : yRs yPs := match (T s.p).kd with
  | 4 => if s.tn.length < 4 then (ynew T s.tn (T s.p).nx).bd fun a => .ok { s with p := a.2, tn := s.tn ++ [a.1] } else yer (T s.p)
  | 5 => if s.bn.length < 10 then (ynew T s.bn (T s.p).nx).bd fun a => (ybl T s.tn s.bn.length 5 0 s.W a.2).bd fun v => .ok { s with p := v.2, bn := s.bn ++ [a.1], W := v.1 } else yer (T s.p)
  | 6 => if s.rn.length < 6 then (ynew T s.rn (T s.p).nx).bd fun a => (ytake T 12 a.2).bd fun p2 => (ynum T 0 100 p2).bd fun o => (yrl T s.tn s.rn.length 9 0 0 s.wa s.ou o.2).bd fun v => .ok { s with p := v.2.2, rn := s.rn ++ [a.1], od := va_up s.od s.rn.length (nI o.1), wa := v.1, ou := v.2.1 } else yer (T s.p)
  | 7 => if s.once.testBit 0 = false then ((ylv T 7).1 (T s.p).nx 0).bd fun r => .ok { s with p := r.2.1, once := s.once ||| 1, law := some r.1, un := s.un + r.2.2 } else yer (T s.p)
  | 8 => if s.once.testBit 1 = false then ((ylv T 7).1 (T s.p).nx 0).bd fun r => .ok { s with p := r.2.1, once := s.once ||| 2, bend := some r.1, un := s.un + r.2.2 } else yer (T s.p)
  | 9 => if s.once.testBit 2 = false then (if 14 ≤ (T (T s.p).nx).kd ∧ (T (T s.p).nx).kd ≤ 17 then .ok { s with p := (T (T s.p).nx).nx, once := s.once ||| 4, q := (T (T s.p).nx).kd - 14 } else yer (T (T s.p).nx)) else yer (T s.p)
  | 10 => if s.once.testBit 3 = false then (ynum T 1 9 (T s.p).nx).bd fun v => .ok { s with p := v.2, once := s.once ||| 8, sh := v.1 } else yer (T s.p)
  | 11 => if s.once.testBit 4 = false then (ynum T 0 9 (T s.p).nx).bd fun v => .ok { s with p := v.2, once := s.once ||| 16, md := v.1 } else yer (T s.p)
  | _ => yer (T s.p)
def yline (s : yPs) : yRs yPs := (yline1 T s).bd fun s1 => (ytake T 59 s1.p).bd fun p => .ok { s1 with p := p }
def yall : Nat → yPs → yRs yPs
  | 0, s => .ok s
  | d + 1, s => if (T s.p).kd = 0 then .ok s else (yline T s).bd fun s1 => yall d s1
end ZText
def yps0 : yPs := ⟨0, [], [], [], fun _ => 0, fun _ => 0, fun _ => 0, fun _ => 0, 0, 5, 3, 0, none, none, 0⟩
/-- what a text tells -/
def ytext (B : Nat → Nat) (n : Nat) : yRs yPs := yall (ytok B n) (n + 1) yps0
/-- what holds of what has been told so far -/
def yPi (n : Nat) (s : yPs) : Prop := s.p ≤ n ∧ s.tn.length ≤ 4 ∧ s.bn.length ≤ 10 ∧ s.rn.length ≤ 6 ∧ (∀ w ∈ s.tn, yLt w) ∧ (∀ w ∈ s.bn, yLt w) ∧ (∀ w ∈ s.rn, yLt w) ∧ s.once < 32 ∧ s.q ≤ 3 ∧ (1 ≤ s.sh ∧ s.sh ≤ 9) ∧ s.md ≤ 9 ∧
  (∀ k, -9 ≤ s.wa k ∧ s.wa k ≤ 9) ∧ (∀ k, ∃ o, o ≤ 100 ∧ s.od k = nI o) ∧ (∀ M, s.law = some M → zval M 0 ∧ M.length ≤ 269) ∧ (∀ M, s.bend = some M → zval M 0 ∧ M.length ≤ 269) ∧ (s.law = none ↔ s.once.testBit 0 = false) ∧ (s.bend = none ↔ s.once.testBit 1 = false) ∧ (s.un ≤ 60 ∧ (s.law = none → s.un ≤ 30) ∧ (s.bend = none → s.un ≤ 30) ∧ (s.law = none → s.bend = none → s.un = 0)) ∧ s.tn.Nodup ∧ s.bn.Nodup ∧ s.rn.Nodup
