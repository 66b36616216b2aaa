/-! the text, line by line, pure -/
/-- where it is; names of topics, books, readers; weights, wants, oughts, odds; quarrel, shelf, mood; what was told once; law, bend; units -/
abbrev yPs : Type := Nat × List (List Nat) × List (List Nat) × List (List Nat) × (Nat → Int32) × (Nat → Int32) × (Nat → Int32) × (Nat → Int32) × Nat × Nat × Nat × Nat × Option (List Int32) × Option (List Int32) × Nat
def yRs.bd {α β : Type} (r : yRs α) (k : α → yRs β) : yRs β := match r with
  | .error (c, pl) => .error (c, pl)
  | .ok a => k a
def yidx (w : List Nat) : List (List Nat) → Nat → Option Nat
  | [], _ => none
  | a :: L, k => if a = w then some k else yidx w L (k + 1)
section ZText
variable (T : Nat → yTk)
def ytake (k p : Nat) : yRs Nat := if (T p).1 = k then .ok (T p).2.2.2.2 else yer (T p)
def ynew (L : List (List Nat)) (p : Nat) : yRs (List Nat × Nat) :=
  if (T p).1 = 3 then (if (T p).2.2.2.1 ∈ L then .error (3, (T p).2.1) else .ok ((T p).2.2.2.1, (T p).2.2.2.2)) else yer (T p)
def ytop (L : List (List Nat)) (g p : Nat) : yRs (Nat × Nat) :=
  if (T p).1 = 3 then (match yidx (T p).2.2.2.1 L 0 with
    | none => .error (5, (T p).2.1)
    | some k => if g.testBit k = true then .error (3, (T p).2.1) else .ok (k, (T p).2.2.2.2)) else yer (T p)
def ynum (lo hi p : Nat) : yRs (Nat × Nat) :=
  if (T p).1 = 2 then (if (T p).2.2.1 < lo ∨ hi < (T p).2.2.1 then .error (4, (T p).2.1) else .ok ((T p).2.2.1, (T p).2.2.2.2)) else yer (T p)
def ysgd2 (bl : Bool) (fr p : Nat) : yRs (Int32 × Nat) :=
  if (T p).1 = 2 then (if 9 < (T p).2.2.1 then .error (4, fr) else .ok (if bl = true then -nI (T p).2.2.1 else nI (T p).2.2.1, (T p).2.2.2.2)) else yer (T p)
def ysgd (p : Nat) : yRs (Int32 × Nat) := if (T p).1 = 45 then ysgd2 T true (T p).2.1 (T p).2.2.2.2 else ysgd2 T false (T p).2.1 p
def ybl (L : List (List Nat)) (b : Nat) : Nat → Nat → (Nat → Int32) → Nat → yRs ((Nat → Int32) × Nat)
  | 0, _, W, p => .ok (W, p)
  | d + 1, g, W, p => if (T p).1 = 3 then (ytop T L g p).bd fun a => (ynum T 0 9 a.2).bd fun v => ybl L b d (g ||| 2 ^ a.1) (va_up W (4 * b + a.1) (nI v.1)) v.2 else .ok (W, p)
def yrl (L : List (List Nat)) (r : Nat) : Nat → Nat → Nat → (Nat → Int32) → (Nat → Int32) → Nat → yRs ((Nat → Int32) × (Nat → Int32) × Nat)
  | 0, _, _, wa, ou, p => .ok (wa, ou, p)
  | d + 1, gw, go, wa, ou, p =>
    if (T p).1 = 13 then (ytop T L gw (T p).2.2.2.2).bd fun a => (ysgd T a.2).bd fun v => yrl L r d (gw ||| 2 ^ a.1) go (va_up wa (4 * r + a.1) v.1) ou v.2
    else if (T p).1 = 22 then (ytop T L go (T p).2.2.2.2).bd fun a => (ynum T 0 9 a.2).bd fun v => yrl L r d gw (go ||| 2 ^ a.1) wa (va_up ou (4 * r + a.1) (nI v.1)) v.2
    else .ok (wa, ou, p)
def yline1 (s : yPs) : yRs yPs := match (T s.1).1 with
  | 4 => if s.2.1.length < 4 then (ynew T s.2.1 (T s.1).2.2.2.2).bd fun a => .ok (a.2, s.2.1 ++ [a.1], s.2.2.1, s.2.2.2.1, s.2.2.2.2.1, s.2.2.2.2.2.1, s.2.2.2.2.2.2.1, s.2.2.2.2.2.2.2.1, s.2.2.2.2.2.2.2.2.1, s.2.2.2.2.2.2.2.2.2.1, s.2.2.2.2.2.2.2.2.2.2.1, s.2.2.2.2.2.2.2.2.2.2.2.1, s.2.2.2.2.2.2.2.2.2.2.2.2.1, s.2.2.2.2.2.2.2.2.2.2.2.2.2.1, s.2.2.2.2.2.2.2.2.2.2.2.2.2.2) else yer (T s.1)
  | 5 => if s.2.2.1.length < 10 then (ynew T s.2.2.1 (T s.1).2.2.2.2).bd fun a => (ybl T s.2.1 s.2.2.1.length 5 0 s.2.2.2.2.1 a.2).bd fun v => .ok (v.2, s.2.1, s.2.2.1 ++ [a.1], s.2.2.2.1, v.1, s.2.2.2.2.2.1, s.2.2.2.2.2.2.1, s.2.2.2.2.2.2.2.1, s.2.2.2.2.2.2.2.2.1, s.2.2.2.2.2.2.2.2.2.1, s.2.2.2.2.2.2.2.2.2.2.1, s.2.2.2.2.2.2.2.2.2.2.2.1, s.2.2.2.2.2.2.2.2.2.2.2.2.1, s.2.2.2.2.2.2.2.2.2.2.2.2.2.1, s.2.2.2.2.2.2.2.2.2.2.2.2.2.2) else yer (T s.1)
  | 6 => if s.2.2.2.1.length < 6 then (ynew T s.2.2.2.1 (T s.1).2.2.2.2).bd fun a => (ytake T 12 a.2).bd fun p2 => (ynum T 0 100 p2).bd fun o => (yrl T s.2.1 s.2.2.2.1.length 9 0 0 s.2.2.2.2.2.1 s.2.2.2.2.2.2.1 o.2).bd fun v => .ok (v.2.2, s.2.1, s.2.2.1, s.2.2.2.1 ++ [a.1], s.2.2.2.2.1, v.1, v.2.1, va_up s.2.2.2.2.2.2.2.1 s.2.2.2.1.length (nI o.1), s.2.2.2.2.2.2.2.2.1, s.2.2.2.2.2.2.2.2.2.1, s.2.2.2.2.2.2.2.2.2.2.1, s.2.2.2.2.2.2.2.2.2.2.2.1, s.2.2.2.2.2.2.2.2.2.2.2.2.1, s.2.2.2.2.2.2.2.2.2.2.2.2.2.1, s.2.2.2.2.2.2.2.2.2.2.2.2.2.2) else yer (T s.1)
  | 7 => if s.2.2.2.2.2.2.2.2.2.2.2.1.testBit 0 = false then ((ylv T 7).1 (T s.1).2.2.2.2 0).bd fun r => .ok (r.2.1, s.2.1, s.2.2.1, s.2.2.2.1, s.2.2.2.2.1, s.2.2.2.2.2.1, s.2.2.2.2.2.2.1, s.2.2.2.2.2.2.2.1, s.2.2.2.2.2.2.2.2.1, s.2.2.2.2.2.2.2.2.2.1, s.2.2.2.2.2.2.2.2.2.2.1, s.2.2.2.2.2.2.2.2.2.2.2.1 ||| 1, some r.1, s.2.2.2.2.2.2.2.2.2.2.2.2.2.1, s.2.2.2.2.2.2.2.2.2.2.2.2.2.2 + r.2.2) else yer (T s.1)
  | 8 => if s.2.2.2.2.2.2.2.2.2.2.2.1.testBit 1 = false then ((ylv T 7).1 (T s.1).2.2.2.2 0).bd fun r => .ok (r.2.1, s.2.1, s.2.2.1, s.2.2.2.1, s.2.2.2.2.1, s.2.2.2.2.2.1, s.2.2.2.2.2.2.1, s.2.2.2.2.2.2.2.1, s.2.2.2.2.2.2.2.2.1, s.2.2.2.2.2.2.2.2.2.1, s.2.2.2.2.2.2.2.2.2.2.1, s.2.2.2.2.2.2.2.2.2.2.2.1 ||| 2, s.2.2.2.2.2.2.2.2.2.2.2.2.1, some r.1, s.2.2.2.2.2.2.2.2.2.2.2.2.2.2 + r.2.2) else yer (T s.1)
  | 9 => if s.2.2.2.2.2.2.2.2.2.2.2.1.testBit 2 = false then (if 14 ≤ (T (T s.1).2.2.2.2).1 ∧ (T (T s.1).2.2.2.2).1 ≤ 17 then .ok ((T (T s.1).2.2.2.2).2.2.2.2, s.2.1, s.2.2.1, s.2.2.2.1, s.2.2.2.2.1, s.2.2.2.2.2.1, s.2.2.2.2.2.2.1, s.2.2.2.2.2.2.2.1, (T (T s.1).2.2.2.2).1 - 14, s.2.2.2.2.2.2.2.2.2.1, s.2.2.2.2.2.2.2.2.2.2.1, s.2.2.2.2.2.2.2.2.2.2.2.1 ||| 4, s.2.2.2.2.2.2.2.2.2.2.2.2.1, s.2.2.2.2.2.2.2.2.2.2.2.2.2.1, s.2.2.2.2.2.2.2.2.2.2.2.2.2.2) else yer (T (T s.1).2.2.2.2)) else yer (T s.1)
  | 10 => if s.2.2.2.2.2.2.2.2.2.2.2.1.testBit 3 = false then (ynum T 1 9 (T s.1).2.2.2.2).bd fun v => .ok (v.2, s.2.1, s.2.2.1, s.2.2.2.1, s.2.2.2.2.1, s.2.2.2.2.2.1, s.2.2.2.2.2.2.1, s.2.2.2.2.2.2.2.1, s.2.2.2.2.2.2.2.2.1, v.1, s.2.2.2.2.2.2.2.2.2.2.1, s.2.2.2.2.2.2.2.2.2.2.2.1 ||| 8, s.2.2.2.2.2.2.2.2.2.2.2.2.1, s.2.2.2.2.2.2.2.2.2.2.2.2.2.1, s.2.2.2.2.2.2.2.2.2.2.2.2.2.2) else yer (T s.1)
  | 11 => if s.2.2.2.2.2.2.2.2.2.2.2.1.testBit 4 = false then (ynum T 0 9 (T s.1).2.2.2.2).bd fun v => .ok (v.2, s.2.1, s.2.2.1, s.2.2.2.1, s.2.2.2.2.1, s.2.2.2.2.2.1, s.2.2.2.2.2.2.1, s.2.2.2.2.2.2.2.1, s.2.2.2.2.2.2.2.2.1, s.2.2.2.2.2.2.2.2.2.1, v.1, s.2.2.2.2.2.2.2.2.2.2.2.1 ||| 16, s.2.2.2.2.2.2.2.2.2.2.2.2.1, s.2.2.2.2.2.2.2.2.2.2.2.2.2.1, s.2.2.2.2.2.2.2.2.2.2.2.2.2.2) else yer (T s.1)
  | _ => yer (T s.1)
def yline (s : yPs) : yRs yPs := (yline1 T s).bd fun s1 => (ytake T 59 s1.1).bd fun p => .ok (p, s1.2.1, s1.2.2.1, s1.2.2.2.1, s1.2.2.2.2.1, s1.2.2.2.2.2.1, s1.2.2.2.2.2.2.1, s1.2.2.2.2.2.2.2.1, s1.2.2.2.2.2.2.2.2.1, s1.2.2.2.2.2.2.2.2.2.1, s1.2.2.2.2.2.2.2.2.2.2.1, s1.2.2.2.2.2.2.2.2.2.2.2.1, s1.2.2.2.2.2.2.2.2.2.2.2.2.1, s1.2.2.2.2.2.2.2.2.2.2.2.2.2.1, s1.2.2.2.2.2.2.2.2.2.2.2.2.2.2)
def yall : Nat → yPs → yRs yPs
  | 0, s => .ok s
  | d + 1, s => if (T s.1).1 = 0 then .ok s else (yline T s).bd fun s1 => yall d s1
end ZText
def yps0 : yPs := ⟨0, [], [], [], fun _ => 0, fun _ => 0, fun _ => 0, fun _ => 0, 0, 5, 3, 0, none, none, 0⟩
/-- what a text tells -/
def ytext (B : Nat → Nat) (n : Nat) : yRs yPs := yall (ytok B n) (n + 1) yps0
/-- what holds of what has been told so far -/
def yPi (n : Nat) (s : yPs) : Prop := s.1 ≤ n ∧ s.2.1.length ≤ 4 ∧ s.2.2.1.length ≤ 10 ∧ s.2.2.2.1.length ≤ 6 ∧ (∀ w ∈ s.2.1, yLt w) ∧ (∀ w ∈ s.2.2.1, yLt w) ∧ (∀ w ∈ s.2.2.2.1, yLt w) ∧ s.2.2.2.2.2.2.2.2.2.2.2.1 < 32 ∧ s.2.2.2.2.2.2.2.2.1 ≤ 3 ∧ (1 ≤ s.2.2.2.2.2.2.2.2.2.1 ∧ s.2.2.2.2.2.2.2.2.2.1 ≤ 9) ∧ s.2.2.2.2.2.2.2.2.2.2.1 ≤ 9 ∧
  (∀ k, -9 ≤ s.2.2.2.2.2.1 k ∧ s.2.2.2.2.2.1 k ≤ 9) ∧ (∀ k, ∃ o, o ≤ 100 ∧ s.2.2.2.2.2.2.2.1 k = nI o) ∧ (∀ M, s.2.2.2.2.2.2.2.2.2.2.2.2.1 = some M → zval M 0 ∧ M.length ≤ 269) ∧ (∀ M, s.2.2.2.2.2.2.2.2.2.2.2.2.2.1 = some M → zval M 0 ∧ M.length ≤ 269) ∧ (s.2.2.2.2.2.2.2.2.2.2.2.2.1 = none ↔ s.2.2.2.2.2.2.2.2.2.2.2.1.testBit 0 = false) ∧ (s.2.2.2.2.2.2.2.2.2.2.2.2.2.1 = none ↔ s.2.2.2.2.2.2.2.2.2.2.2.1.testBit 1 = false) ∧ (s.2.2.2.2.2.2.2.2.2.2.2.2.2.2 ≤ 60 ∧ (s.2.2.2.2.2.2.2.2.2.2.2.2.1 = none → s.2.2.2.2.2.2.2.2.2.2.2.2.2.2 ≤ 30) ∧ (s.2.2.2.2.2.2.2.2.2.2.2.2.2.1 = none → s.2.2.2.2.2.2.2.2.2.2.2.2.2.2 ≤ 30) ∧ (s.2.2.2.2.2.2.2.2.2.2.2.2.1 = none → s.2.2.2.2.2.2.2.2.2.2.2.2.2.1 = none → s.2.2.2.2.2.2.2.2.2.2.2.2.2.2 = 0)) ∧ s.2.1.Nodup ∧ s.2.2.1.Nodup ∧ s.2.2.2.1.Nodup
