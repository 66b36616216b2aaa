/-! the constructors: what they leave, reckoned; references only where there are objects -/
def zrows : List Nat := [0, 2, 7, 10, 13, 18, 21, 24, 25, 30, 35, 40, 41, 47, 52, 56, 60, 64, 68, 76, 81, 86, 91]
def zinit : Option zSt := (f_W_init (znew zσ0 (0, 11)) 0).bind fun σ3 => if σ3.1.length = 91 then f_M_init (znew σ3 (0, 12)) 91 else none
def zchI (I : Nat → Nat → Int32) : Bool :=
  ((List.range 92).all fun k => I 111 k == (if 24 ≤ k ∧ k < 30 then -1 else 0)) && ((List.range 24).all fun k => I 31 k == 0) && ((List.range 6).all fun k => I 32 k == -1) && ((List.range 60).all fun k => I 33 k == 0) &&
  ([(91, 41, 0), (91, 42, 0), (91, 43, 0), (91, 44, 0), (91, 45, 5), (91, 46, 3), (91, 47, 0), (91, 48, 0), (91, 22, 0), (2, 0, 0), (2, 1, 0), (2, 2, 0), (2, 3, 0), (2, 4, 5), (2, 5, 3), (2, 6, 0), (7, 2, 1), (8, 0, -1), (10, 2, 1), (11, 0, -3), (30, 3, 0), (30, 4, 0), (51, 2, 0), (51, 3, 0), (0, 1, 0), (91, 1, 0), (24, 0, 0), (24, 1, -1), (91, 2, 0), (91, 3, -1), (96, 0, 0), (96, 1, 0), (132, 0, 0), (132, 1, 0), (132, 2, 0), (76, 5, 0), (81, 5, 0), (86, 5, 0), (41, 0, 0), (41, 1, 0), (41, 2, 0), (91, 56, 0), (91, 57, 0), (0, 16, 0), (91, 71, 0), (0, 18, 0), (91, 59, 0), (68, 0, 0), (91, 78, 0), (68, 1, 0), (91, 79, 0)] : List (Nat × Nat × Int32)).all fun e => I e.1 e.2.1 == e.2.2
def zchP (P : Nat → Nat → Option Nat) : Bool := zrows.all fun a => (List.range 100).all fun k => P a k == zPt 2 13 13 18 2 26 a k
set_option maxRecDepth 1000000 in
theorem zinit_I : (match zinit with | none => false | some σ => decide (σ.1 = zLAY) && zchI σ.2.1) = true := by decide +kernel
set_option maxRecDepth 1000000 in
theorem zinit_P : (match zinit with | none => false | some σ => zchP σ.2.2.2) = true := by decide +kernel
