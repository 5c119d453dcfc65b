/-! the pure reader of laws: bytes s (0 behind the end), codes (op, arg, target, the reference's target) -/
abbrev Cd : Type := Nat × Nat × Nat × Nat
abbrev Rd : Type := Except Nat (Nat × List Cd)
def isD (c : Nat) : Bool := decide (48 ≤ c ∧ c ≤ 57)
/-- a letter's number, 13 if it is none -/
def ltrP (c : Nat) : Nat := [107, 109, 110, 114, 101, 120, 118, 100, 106, 99, 108, 104, 111].idxOf c
def numP (s : Nat → Nat) : Nat → Nat → Nat → Nat × Nat
  | 0, p, v => (p, v)
  | n + 1, p, v => if isD (s p) = true then numP s n (p + 1) (10 * v + (s p - 48)) else (p, v)
def fctP (s : Nat → Nat) (I : Nat → Rd) (p : Nat) : Rd :=
  if s p = 91 then (match I p with
    | .error f => .error f
    | .ok (p', C) => if s p' = 93 then .ok (p' + 1, C) else .error (1000 + p'))
  else if isD (s p) = true then (if isD (s (numP s 6 p 0).1) = true then .error (2000 + (numP s 6 p 0).1) else .ok ((numP s 6 p 0).1, [(0, (numP s 6 p 0).2, 0, 0)]))
  else if ltrP (s p) < 13 then .ok (p + 1, [(1, ltrP (s p), 0, 0)]) else .error (1000 + p)
/-- the operator of a sign: 2 + 3 - 4 * 5 / 6 %, 0 none -/
def opP (c : Nat) : Nat := if c = 43 then 2 else if c = 45 then 3 else if c = 42 then 4 else if c = 47 then 5 else if c = 37 then 6 else 0
def isMul (c : Nat) : Bool := decide (4 ≤ opP c)
def isAdd (c : Nat) : Bool := decide (opP c = 2 ∨ opP c = 3)
/-- what follows a first F, as long as g's signs come -/
def tailP (s : Nat → Nat) (g : Nat → Bool) (F : Nat → Rd) : Nat → Nat → List Cd → Rd
  | 0, p, C => .ok (p, C)
  | n + 1, p, C => if g (s p) = true then (match F (p + 1) with
    | .error f => .error f
    | .ok (p', C') => tailP s g F n p' (C ++ C' ++ [(opP (s p), 0, 0, 0)])) else .ok (p, C)
def chainP (s : Nat → Nat) (g : Nat → Bool) (F : Nat → Rd) (p : Nat) : Rd := match F p with
  | .error f => .error f
  | .ok (p', C) => tailP s g F 200 p' C
/-- a sum, with r brackets left -/
def sumP (s : Nat → Nat) : Nat → Nat → Rd
  | 0 => chainP s isAdd (chainP s isMul (fctP s fun p => .error (5000 + p)))
  | r + 1 => chainP s isAdd (chainP s isMul (fctP s fun p => sumP s r (p + 1)))
/-- a comparison's operator: 7 < 8 > 9 =, 0 none -/
def cmpP (c : Nat) : Nat := if c = 60 then 7 else if c = 62 then 8 else if c = 61 then 9 else 0
def cprP (s : Nat → Nat) (r p : Nat) : Rd := match sumP s r p with
  | .error f => .error f
  | .ok (p1, C1) => if cmpP (s p1) = 0 then .error (1000 + p1) else match sumP s r (p1 + 1) with
    | .error f => .error f
    | .ok (p2, C2) => .ok (p2, C1 ++ C2 ++ [(cmpP (s p1), 0, 0, 0)])
/-- pieces joined by the sign c, whose skip is op: F takes a place and how many codes there are; tells the first piece's length too -/
def joinP (s : Nat → Nat) (c op : Nat) (F : Nat → Nat → Rd) : Nat → Nat → Nat → Except Nat (Nat × Nat × List Cd)
  | 0, p, _ => .error (1000 + p)
  | n + 1, p, k => match F p k with
    | .error f => .error f
    | .ok (p1, C1) => if s p1 = c then (match joinP s c op F n (p1 + 1) (k + C1.length + 1) with
      | .error f => .error f
      | .ok (p2, l2, C2) => .ok (p2, C1.length, C1 ++ (op, 0, k + C1.length + 1 + C2.length, k + C1.length + 1 + l2) :: C2)) else .ok (p1, C1.length, C1)
def joinR (s : Nat → Nat) (c op : Nat) (F : Nat → Nat → Rd) (p k : Nat) : Rd := match joinP s c op F 200 p k with
  | .error f => .error f
  | .ok (p', _, C) => .ok (p', C)
/-- a condition out of pieces: parts of pieces joined by & (skip 11), joined by | (skip 12) -/
def cndP (s : Nat → Nat) (F : Nat → Nat → Rd) : Nat → Nat → Rd := joinR s 124 12 (joinR s 38 11 F)
def pceP (s : Nat → Nat) : Nat → Nat → Nat → Rd
  | 0, p, _ => if s p = 33 ∨ s p = 40 then .error (5000 + p) else cprP s 0 p
  | r + 1, p, k => if s p = 33 then (match pceP s r (p + 1) k with
      | .error f => .error f
      | .ok (p', C) => .ok (p', C ++ [(10, 0, 0, 0)]))
    else if s p = 40 then (match cndP s (pceP s r) (p + 1) k with
      | .error f => .error f
      | .ok (p', C) => if s p' = 41 then .ok (p' + 1, C) else .error (1000 + p'))
    else cprP s (r + 1) p
