/-! ===== THE LOOKER: ranges of all words, run by the kernel over rows of data (printed by wip/gen); what it says is proved in 55 .. ===== -/
/-- an affine number: a constant, terms (factor, name) -/
abbrev at_A : Type := Int × List (Int × Nat)
def at_evl (ν : Nat → Int) : List (Int × Nat) → Int
  | [] => 0
  | t :: r => t.1 * ν t.2 + at_evl ν r
def at_ev (ν : Nat → Int) (a : at_A) : Int := a.1 + at_evl ν a.2
def at_ins (t : Int × Nat) : List (Int × Nat) → List (Int × Nat)
  | [] => [t]
  | q :: r => bif Nat.beq t.2 q.2 then (bif decide (t.1 + q.1 = 0) then r else (t.1 + q.1, q.2) :: r) else bif Nat.blt t.2 q.2 then t :: q :: r else q :: at_ins t r
def at_add (a b : at_A) : at_A := (a.1 + b.1, a.2.foldr at_ins b.2)
def at_mul (k : Int) (a : at_A) : at_A := bif decide (k = 0) then (0, []) else (k * a.1, a.2.map (fun t => (k * t.1, t.2)))
def at_sub (a b : at_A) : at_A := at_add (at_mul (-1) b) a
def at_c (k : Int) : at_A := (k, [])
def at_v (x : Nat) : at_A := (0, [(1, x)])
def at_eqT : List (Int × Nat) → List (Int × Nat) → Bool
  | [], [] => true
  | s :: p, t :: q => decide (s.1 = t.1) && (Nat.beq s.2 t.2 && at_eqT p q)
  | _, _ => false
def at_eq (a b : at_A) : Bool := decide (a.1 = b.1) && at_eqT a.2 b.2
/-- names' ranges, what is at most 0, what isn't 0 -/
abbrev at_P : Type := List (Int × Int) × (List at_A × List at_A)
def at_bd (sy : List (Int × Int)) (x : Nat) : Int × Int := sy.getD x (0, 0)
def at_los (sy : List (Int × Int)) : List (Int × Nat) → Int
  | [] => 0
  | t :: r => (bif decide (0 < t.1) then t.1 * (at_bd sy t.2).1 else t.1 * (at_bd sy t.2).2) + at_los sy r
def at_his (sy : List (Int × Int)) : List (Int × Nat) → Int
  | [] => 0
  | t :: r => (bif decide (0 < t.1) then t.1 * (at_bd sy t.2).2 else t.1 * (at_bd sy t.2).1) + at_his sy r
def at_lo (sy : List (Int × Int)) (a : at_A) : Int := a.1 + at_los sy a.2
def at_hi (sy : List (Int × Int)) (a : at_A) : Int := a.1 + at_his sy a.2
def at_gcd : List (Int × Nat) → Nat
  | [] => 0
  | t :: r => Nat.gcd t.1.natAbs (at_gcd r)
/-- the same sign, by its factors' common part -/
def at_gn (a : at_A) : at_A := bif Nat.ble (at_gcd a.2) 1 then a else (-((-a.1) / (at_gcd a.2 : Int)), a.2.map (fun t => (t.1 / (at_gcd a.2 : Int), t.2)))
def at_co (x : Nat) : List (Int × Nat) → Int
  | [] => 0
  | t :: r => bif Nat.beq t.2 x then t.1 else at_co x r
/-- is it at most 0? -/
def at_ent (P : at_P) : Nat → at_A → Bool
  | 0, a => decide (at_hi P.1 a ≤ 0)
  | d + 1, a => decide (at_hi P.1 a ≤ 0) || (match a.2 with
    | [] => false
    | _ => P.2.1.any (fun c => match c.2 with
      | [] => false
      | t :: _ => (fun ac : Int => decide (0 < ac * t.1) && (decide (ac % t.1 = 0) && at_ent P d (at_sub (at_gn a) (at_mul (ac / t.1) c)))) (at_co t.2 (at_gn a).2)))
def at_le (P : at_P) (a : at_A) : Bool := at_ent P 2 a
/-- lo <= a <= hi? -/
def at_inR (P : at_P) (a : at_A) (lo hi : Int) : Bool := (decide (lo ≤ at_lo P.1 a) || at_le P (at_sub (at_c lo) a)) && (decide (at_hi P.1 a ≤ hi) || at_le P (at_sub a (at_c hi)))
/-- bounds of names, where a is at most 0 (s0: the ranges before) -/
def at_ref (s0 : List (Int × Int)) (lo : Int) : List (Int × Nat) → List (Int × Int) → Option (List (Int × Int))
  | [], sy => some sy
  | t :: r, sy =>
    bif decide (0 < t.1) then
      (fun h : Int => bif decide ((at_bd sy t.2).1 ≤ h) then at_ref s0 lo r (sy.set t.2 ((at_bd sy t.2).1, h)) else none) (min (at_bd sy t.2).2 ((-(lo - t.1 * (at_bd s0 t.2).1)) / t.1))
    else
      (fun l : Int => bif decide (l ≤ (at_bd sy t.2).2) then at_ref s0 lo r (sy.set t.2 (l, (at_bd sy t.2).2)) else none) (max (at_bd sy t.2).1 (-((-(lo - t.1 * (at_bd s0 t.2).2)) / (-t.1))))
/-- a is at most 0: what is known then; none: that can't be -/
def at_as (P : at_P) (a : at_A) : Option at_P :=
  bif decide (at_hi P.1 a ≤ 0) then some P
  else bif decide (0 < at_lo P.1 a) then none
  else bif at_le P a then some P
  else bif at_le P (at_sub (at_c 1) a) then none
  else match (bif (at_gn a).2.all (fun t => !decide (t.1 = 0)) then at_ref P.1 (at_lo P.1 (at_gn a)) (at_gn a).2 P.1 else some P.1) with
    | some sy => some (sy, at_gn a :: P.2.1, P.2.2)
    | none => none
def at_new (P : at_P) (lo hi : Int) : at_P := (P.1 ++ [(lo, hi)], P.2)
def at_nv (P : at_P) : at_A := at_v P.1.length
/-- never 0? -/
def at_nz (P : at_P) (d : at_A) : Bool := decide (0 < at_lo P.1 d) || (decide (at_hi P.1 d < 0) || (Nat.blt 1 (at_gcd d.2) && !decide (d.1 % (at_gcd d.2 : Int) = 0)))
