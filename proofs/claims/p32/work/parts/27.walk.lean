/-! Walk, Weights -/
/-- the maker added from sh on -/
def amE (m : Int) (dg : Nat) (mk : Nat → Int) (sh : Nat) (nu : Nat → Int) : Nat → Int := fun j => if sh ≤ j ∧ j ≤ sh + dg ∧ j < 63 then (nu j + mk (j - sh)) % m else nu j
/-- a step of the walk, k factors to come -/
def wsE (m : Int) (dg : Nat) (mk : Nat → Int) : Nat → Nat → (Nat → Int) × (Nat → Int) → (Nat → Int) × (Nat → Int)
  | 0, _, s => s
  | k + 1, j, s => if s.2 j + 1 < m then (amE m dg mk j s.1, upc s.2 j (s.2 j + 1)) else wsE m dg mk k (j + 1) (amE m dg mk j s.1, upc s.2 j 0)
def wkE (m : Int) (dg ch : Nat) (mk : Nat → Int) : Nat → (Nat → Int) × (Nat → Int)
  | 0 => (fun _ => 0, fun _ => 0)
  | i + 1 => wsE m dg mk ch 0 (wkE m dg ch mk i)
