/-! Latest: take, mends -/
def lmE (m : Int) (dg : Nat) (mk : Nat → Int) (top : Nat) (row : Nat → Int) : Nat → Int := fun j => if top - dg ≤ j ∧ j ≤ top then (row j + (m - row top) * mk (j - (top - dg))) % m else row j
abbrev mdE (m : Int) (dg : Nat) (lf sf : Nat → Int) (v : Int) : Prop := ∀ i, i < dg → (lf i + v * sf i) % m = 0
def sfE (m : Int) (dg : Nat) (mk sf : Nat → Int) : Nat → Int := fun i => if i < dg then ((if i = 0 then 0 else sf (i - 1)) + (m - sf (dg - 1)) * mk i) % m else sf i
