/-! the model: element, of, digit, whole, sum -/
def whD (d0 d1 d2 d3 : Int) (i : Nat) : Int := if i = 0 then d0 else if i = 1 then d1 else if i = 2 then d2 else d3
def whB (e q : Nat) (d : Nat → Int) (k : Nat) : Bool := decide (∀ i, i < k → -1 ≤ d i ∧ d i ≤ (if i < e then (q : Int) - 2 else -1))
