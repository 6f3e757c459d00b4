/-! the model: all words of the code -/
def ahM (row c0 : Nat → Int) : Nat → Nat → Bool
  | 0, _ => false
  | k + 1, i => if row i ≠ c0 i then decide (row i < c0 i) else ahM row c0 k (i + 1)
