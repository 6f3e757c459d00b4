/-! Latest: seek -/
def poE (nb w : Nat → Int) : Nat → Nat := ctn (fun i => decide (w i ≠ nb i))
def ahE (w c : Nat → Int) : Nat → Nat → Bool
  | 0, _ => false
  | k + 1, i => if w i = c i then ahE w c k (i + 1) else decide (w i < c i)
def skE (m : Int) (dg ch : Nat) (mk nb c0 : Nat → Int) : Nat → Int × (Nat → Int)
  | 0 => (64, c0)
  | i + 1 => if ((poE nb (wkE m dg ch mk i).1 63 : Nat) : Int) < (skE m dg ch mk nb c0 i).1 ∨ ((poE nb (wkE m dg ch mk i).1 63 : Nat) : Int) = (skE m dg ch mk nb c0 i).1 ∧ ahE (wkE m dg ch mk i).1 (skE m dg ch mk nb c0 i).2 63 0 = true then (((poE nb (wkE m dg ch mk i).1 63 : Nat) : Int), (wkE m dg ch mk i).1) else skE m dg ch mk nb c0 i
