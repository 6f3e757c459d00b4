/-! the model: digits, what is moved, traces, norms, orders -/
def dlM (p r : Nat) (m : Int) (rt : Nat → Int) (x : Int) : Nat → Int
  | 0 => x
  | i + 1 => bp p r m (mi m r (dlM p r m rt x i) (rt (low p r m (dlM p r m rt x i))))
def ddM (p r : Nat) (m : Int) (rt lg : Nat → Int) (x : Int) (i : Nat) : Int := lg (low p r m (dlM p r m rt x i))
/-- the sum so far of digits d, each root to the b -/
def jnM (p r q : Nat) (m : Int) (f : Nat → Int) (g : Int) (d : Nat → Int) (b : Nat) : Nat → Int
  | 0 => 0
  | i + 1 => if d i = -1 then jnM p r q m f g d b i else pl m r (jnM p r q m f g d b i) (tm m r f ((p : Int) ^ i) (pw m r f g (d i * b % ((q : Int) - 1)).toNat))
