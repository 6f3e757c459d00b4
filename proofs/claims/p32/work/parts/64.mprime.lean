/-! the model: prime polynomials below -/
def idIn (p c b : Int) (k0 : Nat) : Nat → (Nat → Int) → (Nat → Int)
  | 0, P => P
  | t + 1, P => upc (idIn p c b k0 t P) (k0 + t) ((idIn p c b k0 t P (k0 + t) - c * dg p t b) % p)
def idOut (p b : Int) (d : Nat) : Nat → (Nat → Int) → (Nat → Int)
  | 0, P => P
  | s + 1, P => idOut p b d s (upc (idIn p (P (d + s)) b s d P) (d + s) 0)
def idP0 (p : Int) (r : Nat) (l : Int) : Nat → Int := fun j => if j = r then 1 else dg p j l
def idB (p : Int) (r : Nat) (l : Int) (d : Nat) (b : Int) : Bool := decide (∀ j, j < d → idOut p b d (r - d + 1) (idP0 p r l) j = 0)
/-- none of the numbers from b on (k to try) divides, of degree d -/
def ipMI (p : Int) (r : Nat) (l : Int) (d : Nat) : Nat → Int → Bool
  | 0, _ => true
  | k + 1, b => if idB p r l d b = true then false else ipMI p r l d k (b + 1)
def ipMO (p : Nat) (r : Nat) (l : Int) : Nat → Nat → Bool
  | 0, _ => true
  | k + 1, d => if 2 * d ≤ r then (if ipMI p r l d (p ^ d) 0 = true then ipMO p r l k (d + 1) else false) else true
