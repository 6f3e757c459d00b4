/-! the model: generators, the tables -/
def doM : Nat → Nat → Nat → Nat
  | 0, l, _ => l
  | k + 1, l, b => if l % b = 0 then doM k (l / b) b else l
def igM (P : Nat → Bool) : Nat → Nat → Nat → Bool
  | 0, _, _ => true
  | k + 1, l, b => if l ≤ 1 then true else if l % b ≠ 0 then igM P k l (b + 1) else if P b = true then false else igM P k (doM l l b) (b + 1)
def igP (m : Int) (r q : Nat) (f : Nat → Int) (x : Int) : Nat → Bool := fun c => decide (pw m r f x ((q - 1) / c) = 1)
def igE (m : Int) (r q : Nat) (f : Nat → Int) (x : Int) : Bool := igM (igP m r q f x) q (q - 1) 2
def gnM (p e r q : Nat) (m : Int) (f : Nat → Int) : Nat → Int
  | 0 => 4096
  | b + 1 => if tcE p e r q m f (b + 1) < gnM p e r q m f b ∧ igE m r q f (tcE p e r q m f (b + 1)) = true then tcE p e r q m f (b + 1) else gnM p e r q m f b
