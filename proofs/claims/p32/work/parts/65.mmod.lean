/-! the model: the modulus lifted -/
def gjE (m : Int) (r : Nat) (f c : Nat → Int) (root : Int) (D : Nat) (i : Nat) : Int := mi m r (if i = 0 then 0 else c (i - 1)) (if D < i then 0 else tm m r f (c i) root)
def fL (p : Nat) (l : Nat) (i : Nat) : Int := dg p i l
def rpM (m : Int) (r q : Nat) (f0 : Nat → Int) : Nat → Int
  | 0 => m
  | k + 1 => pw m r f0 (rpM m r q f0 k) q
def rtM (m : Int) (r p : Nat) (f0 : Nat → Int) (x : Int) : Nat → Int
  | 0 => x
  | i + 1 => pw m r f0 (rtM m r p f0 x i) p
def grM (m : Int) (r p : Nat) (f0 : Nat → Int) (x : Int) : Nat → Nat → Int
  | 0, j => if j = 0 then 1 else 0
  | i + 1, j => if j ≤ i + 1 then gjE m r f0 (grM m r p f0 x i) (rtM m r p f0 x i) i j else 0
/-- rows below n, but those of l, stay -/
def OffN (n : Nat) (l : List Nat) (A A2 : HA) : Prop := ∀ b, b < n → b ∉ l → A2 b = A b
theorem OffN.trans {n : Nat} {l : List Nat} {A B C : HA} (h : OffN n l A B) (h2 : OffN n l B C) : OffN n l A C := fun b hb hbl => (h2 b hb hbl).trans (h b hb hbl)
def KE (n : Nat) (al al2 : AL) : Prop := n ≤ al2.2 ∧ ∀ k, k < n → al2.1 k = al.1 k
/-- the modulus, as it's lifted -/
def mdM (p e r q : Nat) (m : Int) (lo : Nat) (i : Nat) : Int := if i = r then 1 else if r = 1 then 0 else grM m r p (fL p lo) (rpM m r q (fL p lo) (e - 1)) r i
