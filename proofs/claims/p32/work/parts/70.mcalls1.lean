/-! the model: calls that change nothing but scratch -/
def exM (p r : Nat) (m : Int) (f : Nat → Int) (N : Nat) : Nat → Nat
  | 0 => 1
  | x + 1 => if low p r m ((x : Int) + 1) ≠ 0 ∧ pw m r f ((x : Int) + 1) (exM p r m f N x) ≠ 1 then exM p r m f N x / Nat.gcd (exM p r m f N x) (odM m r f N ((x : Int) + 1)) * odM m r f N ((x : Int) + 1) else exM p r m f N x
theorem lcm_dvd {a b L : Nat} (ha : 1 ≤ a) (h1 : a ∣ L) (h2 : b ∣ L) : a / Nat.gcd a b * b ∣ L := by
  have h3 := Nat.lcm_dvd h1 h2
  have h4 : a / Nat.gcd a b * b = Nat.lcm a b := by
    unfold Nat.lcm
    exact Nat.div_mul_right_comm (Nat.gcd_dvd_left a b) b
  rw [h4]; exact h3
