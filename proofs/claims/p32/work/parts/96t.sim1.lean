/-! the readings, side by side: tokens -/
abbrev isS (x : Int) : Prop := x = 35 ∨ x = 40 ∨ x = 41 ∨ x = 42 ∨ x = 43 ∨ x = 45 ∨ x = 94 ∨ x = 103 ∨ x = 105 ∨ x = 109 ∨ x = 112 ∨ x = 114 ∨ x = 116
def TKr (n : Nat) (a b : Nat → Int) : Prop := a 8 = b 22 ∧ 0 ≤ b 21 ∧ b 21 ≤ n ∧ ((b 23 = 1002 ∧ a 7 = 257 ∧ b 21 = n) ∨ ((b 23 = 1000 ∧ a 7 = 256 ∧ a 9 = min (b 24) 10000 ∧ 0 ≤ b 24 ∨ b 23 = a 7 ∧ isS (a 7) ∨ b 23 = 1001 ∧ ¬ isS (a 7) ∧ 0 ≤ a 7 ∧ a 7 < 256) ∧ a 10 = b 21 ∧ 1 ≤ b 21))
/-- no fault so far; l deeper may be gone; c is 1 in the second reading -/
def St (n : Nat) (c : Int) (l : Nat) (a b : Nat → Int) : Prop := TKr n a b ∧ (a 0 = 0 ∧ b 26 = 0 ∧ a 1 = -1 ∧ b 27 = -1) ∧ b 25 + l = 8 ∧ b 28 = c ∧ (c ≠ 0 → a 2 = b 29) ∧ (a 2 = 0 ∨ a 2 = 1)
def Fa (x y : Nat → Int) : Prop := 0 < x 0 ∧ x 0 = y 26 ∧ x 1 = y 27
