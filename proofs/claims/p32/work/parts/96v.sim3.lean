/-! the readings, side by side: what is opened, atoms, the whole -/
theorem St.up {n l : Nat} {c : Int} {a b : Nat → Int} (h : St n c l a b) : St n c (l + 1) a (upD b) := by
  obtain ⟨h1, h2, h3, h4, h5, h6⟩ := h
  exact ⟨h1, h2, by show b 25 - 1 + ((l + 1 : Nat) : Int) = 8; omega, h4, h5, h6⟩
theorem Fa.up {x y : Nat → Int} (h : Fa x y) : Fa x (upD y) := h
