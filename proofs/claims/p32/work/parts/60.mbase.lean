/-! the model: thrown, rows, sums -/
def GM (m : Int) (r : Nat) (f : Nat → Int) (F : HF) (A : HA) : Prop := F 44 4 = vI m ∧ F 44 3 = vI r ∧ (∀ i, i < r → A 45 i = f i ∧ 0 ≤ f i ∧ f i < m) ∧ 2 ≤ m ∧ 1 ≤ r ∧ r ≤ 6 ∧ m ^ r ≤ 4096
theorem GM.m4 {m : Int} {r : Nat} {f : Nat → Int} {F : HF} {A : HA} (h : GM m r f F A) : m ≤ 4096 := by
  obtain ⟨-, -, -, h2, h1, -, h4⟩ := h
  have := pow_ge (m := m) (by omega) h1
  omega
theorem GM.off {m : Int} {r : Nat} {f : Nat → Int} {F : HF} {A A2 : HA} {l : List Nat} (h : GM m r f F A) (ho : Off l A A2) (hl : 45 ∉ l) : GM m r f F A2 := by
  obtain ⟨h1, h2, h3, h4⟩ := h
  refine ⟨h1, h2, fun i hi => ?_, h4⟩
  rw [ho 45 hl]; exact h3 i hi
theorem GM.row {m : Int} {r : Nat} {f : Nat → Int} {F F2 : HF} {A : HA} (h : GM m r f F A) (h4 : F2 44 4 = F 44 4) (h3 : F2 44 3 = F 44 3) : GM m r f F2 A := ⟨by rw [h4]; exact h.1, by rw [h3]; exact h.2.1, h.2.2⟩
