/-! the model: calls that change what stands -/
theorem KE.rfl' {al : AL} : KE al.2 al al := ⟨Nat.le_refl _, fun _ _ => rfl⟩
def TM (tp : Nat → Int) (A : HA) : Prop := ∀ j, j < 200 → A 55 j = sb (tp j) ∧ 0 ≤ tp j ∧ tp j < 256
