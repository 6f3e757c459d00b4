/-! Reader: numbers, factors -/
/-- the reader's surroundings -/
def CX (p e r q N n : Nat) (m : Int) (f : Nat → Int) (g : Int) (lg tp pl_ : Nat → Int) (F : HF) (A : HA) : Prop := XF F ∧ GT p e r q N m f g lg F A ∧ TA tp A ∧ n ≤ 200 ∧ ∀ j, j < 8 → A 17 j = pl_ j ∧ El m r (pl_ j)
theorem CX.pres {p e r q N n : Nat} {m : Int} {f : Nat → Int} {g : Int} {lg tp pl_ : Nat → Int} {F F2 : HF} {A A2 : HA} (h : CX p e r q N n m f g lg tp pl_ F A) (hF : FOff [(26, 0), (26, 1), (26, 2), (26, 7), (26, 8), (26, 9), (26, 10)] F F2) (hA : Off [13, 14, 15] A A2) : CX p e r q N n m f g lg tp pl_ F2 A2 := by
  obtain ⟨h1, h2, h3, h4, h5⟩ := h
  refine ⟨h1.foff hF (by decide), (h2.row (hF.row 2 (by decide))).s3 hA, fun j hj => ?_, h4, fun j hj => ?_⟩
  · rw [hA 20 (by decide)]; exact h3 j hj
  · rw [hA 17 (by decide)]; exact h5 j hj
