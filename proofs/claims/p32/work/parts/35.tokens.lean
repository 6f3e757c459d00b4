/-! Reader: bytes, tokens -/
def RD (rs : Nat → Int) (F : HF) : Prop := ∀ k, k ∈ [0, 1, 2, 6, 7, 8, 9, 10] → F 26 k = vI (rs k)
theorem RD.up {rs : Nat → Int} {F : HF} {k : Nat} {v : Int} (h : RD rs F) : RD (upc rs k v) (up2 F 26 k (vI v)) := by
  intro j hj
  rw [up2_at]
  unfold upc
  split
  · rfl
  · exact h j hj
theorem RD.same {rs rs2 : Nat → Int} {F : HF} (h : RD rs F) (e : ∀ k, rs2 k = rs k) : RD rs2 F := fun k hk => by rw [e k]; exact h k hk
/-- the tape: n bytes told -/
def TA (tp : Nat → Int) (A : HA) : Prop := ∀ j, j < 200 → A 20 j = tp j ∧ 0 ≤ tp j ∧ tp j < 256
