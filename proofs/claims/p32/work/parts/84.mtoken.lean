/-! the model's reading: bytes, tokens -/
def LQ : List (Nat × Nat) := [(44, 21), (44, 22), (44, 23), (44, 24), (44, 25), (44, 26), (44, 27), (44, 29)]
def RDM (rs : Nat → Int) (F : HF) : Prop := ∀ k, k ∈ [20, 21, 22, 23, 24, 25, 26, 27, 28, 29] → F 44 k = vI (rs k)
theorem RDM.up {rs : Nat → Int} {F : HF} {k : Nat} {v : Int} (h : RDM rs F) : RDM (upc rs k v) (up2 F 44 k (vI v)) := by
  intro j hj
  rw [up2_at]
  unfold upc
  split
  · rfl
  · exact h j hj
theorem RDM.same {rs rs2 : Nat → Int} {F : HF} (h : RDM rs F) (e : ∀ k, rs2 k = rs k) : RDM rs2 F := fun k hk => by rw [e k]; exact h k hk
def SAQ : List Nat := [50, 51, 52, 53, 54]
