/-! the model: counting; roots, zeros, within -/
def foE (P : Nat → Bool) (i : Int) (y : Nat) : Int := if 0 ≤ i ∧ i < ctn P y then nth P y i.toNat else -1
def CNT (P : Nat → Bool) (i : Int) (y : Nat) (F : HF) : Prop := F 44 30 = vI (ctn P y : Nat) ∧ F 44 31 = vI i ∧ F 44 32 = vI (foE P i y)
theorem CNT.off {P : Nat → Bool} {i : Int} {y : Nat} {F F' : HF} (h : CNT P i y F) (hF : ∀ k, k ∈ [30, 31, 32] → F' 44 k = F 44 k) : CNT P i y F' := ⟨(hF 30 (by decide)).trans h.1, (hF 31 (by decide)).trans h.2.1, (hF 32 (by decide)).trans h.2.2⟩
