/-! Speech -/
def SP (S : List Int) (F : HF) (A : HA) : Prop := F 21 0 = vI S.length ∧ ∀ j, j < S.length → A 22 j = S.getD j 0
