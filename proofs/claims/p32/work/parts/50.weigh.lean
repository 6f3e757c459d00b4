/-! RootedRing: weighing, lightest, word, nearest -/
theorem QE.post {d mc ms : Nat} {M : MT} {as : List LV} {F : HF} {A : HA} {al : AL} {P1 P2 : PO} (h : QE d mc ms M as F A al P1) (hp : ∀ o F' A' al', P1 o F' A' al' → P2 o F' A' al') : QE d mc ms M as F A al P2 := by
  intro l hl G ad sz p e h1 h2 h3 s m args below hf hap hP hK
  obtain ⟨n, o, g1, g2, g3, g4⟩ := h l hl G ad sz p e h1 h2 h3 s m args below hf hap hP hK
  refine ⟨n, o, g1, g2, g3, ?_⟩
  rcases g4 with ⟨⟨⟨v, F', A', al', ad', k1, k2, k3⟩, k4⟩, L, k5⟩ | ⟨q, k1, E, ce, L, ⟨⟨F', A', al', ad', k2, k3⟩, k4⟩, k5⟩
  · exact Or.inl ⟨⟨⟨v, F', A', al', ad', k1, hp _ _ _ _ k2, k3⟩, k4⟩, L, k5⟩
  · exact Or.inr ⟨q, k1, E, ce, L, ⟨⟨F', A', al', ad', hp _ _ _ _ k2, k3⟩, k4⟩, k5⟩
