/-! the nearest word: both folds find the same one -/
def LTw (n : Nat) (x y : Int × (Nat → Int)) : Prop := x.1 < y.1 ∨ x.1 = y.1 ∧ ahM x.2 y.2 n 0 = true
theorem ah_tri {u v : Nat → Int} : ∀ (k i : Nat), ¬ ahM u v k i = true → ¬ ahM v u k i = true → ∀ j, i ≤ j → j < i + k → u j = v j
  | 0, _, _, _, j, h1, h2 => absurd h2 (by omega)
  | k + 1, i, h, h2, j, h3, h4 => by
    replace h : ¬ (if u i ≠ v i then decide (u i < v i) else ahM u v k (i + 1)) = true := h
    replace h2 : ¬ (if v i ≠ u i then decide (v i < u i) else ahM v u k (i + 1)) = true := h2
    by_cases e : u i = v i
    · rw [if_neg (fun q => q e)] at h
      rw [if_neg (fun q => q e.symm)] at h2
      by_cases hj : j = i
      · subst hj; exact e
      · exact ah_tri k (i + 1) h h2 j (by omega) (by omega)
    · rw [if_pos e] at h
      rw [if_pos (fun q => e q.symm)] at h2
      have a1 : ¬ u i < v i := fun q => h (decide_eq_true q)
      have a2 : ¬ v i < u i := fun q => h2 (decide_eq_true q)
      omega
theorem LTw.tri {n : Nat} {x y : Int × (Nat → Int)} (h : ¬ LTw n x y) (h2 : ¬ LTw n y x) : x.1 = y.1 ∧ ∀ i, i < n → x.2 i = y.2 i := by
  have a1 : ¬ x.1 < y.1 := fun q => h (Or.inl q)
  have a2 : ¬ y.1 < x.1 := fun q => h2 (Or.inl q)
  have e : x.1 = y.1 := by omega
  exact ⟨e, fun i hi => ah_tri n 0 (fun q => h (Or.inr ⟨e, q⟩)) (fun q => h2 (Or.inr ⟨e.symm, q⟩)) i (by omega) (by omega)⟩
def Bst (n : Nat) (w : Nat → Int × (Nat → Int)) (N : Nat) (s0 s : Int × (Nat → Int)) : Prop := (s = s0 ∨ ∃ T, T < N ∧ s = w T) ∧ (∀ T, T < N → ¬ LTw n (w T) s) ∧ ¬ LTw n s0 s
theorem Bst.same {n : Nat} {w : Nat → Int × (Nat → Int)} {N : Nat} {s0 s s' : Int × (Nat → Int)} (hN : 0 < N) (h0 : ∀ T, T < N → LTw n (w T) s0) (h : Bst n w N s0 s) (h' : Bst n w N s0 s') : s.1 = s'.1 ∧ ∀ i, i < n → s.2 i = s'.2 i := by
  obtain ⟨a1, a2, -⟩ := h
  obtain ⟨b1, b2, -⟩ := h'
  rcases a1 with a1 | ⟨T, hT, a1⟩
  · exact absurd (h0 0 hN) (a1 ▸ a2 0 hN)
  · rcases b1 with b1 | ⟨U, hU, b1⟩
    · exact absurd (h0 0 hN) (b1 ▸ b2 0 hN)
    · exact LTw.tri (a1 ▸ b2 T hT) (b1 ▸ a2 U hU)
theorem RV.m2 {p e r : Nat} (hv : RV p e r) : 2 ≤ (p : Int) ^ e := by
  obtain ⟨⟨h1, h2, h3, h4, h5⟩, -⟩ := hv
  have h6 : (p : Int) ^ 1 ≤ (p : Int) ^ e := ipow_mono (by omega) (by omega)
  rw [Int.pow_succ, Int.pow_zero, Int.one_mul] at h6
  omega
