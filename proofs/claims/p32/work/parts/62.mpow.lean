/-! the model: powers, what is below, levels, digits -/
/-- the model's tables stand -/
def GY (p e r q N : Nat) (m : Int) (f : Nat → Int) (g : Int) (rt lg : Nat → Int) (F : HF) (A : HA) : Prop :=
  GM m r f F A ∧ F 44 1 = vI p ∧ F 44 2 = vI e ∧ F 44 5 = vI q ∧ F 44 6 = vI N ∧ F 44 11 = vI g ∧ (2 ≤ p ∧ p ≤ 7 ∧ 1 ≤ e ∧ e ≤ 4 ∧ m = (p : Int) ^ e ∧ q = p ^ r ∧ q ≤ 3125 ∧ (N : Int) = m ^ r ∧ El m r g) ∧
  (∀ k, k + 1 < q → A 48 k = pw m r f g k) ∧ (∀ j, j < q → A 47 j = lg j ∧ (lg j = -1 ∨ 0 ≤ lg j ∧ lg j < (q : Int) - 1)) ∧ ∀ j, j < q → A 46 j = rt j ∧ El m r (rt j)
section GYs
variable {p e r q N : Nat} {m : Int} {f : Nat → Int} {g : Int} {rt lg : Nat → Int} {F F2 : HF} {A A2 : HA} {al : AL}
theorem GY.off {l : List Nat} (h : GY p e r q N m f g rt lg F A) (ho : Off l A A2) (h5 : 45 ∉ l) (h6 : 46 ∉ l) (h7 : 47 ∉ l) (h8 : 48 ∉ l) : GY p e r q N m f g rt lg F A2 := by
  obtain ⟨a1, a2, a3, a4, a5, a6, a7, a8, a9, a10⟩ := h
  refine ⟨a1.off ho h5, a2, a3, a4, a5, a6, a7, fun k hk => ?_, fun j hj => ?_, fun j hj => ?_⟩
  · rw [ho 48 h8]; exact a8 k hk
  · rw [ho 47 h7]; exact a9 j hj
  · rw [ho 46 h6]; exact a10 j hj
theorem GY.row (h : GY p e r q N m f g rt lg F A) (hF : ∀ k, k ∈ [1, 2, 3, 4, 5, 6, 11] → F2 44 k = F 44 k) : GY p e r q N m f g rt lg F2 A := by
  obtain ⟨a1, a2, a3, a4, a5, a6, a7⟩ := h
  refine ⟨a1.row (hF 4 (by decide)) (hF 3 (by decide)), ?_, ?_, ?_, ?_, ?_, a7⟩
  · rw [hF 1 (by decide)]; exact a2
  · rw [hF 2 (by decide)]; exact a3
  · rw [hF 5 (by decide)]; exact a4
  · rw [hF 6 (by decide)]; exact a5
  · rw [hF 11 (by decide)]; exact a6
theorem GY.q2 (h : GY p e r q N m f g rt lg F A) : 2 ≤ q := by
  obtain ⟨h1, -, -, -, -, -, ⟨g1, -, -, -, -, g6, -⟩, -⟩ := h
  have := h1.2.2.2.2.1
  rw [g6]
  obtain ⟨k, rfl⟩ : ∃ k, r = k + 1 := ⟨r - 1, by omega⟩
  have : 0 < p ^ k := Nat.pow_pos (by omega)
  rw [Nat.pow_succ]
  have := Nat.mul_le_mul this g1
  omega
end GYs
def umE (N q : Nat) : Nat := N - N / q
def imB (r : Nat) (m x b : Int) : Bool := decide (∀ j, j < r → dg m j x % b = 0)
/-- the level: from n on, k to try -/
def lvM (p r : Nat) (m x : Int) : Nat → Nat → Nat
  | n, 0 => n
  | n, k + 1 => if imB r m x ((p : Int) ^ (n + 1)) = true then lvM p r m x (n + 1) k else n
