/-! the model's reading: numbers, going in -/
def CM (p e r q N n : Nat) (m : Int) (f : Nat → Int) (g : Int) (rt lg tp pl_ : Nat → Int) (F : HF) (A : HA) : Prop := MR F ∧ GY p e r q N m f g rt lg F A ∧ TM tp A ∧ n ≤ 200 ∧ (∀ j, j < 8 → A 49 j = pl_ j ∧ El m r (pl_ j)) ∧ 1 ≤ umE N q
theorem CM.pres {p e r q N n : Nat} {m : Int} {f : Nat → Int} {g : Int} {rt lg tp pl_ : Nat → Int} {F F2 : HF} {A A2 : HA} (h : CM p e r q N n m f g rt lg tp pl_ F A) (hF : FOff LQ F F2) (hA : Off SAQ A A2) : CM p e r q N n m f g rt lg tp pl_ F2 A2 := by
  obtain ⟨h1, h2, h3, h4, h5, h6⟩ := h
  refine ⟨h1.foff hF (by decide), (h2.off hA (by decide) (by decide) (by decide) (by decide)).row (F2 := F2) (fun k hk => hF 44 k (by simp only [List.mem_cons, List.not_mem_nil, or_false] at hk; rcases hk with rfl | rfl | rfl | rfl | rfl | rfl | rfl <;> decide)), fun j hj => ?_, h4, fun j hj => ?_, h6⟩
  · rw [hA 55 (by decide)]; exact h3 j hj
  · rw [hA 49 (by decide)]; exact h5 j hj
def RIM (n : Nat) (rs : Nat → Int) : Prop := rs 20 = n ∧ (0 ≤ rs 21 ∧ rs 21 ≤ n) ∧ (0 ≤ rs 22 ∧ rs 22 ≤ n) ∧ (0 ≤ rs 23 ∧ rs 23 ≤ 1002) ∧ (0 ≤ rs 24 ∧ rs 24 ≤ 1000000) ∧ (0 ≤ rs 25 ∧ rs 25 ≤ 8) ∧ (0 ≤ rs 26 ∧ rs 26 ≤ 3) ∧ (-1 ≤ rs 27 ∧ rs 27 ≤ 200) ∧ (rs 28 = 0 ∨ rs 28 = 1) ∧ (rs 29 = 0 ∨ rs 29 = 1) ∧ (rs 26 = 0 → rs 27 = -1)
def mu (n : Nat) (rs : Nat → Int) : Nat := (n - (rs 21).toNat) + (if rs 23 = 1002 then 0 else 1)
/-- what a step of the reading keeps -/
def KT (n : Nat) (rs rs2 : Nat → Int) : Prop := RIM n rs2 ∧ rs2 25 = rs 25 ∧ rs2 28 = rs 28 ∧ mu n rs2 ≤ mu n rs
theorem KT.refl {n : Nat} {rs : Nat → Int} (h : RIM n rs) : KT n rs rs := ⟨h, rfl, rfl, Nat.le_refl _⟩
theorem KT.trans {n : Nat} {a b c : Nat → Int} (h : KT n a b) (h2 : KT n b c) : KT n a c := ⟨h2.1, h2.2.1.trans h.2.1, h2.2.2.1.trans h.2.2.1, Nat.le_trans h2.2.2.2 h.2.2.2⟩
