/-! all but the reading -/
theorem prm_sm {c : Nat} (h : c = 2 ∨ c = 3 ∨ c = 5 ∨ c = 7) : prm c := by
  have key : ∀ d : Nat, d < 7 → 2 ≤ d → (d < 2 → ¬ d ∣ 2) ∧ (d < 3 → ¬ d ∣ 3) ∧ (d < 5 → ¬ d ∣ 5) ∧ (d < 7 → ¬ d ∣ 7) := by decide
  rcases h with rfl | rfl | rfl | rfl
  · exact ⟨by decide, fun d h1 h2 => (key d (by omega) h1).1 h2⟩
  · exact ⟨by decide, fun d h1 h2 => (key d (by omega) h1).2.1 h2⟩
  · exact ⟨by decide, fun d h1 h2 => (key d (by omega) h1).2.2.1 h2⟩
  · exact ⟨by decide, fun d h1 h2 => (key d (by omega) h1).2.2.2 h2⟩
theorem RV.p4 {p e r : Nat} (h : RV p e r) : p = 2 ∨ p = 3 ∨ p = 5 ∨ p = 7 := by
  obtain ⟨⟨h1, -⟩, -⟩ := h
  omega
theorem RV.er {p e r : Nat} (h : RV p e r) : 1 ≤ e ∧ e ≤ 4 ∧ 1 ≤ r ∧ r ≤ 6 := by
  obtain ⟨⟨-, h1⟩, -⟩ := h
  omega
theorem RV.n4 {p e r : Nat} (h : RV p e r) : p ^ (e * r) ≤ 4096 := by
  obtain ⟨-, h1⟩ := h
  rw [← inat_pow] at h1
  omega
theorem RV.q4 {p e r : Nat} (h : RV p e r) : p ^ r ≤ 4096 := by
  have h1 := h.er
  have h2 := h.p4
  have h3 : p ^ r ≤ p ^ (e * r) := Nat.pow_le_pow_right (by omega) (by
    have : 1 * r ≤ e * r := Nat.mul_le_mul_right _ h1.1
    omega)
  exact Nat.le_trans h3 h.n4
theorem RV.mem {p e r n : Nat} (h : RV p e r) (hn : 1 ≤ n) (hn63 : n ≤ 63) (hq : (p ^ r - 1) % n = 0) : (p, n) ∈ prL := pr_mem h.p4 h.er.2.2.1 h.er.2.2.2 h.q4 hn hn63 hq
theorem rkr_of {p e r : Nat} (hv : RV p e r) (hc : Cer p e r) : RKr p e r ∧ rG p e r = gnM p e r (p ^ r) ((p : Int) ^ e) (rF p e r) (p ^ r - 1) := by
  obtain ⟨f, lo, g0, y0, rfl, h1, h2, h3, h4, -⟩ := hc
  have h5 := h4.gen (by rw [← hv.N]; have := hv.n4; omega)
  exact ⟨h5.2, h5.1⟩
theorem rh_of {p e r : Nat} (hv : RV p e r) (hc : Cer p e r) : RH p e r := by
  have hk := (rkr_of hv hc).1
  obtain ⟨f, lo, g0, y0, rfl, h1, h2, -⟩ := hc
  exact ⟨h1, h2, hk.mkok fun n a b c => hv.mem a b c⟩
