/-! the answers of the ring: class and model -/
section RingQ
variable {p e r : Nat}
abbrev RKr (p e r : Nat) : Prop := RK p e r ((p : Int) ^ e) (p ^ r) (rF p e r) (rG p e r)
theorem RKr.N (h : RKr p e r) : ((p ^ (e * r) : Nat) : Int) = ((p : Int) ^ e) ^ r := by rw [← Int.pow_mul, inat_pow]
theorem wd_pl {p r : Nat} {m : Int} {f : Nat → Int} {g x : Int} {i : Nat} {k : Nat} (hm : 0 < m) : wdE p r m f g x i (k : Int) = pl m r x (sc m r ((p : Int) ^ i) (pw m r f g k)) := by
  unfold wdE
  rw [if_neg (by omega)]
  refine un_congr fun j hj => ?_
  rw [dg_sc hm hj, Int.add_emod_emod]
  rfl
theorem q_wh_of (h : RKr p e r) (he4 : e ≤ 4) : Q_wh p e r := by
  intro d0 d1 d2 d3
  have hm := h.m2
  have hq2 := h.q2
  have hC : ((d0 = -1 ∨ 0 < (e : Int) ∧ 0 ≤ d0 ∧ d0 ≤ ((p ^ r : Nat) : Int) - 2) ∧ (d1 = -1 ∨ 1 < (e : Int) ∧ 0 ≤ d1 ∧ d1 ≤ ((p ^ r : Nat) : Int) - 2) ∧ (d2 = -1 ∨ 2 < (e : Int) ∧ 0 ≤ d2 ∧ d2 ≤ ((p ^ r : Nat) : Int) - 2) ∧ (d3 = -1 ∨ 3 < (e : Int) ∧ 0 ≤ d3 ∧ d3 ≤ ((p ^ r : Nat) : Int) - 2)) ↔ whB e (p ^ r) (whD d0 d1 d2 d3) 4 = true := by
    unfold whB
    rw [decide_eq_true_eq]
    have one : ∀ (d : Int) (i : Nat), (-1 ≤ d ∧ d ≤ (if i < e then ((p ^ r : Nat) : Int) - 2 else -1)) ↔ (d = -1 ∨ (i : Int) < (e : Int) ∧ 0 ≤ d ∧ d ≤ ((p ^ r : Nat) : Int) - 2) := fun d i => by
      split <;> omega
    constructor
    · rintro ⟨a, b, c, d⟩ i hi
      have hi4 : i = 0 ∨ i = 1 ∨ i = 2 ∨ i = 3 := by omega
      rcases hi4 with rfl | rfl | rfl | rfl
      · exact (one d0 0).mpr a
      · exact (one d1 1).mpr b
      · exact (one d2 2).mpr c
      · exact (one d3 3).mpr d
    · intro hall
      exact ⟨(one d0 0).mp (hall 0 (by decide)), (one d1 1).mp (hall 1 (by decide)), (one d2 2).mp (hall 2 (by decide)), (one d3 3).mp (hall 3 (by decide))⟩
  by_cases hB : whB e (p ^ r) (whD d0 d1 d2 d3) 4 = true
  · rw [if_pos hB, if_pos (hC.mpr hB)]
    congr 1
    have hc := hC.mpr hB
    have step : ∀ (X d : Int) (i : Nat), i < 4 → whD d0 d1 d2 d3 i = d → (d = -1 ∨ (i : Int) < (e : Int) ∧ 0 ≤ d ∧ d ≤ ((p ^ r : Nat) : Int) - 2) → X = jnM p r (p ^ r) ((p : Int) ^ e) (rF p e r) (rG p e r) (whD d0 d1 d2 d3) 1 (min i e) → wdE p r ((p : Int) ^ e) (rF p e r) (rG p e r) X i d = jnM p r (p ^ r) ((p : Int) ^ e) (rF p e r) (rG p e r) (whD d0 d1 d2 d3) 1 (min (i + 1) e) := fun X d i hi hd hc hX => by
      rcases hc with hc | ⟨c1, c2, c3⟩
      · have e1 : wdE p r ((p : Int) ^ e) (rF p e r) (rG p e r) X i d = X := if_pos hc
        rw [e1, hX]
        rcases Nat.lt_or_ge i e with q9 | q9
        · rw [Nat.min_eq_left (by omega), Nat.min_eq_left (by omega), jn_no (hd.trans hc)]
        · rw [Nat.min_eq_right (by omega), Nat.min_eq_right (by omega)]
      · obtain ⟨k, rfl⟩ : ∃ k : Nat, d = k := ⟨d.toNat, by omega⟩
        rw [wd_pl (by omega), hX, Nat.min_eq_left (by omega), Nat.min_eq_left (by omega), h.jn_yes (by omega) hd, Nat.mul_one]
    have s0 := step 0 d0 0 (by decide) rfl hc.1 (by rw [Nat.zero_min]; rfl)
    have s1 := step _ d1 1 (by decide) rfl hc.2.1 s0
    have s2 := step _ d2 2 (by decide) rfl hc.2.2.1 s1
    have s3 := step _ d3 3 (by decide) rfl hc.2.2.2 s2
    rw [Nat.min_eq_right (show e ≤ 3 + 1 by omega)] at s3
    exact s3
  · rw [if_neg hB, if_neg (fun k => hB (hC.mp k))]
end RingQ
