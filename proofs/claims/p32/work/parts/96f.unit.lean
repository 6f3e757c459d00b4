/-! units: what takes them to 1; levels; rings within -/
section Unit
variable {p e r q : Nat} {m : Int} {f : Nat → Int} {g x y : Int}
theorem RK.pm1 (h : RK p e r m q f g) : (p : Int) ∣ m := by
  rw [h.2.2.2.1]
  obtain ⟨k, rfl⟩ : ∃ k, e = k + 1 := ⟨e - 1, by have := h.2.1; omega⟩
  rw [Int.pow_succ]
  exact Int.dvd_mul_left _ _
/-- what is 1 below, taken to the p ^ (e - 1) -/
theorem RK.ob_pow (h : RK p e r m q f g) (hx : El m r x) (hl : low p r m x = low p r m 1) : pw m r f x (p ^ (e - 1)) = 1 := by
  have hm := h.m2
  have hr := h.2.2.1
  have hp := h.1
  have he := h.2.1
  have h1 := cg_steps (f := f) hm hr (by omega) h.2.2.2.1 hx (el_one hm hr) ((cg_low (by omega)).mp hl) (e - 1) (by omega)
  rw [show e - 1 + 1 = e by omega, ← h.2.2.2.1, one_pw hm hr] at h1
  exact cg_eq (by omega) (pw_el hm hr _ _) (el_one hm hr) h1
theorem RK.low_pw (h : RK p e r m q f g) (hx : El m r x) (hy : El m r y) (hl : low p r m x = low p r m y) (n : Nat) : low p r m (pw m r f x n) = low p r m (pw m r f y n) := by
  have hp := h.1
  exact (cg_low (by omega)).mpr (cg_pw h.m2 h.2.2.1 h.pm1 hx hy ((cg_low (by omega)).mp hl) n)
theorem RK.low_tm (h : RK p e r m q f g) {x' y' : Int} (hy : El m r y) (hy' : El m r y') (hl : low p r m x = low p r m x') (hl2 : low p r m y = low p r m y') : low p r m (tm m r f x y) = low p r m (tm m r f x' y') := by
  have hp := h.1
  have hm := h.m2
  exact (cg_low (by omega)).mpr (cg_tm (by omega) h.pm1 hy hy' ((cg_low (by omega)).mp hl) ((cg_low (by omega)).mp hl2))
theorem RK.low_q1 (h : RK p e r m q f g) (hx : El m r x) (hu : low p r m x ≠ 0) : low p r m (pw m r f x (q - 1)) = low p r m 1 := by
  obtain ⟨k, hk, hl⟩ := h.unit hu
  rw [h.low_pw hx (h.el k) hl.symm, h.tc_one]
theorem RK.u_pow (h : RK p e r m q f g) (hx : El m r x) (hu : low p r m x ≠ 0) : pw m r f x ((q - 1) * p ^ (e - 1)) = 1 := by
  have hm := h.m2
  have hr := h.2.2.1
  rw [pw_mul hm hr hx]
  exact h.ob_pow (pw_el hm hr _ _) (h.low_q1 hx hu)
theorem inv_of {m : Int} {r : Nat} {f : Nat → Int} {x : Int} (hm : 2 ≤ m) (hr : 0 < r) (hx : El m r x) {a : Nat} (ha : 1 ≤ a) (h : pw m r f x a = 1) : tm m r f x (pw m r f x (a - 1)) = 1 := by
  have h1 := pw_add (f := f) hm hr hx 1 (a - 1)
  rw [show 1 + (a - 1) = a by omega, h, pw_one hm hr hx] at h1
  exact h1.symm
theorem um_eq {p e r : Nat} (hp : 1 ≤ p) (he : 1 ≤ e) : umE (p ^ (e * r)) (p ^ r) = (p ^ r - 1) * (p ^ r) ^ (e - 1) := by
  unfold umE
  obtain ⟨k, rfl⟩ : ∃ k, e = k + 1 := ⟨e - 1, by omega⟩
  have hq : 0 < p ^ r := Nat.pow_pos (by omega)
  rw [Nat.mul_comm (k + 1) r, Nat.pow_mul, Nat.pow_succ, Nat.mul_div_cancel _ hq, show k + 1 - 1 = k by omega, Nat.sub_mul, Nat.one_mul, Nat.mul_comm]
theorem qpow {p e r : Nat} (hr : 1 ≤ r) : (p ^ r) ^ (e - 1) = p ^ (e - 1) * p ^ ((r - 1) * (e - 1)) := by
  rw [← Nat.pow_mul, ← Nat.pow_add]
  congr 1
  obtain ⟨k, rfl⟩ : ∃ k, r = k + 1 := ⟨r - 1, by omega⟩
  rw [show k + 1 - 1 = k by omega, Nat.add_mul, Nat.one_mul, Nat.add_comm]
theorem RK.um (h : RK p e r m q f g) : umE (p ^ (e * r)) q = (q - 1) * p ^ (e - 1) * p ^ ((r - 1) * (e - 1)) := by
  rw [h.2.2.2.2.1, um_eq (by have := h.1; omega) h.2.1, qpow h.2.2.1, Nat.mul_assoc]
theorem RK.iv_one (h : RK p e r m q f g) (hx : El m r x) (hu : low p r m x ≠ 0) : tm m r f x (pw m r f x (ivN p e q)) = 1 := by
  have hq2 := h.q2
  have hp := h.1
  exact inv_of h.m2 h.2.2.1 hx (Nat.mul_pos (by omega) (Nat.pow_pos (by omega))) (h.u_pow hx hu)
/-! levels -/
theorem low_zero_iff {p r : Nat} {m x : Int} (hp : 0 < p) : low p r m x = 0 ↔ ∀ i, i < r → dg m i x % (p : Int) = 0 := by
  constructor
  · intro h i hi
    have h1 := (cg_low (m := m) (r := r) (x := x) (y := 0) hp).mp (h.trans (low_zero hp).symm) i hi
    rw [dg_zero, Int.zero_emod] at h1
    exact h1
  · intro h
    have h1 := (cg_low (m := m) (r := r) (x := x) (y := 0) hp).mpr (fun i hi => by rw [dg_zero, Int.zero_emod]; exact h i hi)
    exact h1.trans (low_zero hp)
theorem dg_bp {p r : Nat} {m x : Int} (hm : 0 < m) (hp : 1 ≤ p) {i : Nat} (hi : i < r) : dg m i (bp p r m x) = dg m i x / p := by
  unfold bp
  rw [dg_un hm, if_pos hi]
  have h := dg_range hm i x
  have h1 : 0 ≤ dg m i x / (p : Int) := Int.ediv_nonneg h.1 (by omega)
  have h2 : dg m i x / (p : Int) ≤ dg m i x := Int.ediv_le_self _ h.1
  exact Int.emod_eq_of_lt h1 (by omega)
theorem dg_bpn {p r : Nat} {m x : Int} (hm : 0 < m) (hp : 1 ≤ p) {i : Nat} (hi : i < r) : ∀ n, dg m i (bpn p r m x n) = dg m i x / (p : Int) ^ n
  | 0 => by
    show dg m i x = dg m i x / (p : Int) ^ 0
    rw [Int.pow_zero, Int.ediv_one]
  | n + 1 => by
    show dg m i (bp p r m (bpn p r m x n)) = _
    rw [dg_bp hm hp hi, dg_bpn hm hp hi n, Int.pow_succ, Int.ediv_ediv_of_nonneg (Int.pow_nonneg (by omega))]
theorem lv_test {p r : Nat} {m x : Int} (hm : 0 < m) (hp : 1 ≤ p) {n : Nat} (hv : ∀ i, i < r → dg m i x % (p : Int) ^ n = 0) : low p r m (bpn p r m x n) = 0 ↔ ∀ i, i < r → dg m i x % (p : Int) ^ (n + 1) = 0 := by
  have hpn : (0 : Int) < (p : Int) ^ n := Int.pow_pos (by omega)
  rw [low_zero_iff (by omega)]
  have key : ∀ i, i < r → (dg m i (bpn p r m x n) % (p : Int) = 0 ↔ dg m i x % (p : Int) ^ (n + 1) = 0) := fun i hi => by
    obtain ⟨t, ht⟩ := Int.dvd_of_emod_eq_zero (hv i hi)
    rw [dg_bpn hm hp hi, ht, Int.mul_ediv_cancel_left _ (by omega), Int.pow_succ, Int.mul_emod_mul_of_pos _ _ hpn]
    constructor
    · intro h; rw [h, Int.mul_zero]
    · intro h
      rcases Int.mul_eq_zero.mp h with h1 | h1
      · omega
      · exact h1
  exact ⟨fun h i hi => (key i hi).mp (h i hi), fun h i hi => (key i hi).mpr (h i hi)⟩
theorem RK.lv (h : RK p e r m q f g) (x : Int) : ∀ (k i : Nat), (∀ j, j < r → dg m j x % (p : Int) ^ i = 0) → lvE p r m (lgR p r m q f g) x i k = (lvM p r m x i k : Nat)
  | 0, i, _ => rfl
  | k + 1, i, hv => by
    have hm := h.m2
    have hp := h.1
    have ht := lv_test (m := m) (by omega) (by omega) hv
    show (if rl p r m (lgR p r m q f g) (bpn p r m x i) = -1 then lvE p r m (lgR p r m q f g) x (i + 1) k else (i : Int)) = ((if imB r m x ((p : Int) ^ (i + 1)) = true then lvM p r m x (i + 1) k else i : Nat) : Int)
    by_cases hc : ∀ j, j < r → dg m j x % (p : Int) ^ (i + 1) = 0
    · rw [if_pos (h.rl_no.mpr (ht.mpr hc)), if_pos (show imB r m x ((p : Int) ^ (i + 1)) = true from decide_eq_true hc)]
      exact h.lv x k (i + 1) hc
    · rw [if_neg (fun q => hc (ht.mp (h.rl_no.mp q))), if_neg (show ¬ imB r m x ((p : Int) ^ (i + 1)) = true from fun q => hc (of_decide_eq_true q))]
/-! rings within -/
end Unit
