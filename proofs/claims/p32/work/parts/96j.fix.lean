/-! the counts of what is moved to itself, of traces, of units -/
theorem pgcd {p : Nat} (hp : 2 ≤ p) : ∀ (k a b : Nat), a ≤ k → Nat.gcd (p ^ a - 1) (p ^ b - 1) = p ^ Nat.gcd a b - 1
  | 0, a, b, h => by
    obtain rfl : a = 0 := by omega
    rw [Nat.pow_zero, Nat.sub_self, Nat.gcd_zero_left, Nat.gcd_zero_left]
  | k + 1, a, b, h => by
    rcases Nat.eq_zero_or_pos a with h0 | h0
    · subst h0
      rw [Nat.pow_zero, Nat.sub_self, Nat.gcd_zero_left, Nat.gcd_zero_left]
    · have ih := pgcd hp k (b % a) a (by have := Nat.mod_lt b h0; omega)
      have e1 : (p ^ b - 1) % (p ^ a - 1) = p ^ (b % a) - 1 := by
        have hpa : 1 ≤ p ^ a := Nat.pow_pos (by omega)
        obtain ⟨c, hc⟩ := qk (q := p ^ a) hpa (b / a)
        have h2 : p ^ b = p ^ (b % a) * (p ^ a) ^ (b / a) := by rw [← Nat.pow_mul, ← Nat.pow_add, Nat.mod_add_div]
        have h3 : p ^ (b % a) < p ^ a := Nat.pow_lt_pow_right (by omega) (Nat.mod_lt b h0)
        have h4 : 1 ≤ p ^ (b % a) := Nat.pow_pos (by omega)
        have h5 : p ^ b - 1 = (p ^ (b % a) - 1) + (p ^ a - 1) * (p ^ (b % a) * c) := by
          rw [h2, hc, Nat.mul_add, Nat.mul_one, ← Nat.mul_assoc, Nat.mul_comm (p ^ (b % a)) (p ^ a - 1), Nat.mul_assoc]; omega
        rw [h5, Nat.add_mul_mod_self_left]
        exact Nat.mod_eq_of_lt (by omega)
      rw [Nat.gcd_rec, e1, ih, ← Nat.gcd_rec]
section Fix
variable {p e r q : Nat} {m : Int} {f : Nat → Int} {g x y : Int}
theorem fix_t {Q P t : Nat} (hP : 1 ≤ P) (hQ : 0 < Q) (ht : t < Q) : t * P % Q = t ↔ Q / Nat.gcd (P - 1) Q ∣ t := by
  rw [← gcd_part hQ]
  obtain ⟨P', rfl⟩ : ∃ P', P = P' + 1 := ⟨P - 1, by omega⟩
  rw [Nat.add_sub_cancel, Nat.mul_add, Nat.mul_one, Nat.mul_comm t P']
  constructor
  · intro h
    have h1 := Nat.mod_add_div (P' * t + t) Q
    rw [h] at h1
    exact ⟨(P' * t + t) / Q, by omega⟩
  · rintro ⟨c, hc⟩
    rw [hc, Nat.add_comm, Nat.add_mul_mod_self_left, Nat.mod_eq_of_lt ht]
def dlt (A z : Int) : Int := if z = 0 then -1 else A * (z - 1)
theorem RK.many_fix (h : RK p e r m q f g) (k : Nat) : ctn (fun x => decide (mvn p r m f x k = x)) (p ^ (e * r)) = (p ^ Nat.gcd k r) ^ e := by
  have hp := h.1
  have hq2 := h.q2
  have hpk : 1 ≤ p ^ k := Nat.pow_pos (by omega)
  have hG : Nat.gcd (p ^ k - 1) (q - 1) = p ^ Nat.gcd k r - 1 := by rw [h.2.2.2.2.1]; exact pgcd hp k k r (Nat.le_refl _)
  have hs1 : 1 ≤ p ^ Nat.gcd k r := Nat.pow_pos (by omega)
  have hG0 : 0 < Nat.gcd (p ^ k - 1) (q - 1) := Nat.gcd_pos_of_pos_right _ (by omega)
  generalize hs : p ^ Nat.gcd k r = s at hG hs1
  have hAG := Nat.mul_div_cancel' (Nat.gcd_dvd_right (p ^ k - 1) (q - 1))
  have hft : ∀ t, t < q - 1 → (t * p ^ k % (q - 1) = t ↔ (q - 1) / Nat.gcd (p ^ k - 1) (q - 1) ∣ t) := fun t ht => fix_t hpk (by omega) ht
  rw [hG] at hAG hft hG0
  generalize (q - 1) / (s - 1) = A at hAG hft
  have hA0 : 0 < A := by
    rcases Nat.eq_zero_or_pos A with z | z
    · rw [z, Nat.mul_zero] at hAG; omega
    · exact z
  have hs2 : 2 ≤ s := by omega
  have hsi : (0 : Int) < s := by omega
  have hdt : ∀ z : Int, 0 ≤ z → z < s → (dlt A z = -1 ∧ z = 0) ∨ ∃ t : Nat, t < q - 1 ∧ dlt A z = t ∧ A ∣ t ∧ (t : Int) = A * (z - 1) ∧ 1 ≤ z := fun z h0 h1 => by
    unfold dlt
    by_cases hz : z = 0
    · exact Or.inl ⟨if_pos hz, hz⟩
    · obtain ⟨w, rfl⟩ : ∃ w : Nat, z = (w : Int) + 1 := ⟨(z - 1).toNat, by omega⟩
      refine Or.inr ⟨A * w, ?_, ?_, Nat.dvd_mul_right _ _, ?_, by omega⟩
      · rw [← hAG, Nat.mul_comm (s - 1) A]
        exact Nat.mul_lt_mul_of_pos_left (by omega) hA0
      · rw [if_neg hz, Int.add_sub_cancel, Int.natCast_mul]
      · rw [Int.add_sub_cancel, Int.natCast_mul]
  have hDG : ∀ t : Nat, DG q (fun i => dlt A (dg s i t)) e := fun t i _ => by
    have hr := dg_range hsi i (t : Int)
    rcases hdt _ hr.1 hr.2 with ⟨a, -⟩ | ⟨t, a, b, -⟩
    · exact Or.inl a
    · exact Or.inr ⟨t, a, b⟩
  have hel : ∀ d : Nat → Int, El m r (jnM p r q m f g d 1 e) := fun d => h.jn_el d 1 e
  refine ctn_bij (h := fun t => (jnM p r q m f g (fun i => dlt A (dg s i t)) 1 e).toNat) (fun t ht => ?_) (fun t u ht hu he => ?_) (fun x hx hP => ?_)
  · obtain ⟨h1, h2⟩ := h.nat_el (hel (fun i => dlt A (dg s i t)))
    refine ⟨h1, decide_eq_true ?_⟩
    rw [h2, h.fix_iff (hel _)]
    intro i hi
    rw [h.dd_jn (hDG t) i hi]
    have hr := dg_range hsi i (t : Int)
    rcases hdt _ hr.1 hr.2 with ⟨a, -⟩ | ⟨w, a, b, c, -⟩
    · exact Or.inl a
    · exact Or.inr ⟨w, a, b, (hft w a).mpr c⟩
  · obtain ⟨-, h2⟩ := h.nat_el (hel (fun i => dlt A (dg s i t)))
    obtain ⟨-, h4⟩ := h.nat_el (hel (fun i => dlt A (dg s i u)))
    have he : (jnM p r q m f g (fun i => dlt A (dg s i t)) 1 e).toNat = (jnM p r q m f g (fun i => dlt A (dg s i u)) 1 e).toNat := he
    rw [he, h4] at h2
    have h5 := h.jn_inj (hDG u) (hDG t) h2
    have h6 : ∀ i, i < e → dg (s : Int) i t = dg s i u := fun i hi => by
      have h7 : dlt A (dg s i u) = dlt A (dg s i t) := h5 i hi
      have r1 := dg_range hsi i (t : Int)
      have r2 := dg_range hsi i (u : Int)
      rcases hdt _ r1.1 r1.2 with ⟨a, b⟩ | ⟨w, a, b, c, d, d2⟩
      · rcases hdt _ r2.1 r2.2 with ⟨a', b'⟩ | ⟨w', a', b', c', d', d2'⟩
        · omega
        · omega
      · rcases hdt _ r2.1 r2.2 with ⟨a', b'⟩ | ⟨w', a', b', c', d', d2'⟩
        · omega
        · have h8 : (A : Int) * (dg s i t - 1) = A * (dg s i u - 1) := by omega
          have h9 := Int.eq_of_mul_eq_mul_left (by omega) h8
          omega
    have h8 : (t : Int) = u := el_ext (m := (s : Int)) (r := e) hsi ⟨by omega, by rw [← inat_pow]; omega⟩ ⟨by omega, by rw [← inat_pow]; omega⟩ h6
    omega
  · have hP := (h.fix_iff (h.el_nat hx) k).mp (of_decide_eq_true hP)
    have hz : ∀ i, i < e → ∃ z : Int, 0 ≤ z ∧ z < s ∧ dlt A z = ddR p e r q m f g x i := fun i hi => by
      rcases hP i hi with a | ⟨t, a, b, c⟩
      · exact ⟨0, by omega, by omega, by rw [a]; exact if_pos rfl⟩
      · obtain ⟨w, hw⟩ := (hft t a).mp c
        have hws : w < s - 1 := by
          rw [hw, ← hAG, Nat.mul_comm (s - 1) A] at a
          exact Nat.lt_of_mul_lt_mul_left a
        refine ⟨(w : Int) + 1, by omega, by omega, ?_⟩
        unfold dlt
        rw [if_neg (by omega), Int.add_sub_cancel, b, hw, Int.natCast_mul]
    have hzz : ∃ Z : Nat → Int, ∀ i, i < e → 0 ≤ Z i ∧ Z i < s ∧ dlt A (Z i) = ddR p e r q m f g x i := by
      refine ⟨fun i => if hi : i < e then Classical.choose (hz i hi) else 0, fun i hi => ?_⟩
      simp only [dif_pos hi]
      exact Classical.choose_spec (hz i hi)
    obtain ⟨Z, hZ⟩ := hzz
    have hu := un_range hsi e Z
    refine ⟨(un (s : Int) e Z).toNat, toNat_lt_of hu.1 (by rw [inat_pow]; exact hu.2), ?_⟩
    have hc : jnM p r q m f g (fun i => dlt A (dg s i ((un (s : Int) e Z).toNat : Nat))) 1 e = x := by
      rw [Int.toNat_of_nonneg hu.1, ← h.jn_all (h.el_nat hx)]
      refine h.jn_congr (fun i hi => ?_) e (Nat.le_refl _)
      obtain ⟨z1, z2, z3⟩ := hZ i hi
      have e1 : dlt A (dg s i (un (s : Int) e Z)) = ddR p e r q m f g x i := by
        rw [dg_un hsi, if_pos hi, Int.emod_eq_of_lt z1 z2, z3]
      rcases h.DGx x i hi with a | ⟨t, ht, a⟩
      · exact Or.inl ⟨e1.trans a, a⟩
      · exact Or.inr ⟨t, t, e1.trans a, a, rfl⟩
    show (jnM p r q m f g (fun i => dlt A (dg s i ((un (s : Int) e Z).toNat : Nat))) 1 e).toNat = x
    rw [hc]
    exact Int.toNat_natCast x
/-- what is moved to itself is a whole number below M -/
theorem RK.fixc (h : RK p e r m q f g) (hx : El m r x) (hf : mv p r m f x = x) : 0 ≤ x ∧ x < m := by
  have hm := h.m2
  have hr := h.2.2.1
  obtain ⟨hx1, hx2⟩ := h.nat_el hx
  refine ⟨hx.1, ?_⟩
  rcases Int.lt_or_le x m with hl | hl
  · exact hl
  have hc := h.many_fix 1
  rw [Nat.gcd_one_left, Nat.pow_one] at hc
  have hme : m = ((p ^ e : Nat) : Int) := by rw [h.2.2.2.1, inat_pow]
  have h1 := ctn_gt (P := fun x => decide (mvn p r m f x 1 = x)) (a := p ^ e) (x := x.toNat) (fun y hy => decide_eq_true (by show mv p r m f (y : Int) = y; exact h.mv_c ⟨by omega, by omega⟩)) (by omega) (decide_eq_true (by rw [hx2]; exact hf)) (p ^ (e * r)) hx1
  omega
theorem RK.tr_pl (h : RK p e r m q f g) (x y : Int) : ∀ k, trE p r m f (pl m r x y) k = pl m r (trE p r m f x k) (trE p r m f y k) ∧ mvn p r m f (pl m r x y) k = pl m r (mvn p r m f x k) (mvn p r m f y k)
  | 0 => by
    have hm := h.m2
    exact ⟨(pl_zero (by omega) (el_zero (by omega))).symm, rfl⟩
  | k + 1 => by
    have hm := h.m2
    have hm0 : 0 < m := by omega
    obtain ⟨h1, h2⟩ := h.tr_pl x y k
    constructor
    · show pl m r (trE p r m f (pl m r x y) k) (mvn p r m f (pl m r x y) k) = pl m r (pl m r (trE p r m f x k) (mvn p r m f x k)) (pl m r (trE p r m f y k) (mvn p r m f y k))
      rw [h1, h2, pl_assoc hm0, pl_assoc hm0, ← pl_assoc hm0 (trE p r m f y k), pl_comm (trE p r m f y k) (mvn p r m f x k), pl_assoc hm0 (mvn p r m f x k)]
    · show mv p r m f (mvn p r m f (pl m r x y) k) = pl m r (mv p r m f (mvn p r m f x k)) (mv p r m f (mvn p r m f y k))
      rw [h2, h.mv_pl]
theorem RK.tr_sh (h : RK p e r m q f g) (hx : El m r x) : ∀ k, trE p r m f x (k + 1) = pl m r x (mv p r m f (trE p r m f x k))
  | 0 => by
    have hm := h.m2
    show pl m r 0 x = pl m r x (mv p r m f 0)
    rw [h.mv_c ⟨by omega, by omega⟩, pl_comm]
  | k + 1 => by
    have hm := h.m2
    have hm0 : 0 < m := by omega
    have ih := h.tr_sh hx k
    show pl m r (trE p r m f x (k + 1)) (mvn p r m f x (k + 1)) = pl m r x (mv p r m f (pl m r (trE p r m f x k) (mvn p r m f x k)))
    rw [h.mv_pl, ih, pl_assoc hm0]
    rfl
theorem RK.tr_const (h : RK p e r m q f g) (hx : El m r x) : 0 ≤ trE p r m f x r ∧ trE p r m f x r < m := by
  have hm := h.m2
  have hm0 : 0 < m := by omega
  refine h.fixc (tr_el hm0 r) ?_
  have h1 := h.tr_sh hx r
  have h2 : trE p r m f x (r + 1) = pl m r (trE p r m f x r) x := by
    show pl m r (trE p r m f x r) (mvn p r m f x r) = _
    rw [h.mvn_r hx]
  rw [h2, pl_comm x] at h1
  have h3 := congrArg (fun z => mi m r z x) h1
  have h3 : mi m r (pl m r (trE p r m f x r) x) x = mi m r (pl m r (mv p r m f (trE p r m f x r)) x) x := h3
  rw [mi_pl hm0 (tr_el hm0 r), mi_pl hm0 (mv_el hm0)] at h3
  exact h3.symm
end Fix
