/-! the counts of what is moved to itself, of traces, of units -/
theorem pgcd {p : Nat} (hp : 2 ≤ p) : ∀ (k a b : Nat), a ≤ k → Nat.gcd (p ^ a - 1) (p ^ b - 1) = p ^ Nat.gcd a b - 1
  | 0, a, b, h => by
    obtain rfl : a = 0 := by omega
    rw [Nat.pow_zero, Nat.sub_self, Nat.gcd_zero_left, Nat.gcd_zero_left]
  | k + 1, a, b, h => by
    rcases Nat.eq_zero_or_pos a with h0 | h0
    · subst h0
      rw [Nat.pow_zero, Nat.sub_self, Nat.gcd_zero_left, Nat.gcd_zero_left]
    · have ih := pgcd hp k (b % a) a (by have := Nat.mod_lt b h0; omega)
      have e1 : (p ^ b - 1) % (p ^ a - 1) = p ^ (b % a) - 1 := by
        have hpa : 1 ≤ p ^ a := Nat.pow_pos (by omega)
        obtain ⟨c, hc⟩ := qk (q := p ^ a) hpa (b / a)
        have h2 : p ^ b = p ^ (b % a) * (p ^ a) ^ (b / a) := by rw [← Nat.pow_mul, ← Nat.pow_add, Nat.mod_add_div]
        have h3 : p ^ (b % a) < p ^ a := Nat.pow_lt_pow_right (by omega) (Nat.mod_lt b h0)
        have h4 : 1 ≤ p ^ (b % a) := Nat.pow_pos (by omega)
        have h5 : p ^ b - 1 = (p ^ (b % a) - 1) + (p ^ a - 1) * (p ^ (b % a) * c) := by
          rw [h2, hc, Nat.mul_add, Nat.mul_one, ← Nat.mul_assoc, Nat.mul_comm (p ^ (b % a)) (p ^ a - 1), Nat.mul_assoc]; omega
        rw [h5, Nat.add_mul_mod_self_left]
        exact Nat.mod_eq_of_lt (by omega)
      rw [Nat.gcd_rec, e1, ih, ← Nat.gcd_rec]
section Fix
variable {p e r q : Nat} {m : Int} {f : Nat → Int} {g x y : Int}
theorem fix_t {Q P t : Nat} (hP : 1 ≤ P) (hQ : 0 < Q) (ht : t < Q) : t * P % Q = t ↔ Q / Nat.gcd (P - 1) Q ∣ t := by
  rw [← gcd_part hQ]
  obtain ⟨P', rfl⟩ : ∃ P', P = P' + 1 := ⟨P - 1, by omega⟩
  rw [Nat.add_sub_cancel, Nat.mul_add, Nat.mul_one, Nat.mul_comm t P']
  constructor
  · intro h
    have h1 := Nat.mod_add_div (P' * t + t) Q
    rw [h] at h1
    exact ⟨(P' * t + t) / Q, by omega⟩
  · rintro ⟨c, hc⟩
    rw [hc, Nat.add_comm, Nat.add_mul_mod_self_left, Nat.mod_eq_of_lt ht]
def dlt (A z : Int) : Int := if z = 0 then -1 else A * (z - 1)
theorem RK.many_fix (h : RK p e r m q f g) (k : Nat) : ctn (fun x => decide (mvn p r m f x k = x)) (p ^ (e * r)) = (p ^ Nat.gcd k r) ^ e := by
  have hp := h.1
  have hq2 := h.q2
  have hpk : 1 ≤ p ^ k := Nat.pow_pos (by omega)
  have hG : Nat.gcd (p ^ k - 1) (q - 1) = p ^ Nat.gcd k r - 1 := by rw [h.2.2.2.2.1]; exact pgcd hp k k r (Nat.le_refl _)
  have hs1 : 1 ≤ p ^ Nat.gcd k r := Nat.pow_pos (by omega)
  have hG0 : 0 < Nat.gcd (p ^ k - 1) (q - 1) := Nat.gcd_pos_of_pos_right _ (by omega)
  generalize hs : p ^ Nat.gcd k r = s at hG hs1
  have hAG := Nat.mul_div_cancel' (Nat.gcd_dvd_right (p ^ k - 1) (q - 1))
  have hft : ∀ t, t < q - 1 → (t * p ^ k % (q - 1) = t ↔ (q - 1) / Nat.gcd (p ^ k - 1) (q - 1) ∣ t) := fun t ht => fix_t hpk (by omega) ht
  rw [hG] at hAG hft hG0
  generalize (q - 1) / (s - 1) = A at hAG hft
  have hA0 : 0 < A := by
    rcases Nat.eq_zero_or_pos A with z | z
    · rw [z, Nat.mul_zero] at hAG; omega
    · exact z
  have hs2 : 2 ≤ s := by omega
  have hsi : (0 : Int) < s := by omega
  have hdt : ∀ z : Int, 0 ≤ z → z < s → (dlt A z = -1 ∧ z = 0) ∨ ∃ t : Nat, t < q - 1 ∧ dlt A z = t ∧ A ∣ t ∧ (t : Int) = A * (z - 1) ∧ 1 ≤ z := fun z h0 h1 => by
    unfold dlt
    by_cases hz : z = 0
    · exact Or.inl ⟨if_pos hz, hz⟩
    · obtain ⟨w, rfl⟩ : ∃ w : Nat, z = (w : Int) + 1 := ⟨(z - 1).toNat, by omega⟩
      refine Or.inr ⟨A * w, ?_, ?_, Nat.dvd_mul_right _ _, ?_, by omega⟩
      · rw [← hAG, Nat.mul_comm (s - 1) A]
        exact Nat.mul_lt_mul_of_pos_left (by omega) hA0
      · rw [if_neg hz, Int.add_sub_cancel, Int.natCast_mul]
      · rw [Int.add_sub_cancel, Int.natCast_mul]
  have hDG : ∀ t : Nat, DG q (fun i => dlt A (dg s i t)) e := fun t i _ => by
    have hr := dg_range hsi i (t : Int)
    rcases hdt _ hr.1 hr.2 with ⟨a, -⟩ | ⟨t, a, b, -⟩
    · exact Or.inl a
    · exact Or.inr ⟨t, a, b⟩
  have hel : ∀ d : Nat → Int, El m r (jnM p r q m f g d 1 e) := fun d => h.jn_el d 1 e
  refine ctn_bij (h := fun t => (jnM p r q m f g (fun i => dlt A (dg s i t)) 1 e).toNat) (fun t ht => ?_) (fun t u ht hu he => ?_) (fun x hx hP => ?_)
  · obtain ⟨h1, h2⟩ := h.nat_el (hel (fun i => dlt A (dg s i t)))
    refine ⟨h1, decide_eq_true ?_⟩
    rw [h2, h.fix_iff (hel _)]
    intro i hi
    rw [h.dd_jn (hDG t) i hi]
    have hr := dg_range hsi i (t : Int)
    rcases hdt _ hr.1 hr.2 with ⟨a, -⟩ | ⟨w, a, b, c, -⟩
    · exact Or.inl a
    · exact Or.inr ⟨w, a, b, (hft w a).mpr c⟩
  · obtain ⟨-, h2⟩ := h.nat_el (hel (fun i => dlt A (dg s i t)))
    obtain ⟨-, h4⟩ := h.nat_el (hel (fun i => dlt A (dg s i u)))
    have he : (jnM p r q m f g (fun i => dlt A (dg s i t)) 1 e).toNat = (jnM p r q m f g (fun i => dlt A (dg s i u)) 1 e).toNat := he
    rw [he, h4] at h2
    have h5 := h.jn_inj (hDG u) (hDG t) h2
    have h6 : ∀ i, i < e → dg (s : Int) i t = dg s i u := fun i hi => by
      have h7 : dlt A (dg s i u) = dlt A (dg s i t) := h5 i hi
      have r1 := dg_range hsi i (t : Int)
      have r2 := dg_range hsi i (u : Int)
      rcases hdt _ r1.1 r1.2 with ⟨a, b⟩ | ⟨w, a, b, c, d, d2⟩
      · rcases hdt _ r2.1 r2.2 with ⟨a', b'⟩ | ⟨w', a', b', c', d', d2'⟩
        · omega
        · omega
      · rcases hdt _ r2.1 r2.2 with ⟨a', b'⟩ | ⟨w', a', b', c', d', d2'⟩
        · omega
        · have h8 : (A : Int) * (dg s i t - 1) = A * (dg s i u - 1) := by omega
          have h9 := Int.eq_of_mul_eq_mul_left (by omega) h8
          omega
    have h8 : (t : Int) = u := el_ext (m := (s : Int)) (r := e) hsi ⟨by omega, by rw [← inat_pow]; omega⟩ ⟨by omega, by rw [← inat_pow]; omega⟩ h6
    omega
  · have hP := (h.fix_iff (h.el_nat hx) k).mp (of_decide_eq_true hP)
    have hz : ∀ i, i < e → ∃ z : Int, 0 ≤ z ∧ z < s ∧ dlt A z = ddR p e r q m f g x i := fun i hi => by
      rcases hP i hi with a | ⟨t, a, b, c⟩
      · exact ⟨0, by omega, by omega, by rw [a]; exact if_pos rfl⟩
      · obtain ⟨w, hw⟩ := (hft t a).mp c
        have hws : w < s - 1 := by
          rw [hw, ← hAG, Nat.mul_comm (s - 1) A] at a
          exact Nat.lt_of_mul_lt_mul_left a
        refine ⟨(w : Int) + 1, by omega, by omega, ?_⟩
        unfold dlt
        rw [if_neg (by omega), Int.add_sub_cancel, b, hw, Int.natCast_mul]
    have hzz : ∃ Z : Nat → Int, ∀ i, i < e → 0 ≤ Z i ∧ Z i < s ∧ dlt A (Z i) = ddR p e r q m f g x i := by
      refine ⟨fun i => if hi : i < e then Classical.choose (hz i hi) else 0, fun i hi => ?_⟩
      simp only [dif_pos hi]
      exact Classical.choose_spec (hz i hi)
    obtain ⟨Z, hZ⟩ := hzz
    have hu := un_range hsi e Z
    refine ⟨(un (s : Int) e Z).toNat, toNat_lt_of hu.1 (by rw [inat_pow]; exact hu.2), ?_⟩
    have hc : jnM p r q m f g (fun i => dlt A (dg s i ((un (s : Int) e Z).toNat : Nat))) 1 e = x := by
      rw [Int.toNat_of_nonneg hu.1, ← h.jn_all (h.el_nat hx)]
      refine h.jn_congr (fun i hi => ?_) e (Nat.le_refl _)
      obtain ⟨z1, z2, z3⟩ := hZ i hi
      have e1 : dlt A (dg s i (un (s : Int) e Z)) = ddR p e r q m f g x i := by
        rw [dg_un hsi, if_pos hi, Int.emod_eq_of_lt z1 z2, z3]
      rcases h.DGx x i hi with a | ⟨t, ht, a⟩
      · exact Or.inl ⟨e1.trans a, a⟩
      · exact Or.inr ⟨t, t, e1.trans a, a, rfl⟩
    show (jnM p r q m f g (fun i => dlt A (dg s i ((un (s : Int) e Z).toNat : Nat))) 1 e).toNat = x
    rw [hc]
    exact Int.toNat_natCast x
/-- what is moved to itself is a whole number below M -/
theorem RK.fixc (h : RK p e r m q f g) (hx : El m r x) (hf : mv p r m f x = x) : 0 ≤ x ∧ x < m := by
  have hm := h.m2
  have hr := h.2.2.1
  obtain ⟨hx1, hx2⟩ := h.nat_el hx
  refine ⟨hx.1, ?_⟩
  rcases Int.lt_or_le x m with hl | hl
  · exact hl
  have hc := h.many_fix 1
  rw [Nat.gcd_one_left, Nat.pow_one] at hc
  have hme : m = ((p ^ e : Nat) : Int) := by rw [h.2.2.2.1, inat_pow]
  have h1 := ctn_gt (P := fun x => decide (mvn p r m f x 1 = x)) (a := p ^ e) (x := x.toNat) (fun y hy => decide_eq_true (by show mv p r m f (y : Int) = y; exact h.mv_c ⟨by omega, by omega⟩)) (by omega) (decide_eq_true (by rw [hx2]; exact hf)) (p ^ (e * r)) hx1
  omega
theorem RK.tr_pl (h : RK p e r m q f g) (x y : Int) : ∀ k, trE p r m f (pl m r x y) k = pl m r (trE p r m f x k) (trE p r m f y k) ∧ mvn p r m f (pl m r x y) k = pl m r (mvn p r m f x k) (mvn p r m f y k)
  | 0 => by
    have hm := h.m2
    exact ⟨(pl_zero (by omega) (el_zero (by omega))).symm, rfl⟩
  | k + 1 => by
    have hm := h.m2
    have hm0 : 0 < m := by omega
    obtain ⟨h1, h2⟩ := h.tr_pl x y k
    constructor
    · show pl m r (trE p r m f (pl m r x y) k) (mvn p r m f (pl m r x y) k) = pl m r (pl m r (trE p r m f x k) (mvn p r m f x k)) (pl m r (trE p r m f y k) (mvn p r m f y k))
      rw [h1, h2, pl_assoc hm0, pl_assoc hm0, ← pl_assoc hm0 (trE p r m f y k), pl_comm (trE p r m f y k) (mvn p r m f x k), pl_assoc hm0 (mvn p r m f x k)]
    · show mv p r m f (mvn p r m f (pl m r x y) k) = pl m r (mv p r m f (mvn p r m f x k)) (mv p r m f (mvn p r m f y k))
      rw [h2, h.mv_pl]
theorem RK.tr_c (h : RK p e r m q f g) {c : Int} (hc : 0 ≤ c ∧ c < m) (hy : El m r y) : ∀ k, trE p r m f (tm m r f c y) k = tm m r f c (trE p r m f y k) ∧ mvn p r m f (tm m r f c y) k = tm m r f c (mvn p r m f y k)
  | 0 => by
    have hm := h.m2
    exact ⟨(tm_zero (by omega) c).symm, rfl⟩
  | k + 1 => by
    have hm := h.m2
    have hm0 : 0 < m := by omega
    obtain ⟨h1, h2⟩ := h.tr_c hc hy k
    constructor
    · show pl m r (trE p r m f (tm m r f c y) k) (mvn p r m f (tm m r f c y) k) = tm m r f c (pl m r (trE p r m f y k) (mvn p r m f y k))
      rw [h1, h2, tm_pl hm0 (tr_el hm0 k) (mvn_el hm0 hy k)]
    · show mv p r m f (mvn p r m f (tm m r f c y) k) = tm m r f c (mv p r m f (mvn p r m f y k))
      rw [h2, h.mv_tm, h.mv_c hc]
theorem RK.tr_sh (h : RK p e r m q f g) (hx : El m r x) : ∀ k, trE p r m f x (k + 1) = pl m r x (mv p r m f (trE p r m f x k))
  | 0 => by
    have hm := h.m2
    show pl m r 0 x = pl m r x (mv p r m f 0)
    rw [h.mv_c ⟨by omega, by omega⟩, pl_comm]
  | k + 1 => by
    have hm := h.m2
    have hm0 : 0 < m := by omega
    have ih := h.tr_sh hx k
    show pl m r (trE p r m f x (k + 1)) (mvn p r m f x (k + 1)) = pl m r x (mv p r m f (pl m r (trE p r m f x k) (mvn p r m f x k)))
    rw [h.mv_pl, ih, pl_assoc hm0]
    rfl
theorem RK.tr_const (h : RK p e r m q f g) (hx : El m r x) : 0 ≤ trE p r m f x r ∧ trE p r m f x r < m := by
  have hm := h.m2
  have hm0 : 0 < m := by omega
  refine h.fixc (tr_el hm0 r) ?_
  have h1 := h.tr_sh hx r
  have h2 : trE p r m f x (r + 1) = pl m r (trE p r m f x r) x := by
    show pl m r (trE p r m f x r) (mvn p r m f x r) = _
    rw [h.mvn_r hx]
  rw [h2, pl_comm x] at h1
  have h3 := congrArg (fun z => mi m r z x) h1
  have h3 : mi m r (pl m r (trE p r m f x r) x) x = mi m r (pl m r (mv p r m f (trE p r m f x r)) x) x := h3
  rw [mi_pl hm0 (tr_el hm0 r), mi_pl hm0 (mv_el hm0)] at h3
  exact h3.symm
theorem RK.many_tr (h : RK p e r m q f g) {y0 : Int} (hy : El m r y0) (h1 : trE p r m f y0 r = 1) (v : Nat) : ((ctn (fun x => decide (trE p r m f x r = (v : Int))) (p ^ (e * r)) : Nat) : Int) = if (v : Int) < m then ((p ^ (e * r) : Nat) : Int) / m else 0 := by
  have hm := h.m2
  have hm0 : 0 < m := by omega
  have hr := h.2.2.1
  by_cases hv : (v : Int) < m
  · rw [if_pos hv]
    obtain ⟨M, rfl⟩ : ∃ M : Nat, m = M := ⟨m.toNat, by omega⟩
    have hval : ∀ x : Nat, x < p ^ (e * r) → (trE p r M f x r).toNat < M ∧ (((trE p r M f x r).toNat : Nat) : Int) = trE p r M f x r := fun x hx => by
      have := h.tr_const (h.el_nat hx)
      exact ⟨by omega, by omega⟩
    have cls : ∀ w : Nat, w < M → ctn (fun x => decide ((trE p r M f x r).toNat = w)) (p ^ (e * r)) = ctn (fun x => decide ((trE p r M f x r).toNat = 0)) (p ^ (e * r)) := by
      intro w hw
      obtain ⟨u, u1, u2, u3⟩ := enum (fun x => decide ((trE p r M f x r).toNat = 0)) (p ^ (e * r))
      have hwe : El (M : Int) r (tm M r f w y0) := tm_el hm0 _ _
      have htw : trE p r M f (tm M r f w y0) r = w := by
        rw [(h.tr_c ⟨by omega, by omega⟩ hy r).1, h1, tm_one hm hr (el_const hm hr ⟨by omega, by omega⟩)]
      refine ctn_bij (h := fun t => (pl M r (u t) (tm M r f w y0)).toNat) (fun t ht => ?_) (fun s t hs ht he => ?_) (fun x hx hP => ?_)
      · obtain ⟨a1, a2⟩ := h.nat_el (pl_el (r := r) hm0 (u t : Int) (tm M r f w y0))
        refine ⟨a1, decide_eq_true ?_⟩
        obtain ⟨b1, b2⟩ := u1 t ht
        have b3 := of_decide_eq_true b2
        have b4 : trE p r M f (u t) r = 0 := by have := (hval (u t) b1).2; omega
        rw [a2, (h.tr_pl _ _ r).1, htw, b4, pl_zero hm0 (el_const hm hr ⟨by omega, by omega⟩)]
        exact Int.toNat_natCast w
      · obtain ⟨-, a2⟩ := h.nat_el (pl_el (r := r) hm0 (u s : Int) (tm M r f w y0))
        obtain ⟨-, a4⟩ := h.nat_el (pl_el (r := r) hm0 (u t : Int) (tm M r f w y0))
        have he : (pl M r (u s) (tm M r f w y0)).toNat = (pl M r (u t) (tm M r f w y0)).toNat := he
        rw [he, a4] at a2
        have b := congrArg (fun z => mi (M : Int) r z (tm M r f w y0)) a2
        have b : mi (M : Int) r (pl M r (u t) (tm M r f w y0)) (tm M r f w y0) = mi M r (pl M r (u s) (tm M r f w y0)) (tm M r f w y0) := b
        rw [mi_pl hm0 (h.el_nat (u1 t ht).1), mi_pl hm0 (h.el_nat (u1 s hs).1)] at b
        exact u2 s t hs ht (by omega)
      · have hP := of_decide_eq_true hP
        have hx2 := (hval x hx).2
        have hmz : El (M : Int) r (mi M r x (tm M r f w y0)) := mi_el hm0 _ _
        obtain ⟨c1, c2⟩ := h.nat_el hmz
        have hsum := pl_mi (y := tm (M : Int) r f w y0) hm0 (h.el_nat hx)
        have ht0 : trE p r M f (mi M r x (tm M r f w y0)) r = 0 := by
          have d1 := (h.tr_pl (mi M r x (tm M r f w y0)) (tm M r f w y0) r).1
          rw [hsum, htw] at d1
          have d2 : trE p r M f x r = w := by omega
          have d3 := congrArg (fun z => mi (M : Int) r z (w : Int)) d1
          have d3 : mi (M : Int) r (trE p r M f x r) w = mi M r (pl M r (trE p r M f (mi M r x (tm M r f w y0)) r) w) w := d3
          rw [mi_pl hm0 (tr_el hm0 r), d2, mi_self hm0] at d3
          exact d3.symm
        obtain ⟨j, j1, j2⟩ := u3 _ c1 (decide_eq_true (by rw [c2, ht0]; rfl))
        refine ⟨j, j1, ?_⟩
        show (pl M r (u j) (tm M r f w y0)).toNat = x
        rw [j2, c2, hsum]
        exact Int.toNat_natCast x
    have hsum := ctn_sum (c := fun x => (trE p r M f x r).toNat) (n := p ^ (e * r)) M (fun y hy9 => (hval y hy9).1) _ cls
    have hcv := cls v (by omega)
    have e1 : ctn (fun x => decide (trE p r M f x r = (v : Int))) (p ^ (e * r)) = ctn (fun x => decide ((trE p r M f x r).toNat = v)) (p ^ (e * r)) := ctn_congr fun y hy9 => by
      have := (hval y hy9).2
      by_cases hc : (trE p r M f y r).toNat = v
      · rw [decide_eq_true hc, decide_eq_true (by omega)]
      · rw [decide_eq_false hc, decide_eq_false (by omega)]
    rw [e1, hcv]
    generalize ctn (fun x => decide ((trE p r M f x r).toNat = 0)) (p ^ (e * r)) = K at hsum
    rw [hsum, Int.natCast_mul, Int.mul_ediv_cancel_left _ (by omega)]
  · rw [if_neg hv, ctn_none fun y hy9 => decide_eq_false (by have := h.tr_const (h.el_nat hy9); omega)]
    rfl
/-- the units that a power takes to 1 -/
theorem RK.many_un (h : RK p e r m q f g) {n : Nat} (hn : 1 ≤ n) : ctn (fun x => decide (rl p r m (lgR p r m q f g) x = 0) && decide (pw m r f x n = 1)) (p ^ (e * r)) * Nat.gcd n (q - 1) = ctn (fun x => decide (low p r m ((x : Int) + 1) ≠ 0) && decide (pw m r f ((x : Int) + 1) n = 1)) (p ^ (e * r) - 1) := by
  have hm := h.m2
  have hm0 : 0 < m := by omega
  have hr := h.2.2.1
  have hp := h.1
  have hq2 := h.q2
  have hg := h.2.2.2.2.2.1
  have hNp : 0 < p ^ (e * r) := Nat.pow_pos (by omega)
  have hsh := ctn_shift (Q := fun x : Nat => decide (low p r m (x : Int) ≠ 0) && decide (pw m r f (x : Int) n = 1)) (p ^ (e * r) - 1)
  rw [show p ^ (e * r) - 1 + 1 = p ^ (e * r) by omega, if_neg (by rw [show ((0 : Nat) : Int) = 0 from rfl, low_zero (by omega)]; simp), Nat.zero_add] at hsh
  have hsh2 : ctn (fun x : Nat => decide (low p r m (x : Int) ≠ 0) && decide (pw m r f (x : Int) n = 1)) (p ^ (e * r)) = ctn (fun x => decide (low p r m ((x : Int) + 1) ≠ 0) && decide (pw m r f ((x : Int) + 1) n = 1)) (p ^ (e * r) - 1) := hsh
  rw [← hsh2]
  symm
  obtain ⟨u, u1, u2, u3⟩ := enum (fun x : Nat => decide (rl p r m (lgR p r m q f g) x = 0) && decide (pw m r f x n = 1)) (p ^ (e * r))
  generalize ctn (fun x : Nat => decide (rl p r m (lgR p r m q f g) x = 0) && decide (pw m r f x n = 1)) (p ^ (e * r)) = B at u1 u2 u3
  have u4 : ∀ j, j < B → El m r (u j : Int) ∧ low p r m (u j) = low p r m 1 ∧ pw m r f (u j) n = 1 := fun j hj => by
    obtain ⟨a, b⟩ := u1 j hj
    rw [Bool.and_eq_true] at b
    exact ⟨h.el_nat a, h.rl0.mp (of_decide_eq_true b.1), of_decide_eq_true b.2⟩
  have hG0 : 0 < Nat.gcd n (q - 1) := Nat.gcd_pos_of_pos_right _ (by omega)
  have hAG := Nat.mul_div_cancel' (Nat.gcd_dvd_right n (q - 1))
  have hgp : ∀ k, q - 1 ∣ n * k ↔ (q - 1) / Nat.gcd n (q - 1) ∣ k := fun k => gcd_part (by omega)
  generalize Nat.gcd n (q - 1) = G at hG0 hAG hgp
  generalize (q - 1) / G = A at hAG hgp
  have hA0 : 0 < A := by
    rcases Nat.eq_zero_or_pos A with z | z
    · rw [z, Nat.mul_zero] at hAG; omega
    · exact z
  have hpk : ∀ k, pw m r f (pw m r f g k) n = 1 ↔ A ∣ k := fun k => by
    rw [← pw_mul hm hr hg, show (1 : Int) = pw m r f g 0 from rfl, h.iff, Nat.zero_mod, ← Nat.dvd_iff_mod_eq_zero, Nat.mul_comm]
    exact hgp k
  have hlow : ∀ (k : Nat) (z : Int), El m r z → low p r m z = low p r m 1 → low p r m (tm m r f (pw m r f g k) z) = low p r m (pw m r f g k) := fun k z hz hl => (h.low_tm (x' := pw m r f g k) hz (el_one hm hr) rfl hl).trans (by rw [tm_one hm hr (h.el k)])
  refine ctn_bij (h := fun t => (tm m r f (pw m r f g (A * (t % G))) (u (t / G))).toNat) (fun t ht => ?_) (fun s t hs ht he => ?_) (fun x hx hP => ?_)
  · have hj : t / G < B := Nat.div_lt_of_lt_mul (by rw [Nat.mul_comm]; exact ht)
    obtain ⟨a1, a2, a3⟩ := u4 _ hj
    obtain ⟨b1, b2⟩ := h.nat_el (tm_el (f := f) (r := r) hm0 (pw m r f g (A * (t % G))) (u (t / G)))
    refine ⟨b1, ?_⟩
    rw [b2, Bool.and_eq_true]
    refine ⟨decide_eq_true (by rw [hlow _ _ a1 a2]; exact h.lpos _), decide_eq_true ?_⟩
    rw [pw_tm hm hr (h.el _) a1, a3, (hpk _).mpr (Nat.dvd_mul_right _ _), one_tm hm hr (el_one hm hr)]
  · have hj1 : s / G < B := Nat.div_lt_of_lt_mul (by rw [Nat.mul_comm]; exact hs)
    have hj2 : t / G < B := Nat.div_lt_of_lt_mul (by rw [Nat.mul_comm]; exact ht)
    obtain ⟨a1, a2, a3⟩ := u4 _ hj1
    obtain ⟨c1, c2, c3⟩ := u4 _ hj2
    obtain ⟨-, b2⟩ := h.nat_el (tm_el (f := f) (r := r) hm0 (pw m r f g (A * (s % G))) (u (s / G)))
    obtain ⟨-, b4⟩ := h.nat_el (tm_el (f := f) (r := r) hm0 (pw m r f g (A * (t % G))) (u (t / G)))
    have he : (tm m r f (pw m r f g (A * (s % G))) (u (s / G))).toNat = (tm m r f (pw m r f g (A * (t % G))) (u (t / G))).toNat := he
    rw [he, b4] at b2
    have hl := congrArg (low p r m) b2
    rw [hlow _ _ a1 a2, hlow _ _ c1 c2] at hl
    have hlt : ∀ w : Nat, A * (w % G) < q - 1 := fun w => by
      rw [← hAG, Nat.mul_comm G A]
      exact Nat.mul_lt_mul_of_pos_left (Nat.mod_lt w hG0) hA0
    have hk := h.inj (hlt t) (hlt s) (h.linj hl)
    have hmod : t % G = s % G := Nat.eq_of_mul_eq_mul_left hA0 hk
    rw [hmod] at b2
    have huu := tm_cancel hm hr (h.el _) (h.el _) (h.inv (A * (s % G))) c1 a1 b2
    have hdiv : t / G = s / G := u2 _ _ hj2 hj1 (by omega)
    rw [← Nat.mod_add_div s G, ← Nat.mod_add_div t G, hmod, hdiv]
  · rw [Bool.and_eq_true] at hP
    have hu := of_decide_eq_true hP.1
    have h1 := of_decide_eq_true hP.2
    have hel := h.el_nat hx
    obtain ⟨k, hk, k1, k2, k3, k4, k5⟩ := h.split hel hu
    generalize obl p e r q m f g (lgR p r m q f g) x = w at k3 k4 k5
    have hl : low p r m (pw m r f x n) = low p r m (pw m r f (pw m r f g k) n) := h.low_pw hel (h.el k) (by rw [k5]; exact hlow k w k4 k3) n
    rw [h1, ← pw_mul hm hr hg] at hl
    have hg0 : pw m r f g (k * n) = 1 := (h.linj (a := k * n) (b := 0) hl.symm).trans rfl
    rw [pw_mul hm hr hg] at hg0
    obtain ⟨j, hj⟩ := (hpk k).mp hg0
    have hjG : j < G := by
      rw [hj, ← hAG, Nat.mul_comm G A] at hk
      exact Nat.lt_of_mul_lt_mul_left hk
    rw [k5, pw_tm hm hr (h.el k) k4, hg0, one_tm hm hr (pw_el hm hr _ _)] at h1
    obtain ⟨w1, w2⟩ := h.nat_el k4
    obtain ⟨i, i1, i2⟩ := u3 w.toNat w1 (by rw [Bool.and_eq_true, w2]; exact ⟨decide_eq_true (h.rl0.mpr k3), decide_eq_true h1⟩)
    refine ⟨j + G * i, ?_, ?_⟩
    · calc j + G * i < G + G * i := by omega
        _ = G * (i + 1) := by rw [Nat.mul_add, Nat.mul_one]; omega
        _ ≤ G * B := Nat.mul_le_mul_left G i1
        _ = B * G := Nat.mul_comm _ _
    · show (tm m r f (pw m r f g (A * ((j + G * i) % G))) (u ((j + G * i) / G))).toNat = x
      rw [Nat.add_mul_mod_self_left, Nat.mod_eq_of_lt hjG, Nat.add_mul_div_left _ _ hG0, Nat.div_eq_of_lt hjG, Nat.zero_add, i2, w2, ← hj, ← k5]
      exact Int.toNat_natCast x
end Fix
