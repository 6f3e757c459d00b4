/-! Below: polynomials modulo p; exists, toRoot -/
theorem ipow_mono {p : Int} (hp : 1 ≤ p) {a b : Nat} (h : a ≤ b) : p ^ a ≤ p ^ b := by
  obtain ⟨k, rfl⟩ : ∃ k, b = a + k := ⟨b - a, by omega⟩
  rw [Int.pow_add]
  have h1 : 0 < p ^ a := Int.pow_pos (by omega)
  have h2 : 0 < p ^ k := Int.pow_pos (by omega)
  have h3 : p ^ a * 1 ≤ p ^ a * p ^ k := Int.mul_le_mul_of_nonneg_left (by omega) (by omega)
  omega
theorem dg_ediv {m : Int} (hm : 0 < m) : ∀ (i : Nat) (x : Int), dg m i x = x / m ^ i % m
  | 0, x => by
    show x % m = _
    rw [Int.pow_zero, Int.ediv_one]
  | i + 1, x => by
    show dg m i (x / m) = _
    rw [dg_ediv hm i, Int.pow_succ, Int.mul_comm, Int.ediv_ediv_of_nonneg (by omega)]
/-- what remains of x, k steps of division by g (degree d) to come -/
def lbE (p : Int) (d : Nat) (g : Int) : Nat → Int → Int
  | 0, x => x
  | k + 1, x => lbE p d g k (mixI p (p - x / p ^ (d + k)) 31 x (g * p ^ k))
theorem lb_step {p : Int} {n d k : Nat} (hn : n = d + k) (hp : 2 ≤ p) (hn2 : n + 1 ≤ 31) {x g : Int} (hx : 0 ≤ x) (hx2 : x < p ^ (n + 1)) (hg : p ^ d ≤ g) (hg2 : g < 2 * p ^ d) :
    0 ≤ x / p ^ n ∧ x / p ^ n < p ∧ 0 ≤ mixI p (p - x / p ^ n) 31 x (g * p ^ k) ∧ mixI p (p - x / p ^ n) 31 x (g * p ^ k) < p ^ n ∧ p ^ n ≤ g * p ^ k ∧ g * p ^ k < 2 * p ^ n := by
  subst hn
  have hB : 0 < p ^ (d + k) := Int.pow_pos (by omega)
  have hk : 0 < p ^ k := Int.pow_pos (by omega)
  have e1 : p ^ (d + k) = p ^ d * p ^ k := Int.pow_add _ _ _
  have h1 : 0 ≤ x / p ^ (d + k) := Int.ediv_nonneg hx (by omega)
  have h2 : x / p ^ (d + k) < p := Int.ediv_lt_of_lt_mul hB (by rw [Int.mul_comm, ← Int.pow_succ]; exact hx2)
  have h3 : p ^ (d + k) ≤ g * p ^ k := by rw [e1]; exact Int.mul_le_mul_of_nonneg_right hg (by omega)
  have h4 : g * p ^ k < 2 * p ^ (d + k) := by rw [e1, ← Int.mul_assoc]; exact Int.mul_lt_mul_of_pos_right hg2 hk
  have h5 : 2 * p ^ (d + k) ≤ p ^ (d + k + 1) := by rw [Int.pow_succ, Int.mul_comm]; exact Int.mul_le_mul_of_nonneg_left hp (by omega)
  have e2 : g * p ^ k / p ^ (d + k) = 1 := by
    have e3 : g * p ^ k = (g * p ^ k - p ^ (d + k)) + p ^ (d + k) * 1 := by omega
    rw [e3, Int.add_mul_ediv_left _ _ (by omega), Int.ediv_eq_zero_of_lt (by omega) (by omega), Int.zero_add]
  refine ⟨h1, h2, ?_⟩
  rw [mixI_r (by omega) hn2 hx hx2 (by omega) (by omega), un_more (d + k) 1]
  · obtain ⟨h6, h7⟩ := un_range (m := p) (by omega) (d + k) (fun i => dg p i x + (p - x / p ^ (d + k)) * dg p i (g * p ^ k))
    exact ⟨h6, h7, h3, h4⟩
  · intro i hi
    by_cases he : i = d + k
    · subst he
      rw [dg_ediv (by omega), dg_ediv (by omega), e2, Int.emod_eq_of_lt h1 h2, Int.emod_eq_of_lt (show (0:Int) ≤ 1 by decide) (by omega), Int.mul_one]
      rw [show x / p ^ (d + k) + (p - x / p ^ (d + k)) = p by omega, Int.emod_self]
    · rw [dg_big (by omega) (d + k + 1) i x hx hx2 (by omega), dg_big (by omega) (d + k + 1) i _ (by omega) (by omega) (by omega)]
      simp
set_option maxRecDepth 20000 in
theorem lp_leftBy {f0 g p : Int} {r d : Nat} {F : HF} {A : HA} {al : AL} (hp : 2 ≤ p) (hp7 : p ≤ 7) (hr : r ≤ 6) (hg : p ^ d ≤ g) (hg2 : g < 2 * p ^ d) (hB : p ^ r ≤ 4096) : ∀ (k : Nat) (x : Int) (l7 l8 : Option LV), d + k ≤ r + 1 → 0 ≤ x → x < p ^ (d + k) →
    QW mX0_leftBy 2 0 0 (PI (lbE p d g k x) F A al) 0 0 8 [some (vI f0), some (vI r), some (vI g), some (vI d), some (vI p), some (vI x), some (vI ((k : Int) - 1)), l7, l8] [] F A al := by
  intro k
  have hB7 : p ^ (r + 1) ≤ 28672 := by
    rw [Int.pow_succ]
    have h1 : p ^ r * p ≤ 4096 * p := Int.mul_le_mul_of_nonneg_right hB (by omega)
    omega
  induction k with
  | zero =>
    intro x l7 l8 hd hx hx2
    have hx3 : p ^ (d + 0) ≤ p ^ (r + 1) := ipow_mono (by omega) hd
    refine q_iload eX0_leftBy_8 rfl ?_
    refine q_if_lt (tgt := 62) eX0_leftBy_10 (by decide) (by first | assumption | exact ⟨by omega, by omega⟩) (fun c10 => ?_) (fun c10 => ?_)
    · refine q_iload eX0_leftBy_62 rfl ?_
      refine q_retI eX0_leftBy_64 rfl (by decide) (by decide) ?_
      exact PI_ok rfl
    · exact absurd c10 (by omega)
  | succ k ih =>
    intro x l7 l8 hd hx hx2
    have e0 : ((k + 1 : Nat) : Int) - 1 = (k : Int) := by omega
    rw [e0]
    obtain ⟨s1, s2, s3, s4, s5, s6⟩ := lb_step (n := d + k) rfl hp (by omega) hx hx2 hg hg2
    have hx3 : p ^ (d + (k + 1)) ≤ p ^ (r + 1) := ipow_mono (by omega) hd
    have hx4 : p ^ (d + k) ≤ p ^ (r + 1) := ipow_mono (by omega) (by omega)
    have hxp : 0 < p ^ (d + k) := Int.pow_pos (by omega)
    have e1 : ((d : Int) + k) = ((d + k : Nat) : Int) := by omega
    have e2 : (p - x / p ^ (d + k) + 1) * p ≤ 8 * 7 := Int.mul_le_mul (by omega) hp7 (by omega) (by omega)
    have hr9 : InR (mixI p (p - x / p ^ (d + k)) 31 x (g * p ^ k)) := ⟨by omega, by omega⟩
    refine q_iload eX0_leftBy_8 rfl ?_
    refine q_if_lt (tgt := 62) eX0_leftBy_10 (by decide) (by first | assumption | exact ⟨by omega, by omega⟩) (fun c10 => ?_) (fun c10 => ?_)
    · exact absurd c10 (by omega)
    · refine q_iload eX0_leftBy_13 rfl ?_
      refine q_iload eX0_leftBy_15 rfl ?_
      refine q_callSP [vI p, vI k] (M1 := mX7_raise) eX0_leftBy_17 mf_X7_raise lk_X0_7 (ev_raiseN (by omega)) (by decide) (by decide) (by decide) (Nat.le_of_ble_eq_true rfl) rfl ?_
      refine q_istore eX0_leftBy_20 (by decide) rfl ?_
      refine q_iload eX0_leftBy_22 rfl ?_
      refine q_iload eX0_leftBy_24 rfl ?_
      refine q_iload_n eX0_leftBy_26 rfl ?_
      refine q_iload eX0_leftBy_27 rfl ?_
      refine q_iadd eX0_leftBy_29 ?_
      rw [e1]
      refine q_callSP [vI p, vI (d + k : Nat)] (M1 := mX7_raise) eX0_leftBy_30 mf_X7_raise lk_X0_7 (ev_raiseN (by omega)) (by decide) (by decide) (by decide) (Nat.le_of_ble_eq_true rfl) rfl ?_
      refine q_callSP [vI x, vI (p ^ (d + k))] (M1 := mX7_quotient) eX0_leftBy_33 mf_X7_quotient lk_X0_23 (ev_quotP hx (by omega) hxp (by omega)) (by decide) (by decide) (by decide) (Nat.le_of_ble_eq_true rfl) rfl ?_
      refine q_istore eX0_leftBy_36 (by decide) rfl ?_
      refine q_iload eX0_leftBy_38 rfl ?_
      refine q_iload_n eX0_leftBy_40 rfl ?_
      refine q_iload eX0_leftBy_41 rfl ?_
      refine q_imul eX0_leftBy_43 ?_
      refine q_iload eX0_leftBy_44 rfl ?_
      refine q_iload eX0_leftBy_46 rfl ?_
      refine q_isub eX0_leftBy_48 ?_
      refine q_iload eX0_leftBy_49 rfl ?_
      refine q_callSP [vI x, vI (g * p ^ k), vI (p - x / p ^ (d + k)), vI p] (M1 := mX7_mix) eX0_leftBy_51 mf_X7_mix lk_X0_26 (ev_mix hx (by omega) (by omega) (by omega) (by omega) (by omega) (by omega) (by omega)) (by decide) (by decide) (by decide) (Nat.le_of_ble_eq_true rfl) rfl ?_
      rw [if_neg (show ¬ p < 2 by omega)]
      refine q_istore eX0_leftBy_54 (by decide) rfl ?_
      refine q_iinc eX0_leftBy_56 rfl (by decide) rfl ?_
      refine q_goto (tgt := 8) eX0_leftBy_59 (by decide) ?_
      rw [show (k : Int) + -1 = (k : Int) - 1 by omega]
      exact ih _ _ _ (by omega) s3 s4
set_option maxRecDepth 20000 in
theorem ev_leftBy {x g p : Int} {r d : Nat} {F : HF} {A : HA} {al : AL} (hp : 2 ≤ p) (hp7 : p ≤ 7) (hr : r ≤ 6) (hd : d ≤ r) (hg : p ^ d ≤ g) (hg2 : g < 2 * p ^ d) (hB : p ^ r ≤ 4096) (hx : 0 ≤ x) (hx2 : x < p ^ (r + 1)) : QE 2 0 0 mX0_leftBy [vI x, vI r, vI g, vI d, vI p] F A al (PI (lbE p d g (r - d + 1) x) F A al) := by
  refine QE.mk (by decide +kernel) (Nat.le_of_ble_eq_true rfl) ?_
  refine q_iload_n eX0_leftBy_0 rfl ?_
  refine q_istore eX0_leftBy_1 (by decide) rfl ?_
  refine q_iload_n eX0_leftBy_3 rfl ?_
  refine q_iload_n eX0_leftBy_4 rfl ?_
  refine q_isub eX0_leftBy_5 ?_
  refine q_istore eX0_leftBy_6 (by decide) rfl ?_
  rw [show (r : Int) - d = ((r - d + 1 : Nat) : Int) - 1 by omega]
  exact lp_leftBy hp hp7 hr hg hg2 hB (r - d + 1) x _ _ (by omega) hx (by rw [show d + (r - d + 1) = r + 1 by omega]; exact hx2)
theorem lb_range {p : Int} {d : Nat} {g : Int} (hp : 2 ≤ p) (hg : p ^ d ≤ g) (hg2 : g < 2 * p ^ d) : ∀ (k : Nat) (x : Int), d + k ≤ 31 → 0 ≤ x → x < p ^ (d + k) → 0 ≤ lbE p d g k x ∧ lbE p d g k x < p ^ d
  | 0, x, _, h1, h2 => ⟨h1, h2⟩
  | k + 1, x, hk, h1, h2 => by
    obtain ⟨s1, s2, s3, s4, s5, s6⟩ := lb_step (n := d + k) rfl hp (by omega) h1 h2 hg hg2
    exact lb_range hp hg hg2 k _ (by omega) s3 s4
/-- no divisor among g, g + 1, .. (k of them, degree d) -/
def ipI (f : Int) (r : Nat) (p : Int) (d : Nat) : Nat → Int → Bool
  | 0, _ => true
  | k + 1, g => if lbE p d g (r - d + 1) f = 0 then false else ipI f r p d k (g + 1)
def ipO (f : Int) (r : Nat) (p : Int) : Nat → Nat → Bool
  | 0, _ => true
  | k + 1, d => if 2 * d ≤ r then (if ipI f r p d (p ^ d).toNat (p ^ d) = true then ipO f r p k (d + 1) else false) else true
/-- the least prime polynomial from f on -/
def lpE (p : Int) (r : Nat) : Nat → Int → Int
  | 0, _ => p ^ r
  | k + 1, f => if ipO f r p r 1 = true then f else lpE p r k (f + 1)
set_option maxRecDepth 20000 in
theorem lp_isPrime1 {x p T : Int} {r d : Nat} {F : HF} {A : HA} {al : AL} (hp : 2 ≤ p) (hp7 : p ≤ 7) (hr : r ≤ 6) (hd : d ≤ r) (hB : p ^ r ≤ 4096) (hx : 0 ≤ x) (hx2 : x < p ^ (r + 1)) (hdB : p ^ d ≤ 4096) : ∀ (k : Nat) (g : Int), p ^ d ≤ g → g + k = 2 * p ^ d →
    (ipI x r p d k g = false → T = 0) → (ipI x r p d k g = true → QW mX0_isPrime 3 0 0 (PI T F A al) 0 0 49 [some (vI x), some (vI r), some (vI p), some (vI d), some (vI (p ^ d)), some (vI (2 * p ^ d))] [] F A al) →
    QW mX0_isPrime 3 0 0 (PI T F A al) 0 0 20 [some (vI x), some (vI r), some (vI p), some (vI d), some (vI (p ^ d)), some (vI g)] [] F A al := by
  intro k
  have hpp : 0 < p ^ d := Int.pow_pos (by omega)
  induction k with
  | zero =>
    intro g hg hk h0 h1
    have e : g = 2 * p ^ d := by omega
    subst e
    refine q_iload eX0_isPrime_20 rfl ?_
    refine q_iconst eX0_isPrime_22 ?_
    refine q_iload eX0_isPrime_23 rfl ?_
    refine q_imul eX0_isPrime_25 ?_
    refine q_icmp_ge (tgt := 49) eX0_isPrime_26 (by decide) (by first | assumption | exact ⟨by omega, by omega⟩) (by first | assumption | exact ⟨by omega, by omega⟩) (fun c26 => ?_) (fun c26 => ?_)
    · exact h1 rfl
    · exact absurd c26 (by omega)
  | succ k ih =>
    intro g hg hk h0 h1
    have hlr := lb_range (d := d) (g := g) hp hg (by omega) (r - d + 1) x (by omega) hx (by rw [show d + (r - d + 1) = r + 1 by omega]; exact hx2)
    have e9 : ipI x r p d (k + 1) g = if lbE p d g (r - d + 1) x = 0 then false else ipI x r p d k (g + 1) := rfl
    rw [e9] at h0 h1
    refine q_iload eX0_isPrime_20 rfl ?_
    refine q_iconst eX0_isPrime_22 ?_
    refine q_iload eX0_isPrime_23 rfl ?_
    refine q_imul eX0_isPrime_25 ?_
    refine q_icmp_ge (tgt := 49) eX0_isPrime_26 (by decide) (by first | assumption | exact ⟨by omega, by omega⟩) (by first | assumption | exact ⟨by omega, by omega⟩) (fun c26 => ?_) (fun c26 => ?_)
    · exact absurd c26 (by omega)
    · refine q_iload_n eX0_isPrime_29 rfl ?_
      refine q_iload_n eX0_isPrime_30 rfl ?_
      refine q_iload eX0_isPrime_31 rfl ?_
      refine q_iload_n eX0_isPrime_33 rfl ?_
      refine q_iload_n eX0_isPrime_34 rfl ?_
      refine q_callSP [vI x, vI r, vI g, vI d, vI p] (M1 := mX0_leftBy) eX0_isPrime_35 mf_X0_leftBy lk_X0_19 (ev_leftBy hp hp7 hr hd hg (by omega) hB hx hx2) (by decide) (by decide) (by decide) (Nat.le_of_ble_eq_true rfl) rfl ?_
      refine q_if_ne (tgt := 43) eX0_isPrime_38 (by decide) (by first | assumption | exact ⟨by omega, by omega⟩) (fun c38 => ?_) (fun c38 => ?_)
      · refine q_iinc eX0_isPrime_43 rfl (by decide) rfl ?_
        refine q_goto (tgt := 20) eX0_isPrime_46 (by decide) ?_
        rw [if_neg c38] at h0 h1
        exact ih (g + 1) (by omega) (by omega) h0 h1
      · refine q_iconst eX0_isPrime_41 ?_
        refine q_retZ eX0_isPrime_42 rfl (by first | exact Or.inl rfl | exact Or.inr rfl | assumption) (by decide) (by decide) ?_
        exact PI_ok (h0 (if_pos c38)).symm
set_option maxRecDepth 20000 in
theorem lp_isPrime {x p : Int} {r : Nat} {F : HF} {A : HA} {al : AL} (hp : 2 ≤ p) (hp7 : p ≤ 7) (hr : r ≤ 6) (hB : p ^ r ≤ 4096) (hx : 0 ≤ x) (hx2 : x < p ^ (r + 1)) : ∀ (k d : Nat) (l4 l5 : Option LV), 1 ≤ d → d + k = r + 1 →
    QW mX0_isPrime 3 0 0 (PI (if ipO x r p k d = true then 1 else 0) F A al) 0 0 2 [some (vI x), some (vI r), some (vI p), some (vI d), l4, l5] [] F A al := by
  intro k
  induction k with
  | zero =>
    intro d l4 l5 hd hk
    refine q_iconst eX0_isPrime_2 ?_
    refine q_iload_n eX0_isPrime_3 rfl ?_
    refine q_imul eX0_isPrime_4 ?_
    refine q_iload_n eX0_isPrime_5 rfl ?_
    refine q_icmp_gt (tgt := 55) eX0_isPrime_6 (by decide) (by first | assumption | exact ⟨by omega, by omega⟩) (by first | assumption | exact ⟨by omega, by omega⟩) (fun c6 => ?_) (fun c6 => ?_)
    · refine q_iconst eX0_isPrime_55 ?_
      refine q_retZ eX0_isPrime_56 rfl (by first | exact Or.inl rfl | exact Or.inr rfl | assumption) (by decide) (by decide) ?_
      exact PI_ok rfl
    · exact absurd c6 (by omega)
  | succ k ih =>
    intro d l4 l5 hd hk
    have e9 : ipO x r p (k + 1) d = if 2 * d ≤ r then (if ipI x r p d (p ^ d).toNat (p ^ d) = true then ipO x r p k (d + 1) else false) else true := rfl
    have e10 : ¬ 2 * d ≤ r → ipO x r p (k + 1) d = true := fun h => by rw [e9, if_neg h]
    have e11 : 2 * d ≤ r → ipI x r p d (p ^ d).toNat (p ^ d) = true → ipO x r p (k + 1) d = ipO x r p k (d + 1) := fun h h2 => by rw [e9, if_pos h, if_pos h2]
    have e12 : 2 * d ≤ r → ipI x r p d (p ^ d).toNat (p ^ d) = false → ¬ ipO x r p (k + 1) d = true := fun h h2 => by rw [e9, if_pos h, if_neg (by rw [h2]; decide)]; decide
    refine q_iconst eX0_isPrime_2 ?_
    refine q_iload_n eX0_isPrime_3 rfl ?_
    refine q_imul eX0_isPrime_4 ?_
    refine q_iload_n eX0_isPrime_5 rfl ?_
    refine q_icmp_gt (tgt := 55) eX0_isPrime_6 (by decide) (by first | assumption | exact ⟨by omega, by omega⟩) (by first | assumption | exact ⟨by omega, by omega⟩) (fun c6 => ?_) (fun c6 => ?_)
    · refine q_iconst eX0_isPrime_55 ?_
      refine q_retZ eX0_isPrime_56 rfl (by first | exact Or.inl rfl | exact Or.inr rfl | assumption) (by decide) (by decide) ?_
      exact PI_ok (if_pos (e10 (by omega))).symm
    · refine q_iload_n eX0_isPrime_9 rfl ?_
      refine q_iload_n eX0_isPrime_10 rfl ?_
      refine q_callSP [vI p, vI d] (M1 := mX7_raise) eX0_isPrime_11 mf_X7_raise lk_X0_7 (ev_raiseN (by omega)) (by decide) (by decide) (by decide) (Nat.le_of_ble_eq_true rfl) rfl ?_
      refine q_istore eX0_isPrime_14 (by decide) rfl ?_
      refine q_iload eX0_isPrime_16 rfl ?_
      refine q_istore eX0_isPrime_18 (by decide) rfl ?_
      have hdB : p ^ d ≤ p ^ r := ipow_mono (by omega) (by omega)
      have hpp : 0 < p ^ d := Int.pow_pos (by omega)
      refine lp_isPrime1 hp hp7 hr (by omega) hB hx hx2 (by omega) (p ^ d).toNat (p ^ d) (Int.le_refl _) (by omega) (fun h => ?_) (fun h => ?_)
      · exact if_neg (e12 (by omega) h)
      · rw [e11 (by omega) h]
        refine q_iinc eX0_isPrime_49 rfl (by decide) rfl ?_
        refine q_goto (tgt := 2) eX0_isPrime_52 (by decide) ?_
        exact ih (d + 1) _ _ (by omega) (by omega)
set_option maxRecDepth 20000 in
theorem ev_isPrime {x p : Int} {r : Nat} {F : HF} {A : HA} {al : AL} (hp : 2 ≤ p) (hp7 : p ≤ 7) (hr : r ≤ 6) (hB : p ^ r ≤ 4096) (hx : 0 ≤ x) (hx2 : x < p ^ (r + 1)) : QE 3 0 0 mX0_isPrime [vI x, vI r, vI p] F A al (PI (if ipO x r p r 1 = true then 1 else 0) F A al) := by
  refine QE.mk (by decide +kernel) (Nat.le_of_ble_eq_true rfl) ?_
  refine q_iconst eX0_isPrime_0 ?_
  refine q_istore_n eX0_isPrime_1 (by decide) rfl ?_
  exact lp_isPrime hp hp7 hr hB hx hx2 r 1 _ _ (Nat.le_refl _) (by omega)
set_option maxRecDepth 20000 in
theorem lp_leastPrime {p : Int} {r : Nat} {F : HF} {A : HA} {al : AL} (hp : 2 ≤ p) (hp7 : p ≤ 7) (hr : r ≤ 6) (hB : p ^ r ≤ 4096) : ∀ (k : Nat) (x : Int), p ^ r ≤ x → x + k = 2 * p ^ r →
    QW mX0_leastPrime 4 0 0 (PI (lpE p r k x) F A al) 0 0 8 [some (vI p), some (vI r), some (vI (p ^ r)), some (vI x)] [] F A al := by
  intro k
  have hpp : 0 < p ^ r := Int.pow_pos (by omega)
  have hp2 : 2 * p ^ r ≤ p ^ (r + 1) := by rw [Int.pow_succ, Int.mul_comm]; exact Int.mul_le_mul_of_nonneg_left hp (by omega)
  induction k with
  | zero =>
    intro x hx hk
    refine q_iload_n eX0_leastPrime_8 rfl ?_
    refine q_iconst eX0_leastPrime_9 ?_
    refine q_iload_n eX0_leastPrime_10 rfl ?_
    refine q_imul eX0_leastPrime_11 ?_
    refine q_icmp_ge (tgt := 32) eX0_leastPrime_12 (by decide) (by first | assumption | exact ⟨by omega, by omega⟩) (by first | assumption | exact ⟨by omega, by omega⟩) (fun c12 => ?_) (fun c12 => ?_)
    · refine q_iload_n eX0_leastPrime_32 rfl ?_
      refine q_retI eX0_leastPrime_33 rfl (by decide) (by decide) ?_
      exact PI_ok rfl
    · exact absurd c12 (by omega)
  | succ k ih =>
    intro x hx hk
    have e9 : lpE p r (k + 1) x = if ipO x r p r 1 = true then x else lpE p r k (x + 1) := rfl
    have hr9 : InR (if ipO x r p r 1 = true then 1 else 0) := by split <;> exact ⟨by decide, by decide⟩
    rw [e9]
    refine q_iload_n eX0_leastPrime_8 rfl ?_
    refine q_iconst eX0_leastPrime_9 ?_
    refine q_iload_n eX0_leastPrime_10 rfl ?_
    refine q_imul eX0_leastPrime_11 ?_
    refine q_icmp_ge (tgt := 32) eX0_leastPrime_12 (by decide) (by first | assumption | exact ⟨by omega, by omega⟩) (by first | assumption | exact ⟨by omega, by omega⟩) (fun c12 => ?_) (fun c12 => ?_)
    · exact absurd c12 (by omega)
    · refine q_iload_n eX0_leastPrime_15 rfl ?_
      refine q_iload_n eX0_leastPrime_16 rfl ?_
      refine q_iload_n eX0_leastPrime_17 rfl ?_
      refine q_callSP [vI x, vI r, vI p] (M1 := mX0_isPrime) eX0_leastPrime_18 mf_X0_isPrime lk_X0_13 (ev_isPrime hp hp7 hr hB (by omega) (by omega)) (by decide) (by decide) (by decide) (Nat.le_of_ble_eq_true rfl) rfl ?_
      refine q_if_eq (tgt := 26) eX0_leastPrime_21 (by decide) (by first | assumption | exact ⟨by omega, by omega⟩) (fun c21 => ?_) (fun c21 => ?_)
      · refine q_iinc eX0_leastPrime_26 rfl (by decide) rfl ?_
        refine q_goto (tgt := 8) eX0_leastPrime_29 (by decide) ?_
        rw [if_neg (fun h => by rw [if_pos h] at c21; exact absurd c21 (by decide))]
        exact ih (x + 1) (by omega) (by omega)
      · refine q_iload_n eX0_leastPrime_24 rfl ?_
        refine q_retI eX0_leastPrime_25 rfl (by decide) (by decide) ?_
        have h8 : ipO x r p r 1 = true := Classical.byContradiction fun h => c21 (if_neg h)
        exact PI_ok (if_pos h8).symm
set_option maxRecDepth 20000 in
theorem ev_leastPrime {p : Int} {r : Nat} {F : HF} {A : HA} {al : AL} (hp : 2 ≤ p) (hp7 : p ≤ 7) (hr : r ≤ 6) (hB : p ^ r ≤ 4096) : QE 4 0 0 mX0_leastPrime [vI p, vI r] F A al (PI (lpE p r (p ^ r).toNat (p ^ r)) F A al) := by
  refine QE.mk (by decide +kernel) (Nat.le_of_ble_eq_true rfl) ?_
  have hpp : 0 < p ^ r := Int.pow_pos (by omega)
  refine q_iload_n eX0_leastPrime_0 rfl ?_
  refine q_iload_n eX0_leastPrime_1 rfl ?_
  refine q_callSP [vI p, vI r] (M1 := mX7_raise) eX0_leastPrime_2 mf_X7_raise lk_X0_7 (ev_raiseN (by omega)) (by decide) (by decide) (by decide) (Nat.le_of_ble_eq_true rfl) rfl ?_
  refine q_istore_n eX0_leastPrime_5 (by decide) rfl ?_
  refine q_iload_n eX0_leastPrime_6 rfl ?_
  refine q_istore_n eX0_leastPrime_7 (by decide) rfl ?_
  exact lp_leastPrime hp hp7 hr hB (p ^ r).toNat (p ^ r) (Int.le_refl _) (by omega)
set_option maxRecDepth 20000 in
theorem ev_toRoot {q e : Nat} {F : HF} {A : HA} {al : AL} (hK : KX al) (hq : F 2 4 = vI q) (he : F 2 1 = vI e) (he1 : 1 ≤ e) (he4 : e ≤ 4) : QE 1 0 0 mX2_toRoot [vA 2] F A al (PI ((q : Int) ^ (e - 1)) F A al) := by
  refine QE.mk (by decide +kernel) (Nat.le_of_ble_eq_true rfl) ?_
  refine q_aload_n eX2_toRoot_0 rfl ?_
  refine q_getfield eX2_toRoot_1 gf_X2_24 (hK _ (by decide) (by decide)) (by decide) (by assumption) ?_
  refine q_aload_n eX2_toRoot_4 rfl ?_
  refine q_getfield eX2_toRoot_5 gf_X2_15 (hK _ (by decide) (by decide)) (by decide) (by assumption) ?_
  refine q_iconst eX2_toRoot_8 ?_
  refine q_isub eX2_toRoot_9 ?_
  refine q_callSP [vI q, vI ((e : Int) - 1)] (M1 := mX7_raise) eX2_toRoot_10 mf_X7_raise lk_X2_64 (ev_raise (by exact ⟨by omega, by omega⟩)) (by decide) (by decide) (by decide) (Nat.le_of_ble_eq_true rfl) rfl ?_
  rw [show ((e : Int) - 1).toNat = e - 1 by omega]
  refine q_retI eX2_toRoot_13 rfl (by decide) (by decide) ?_
  exact PI_ok rfl
abbrev exO (p e r : Int) : Prop := (p = 2 ∨ p = 3 ∨ p = 5 ∨ p = 7) ∧ 1 ≤ e ∧ e ≤ 4 ∧ 1 ≤ r ∧ r ≤ 6
def exE (p e r : Int) : Int := if exO p e r then (if p ^ (e.toNat * r.toNat) ≤ 4096 then 1 else 0) else 0
set_option maxRecDepth 20000 in
theorem lp_exists {p e r : Nat} {F : HF} {A : HA} {al : AL} (h : exO p e r) : ∀ (k i : Nat), i + k = e * r → (1 ≤ i → (p : Int) ^ (i - 1) ≤ 4096) →
    QW mX2_exists 1 0 0 (PI (exE p e r) F A al) 0 0 54 [some (vI p), some (vI e), some (vI r), some (vI 1), some (vI ((p : Int) ^ i)), some (vI i)] [] F A al := by
  have e9 : exE p e r = if (p : Int) ^ (e * r) ≤ 4096 then 1 else 0 := by
    unfold exE
    rw [if_pos h]
    rfl
  obtain ⟨h1, h2, h3, h4, h5⟩ := h
  have hp2 : (2 : Int) ≤ p := by omega
  have her : e * r ≤ 4 * 6 := Nat.mul_le_mul (by omega) (by omega)
  rw [e9]
  intro k
  induction k with
  | zero =>
    intro i hi hb
    have ei : i = e * r := by omega
    subst ei
    have hpp : 0 < (p : Int) ^ (e * r) := Int.pow_pos (by omega)
    have hpb : (p : Int) ^ (e * r) ≤ 28672 := by
      have h6 : 1 * 1 ≤ e * r := Nat.mul_le_mul (by omega) (by omega)
      have h7 : (p : Int) ^ (e * r) = (p : Int) ^ (e * r - 1) * p := by rw [← Int.pow_succ, show (e * r - 1).succ = e * r by omega]
      have h8 : (p : Int) ^ (e * r - 1) * p ≤ 4096 * 7 := Int.mul_le_mul (hb (by omega)) (by omega) (by omega) (by omega)
      omega
    rw [Int.natCast_mul] at *
    refine q_iload_n eX2_exists_54 rfl ?_
    refine q_if_eq (tgt := 86) eX2_exists_55 (by decide) (by first | assumption | exact ⟨by omega, by omega⟩) (fun c55 => ?_) (fun c55 => ?_)
    · exact absurd c55 (by decide)
    · refine q_iload eX2_exists_58 rfl ?_
      refine q_iload_n eX2_exists_60 rfl ?_
      refine q_iload_n eX2_exists_61 rfl ?_
      refine q_imul eX2_exists_62 ?_
      refine q_icmp_ge (tgt := 86) eX2_exists_63 (by decide) (by first | assumption | exact ⟨by omega, by omega⟩) (by first | assumption | exact ⟨by omega, by omega⟩) (fun c63 => ?_) (fun c63 => ?_)
      · refine q_iload_n eX2_exists_86 rfl ?_
        refine q_if_eq (tgt := 102) eX2_exists_87 (by decide) (by first | assumption | exact ⟨by omega, by omega⟩) (fun c87 => ?_) (fun c87 => ?_)
        · exact absurd c87 (by decide)
        · refine q_iload eX2_exists_90 rfl ?_
          refine q_sipush eX2_exists_92 (by decide +kernel) ?_
          refine q_icmp_gt (tgt := 102) eX2_exists_95 (by decide) (by first | assumption | exact ⟨by omega, by omega⟩) (by first | assumption | exact ⟨by omega, by omega⟩) (fun c95 => ?_) (fun c95 => ?_)
          · refine q_iconst eX2_exists_102 ?_
            refine q_retZ eX2_exists_103 rfl (by first | exact Or.inl rfl | exact Or.inr rfl | assumption) (by decide) (by decide) ?_
            first
            | exact PI_ok (if_pos (by omega)).symm
            | exact PI_ok (if_neg (by omega)).symm
          · refine q_iconst eX2_exists_98 ?_
            refine q_goto (tgt := 103) eX2_exists_99 (by decide) ?_
            refine q_retZ eX2_exists_103 rfl (by first | exact Or.inl rfl | exact Or.inr rfl | assumption) (by decide) (by decide) ?_
            first
            | exact PI_ok (if_pos (by omega)).symm
            | exact PI_ok (if_neg (by omega)).symm
      · exact absurd c63 (by omega)
  | succ k ih =>
    intro i hi hb
    have hpp : 0 < (p : Int) ^ i := Int.pow_pos (by omega)
    have hpb : (p : Int) ^ i ≤ 28672 := by
      by_cases h6 : 1 ≤ i
      · have h7 : (p : Int) ^ i = (p : Int) ^ (i - 1) * p := by rw [← Int.pow_succ, show (i - 1).succ = i by omega]
        have h8 : (p : Int) ^ (i - 1) * p ≤ 4096 * 7 := Int.mul_le_mul (hb h6) (by omega) (by omega) (by omega)
        omega
      · rw [show i = 0 by omega, Int.pow_zero]; decide
    have hmo : (p : Int) ^ i ≤ (p : Int) ^ (e * r) := ipow_mono (by omega) (by omega)
    have hmul : ((e : Int) * r) = ((e * r : Nat) : Int) := by simp
    refine q_iload_n eX2_exists_54 rfl ?_
    refine q_if_eq (tgt := 86) eX2_exists_55 (by decide) (by first | assumption | exact ⟨by omega, by omega⟩) (fun c55 => ?_) (fun c55 => ?_)
    · exact absurd c55 (by decide)
    · refine q_iload eX2_exists_58 rfl ?_
      refine q_iload_n eX2_exists_60 rfl ?_
      refine q_iload_n eX2_exists_61 rfl ?_
      refine q_imul eX2_exists_62 ?_
      rw [hmul]
      refine q_icmp_ge (tgt := 86) eX2_exists_63 (by decide) (by first | assumption | exact ⟨by omega, by omega⟩) (by first | assumption | exact ⟨by omega, by omega⟩) (fun c63 => ?_) (fun c63 => ?_)
      · exact absurd c63 (by omega)
      · refine q_iload eX2_exists_66 rfl ?_
        refine q_sipush eX2_exists_68 (by decide +kernel) ?_
        refine q_icmp_gt (tgt := 86) eX2_exists_71 (by decide) (by first | assumption | exact ⟨by omega, by omega⟩) (by first | assumption | exact ⟨by omega, by omega⟩) (fun c71 => ?_) (fun c71 => ?_)
        · refine q_iload_n eX2_exists_86 rfl ?_
          refine q_if_eq (tgt := 102) eX2_exists_87 (by decide) (by first | assumption | exact ⟨by omega, by omega⟩) (fun c87 => ?_) (fun c87 => ?_)
          · exact absurd c87 (by decide)
          · refine q_iload eX2_exists_90 rfl ?_
            refine q_sipush eX2_exists_92 (by decide +kernel) ?_
            refine q_icmp_gt (tgt := 102) eX2_exists_95 (by decide) (by first | assumption | exact ⟨by omega, by omega⟩) (by first | assumption | exact ⟨by omega, by omega⟩) (fun c95 => ?_) (fun c95 => ?_)
            · refine q_iconst eX2_exists_102 ?_
              refine q_retZ eX2_exists_103 rfl (by first | exact Or.inl rfl | exact Or.inr rfl | assumption) (by decide) (by decide) ?_
              first
              | exact PI_ok (if_pos (by omega)).symm
              | exact PI_ok (if_neg (by omega)).symm
            · refine q_iconst eX2_exists_98 ?_
              refine q_goto (tgt := 103) eX2_exists_99 (by decide) ?_
              refine q_retZ eX2_exists_103 rfl (by first | exact Or.inl rfl | exact Or.inr rfl | assumption) (by decide) (by decide) ?_
              first
              | exact PI_ok (if_pos (by omega)).symm
              | exact PI_ok (if_neg (by omega)).symm
        · refine q_iload eX2_exists_74 rfl ?_
          refine q_iload_n eX2_exists_76 rfl ?_
          refine q_imul eX2_exists_77 ?_
          refine q_istore eX2_exists_78 (by decide) rfl ?_
          refine q_iinc eX2_exists_80 rfl (by decide) rfl ?_
          refine q_goto (tgt := 54) eX2_exists_83 (by decide) ?_
          exact ih (i + 1) (by omega) (fun _ => by rw [Nat.add_sub_cancel]; omega)
set_option maxRecDepth 20000 in
theorem ev_exists {p e r : Int} {F : HF} {A : HA} {al : AL} (hp : InR p) (he : InR e) (hr : InR r) : QE 1 0 0 mX2_exists [vI p, vI e, vI r] F A al (PI (exE p e r) F A al) := by
  refine QE.mk (by decide +kernel) (Nat.le_of_ble_eq_true rfl) ?_
  have k46 : ¬ exO p e r → QW mX2_exists 1 0 0 (PI (exE p e r) F A al) 0 0 46 [some (vI p), some (vI e), some (vI r), none, none, none] [] F A al := by
    intro hc
    refine q_iconst eX2_exists_46 ?_
    refine q_istore_n eX2_exists_47 (by decide) rfl ?_
    refine q_iconst eX2_exists_48 ?_
    refine q_istore eX2_exists_49 (by decide) rfl ?_
    refine q_iconst eX2_exists_51 ?_
    refine q_istore eX2_exists_52 (by decide) rfl ?_
    refine q_iload_n eX2_exists_54 rfl ?_
    refine q_if_eq (tgt := 86) eX2_exists_55 (by decide) (by first | assumption | exact ⟨by omega, by omega⟩) (fun c55 => ?_) (fun c55 => ?_)
    · refine q_iload_n eX2_exists_86 rfl ?_
      refine q_if_eq (tgt := 102) eX2_exists_87 (by decide) (by first | assumption | exact ⟨by omega, by omega⟩) (fun c87 => ?_) (fun c87 => ?_)
      · refine q_iconst eX2_exists_102 ?_
        refine q_retZ eX2_exists_103 rfl (by first | exact Or.inl rfl | exact Or.inr rfl | assumption) (by decide) (by decide) ?_
        exact PI_ok (if_neg hc).symm
      · exact absurd rfl c87
    · exact absurd rfl c55
  have k47 : exO p e r → QW mX2_exists 1 0 0 (PI (exE p e r) F A al) 0 0 47 [some (vI p), some (vI e), some (vI r), none, none, none] [vI 1] F A al := by
    intro hc
    refine q_istore_n eX2_exists_47 (by decide) rfl ?_
    refine q_iconst eX2_exists_48 ?_
    refine q_istore eX2_exists_49 (by decide) rfl ?_
    refine q_iconst eX2_exists_51 ?_
    refine q_istore eX2_exists_52 (by decide) rfl ?_
    obtain ⟨p, rfl⟩ : ∃ k : Nat, p = k := ⟨p.toNat, by omega⟩
    obtain ⟨e, rfl⟩ : ∃ k : Nat, e = k := ⟨e.toNat, by omega⟩
    obtain ⟨r, rfl⟩ : ∃ k : Nat, r = k := ⟨r.toNat, by omega⟩
    have h := lp_exists (F := F) (A := A) (al := al) hc (e * r) 0 (by omega) (by omega)
    rw [Int.pow_zero] at h
    exact h
  have k21 : (p = 2 ∨ p = 3 ∨ p = 5 ∨ p = 7) → QW mX2_exists 1 0 0 (PI (exE p e r) F A al) 0 0 21 [some (vI p), some (vI e), some (vI r), none, none, none] [] F A al := by
    intro hc
    refine q_iload_n eX2_exists_21 rfl ?_
    refine q_iconst eX2_exists_22 ?_
    refine q_icmp_lt (tgt := 46) eX2_exists_23 (by decide) (by first | assumption | exact ⟨by omega, by omega⟩) (by first | assumption | exact ⟨by omega, by omega⟩) (fun c23 => ?_) (fun c23 => ?_)
    · exact k46 (by unfold exO; omega)
    · refine q_iload_n eX2_exists_26 rfl ?_
      refine q_iconst eX2_exists_27 ?_
      refine q_icmp_gt (tgt := 46) eX2_exists_28 (by decide) (by first | assumption | exact ⟨by omega, by omega⟩) (by first | assumption | exact ⟨by omega, by omega⟩) (fun c28 => ?_) (fun c28 => ?_)
      · exact k46 (by unfold exO; omega)
      · refine q_iload_n eX2_exists_31 rfl ?_
        refine q_iconst eX2_exists_32 ?_
        refine q_icmp_lt (tgt := 46) eX2_exists_33 (by decide) (by first | assumption | exact ⟨by omega, by omega⟩) (by first | assumption | exact ⟨by omega, by omega⟩) (fun c33 => ?_) (fun c33 => ?_)
        · exact k46 (by unfold exO; omega)
        · refine q_iload_n eX2_exists_36 rfl ?_
          refine q_bipush eX2_exists_37 (by decide +kernel) ?_
          refine q_icmp_gt (tgt := 46) eX2_exists_39 (by decide) (by first | assumption | exact ⟨by omega, by omega⟩) (by first | assumption | exact ⟨by omega, by omega⟩) (fun c39 => ?_) (fun c39 => ?_)
          · exact k46 (by unfold exO; omega)
          · refine q_iconst eX2_exists_42 ?_
            refine q_goto (tgt := 47) eX2_exists_43 (by decide) ?_
            exact k47 (by unfold exO; omega)
  refine q_iload_n eX2_exists_0 rfl ?_
  refine q_iconst eX2_exists_1 ?_
  refine q_icmp_eq (tgt := 21) eX2_exists_2 (by decide) (by first | assumption | exact ⟨by omega, by omega⟩) (by first | assumption | exact ⟨by omega, by omega⟩) (fun c2 => ?_) (fun c2 => ?_)
  · exact k21 (by omega)
  · refine q_iload_n eX2_exists_5 rfl ?_
    refine q_iconst eX2_exists_6 ?_
    refine q_icmp_eq (tgt := 21) eX2_exists_7 (by decide) (by first | assumption | exact ⟨by omega, by omega⟩) (by first | assumption | exact ⟨by omega, by omega⟩) (fun c7 => ?_) (fun c7 => ?_)
    · exact k21 (by omega)
    · refine q_iload_n eX2_exists_10 rfl ?_
      refine q_iconst eX2_exists_11 ?_
      refine q_icmp_eq (tgt := 21) eX2_exists_12 (by decide) (by first | assumption | exact ⟨by omega, by omega⟩) (by first | assumption | exact ⟨by omega, by omega⟩) (fun c12 => ?_) (fun c12 => ?_)
      · exact k21 (by omega)
      · refine q_iload_n eX2_exists_15 rfl ?_
        refine q_bipush eX2_exists_16 (by decide +kernel) ?_
        refine q_icmp_ne (tgt := 46) eX2_exists_18 (by decide) (by first | assumption | exact ⟨by omega, by omega⟩) (by first | assumption | exact ⟨by omega, by omega⟩) (fun c18 => ?_) (fun c18 => ?_)
        · exact k46 (by unfold exO; omega)
        · exact k21 (by omega)
