/-! orders of units; the power that takes all units to 1 -/
theorem pp_dvd {p : Nat} (hp : prm p) : ∀ k d, d ∣ p ^ k → ∃ i, i ≤ k ∧ d = p ^ i
  | 0, d, h => ⟨0, Nat.le_refl _, by rw [Nat.pow_zero] at h ⊢; exact Nat.dvd_one.mp h⟩
  | k + 1, d, h => by
    have hp2 := hp.1
    by_cases hd : p ∣ d
    · obtain ⟨d', rfl⟩ := hd
      rw [Nat.pow_succ, Nat.mul_comm (p ^ k)] at h
      obtain ⟨i, hi, he⟩ := pp_dvd hp k d' (Nat.dvd_of_mul_dvd_mul_left (by omega) h)
      exact ⟨i + 1, by omega, by rw [he, Nat.pow_succ, Nat.mul_comm]⟩
    · have h1 : Nat.gcd d p = 1 := by rw [Nat.gcd_comm]; exact prm_gcd hp hd
      rw [Nat.pow_succ, Nat.mul_comm] at h
      obtain ⟨i, hi, he⟩ := pp_dvd hp k d (dvd_cop h1 h)
      exact ⟨i, by omega, he⟩
theorem ob_spec {p r : Nat} {m : Int} {f : Nat → Int} (hm : 2 ≤ m) (hr : 0 < r) : ∀ (K : Nat) (u : Int), El m r u → pw m r f u (p ^ K) = 1 → ∃ j, j ≤ K ∧ obE p r m f K u = p ^ j ∧ pw m r f u (p ^ j) = 1 ∧ ∀ i, i < j → pw m r f u (p ^ i) ≠ 1
  | 0, u, _, h => ⟨0, Nat.le_refl _, rfl, h, fun i hi => absurd hi (by omega)⟩
  | K + 1, u, hu, h => by
    by_cases h1 : u = 1
    · exact ⟨0, by omega, if_pos h1, by rw [Nat.pow_zero, pw_one hm hr hu]; exact h1, fun i hi => absurd hi (by omega)⟩
    · have e1 : obE p r m f (K + 1) u = p * obE p r m f K (pw m r f u p) := if_neg h1
      have h2 : pw m r f (pw m r f u p) (p ^ K) = 1 := by rw [← pw_mul hm hr hu, Nat.mul_comm, ← Nat.pow_succ]; exact h
      obtain ⟨j, a1, a2, a3, a4⟩ := ob_spec hm hr K (pw m r f u p) (pw_el hm hr _ _) h2
      refine ⟨j + 1, by omega, by rw [e1, a2, Nat.pow_succ, Nat.mul_comm], ?_, fun i hi => ?_⟩
      · rw [Nat.pow_succ, Nat.mul_comm, pw_mul hm hr hu]; exact a3
      · cases i with
        | zero => rw [Nat.pow_zero, pw_one hm hr hu]; exact h1
        | succ i =>
          rw [Nat.pow_succ, Nat.mul_comm, pw_mul hm hr hu]
          exact a4 i (by omega)
theorem ob_dvd {p r : Nat} {m : Int} {f : Nat → Int} (hm : 2 ≤ m) (hr : 0 < r) (hp : prm p) {K : Nat} {u : Int} (hu : El m r u) (h : pw m r f u (p ^ K) = 1) (n : Nat) : pw m r f u n = 1 ↔ obE p r m f K u ∣ n := by
  obtain ⟨j, a1, a2, a3, a4⟩ := ob_spec hm hr K u hu h
  rw [a2]
  constructor
  · intro hn
    have h1 := pw_gcd hm hr hu n n (p ^ K) (Nat.le_refl _) hn h
    obtain ⟨i, hi, he⟩ := pp_dvd hp K _ (Nat.gcd_dvd_right n (p ^ K))
    rw [he] at h1
    have hji : j ≤ i := by
      rcases Nat.lt_or_ge i j with q | q
      · exact absurd h1 (a4 i q)
      · exact q
    exact Nat.dvd_trans (Nat.pow_dvd_pow p hji) (by rw [← he]; exact Nat.gcd_dvd_left _ _)
  · intro hd
    exact pw_dvd hm hr hu hd a3
theorem odF_at {m : Int} {r : Nat} {f : Nat → Int} {x : Int} {O : Nat} (hO : pw m r f x O = 1) : ∀ (t s : Nat), s ≤ O → O < s + t → (∀ j, s ≤ j → j < O → pw m r f x j ≠ 1) → odF m r f x t s = O
  | 0, s, h1, h2, _ => by omega
  | t + 1, s, h1, h2, h3 => by
    show (if pw m r f x s = 1 then s else odF m r f x t (s + 1)) = O
    rcases Nat.lt_or_ge s O with q | q
    · rw [if_neg (h3 s (Nat.le_refl _) q)]
      exact odF_at hO t (s + 1) q (by omega) (fun j a b => h3 j (by omega) b)
    · obtain rfl : s = O := by omega
      rw [if_pos hO]
section Ord
variable {p e r q : Nat} {m : Int} {f : Nat → Int} {g x y : Int}
/-- the root of a unit, and what is 1 below beside it -/
theorem RK.split (h : RK p e r m q f g) (hx : El m r x) (hu : low p r m x ≠ 0) : ∃ k, k < q - 1 ∧ rl p r m (lgR p r m q f g) x = k ∧ ro p r m f g (lgR p r m q f g) x = pw m r f g k ∧ low p r m (obl p e r q m f g (lgR p r m q f g) x) = low p r m 1 ∧ El m r (obl p e r q m f g (lgR p r m q f g) x) ∧ x = tm m r f (pw m r f g k) (obl p e r q m f g (lgR p r m q f g) x) := by
  have hm := h.m2
  have hr := h.2.2.1
  have hm0 : 0 < m := by omega
  obtain ⟨k, hk, h1, h2⟩ := h.rl_k hu
  have h3 : ro p r m f g (lgR p r m q f g) x = pw m r f g k := by rw [h.ro_tc, ← h2, h.tc_k]
  have e1 : obl p e r q m f g (lgR p r m q f g) x = tm m r f x (pw m r f (pw m r f g k) (ivN p e q)) := by unfold obl; rw [h3]
  have hT := h.iv_one (h.el k) (h.lpos k)
  have hV := pw_el (f := f) hm hr (pw m r f g k) (ivN p e q)
  refine ⟨k, hk, h1, h3, ?_, ?_, ?_⟩
  · rw [e1, h.low_tm (x' := pw m r f g k) hV hV h2.symm rfl, hT]
  · rw [e1]; exact tm_el hm0 _ _
  · rw [e1, ← tm_assoc hm0 (h.el k) hx hV, tm_comm hm0 (h.el k) hx, tm_assoc hm0 hx (h.el k) hV, hT, tm_one hm hr hx]
theorem RK.pq (h : RK p e r m q f g) (hp : prm p) : ¬ p ∣ q - 1 := fun hd => by
  have hq2 := h.q2
  have h1 : p ∣ q := by
    rw [h.2.2.2.2.1]
    obtain ⟨k, rfl⟩ : ∃ k, r = k + 1 := ⟨r - 1, by have := h.2.2.1; omega⟩
    rw [Nat.pow_succ]; exact Nat.dvd_mul_left _ _
  have h2 : p ∣ q - (q - 1) := Nat.dvd_sub h1 hd
  rw [show q - (q - 1) = 1 by omega] at h2
  have := Nat.le_of_dvd (by decide) h2
  have := hp.1
  omega
theorem RK.cop (h : RK p e r m q f g) (hp : prm p) {A B K : Nat} (hA : A ∣ q - 1) (hB : B ∣ p ^ K) : Nat.gcd B A = 1 := by
  obtain ⟨i, hi, he⟩ := pp_dvd hp K _ (Nat.dvd_trans (Nat.gcd_dvd_left B A) hB)
  cases i with
  | zero => exact he
  | succ i =>
    refine absurd ?_ (h.pq hp)
    refine Nat.dvd_trans ?_ (Nat.dvd_trans (Nat.gcd_dvd_right B A) hA)
    rw [he, Nat.pow_succ]
    exact Nat.dvd_mul_left _ _
theorem gcd_part {k n Q : Nat} (hQ : 0 < Q) : Q ∣ k * n ↔ Q / Nat.gcd k Q ∣ n := by
  have hd : Nat.gcd k Q ∣ Q := Nat.gcd_dvd_right k Q
  have hd0 : 0 < Nat.gcd k Q := Nat.gcd_pos_of_pos_right k hQ
  have hA := Nat.mul_div_cancel' hd
  constructor
  · intro h
    have h1 : Q ∣ Nat.gcd (k * n) (Q * n) := Nat.dvd_gcd h (Nat.dvd_mul_right Q n)
    rw [Nat.gcd_mul_right] at h1
    rw [← hA] at h1
    exact Nat.dvd_of_mul_dvd_mul_left hd0 (by rw [hA] at h1 ⊢; exact h1)
  · rintro ⟨t, rfl⟩
    obtain ⟨k', hk⟩ := Nat.gcd_dvd_left k Q
    refine ⟨k' * t, ?_⟩
    have h1 : k * (Q / Nat.gcd k Q * t) = (k' * (Nat.gcd k Q * (Q / Nat.gcd k Q))) * t := by
      rw [← Nat.mul_assoc, ← Nat.mul_assoc k', Nat.mul_comm k' (Nat.gcd k Q), ← hk]
    rw [h1, hA, Nat.mul_comm k' Q, Nat.mul_assoc]
theorem RK.ord_iff (h : RK p e r m q f g) (hp : prm p) (hx : El m r x) (hu : low p r m x ≠ 0) (n : Nat) : pw m r f x n = 1 ↔ ordE p e r q m f g (lgR p r m q f g) x ∣ n := by
  have hm := h.m2
  have hr := h.2.2.1
  have hq2 := h.q2
  have hg := h.2.2.2.2.2.1
  obtain ⟨k, hk, h1, h2, h3, h4, h5⟩ := h.split hx hu
  have hB := h.ob_pow h4 h3
  have e1 : ordE p e r q m f g (lgR p r m q f g) x = (q - 1) / Nat.gcd k (q - 1) * obE p r m f (e - 1) (obl p e r q m f g (lgR p r m q f g) x) := by
    unfold ordE; rw [h1]; rfl
  have hod := ob_dvd (f := f) hm hr hp h4 hB
  generalize hu9 : obl p e r q m f g (lgR p r m q f g) x = u at h3 h4 h5 hB e1 hod
  have hT : ∀ n, pw m r f (pw m r f g k) n = 1 ↔ (q - 1) / Nat.gcd k (q - 1) ∣ n := fun n => by
    rw [← pw_mul hm hr hg, show (1 : Int) = pw m r f g 0 from rfl, h.iff, Nat.zero_mod, ← Nat.dvd_iff_mod_eq_zero]
    exact gcd_part (by omega)
  have hA : (q - 1) / Nat.gcd k (q - 1) ∣ q - 1 := Nat.div_dvd_of_dvd (Nat.gcd_dvd_right _ _)
  have hBd : obE p r m f (e - 1) u ∣ p ^ (e - 1) := (hod _).mp hB
  have hc := h.cop hp hA hBd
  have hxn : ∀ n, pw m r f x n = tm m r f (pw m r f (pw m r f g k) n) (pw m r f u n) := fun n => by
    rw [← pw_tm hm hr (h.el k) h4, ← h5]
  rw [e1]
  constructor
  · intro hn
    have hl : low p r m (pw m r f x n) = low p r m (pw m r f (pw m r f g k) n) := h.low_pw hx (h.el k) (by rw [h5]; exact (h.low_tm (x' := pw m r f g k) (y' := 1) h4 (el_one hm hr) rfl h3).trans (by rw [tm_one hm hr (h.el k)])) n
    rw [hn, ← pw_mul hm hr hg] at hl
    have hg0 : pw m r f g (k * n) = 1 := (h.linj (a := k * n) (b := 0) hl.symm).trans rfl
    rw [pw_mul hm hr hg] at hg0
    have ha := (hT n).mp hg0
    rw [hxn, hg0, one_tm hm hr (pw_el hm hr _ _)] at hn
    have hb := (hod n).mp hn
    obtain ⟨t, rfl⟩ := ha
    exact Nat.mul_dvd_mul_left _ (dvd_cop hc hb)
  · intro hd
    have ha := (hT n).mpr (Nat.dvd_trans (Nat.dvd_mul_right _ _) hd)
    have hb := (hod n).mpr (Nat.dvd_trans (Nat.dvd_mul_left _ _) hd)
    rw [hxn, ha, hb, one_tm hm hr (el_one hm hr)]
theorem RK.ord_pos (h : RK p e r m q f g) (hp : prm p) (hx : El m r x) (hu : low p r m x ≠ 0) : 1 ≤ ordE p e r q m f g (lgR p r m q f g) x ∧ ordE p e r q m f g (lgR p r m q f g) x ∣ (q - 1) * p ^ (e - 1) := by
  have hd := (h.ord_iff hp hx hu _).mp (h.u_pow hx hu)
  have hq2 := h.q2
  have hp2 := h.1
  exact ⟨Nat.pos_of_dvd_of_pos hd (Nat.mul_pos (by omega) (Nat.pow_pos (by omega))), hd⟩
theorem RK.L_le (h : RK p e r m q f g) : (q - 1) * p ^ (e - 1) ≤ p ^ (e * r) - 1 ∧ 1 ≤ (q - 1) * p ^ (e - 1) := by
  have hq2 := h.q2
  have hp2 := h.1
  have hpe : 0 < p ^ (e - 1) := Nat.pow_pos (by omega)
  have h1 := h.um
  have h2 : umE (p ^ (e * r)) q ≤ p ^ (e * r) - 1 := by
    unfold umE
    have h3 : 0 < p ^ (e * r) / q := by
      rw [h.2.2.2.2.1]
      refine Nat.div_pos (Nat.pow_le_pow_right (by omega) ?_) (Nat.pow_pos (by omega))
      exact Nat.le_mul_of_pos_left r h.2.1
    omega
  have h4 : (q - 1) * p ^ (e - 1) ≤ umE (p ^ (e * r)) q := by
    rw [h1]; exact Nat.le_mul_of_pos_right _ (Nat.pow_pos (by omega))
  exact ⟨by omega, Nat.mul_pos (by omega) hpe⟩
theorem RK.od (h : RK p e r m q f g) (hp : prm p) (hx : El m r x) (hu : low p r m x ≠ 0) : odM m r f (p ^ (e * r)) x = ordE p e r q m f g (lgR p r m q f g) x := by
  obtain ⟨h1, h2⟩ := h.ord_pos hp hx hu
  obtain ⟨h3, h4⟩ := h.L_le
  have h5 := Nat.le_of_dvd (by omega) h2
  refine odF_at ((h.ord_iff hp hx hu _).mpr (Nat.dvd_refl _)) _ _ h1 (by omega) (fun j a b hj => ?_)
  have := Nat.le_of_dvd a ((h.ord_iff hp hx hu j).mp hj)
  omega
/-! the power by which all units are 1 -/
theorem RK.ex_spec (h : RK p e r m q f g) (hp : prm p) (hNm : ((p ^ (e * r) : Nat) : Int) = m ^ r) : ∀ X, X ≤ p ^ (e * r) - 1 → (∀ x : Nat, 1 ≤ x → x ≤ X → low p r m x ≠ 0 → pw m r f x (exM p r m f (p ^ (e * r)) X) = 1) ∧ 1 ≤ exM p r m f (p ^ (e * r)) X ∧ ∀ K, (∀ x : Nat, 1 ≤ x → x ≤ X → low p r m x ≠ 0 → pw m r f x K = 1) → exM p r m f (p ^ (e * r)) X ∣ K
  | 0, _ => ⟨fun x a b => absurd a (by omega), Nat.le_refl _, fun K _ => Nat.one_dvd K⟩
  | X + 1, hX => by
    have hm := h.m2
    have hr := h.2.2.1
    obtain ⟨i1, i0, i2⟩ := h.ex_spec hp hNm X (by omega)
    have hel : ∀ x : Nat, x ≤ X + 1 → El m r (x : Int) := fun x hx => ⟨by omega, by rw [← hNm]; omega⟩
    have eq1 : ((X + 1 : Nat) : Int) = (X : Int) + 1 := rfl
    have e1 : exM p r m f (p ^ (e * r)) (X + 1) = if low p r m ((X : Int) + 1) ≠ 0 ∧ pw m r f ((X : Int) + 1) (exM p r m f (p ^ (e * r)) X) ≠ 1 then exM p r m f (p ^ (e * r)) X / Nat.gcd (exM p r m f (p ^ (e * r)) X) (odM m r f (p ^ (e * r)) ((X : Int) + 1)) * odM m r f (p ^ (e * r)) ((X : Int) + 1) else exM p r m f (p ^ (e * r)) X := rfl
    by_cases hc : low p r m ((X : Int) + 1) ≠ 0 ∧ pw m r f ((X : Int) + 1) (exM p r m f (p ^ (e * r)) X) ≠ 1
    · rw [e1, if_pos hc]
      have hx1 := hel (X + 1) (Nat.le_refl _)
      rw [eq1] at hx1
      have hod := h.ord_iff hp hx1 hc.1
      rw [← h.od hp hx1 hc.1] at hod
      have ho1 : 1 ≤ odM m r f (p ^ (e * r)) ((X : Int) + 1) := by rw [h.od hp hx1 hc.1]; exact (h.ord_pos hp hx1 hc.1).1
      generalize odM m r f (p ^ (e * r)) ((X : Int) + 1) = o at hod ho1
      generalize exM p r m f (p ^ (e * r)) X = L at i1 i0 i2 hc
      have hlcm : L / Nat.gcd L o * o = Nat.lcm L o := by
        unfold Nat.lcm
        rw [Nat.mul_div_right_comm (Nat.gcd_dvd_left L o)]
      rw [hlcm]
      refine ⟨fun x a b hu => ?_, Nat.lcm_pos i0 ho1, fun K hK => Nat.lcm_dvd (i2 K (fun x a b hu => hK x a (by omega) hu)) ((hod K).mp ?_)⟩
      · rcases Nat.lt_or_ge x (X + 1) with q9 | q9
        · exact pw_dvd hm hr (hel x b) (Nat.dvd_lcm_left L o) (i1 x a (by omega) hu)
        · obtain rfl : x = X + 1 := by omega
          exact (hod _).mpr (Nat.dvd_lcm_right L o)
      · have := hK (X + 1) (by omega) (Nat.le_refl _) hc.1
        exact this
    · rw [e1, if_neg hc]
      refine ⟨fun x a b hu => ?_, i0, fun K hK => i2 K (fun x a b hu => hK x a (by omega) hu)⟩
      rcases Nat.lt_or_ge x (X + 1) with q9 | q9
      · exact i1 x a (by omega) hu
      · obtain rfl : x = X + 1 := by omega
        exact Classical.byContradiction fun hn => hc ⟨hu, hn⟩
theorem mxn_spec {P : Nat → Bool} {G : Nat → Nat} : ∀ n, (∀ i, i < n → P i = true → G i ≤ mxn P G n) ∧ 1 ≤ mxn P G n ∧ (mxn P G n = 1 ∨ ∃ i, i < n ∧ P i = true ∧ mxn P G n = G i)
  | 0 => ⟨fun i hi => absurd hi (by omega), Nat.le_refl _, Or.inl rfl⟩
  | n + 1 => by
    obtain ⟨h1, h2, h3⟩ := mxn_spec (P := P) (G := G) n
    have e1 : mxn P G (n + 1) = if P n = true then max (mxn P G n) (G n) else mxn P G n := rfl
    rw [e1]
    by_cases hP : P n = true
    · rw [if_pos hP]
      refine ⟨fun i hi hp => ?_, by omega, ?_⟩
      · rcases Nat.lt_or_ge i n with q | q
        · have := h1 i q hp; omega
        · obtain rfl : i = n := by omega
          omega
      · rcases Nat.le_total (G n) (mxn P G n) with q | q
        · rw [Nat.max_eq_left q]
          rcases h3 with h3 | ⟨i, a, b, c⟩
          · exact Or.inl h3
          · exact Or.inr ⟨i, by omega, b, c⟩
        · rw [Nat.max_eq_right q]
          exact Or.inr ⟨n, by omega, hP, rfl⟩
    · rw [if_neg hP]
      refine ⟨fun i hi hp => ?_, h2, ?_⟩
      · rcases Nat.lt_or_ge i n with q | q
        · exact h1 i q hp
        · obtain rfl : i = n := by omega
          exact absurd hp hP
      · rcases h3 with h3 | ⟨i, a, b, c⟩
        · exact Or.inl h3
        · exact Or.inr ⟨i, by omega, b, c⟩
theorem RK.rl0 (h : RK p e r m q f g) : rl p r m (lgR p r m q f g) x = 0 ↔ low p r m x = low p r m 1 := by
  have hq2 := h.q2
  constructor
  · intro h0
    have hu : low p r m x ≠ 0 := fun q9 => by rw [h.rl_no.mpr q9] at h0; exact absurd h0 (by decide)
    obtain ⟨k, hk, h1, h2⟩ := h.rl_k hu
    rw [h1] at h0
    obtain rfl : k = 0 := by omega
    exact h2.symm
  · intro h0
    unfold rl
    rw [h0]
    exact h.lgk (k := 0) (by omega)
theorem RK.low1 (h : RK p e r m q f g) : low p r m 1 ≠ 0 := h.lpos 0
theorem RK.exp (h : RK p e r m q f g) (hp : prm p) (hNm : ((p ^ (e * r) : Nat) : Int) = m ^ r) : (q - 1) * coE p e r (p ^ (e * r)) m f (lgR p r m q f g) = exM p r m f (p ^ (e * r)) (p ^ (e * r) - 1) := by
  have hm := h.m2
  have hr := h.2.2.1
  have hq2 := h.q2
  have hg := h.2.2.2.2.2.1
  have hp2 := h.1
  obtain ⟨a1, a0, a2⟩ := h.ex_spec hp hNm _ (Nat.le_refl _)
  have hNp : 0 < p ^ (e * r) := Nat.pow_pos (by omega)
  obtain ⟨b1, b2, b3⟩ := mxn_spec (P := fun x => decide (rl p r m (lgR p r m q f g) x = 0)) (G := fun x => obE p r m f (e - 1) x) (p ^ (e * r))
  have eC : coE p e r (p ^ (e * r)) m f (lgR p r m q f g) = mxn (fun x => decide (rl p r m (lgR p r m q f g) x = 0)) (fun x => obE p r m f (e - 1) x) (p ^ (e * r)) := rfl
  rw [← eC] at b1 b2 b3
  generalize coE p e r (p ^ (e * r)) m f (lgR p r m q f g) = C at b1 b2 b3
  generalize exM p r m f (p ^ (e * r)) (p ^ (e * r) - 1) = L at a1 a0 a2
  have unit_nat : ∀ z : Int, El m r z → low p r m z ≠ 0 → pw m r f z L = 1 := fun z hz hu => by
    obtain ⟨t, rfl⟩ : ∃ t : Nat, z = t := ⟨z.toNat, by have := hz.1; omega⟩
    have h1 : t < p ^ (e * r) := by have := hz.2; rw [← hNm] at this; omega
    have h0 : t ≠ 0 := fun q9 => by rw [q9] at hu; exact hu (low_zero (by omega))
    exact a1 t (by omega) (by omega) hu
  have hCp : ∃ i, i ≤ e - 1 ∧ C = p ^ i := by
    rcases b3 with b3 | ⟨i, c1, c2, c3⟩
    · exact ⟨0, by omega, b3⟩
    · have hel : El m r (i : Int) := ⟨by omega, by rw [← hNm]; omega⟩
      have hl := h.rl0.mp (of_decide_eq_true c2)
      obtain ⟨j, d1, d2, -⟩ := ob_spec (f := f) hm hr (e - 1) i hel (h.ob_pow hel hl)
      exact ⟨j, d1, c3.trans d2⟩
  refine Nat.dvd_antisymm ?_ ?_
  · have h1 : q - 1 ∣ L := by
      have h2 := unit_nat g hg (by have := h.lpos 1; rwa [pw_one hm hr hg] at this)
      have h3 := (h.iff (a := L) (b := 0)).mp h2
      rw [Nat.zero_mod] at h3
      exact Nat.dvd_of_mod_eq_zero h3
    have h2 : C ∣ L := by
      rcases b3 with b3 | ⟨i, c1, c2, c3⟩
      · rw [b3]; exact Nat.one_dvd L
      · have hel : El m r (i : Int) := ⟨by omega, by rw [← hNm]; omega⟩
        have hl := h.rl0.mp (of_decide_eq_true c2)
        rw [c3]
        exact (ob_dvd (f := f) hm hr hp hel (h.ob_pow hel hl) L).mp (unit_nat i hel (by rw [hl]; exact h.low1))
    obtain ⟨i, hi, he⟩ := hCp
    have hc := h.cop hp (A := q - 1) (B := C) (K := e - 1) (Nat.dvd_refl _) (by rw [he]; exact Nat.pow_dvd_pow p hi)
    obtain ⟨t, rfl⟩ := h1
    exact Nat.mul_dvd_mul_left _ (dvd_cop hc h2)
  · refine a2 _ (fun x hx1 hx2 hu => ?_)
    have hel : El m r (x : Int) := ⟨by omega, by rw [← hNm]; omega⟩
    obtain ⟨k, hk, h1, h2, h3, h4, h5⟩ := h.split hel hu
    generalize hu9 : obl p e r q m f g (lgR p r m q f g) x = u at h3 h4 h5
    have hu1 : pw m r f u C = 1 := by
      refine (ob_dvd (f := f) hm hr hp h4 (h.ob_pow h4 h3) C).mpr ?_
      obtain ⟨t, ht⟩ : ∃ t : Nat, u = t := ⟨u.toNat, by have := h4.1; omega⟩
      have ht2 : t < p ^ (e * r) := by have := h4.2; rw [← hNm] at this; omega
      have hle := b1 t ht2 (by rw [← ht]; exact decide_eq_true (h.rl0.mpr h3))
      rw [← ht] at hle
      obtain ⟨j, d1, d2, -⟩ := ob_spec (f := f) hm hr (e - 1) u h4 (h.ob_pow h4 h3)
      obtain ⟨i, hi, he⟩ := hCp
      have hle2 : obE p r m f (e - 1) u ≤ C := hle
      rw [d2, he] at hle2 ⊢
      have hji : j ≤ i := by
        rcases Nat.lt_or_ge i j with q9 | q9
        · have := Nat.pow_lt_pow_right (a := p) (by omega) q9; omega
        · exact q9
      exact Nat.pow_dvd_pow p hji
    rw [h5, pw_tm hm hr (h.el k) h4, pw_mul hm hr (h.el k), h.tc_one, one_pw hm hr, Nat.mul_comm, pw_mul hm hr h4, hu1, one_pw hm hr, one_tm hm hr (el_one hm hr)]
end Ord
