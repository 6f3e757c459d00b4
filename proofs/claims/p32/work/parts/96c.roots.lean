/-! the roots: the powers of a generator, and what is below them -/
def RK (p e r : Nat) (m : Int) (q : Nat) (f : Nat → Int) (g : Int) : Prop :=
  2 ≤ p ∧ 1 ≤ e ∧ 1 ≤ r ∧ m = (p : Int) ^ e ∧ q = p ^ r ∧ El m r g ∧ pw m r f g (q - 1) = 1 ∧ maE q m r f g ∧ Zs_ m r f (pw m r f (tE m r) p) ∧ mv p r m f g = pw m r f g p
theorem php : ∀ (n : Nat) (h : Nat → Nat), (∀ i, i < n → 1 ≤ h i ∧ h i ≤ n) → (∀ i j, i < n → j < n → h i = h j → i = j) → ∀ b, 1 ≤ b → b ≤ n → ∃ i, i < n ∧ h i = b
  | 0, _, _, _, b, h1, h2 => absurd h1 (by omega)
  | n + 1, h, hr, hi, b, h1, h2 => by
    have hn := hr n (by omega)
    have ih := php n (fun i => if h i = n + 1 then h n else h i)
      (fun i hin => by
        have hri := hr i (by omega)
        show 1 ≤ (if h i = n + 1 then h n else h i) ∧ (if h i = n + 1 then h n else h i) ≤ n
        by_cases hc : h i = n + 1
        · rw [if_pos hc]
          have : h n ≠ n + 1 := fun q => by have := hi i n (by omega) (by omega) (hc.trans q.symm); omega
          omega
        · rw [if_neg hc]; omega)
      (fun i j hin hjn hij => by
        have hij2 : (if h i = n + 1 then h n else h i) = (if h j = n + 1 then h n else h j) := hij
        by_cases hc : h i = n + 1
        · by_cases hd : h j = n + 1
          · exact hi i j (by omega) (by omega) (hc.trans hd.symm)
          · rw [if_pos hc, if_neg hd] at hij2
            have := hi n j (by omega) (by omega) hij2
            omega
        · by_cases hd : h j = n + 1
          · rw [if_neg hc, if_pos hd] at hij2
            have := hi i n (by omega) (by omega) hij2
            omega
          · rw [if_neg hc, if_neg hd] at hij2
            exact hi i j (by omega) (by omega) hij2)
    by_cases hb : h n = b
    · exact ⟨n, by omega, hb⟩
    by_cases hbn : b = n + 1
    · have hv : h n ≤ n := by omega
      obtain ⟨i, hin, hiv⟩ := ih (h n) hn.1 hv
      have hiv2 : (if h i = n + 1 then h n else h i) = h n := hiv
      by_cases hc : h i = n + 1
      · exact ⟨i, by omega, by omega⟩
      · rw [if_neg hc] at hiv2
        have := hi i n (by omega) (by omega) hiv2
        omega
    · obtain ⟨i, hin, hib⟩ := ih b h1 (by omega)
      have hib2 : (if h i = n + 1 then h n else h i) = b := hib
      by_cases hc : h i = n + 1
      · rw [if_pos hc] at hib2; exact absurd hib2 hb
      · rw [if_neg hc] at hib2; exact ⟨i, by omega, hib2⟩
theorem low_zero {p r : Nat} {m : Int} (hp : 0 < p) : low p r m 0 = 0 := by
  have h := low_cast (p := p) (r := r) (m := m) (x := 0) hp
  have h2 : un (p : Int) r (fun i => dg m i 0) = 0 := by
    rw [un_sm]
    exact sm_zero fun i _ => by rw [dg_zero, Int.zero_emod, Int.zero_mul]
  rw [h2] at h
  omega
theorem low_li {p r : Nat} {m : Int} (hp : 2 ≤ p) (hpm : (p : Int) ≤ m) {b : Nat} (hb : b < p ^ r) : low p r m (liE p r m b) = b := by
  have h := low_cast (p := p) (r := r) (m := m) (x := liE p r m b) (by omega)
  have h2 : un (p : Int) r (fun i => dg m i (liE p r m b)) = un (p : Int) r (fun i => dg p i b) := un_congr fun i hi => by
    unfold liE
    rw [dg_un (by omega), if_pos hi]
    have h3 := dg_range (m := (p : Int)) (by omega) i b
    rw [Int.emod_eq_of_lt h3.1 (by omega)]
  have h4 : ((p ^ r : Nat) : Int) = (p : Int) ^ r := by simp
  rw [h2, un_dg (by omega) r b (by omega) (by omega)] at h
  omega
theorem qk {q : Nat} (hq : 1 ≤ q) : ∀ k, ∃ c, q ^ k = 1 + (q - 1) * c
  | 0 => ⟨0, by simp⟩
  | k + 1 => by
    obtain ⟨c, hc⟩ := qk hq k
    obtain ⟨n, rfl⟩ : ∃ n, q = n + 1 := ⟨q - 1, by omega⟩
    refine ⟨c * (n + 1) + 1, ?_⟩
    simp only [Nat.add_sub_cancel] at hc ⊢
    rw [Nat.pow_succ, hc, Nat.add_mul, Nat.one_mul, Nat.mul_assoc, Nat.mul_add n (c * (n + 1)) 1, Nat.mul_one]
    omega
section RCs
variable {p e r q : Nat} {m : Int} {f : Nat → Int} {g x y : Int}
theorem RK.m2 (h : RK p e r m q f g) : 2 ≤ m := by
  obtain ⟨hp, he, hr, hme, -⟩ := h
  have := pow_ge (m := (p : Int)) (by omega) he
  omega
theorem RK.pm (h : RK p e r m q f g) : (p : Int) ≤ m := by
  obtain ⟨hp, he, hr, hme, -⟩ := h
  have := pow_ge (m := (p : Int)) (by omega) he
  omega
theorem RK.q2 (h : RK p e r m q f g) : 2 ≤ q := by
  obtain ⟨hp, he, hr, hme, hq, -⟩ := h
  rw [hq]
  calc 2 ≤ p := hp
    _ = p ^ 1 := (Nat.pow_one p).symm
    _ ≤ p ^ r := Nat.pow_le_pow_right (by omega) hr
theorem RK.el (h : RK p e r m q f g) (a : Nat) : El m r (pw m r f g a) := pw_el h.m2 h.2.2.1 g a
theorem RK.per (h : RK p e r m q f g) (a k : Nat) : pw m r f g (a + (q - 1) * k) = pw m r f g a := by
  have hm := h.m2
  obtain ⟨hp, he, hr, hme, hq, hg, h1, -⟩ := id h
  rw [pw_add hm hr hg, pw_mul hm hr hg, h1, one_pw hm hr, tm_one hm hr (h.el a)]
theorem RK.mod (h : RK p e r m q f g) (a : Nat) : pw m r f g a = pw m r f g (a % (q - 1)) := by
  have := h.per (a % (q - 1)) (a / (q - 1))
  rw [Nat.mod_add_div] at this
  exact this
theorem RK.inv (h : RK p e r m q f g) (a : Nat) : tm m r f (pw m r f g a) (pw m r f g (a * (q - 2))) = 1 := by
  have hm := h.m2
  have hq2 := h.q2
  obtain ⟨hp, he, hr, hme, hq, hg, h1, -⟩ := id h
  rw [← pw_add hm hr hg, show a + a * (q - 2) = 0 + (q - 1) * a by
    obtain ⟨n, rfl⟩ : ∃ n, q = n + 2 := ⟨q - 2, by omega⟩
    rw [show n + 2 - 2 = n by omega, show n + 2 - 1 = n + 1 by omega, Nat.add_mul, Nat.mul_comm a n]; omega, h.per]
  rfl
/-- what cancels -/
theorem tm_cancel (hm : 2 ≤ m) (hr : 0 < r) {u v : Int} (hu : El m r u) (hv : El m r v) (h : tm m r f u v = 1) (hx : El m r x) (hy : El m r y) (he : tm m r f u x = tm m r f u y) : x = y := by
  have hm0 : 0 < m := by omega
  have h1 : ∀ z, El m r z → tm m r f v (tm m r f u z) = z := fun z hz => by
    rw [← tm_assoc hm0 hv hu hz, tm_comm hm0 hv hu, h, one_tm hm hr hz]
  rw [← h1 x hx, ← h1 y hy, he]
theorem RK.sub (h : RK p e r m q f g) {a b : Nat} (hab : a ≤ b) (he : pw m r f g a = pw m r f g b) : pw m r f g (b - a) = 1 := by
  have hm := h.m2
  obtain ⟨hp, -, hr, hme, hq, hg, h1, -⟩ := id h
  refine tm_cancel hm hr (h.el a) (h.el _) (h.inv a) (h.el _) (el_one hm hr) ?_
  rw [← pw_add hm hr hg, tm_one hm hr (h.el a), show a + (b - a) = b by omega]
  exact he.symm
theorem RK.inj (h : RK p e r m q f g) {a b : Nat} (ha : a < q - 1) (hb : b < q - 1) (he : pw m r f g a = pw m r f g b) : a = b := by
  have hma := h.2.2.2.2.2.2.2.1
  rcases Nat.lt_trichotomy a b with hl | hl | hl
  · exact absurd (h.sub (by omega) he) (hma (b - a) (by omega) (by omega))
  · exact hl
  · exact absurd (h.sub (by omega) he.symm) (hma (a - b) (by omega) (by omega))
theorem RK.iff (h : RK p e r m q f g) {a b : Nat} : pw m r f g a = pw m r f g b ↔ a % (q - 1) = b % (q - 1) := by
  have hq2 := h.q2
  constructor
  · intro he
    rw [h.mod a, h.mod b] at he
    exact h.inj (Nat.mod_lt _ (by omega)) (Nat.mod_lt _ (by omega)) he
  · intro he
    rw [h.mod a, h.mod b, he]
theorem RK.root (h : RK p e r m q f g) (a k : Nat) : pw m r f (pw m r f g a) (q ^ k) = pw m r f g a := by
  have hm := h.m2
  obtain ⟨hp, -, hr, hme, hq, hg, h1, -⟩ := id h
  obtain ⟨c, hc⟩ := qk (q := q) (by have := h.q2; omega) k
  rw [← pw_mul hm hr hg, hc, Nat.mul_add, Nat.mul_one, show a * ((q - 1) * c) = (q - 1) * (a * c) by rw [← Nat.mul_assoc, Nat.mul_comm a, Nat.mul_assoc], h.per]
/-- what is alike below has the same power -/
theorem RK.below (h : RK p e r m q f g) (hx : El m r x) (hy : El m r y) (hl : low p r m x = low p r m y) : pw m r f x (q ^ (e - 1)) = pw m r f y (q ^ (e - 1)) :=
  pw_low h.m2 h.2.2.1 (by have := h.1; omega) h.2.1 h.2.2.2.1 h.2.2.2.2.1 hx hy hl
theorem RK.linj (h : RK p e r m q f g) {a b : Nat} (hl : low p r m (pw m r f g a) = low p r m (pw m r f g b)) : pw m r f g a = pw m r f g b := by
  have := h.below (h.el a) (h.el b) hl
  rwa [h.root, h.root] at this
theorem RK.lpos (h : RK p e r m q f g) (a : Nat) : low p r m (pw m r f g a) ≠ 0 := by
  intro h0
  have hm := h.m2
  have hp := h.1
  have hr := h.2.2.1
  have hq2 := h.q2
  have h1 := h.below (h.el a) (el_zero (by omega)) (h0.trans (low_zero (by omega)).symm)
  rw [h.root, zero_pw hm (Nat.pow_pos (by omega))] at h1
  have h2 := h.inv a
  rw [h1, zero_tm (by omega) (h.el _)] at h2
  exact absurd h2 (by decide)
theorem RK.lsurj (h : RK p e r m q f g) {b : Nat} (h1 : 1 ≤ b) (h2 : b < q) : ∃ k, k < q - 1 ∧ low p r m (pw m r f g k) = b := by
  have hp := h.1
  refine php (q - 1) (fun k => low p r m (pw m r f g k)) (fun i hi => ?_) (fun i j hi hj he => ?_) b h1 (by omega)
  · have a1 := h.lpos i
    have a2 : low p r m (pw m r f g i) < p ^ r := low_lt (by omega)
    rw [← h.2.2.2.2.1] at a2
    exact ⟨by omega, by omega⟩
  · exact h.inj hi hj (h.linj he)
theorem RK.unit (h : RK p e r m q f g) (hx : low p r m x ≠ 0) : ∃ k, k < q - 1 ∧ low p r m (pw m r f g k) = low p r m x := by
  have hp := h.1
  have a2 : low p r m x < p ^ r := low_lt (by omega)
  rw [← h.2.2.2.2.1] at a2
  exact h.lsurj (by omega) a2
theorem lg_some {k j : Nat} (h : ∀ i, i < k → low p r m (pw m r f g i) = j → False) : lgE p r m f g k j = -1 := by
  induction k with
  | zero => rfl
  | succ k ih =>
    show (if j = low p r m (pw m r f g k) then (k : Int) else lgE p r m f g k j) = -1
    rw [if_neg (fun q => h k (by omega) q.symm)]
    exact ih (fun i hi hj => h i (by omega) hj)
theorem RK.lg_at (h : RK p e r m q f g) : ∀ {k K : Nat}, K ≤ q - 1 → k < K → lgE p r m f g K (low p r m (pw m r f g k)) = k
  | k, 0, _, h2 => absurd h2 (by omega)
  | k, K + 1, h1, h2 => by
    show (if low p r m (pw m r f g k) = low p r m (pw m r f g K) then (K : Int) else lgE p r m f g K (low p r m (pw m r f g k))) = k
    by_cases hk : k = K
    · rw [if_pos (by rw [hk]), hk]
    · rw [if_neg (fun he => hk (h.inj (by omega) (by omega) (h.linj he)))]
      exact h.lg_at (by omega) (by omega)
abbrev lgR (p r : Nat) (m : Int) (q : Nat) (f : Nat → Int) (g : Int) : Nat → Int := lgE p r m f g (q - 1)
theorem RK.lg0 (h : RK p e r m q f g) : lgR p r m q f g 0 = -1 := lg_some fun i _ hj => h.lpos i hj
theorem RK.lgk (h : RK p e r m q f g) {k : Nat} (hk : k < q - 1) : lgR p r m q f g (low p r m (pw m r f g k)) = k := h.lg_at (Nat.le_refl _) hk
theorem RK.rl_no (h : RK p e r m q f g) : rl p r m (lgR p r m q f g) x = -1 ↔ low p r m x = 0 := by
  unfold rl
  constructor
  · intro hl
    refine Classical.byContradiction fun hx => ?_
    obtain ⟨k, hk, he⟩ := h.unit hx
    rw [← he, h.lgk hk] at hl
    omega
  · intro hl
    rw [hl, h.lg0]
theorem RK.rl_k (h : RK p e r m q f g) (hx : low p r m x ≠ 0) : ∃ k, k < q - 1 ∧ rl p r m (lgR p r m q f g) x = k ∧ low p r m (pw m r f g k) = low p r m x := by
  obtain ⟨k, hk, he⟩ := h.unit hx
  exact ⟨k, hk, by unfold rl; rw [← he, h.lgk hk], he⟩
theorem RK.tc0 (h : RK p e r m q f g) : tcE p e r q m f 0 = 0 := by
  unfold tcE
  have hm := h.m2
  have hq2 := h.q2
  have e1 : liE p r m ((0 : Nat) : Int) = 0 := by
    unfold liE
    rw [un_sm]
    exact sm_zero fun i _ => by rw [show ((0 : Nat) : Int) = 0 from rfl, dg_zero, Int.zero_emod, Int.zero_mul]
  rw [e1, zero_pw hm (Nat.pow_pos (by omega))]
/-- the root of an element is its power -/
theorem RK.tc_pw (h : RK p e r m q f g) (hx : El m r x) : tcE p e r q m f (low p r m x) = pw m r f x (q ^ (e - 1)) := by
  have hp := h.1
  have hm := h.m2
  have hr := h.2.2.1
  refine h.below (un_range (by omega) _ _) hx ?_
  exact low_li hp h.pm (low_lt (by omega))
theorem RK.tc_k (h : RK p e r m q f g) (k : Nat) : tcE p e r q m f (low p r m (pw m r f g k)) = pw m r f g k := by
  rw [h.tc_pw (h.el k), h.root]
/-- both sides' root of an element -/
theorem RK.ro_tc (h : RK p e r m q f g) (x : Int) : ro p r m f g (lgR p r m q f g) x = tcE p e r q m f (low p r m x) := by
  by_cases hx : low p r m x = 0
  · unfold ro
    rw [if_pos (h.rl_no.mpr hx), hx, h.tc0]
  · obtain ⟨k, hk, h1, h2⟩ := h.rl_k hx
    unfold ro
    rw [h1, if_neg (by omega), ← h2, h.tc_k]
    rfl
theorem RK.ro_low (h : RK p e r m q f g) (x : Int) : low p r m (tcE p e r q m f (low p r m x)) = low p r m x := by
  by_cases hx : low p r m x = 0
  · rw [hx, h.tc0, low_zero (by have := h.1; omega)]
  · obtain ⟨k, hk, h1, h2⟩ := h.rl_k hx
    rw [← h2, h.tc_k]
end RCs
