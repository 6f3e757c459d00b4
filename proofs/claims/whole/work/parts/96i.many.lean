/-! how many elements have a level, a trace, are moved to themselves; how many units a power takes to 1 -/
section Lv
variable {p r : Nat} {m x : Int}
theorem lvM_ge (hp : 2 ≤ p) : ∀ (k n v : Nat), (∀ j, j < r → dg m j x % (p : Int) ^ n = 0) → n ≤ v → v ≤ n + k → (v ≤ lvM p r m x n k ↔ ∀ j, j < r → dg m j x % (p : Int) ^ v = 0)
  | 0, n, v, hn, h1, h2 => by
    obtain rfl : v = n := by omega
    exact ⟨fun _ => hn, fun _ => Nat.le_refl _⟩
  | k + 1, n, v, hn, h1, h2 => by
    have e1 : lvM p r m x n (k + 1) = if imB r m x ((p : Int) ^ (n + 1)) = true then lvM p r m x (n + 1) k else n := rfl
    by_cases hc : ∀ j, j < r → dg m j x % (p : Int) ^ (n + 1) = 0
    · rw [e1, if_pos (show imB r m x ((p : Int) ^ (n + 1)) = true from decide_eq_true hc)]
      rcases Nat.lt_or_ge n v with q | q
      · exact lvM_ge hp k (n + 1) v hc q (by omega)
      · obtain rfl : v = n := by omega
        have h3 := (lvM_ge hp k (v + 1) (v + 1) hc (Nat.le_refl _) (by omega)).mpr hc
        exact ⟨fun _ => hn, fun _ => by omega⟩
    · rw [e1, if_neg (show ¬ imB r m x ((p : Int) ^ (n + 1)) = true from fun q => hc (of_decide_eq_true q))]
      constructor
      · intro h
        obtain rfl : v = n := by omega
        exact hn
      · intro h
        rcases Nat.lt_or_ge n v with q | q
        · refine absurd (fun j hj => ?_) hc
          have h9 : (p : Int) ^ (n + 1) ∣ (p : Int) ^ v := ⟨(p : Int) ^ (v - (n + 1)), by rw [← Int.pow_add, show n + 1 + (v - (n + 1)) = v by omega]⟩
          exact Int.emod_eq_zero_of_dvd (Int.dvd_trans h9 (Int.dvd_of_emod_eq_zero (h j hj)))
        · exact q
theorem lvM_le9 : ∀ (k n : Nat), lvM p r m x n k ≤ n + k
  | 0, n => Nat.le_refl _
  | k + 1, n => by
    show (if imB r m x ((p : Int) ^ (n + 1)) = true then lvM p r m x (n + 1) k else n) ≤ _
    split
    · have := lvM_le9 k (n + 1); omega
    · omega
end Lv
theorem toNat_lt_of {x : Int} {N : Nat} (h : 0 ≤ x) (h2 : x < N) : x.toNat < N := by omega
theorem inat_pow (a b : Nat) : ((a ^ b : Nat) : Int) = (a : Int) ^ b := by simp
/-- how many are p ^ v times an element -/
theorem many_div {p e r v : Nat} {m : Int} (hp : 2 ≤ p) (hme : m = (p : Int) ^ e) (hv : v ≤ e) : ctn (fun x => decide (∀ j, j < r → dg m j x % (p : Int) ^ v = 0)) (p ^ (e * r)) = (p ^ r) ^ (e - v) := by
  have hpi : (0 : Int) < p := by omega
  have hpv : (0 : Int) < (p : Int) ^ v := Int.pow_pos hpi
  have hm0 : (0 : Int) < m := by rw [hme]; exact Int.pow_pos hpi
  have hM : (0 : Int) < (p : Int) ^ (e - v) := Int.pow_pos hpi
  have hmM : m = (p : Int) ^ v * (p : Int) ^ (e - v) := by rw [hme, ← Int.pow_add, show v + (e - v) = e by omega]
  have hNm : ((p ^ (e * r) : Nat) : Int) = m ^ r := by rw [hme, ← Int.pow_mul, inat_pow]
  have hK : (((p ^ r) ^ (e - v) : Nat) : Int) = ((p : Int) ^ (e - v)) ^ r := by rw [← Nat.pow_mul, Nat.mul_comm, Nat.pow_mul, inat_pow, inat_pow]
  have hdg : ∀ (t : Int) (j : Nat), j < r → dg m j (un m r (fun j => (p : Int) ^ v * dg ((p : Int) ^ (e - v)) j t)) = (p : Int) ^ v * dg ((p : Int) ^ (e - v)) j t := fun t j hj => by
    rw [dg_un hm0, if_pos hj]
    have h1 := dg_range hM j t
    refine Int.emod_eq_of_lt (Int.mul_nonneg (by omega) h1.1) ?_
    rw [hmM]
    exact Int.mul_lt_mul_of_pos_left h1.2 hpv
  refine ctn_bij (h := fun t => (un m r (fun j => (p : Int) ^ v * dg ((p : Int) ^ (e - v)) j t)).toNat) (fun t ht => ?_) (fun s t hs ht he => ?_) (fun x hx hP => ?_)
  · have h1 := un_range hm0 r (fun j => (p : Int) ^ v * dg ((p : Int) ^ (e - v)) j t)
    refine ⟨toNat_lt_of h1.1 (by rw [hNm]; exact h1.2), decide_eq_true fun j hj => ?_⟩
    rw [Int.toNat_of_nonneg h1.1, hdg _ _ hj, Int.mul_emod_right]
  · have h1 := un_range hm0 r (fun j => (p : Int) ^ v * dg ((p : Int) ^ (e - v)) j s)
    have h2 := un_range hm0 r (fun j => (p : Int) ^ v * dg ((p : Int) ^ (e - v)) j t)
    have he : (un m r (fun j => (p : Int) ^ v * dg ((p : Int) ^ (e - v)) j s)).toNat = (un m r (fun j => (p : Int) ^ v * dg ((p : Int) ^ (e - v)) j t)).toNat := he
    have he2 : un m r (fun j => (p : Int) ^ v * dg ((p : Int) ^ (e - v)) j s) = un m r (fun j => (p : Int) ^ v * dg ((p : Int) ^ (e - v)) j t) := by omega
    have h3 : ∀ j, j < r → dg ((p : Int) ^ (e - v)) j s = dg ((p : Int) ^ (e - v)) j t := fun j hj => by
      have h4 := congrArg (dg m j) he2
      rw [hdg _ _ hj, hdg _ _ hj] at h4
      exact Int.eq_of_mul_eq_mul_left (by omega) h4
    have h5 : (s : Int) = t := el_ext (m := (p : Int) ^ (e - v)) (r := r) hM ⟨by omega, by rw [← hK]; omega⟩ ⟨by omega, by rw [← hK]; omega⟩ h3
    omega
  · have hP := of_decide_eq_true hP
    have hu := un_range hM r (fun j => dg m j x / (p : Int) ^ v)
    refine ⟨(un ((p : Int) ^ (e - v)) r (fun j => dg m j x / (p : Int) ^ v)).toNat, toNat_lt_of hu.1 (by rw [hK]; exact hu.2), ?_⟩
    have h1 := un_range hm0 r (fun j => (p : Int) ^ v * dg ((p : Int) ^ (e - v)) j (un ((p : Int) ^ (e - v)) r (fun j => dg m j x / (p : Int) ^ v)))
    have h2 : un m r (fun j => (p : Int) ^ v * dg ((p : Int) ^ (e - v)) j (un ((p : Int) ^ (e - v)) r (fun j => dg m j x / (p : Int) ^ v))) = x := by
      refine el_ext hm0 h1 ⟨by omega, by rw [← hNm]; omega⟩ fun j hj => ?_
      rw [hdg _ _ hj, dg_un hM, if_pos hj]
      obtain ⟨w, hw⟩ := Int.dvd_of_emod_eq_zero (hP j hj)
      have h3 := dg_range hm0 j (x : Int)
      rw [hw, Int.mul_ediv_cancel_left _ (by omega)]
      rw [hw, hmM] at h3
      have hw0 : 0 ≤ w := by
        rcases Int.lt_or_le w 0 with q | q
        · have := Int.mul_neg_of_pos_of_neg hpv q; omega
        · exact q
      have hw1 : w < (p : Int) ^ (e - v) := Int.lt_of_mul_lt_mul_left h3.2 (by omega)
      rw [Int.emod_eq_of_lt hw0 hw1]
    show (un m r (fun j => (p : Int) ^ v * dg ((p : Int) ^ (e - v)) j ((un ((p : Int) ^ (e - v)) r (fun j => dg m j x / (p : Int) ^ v)).toNat : Nat))).toNat = x
    rw [Int.toNat_of_nonneg hu.1, h2]
    exact Int.toNat_natCast x
theorem many_level {p e r v : Nat} {m : Int} (hp : 2 ≤ p) (hme : m = (p : Int) ^ e) : ((ctn (fun x => decide (((lvM p r m x 0 e : Nat) : Int) = (v : Int))) (p ^ (e * r)) : Nat) : Int) = if e ≤ v then (if v = e then 1 else 0) else ((p ^ r : Nat) : Int) ^ (e - v) - ((p ^ r : Nat) : Int) ^ (e - v - 1) := by
  have h0 : ∀ (x : Int) j, j < r → dg m j x % (p : Int) ^ 0 = 0 := fun x j _ => by rw [Int.pow_zero, Int.emod_one]
  have hge : ∀ (x : Int) v, v ≤ e → (v ≤ lvM p r m x 0 e ↔ ∀ j, j < r → dg m j x % (p : Int) ^ v = 0) := fun x v hv => lvM_ge hp e 0 v (h0 x) (by omega) (by omega)
  have hle : ∀ x : Int, lvM p r m x 0 e ≤ e := fun x => by have := lvM_le9 (p := p) (r := r) (m := m) (x := x) e 0; omega
  rcases Nat.lt_trichotomy v e with hv | hv | hv
  · rw [if_neg (by omega)]
    have h1 := ctn_split (P := fun x => decide (((lvM p r m x 0 e : Nat) : Int) = (v : Int))) (B := fun x => decide (∀ j, j < r → dg m j x % (p : Int) ^ (v + 1) = 0)) (A := fun x => decide (∀ j, j < r → dg m j x % (p : Int) ^ v = 0)) (p ^ (e * r))
      (fun y _ hA => by
        have hA := (hge y v (by omega)).mpr (of_decide_eq_true hA)
        by_cases hB : ∀ j, j < r → dg m j y % (p : Int) ^ (v + 1) = 0
        · have := (hge y (v + 1) (by omega)).mpr hB
          exact Or.inr ⟨decide_eq_false (by omega), decide_eq_true hB⟩
        · have : ¬ v + 1 ≤ lvM p r m y 0 e := fun q => hB ((hge y (v + 1) (by omega)).mp q)
          exact Or.inl ⟨decide_eq_true (by omega), decide_eq_false hB⟩)
      (fun y _ hA => by
        have hA : ¬ v ≤ lvM p r m y 0 e := fun q => (of_decide_eq_false hA) ((hge y v (by omega)).mp q)
        refine ⟨decide_eq_false (by omega), decide_eq_false fun q => ?_⟩
        have := (hge y (v + 1) (by omega)).mpr q
        omega)
    rw [many_div hp hme (by omega), many_div hp hme (by omega)] at h1
    rw [show e - (v + 1) = e - v - 1 by omega] at h1
    rw [← inat_pow, ← inat_pow]
    omega
  · rw [if_pos (by omega), if_pos hv]
    have h1 := many_div (p := p) (e := e) (r := r) (v := e) hp hme (Nat.le_refl _)
    rw [Nat.sub_self, Nat.pow_zero] at h1
    rw [ctn_congr (Q := fun x => decide (∀ j, j < r → dg m j x % (p : Int) ^ e = 0)) (fun y _ => ?_), h1]
    · rfl
    · by_cases hB : ∀ j, j < r → dg m j y % (p : Int) ^ e = 0
      · have := (hge y e (Nat.le_refl _)).mpr hB
        have := hle y
        rw [decide_eq_true hB, decide_eq_true (by omega)]
      · have h9 : ¬ e ≤ lvM p r m y 0 e := fun q => hB ((hge y e (Nat.le_refl _)).mp q)
        rw [decide_eq_false hB, decide_eq_false (by omega)]
  · rw [if_pos (by omega), if_neg (by omega), ctn_none fun y _ => decide_eq_false (by have := hle y; omega)]
    rfl
section Many
variable {p e r q : Nat} {m : Int} {f : Nat → Int} {g x y : Int}
/-- digits as a number -/
def cod (q e : Nat) (d : Nat → Int) : Nat := (un (q : Int) e (fun i => d i + 1)).toNat
theorem cod_lt {q e : Nat} (hq : 2 ≤ q) (d : Nat → Int) : cod q e d < q ^ e := by
  have h := un_range (m := (q : Int)) (by omega) e (fun i => d i + 1)
  exact toNat_lt_of h.1 (by rw [inat_pow]; exact h.2)
theorem dg_cod {q e : Nat} {d : Nat → Int} (hq : 2 ≤ q) (hd : DG q d e) {i : Nat} (hi : i < e) : dg (q : Int) i (cod q e d) = d i + 1 := by
  have h := un_range (m := (q : Int)) (by omega) e (fun i => d i + 1)
  unfold cod
  rw [Int.toNat_of_nonneg h.1, dg_un (by omega), if_pos hi]
  rcases hd i hi with h1 | ⟨k, hk, h1⟩
  · rw [h1]; rfl
  · rw [h1]; exact Int.emod_eq_of_lt (by omega) (by omega)
theorem RK.el_nat (h : RK p e r m q f g) {x : Nat} (hx : x < p ^ (e * r)) : El m r (x : Int) := ⟨by omega, by rw [h.2.2.2.1, ← Int.pow_mul, ← inat_pow]; omega⟩
theorem RK.nat_el (h : RK p e r m q f g) (hx : El m r x) : x.toNat < p ^ (e * r) ∧ ((x.toNat : Nat) : Int) = x := by
  have h1 := hx.2
  rw [h.2.2.2.1, ← Int.pow_mul, ← inat_pow] at h1
  have := hx.1
  exact ⟨by omega, by omega⟩
theorem RK.qe (h : RK p e r m q f g) : q ^ e = p ^ (e * r) := by rw [h.2.2.2.2.1, ← Nat.pow_mul, Nat.mul_comm]
/-- digits are told in one way alone -/
theorem RK.dd_jn (h : RK p e r m q f g) {d : Nat → Int} (hd : DG q d e) : ∀ i, i < e → ddR p e r q m f g (jnM p r q m f g d 1 e) i = d i := by
  have hq2 := h.q2
  have hc := cod_lt (q := q) (e := e) hq2 d
  obtain ⟨x, hx, he⟩ := php (q ^ e) (fun x => cod q e (ddR p e r q m f g x) + 1) (fun i hi => ⟨by omega, by have := cod_lt (q := q) (e := e) hq2 (ddR p e r q m f g i); omega⟩) (fun i j hi hj he => by
    have he : cod q e (ddR p e r q m f g i) = cod q e (ddR p e r q m f g j) := Nat.add_right_cancel he
    have hdd : ∀ t, t < e → ddR p e r q m f g i t = ddR p e r q m f g j t := fun t ht => by
      have h1 := dg_cod hq2 (h.DGx i) ht
      rw [he, dg_cod hq2 (h.DGx j) ht] at h1
      omega
    rw [h.qe] at hi hj
    have h1 := h.jn_all (h.el_nat hi)
    have h2 := h.jn_all (h.el_nat hj)
    have h3 : jnM p r q m f g (ddR p e r q m f g i) 1 e = jnM p r q m f g (ddR p e r q m f g j) 1 e := h.jn_congr (fun t ht => by
      rcases h.DGx i t ht with a | ⟨k, hk, a⟩
      · exact Or.inl ⟨a, by rw [← hdd t ht]; exact a⟩
      · exact Or.inr ⟨k, k, a, by rw [← hdd t ht]; exact a, rfl⟩) e (Nat.le_refl _)
    rw [h1, h2] at h3
    omega) (cod q e d + 1) (by omega) (by omega)
  have he : cod q e (ddR p e r q m f g x) = cod q e d := Nat.add_right_cancel he
  have hdd : ∀ t, t < e → ddR p e r q m f g x t = d t := fun t ht => by
    have h1 := dg_cod hq2 (h.DGx x) ht
    rw [he, dg_cod hq2 hd ht] at h1
    omega
  rw [h.qe] at hx
  have h3 : jnM p r q m f g d 1 e = x := by
    rw [← h.jn_all (h.el_nat hx)]
    exact (h.jn_congr (fun t ht => by
      rcases h.DGx x t ht with a | ⟨k, hk, a⟩
      · exact Or.inl ⟨a, by rw [← hdd t ht]; exact a⟩
      · exact Or.inr ⟨k, k, a, by rw [← hdd t ht]; exact a, rfl⟩) e (Nat.le_refl _)).symm
  intro i hi
  rw [h3]
  exact hdd i hi
theorem RK.jn_inj (h : RK p e r m q f g) {d d' : Nat → Int} (hd : DG q d e) (hd' : DG q d' e) (he : jnM p r q m f g d 1 e = jnM p r q m f g d' 1 e) : ∀ i, i < e → d i = d' i := fun i hi => by
  rw [← h.dd_jn hd i hi, he, h.dd_jn hd' i hi]
/-- moved k times to itself, by digits -/
theorem RK.fix_iff (h : RK p e r m q f g) (hx : El m r x) (k : Nat) : mvn p r m f x k = x ↔ ∀ i, i < e → ddR p e r q m f g x i = -1 ∨ ∃ t : Nat, t < q - 1 ∧ ddR p e r q m f g x i = t ∧ t * p ^ k % (q - 1) = t := by
  have hq2 := h.q2
  rw [h.mvn_jn hx]
  -- the digits of what is moved
  have hdm : DG q (fun i => if ddR p e r q m f g x i = -1 then -1 else (((ddR p e r q m f g x i).toNat * p ^ k % (q - 1) : Nat) : Int)) e := fun i hi => by
    by_cases h1 : ddR p e r q m f g x i = -1
    · exact Or.inl (if_pos h1)
    · exact Or.inr ⟨_, Nat.mod_lt _ (by omega), if_neg h1⟩
  have hj : jnM p r q m f g (ddR p e r q m f g x) (p ^ k) e = jnM p r q m f g (fun i => if ddR p e r q m f g x i = -1 then -1 else (((ddR p e r q m f g x i).toNat * p ^ k % (q - 1) : Nat) : Int)) 1 e := h.jn_congr (fun i hi => by
    rcases h.DGx x i hi with a | ⟨t, ht, a⟩
    · exact Or.inl ⟨a, if_pos a⟩
    · refine Or.inr ⟨t, t * p ^ k % (q - 1), a, ?_, ?_⟩
      · show (if ddR p e r q m f g x i = -1 then (-1 : Int) else (((ddR p e r q m f g x i).toNat * p ^ k % (q - 1) : Nat) : Int)) = _
        rw [if_neg (by omega), a]; rfl
      · rw [Nat.mul_one, Nat.mod_mod]) e (Nat.le_refl _)
  rw [hj]
  constructor
  · intro he i hi
    have h2 := h.dd_jn hdm i hi
    rw [he] at h2
    rcases h.DGx x i hi with a | ⟨t, ht, a⟩
    · exact Or.inl a
    · refine Or.inr ⟨t, ht, a, ?_⟩
      have h2 : ddR p e r q m f g x i = if ddR p e r q m f g x i = -1 then (-1 : Int) else (((ddR p e r q m f g x i).toNat * p ^ k % (q - 1) : Nat) : Int) := h2
      rw [if_neg (by omega), a] at h2
      have h3 : (t : Int).toNat = t := rfl
      rw [h3] at h2
      omega
  · intro hall
    refine Eq.trans (h.jn_congr (d' := ddR p e r q m f g x) (b' := 1) (fun i hi => ?_) e (Nat.le_refl _)) (h.jn_all hx)
    rcases hall i hi with a | ⟨t, ht, a, b⟩
    · exact Or.inl ⟨if_pos a, a⟩
    · refine Or.inr ⟨t, t, ?_, a, rfl⟩
      show (if ddR p e r q m f g x i = -1 then (-1 : Int) else (((ddR p e r q m f g x i).toNat * p ^ k % (q - 1) : Nat) : Int)) = _
      rw [if_neg (by omega), a]
      show ((t * p ^ k % (q - 1) : Nat) : Int) = t
      rw [b]
end Many
