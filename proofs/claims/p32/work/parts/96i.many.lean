/-! how many elements have a level, a trace, are moved to themselves; how many units a power takes to 1 -/
theorem toNat_lt_of {x : Int} {N : Nat} (h : 0 ≤ x) (h2 : x < N) : x.toNat < N := by omega
theorem inat_pow (a b : Nat) : ((a ^ b : Nat) : Int) = (a : Int) ^ b := by simp
section Many
variable {p e r q : Nat} {m : Int} {f : Nat → Int} {g x y : Int}
/-- digits as a number -/
def cod (q e : Nat) (d : Nat → Int) : Nat := (un (q : Int) e (fun i => d i + 1)).toNat
theorem cod_lt {q e : Nat} (hq : 2 ≤ q) (d : Nat → Int) : cod q e d < q ^ e := by
  have h := un_range (m := (q : Int)) (by omega) e (fun i => d i + 1)
  exact toNat_lt_of h.1 (by rw [inat_pow]; exact h.2)
theorem dg_cod {q e : Nat} {d : Nat → Int} (hq : 2 ≤ q) (hd : DG q d e) {i : Nat} (hi : i < e) : dg (q : Int) i (cod q e d) = d i + 1 := by
  have h := un_range (m := (q : Int)) (by omega) e (fun i => d i + 1)
  unfold cod
  rw [Int.toNat_of_nonneg h.1, dg_un (by omega), if_pos hi]
  rcases hd i hi with h1 | ⟨k, hk, h1⟩
  · rw [h1]; rfl
  · rw [h1]; exact Int.emod_eq_of_lt (by omega) (by omega)
theorem RK.el_nat (h : RK p e r m q f g) {x : Nat} (hx : x < p ^ (e * r)) : El m r (x : Int) := ⟨by omega, by rw [h.2.2.2.1, ← Int.pow_mul, ← inat_pow]; omega⟩
theorem RK.nat_el (h : RK p e r m q f g) (hx : El m r x) : x.toNat < p ^ (e * r) ∧ ((x.toNat : Nat) : Int) = x := by
  have h1 := hx.2
  rw [h.2.2.2.1, ← Int.pow_mul, ← inat_pow] at h1
  have := hx.1
  exact ⟨by omega, by omega⟩
theorem RK.qe (h : RK p e r m q f g) : q ^ e = p ^ (e * r) := by rw [h.2.2.2.2.1, ← Nat.pow_mul, Nat.mul_comm]
/-- digits are told in one way alone -/
theorem RK.dd_jn (h : RK p e r m q f g) {d : Nat → Int} (hd : DG q d e) : ∀ i, i < e → ddR p e r q m f g (jnM p r q m f g d 1 e) i = d i := by
  have hq2 := h.q2
  have hc := cod_lt (q := q) (e := e) hq2 d
  obtain ⟨x, hx, he⟩ := php (q ^ e) (fun x => cod q e (ddR p e r q m f g x) + 1) (fun i hi => ⟨by omega, by have := cod_lt (q := q) (e := e) hq2 (ddR p e r q m f g i); omega⟩) (fun i j hi hj he => by
    have he : cod q e (ddR p e r q m f g i) = cod q e (ddR p e r q m f g j) := Nat.add_right_cancel he
    have hdd : ∀ t, t < e → ddR p e r q m f g i t = ddR p e r q m f g j t := fun t ht => by
      have h1 := dg_cod hq2 (h.DGx i) ht
      rw [he, dg_cod hq2 (h.DGx j) ht] at h1
      omega
    rw [h.qe] at hi hj
    have h1 := h.jn_all (h.el_nat hi)
    have h2 := h.jn_all (h.el_nat hj)
    have h3 : jnM p r q m f g (ddR p e r q m f g i) 1 e = jnM p r q m f g (ddR p e r q m f g j) 1 e := h.jn_congr (fun t ht => by
      rcases h.DGx i t ht with a | ⟨k, hk, a⟩
      · exact Or.inl ⟨a, by rw [← hdd t ht]; exact a⟩
      · exact Or.inr ⟨k, k, a, by rw [← hdd t ht]; exact a, rfl⟩) e (Nat.le_refl _)
    rw [h1, h2] at h3
    omega) (cod q e d + 1) (by omega) (by omega)
  have he : cod q e (ddR p e r q m f g x) = cod q e d := Nat.add_right_cancel he
  have hdd : ∀ t, t < e → ddR p e r q m f g x t = d t := fun t ht => by
    have h1 := dg_cod hq2 (h.DGx x) ht
    rw [he, dg_cod hq2 hd ht] at h1
    omega
  rw [h.qe] at hx
  have h3 : jnM p r q m f g d 1 e = x := by
    rw [← h.jn_all (h.el_nat hx)]
    exact (h.jn_congr (fun t ht => by
      rcases h.DGx x t ht with a | ⟨k, hk, a⟩
      · exact Or.inl ⟨a, by rw [← hdd t ht]; exact a⟩
      · exact Or.inr ⟨k, k, a, by rw [← hdd t ht]; exact a, rfl⟩) e (Nat.le_refl _)).symm
  intro i hi
  rw [h3]
  exact hdd i hi
theorem RK.jn_inj (h : RK p e r m q f g) {d d' : Nat → Int} (hd : DG q d e) (hd' : DG q d' e) (he : jnM p r q m f g d 1 e = jnM p r q m f g d' 1 e) : ∀ i, i < e → d i = d' i := fun i hi => by
  rw [← h.dd_jn hd i hi, he, h.dd_jn hd' i hi]
/-- moved k times to itself, by digits -/
theorem RK.fix_iff (h : RK p e r m q f g) (hx : El m r x) (k : Nat) : mvn p r m f x k = x ↔ ∀ i, i < e → ddR p e r q m f g x i = -1 ∨ ∃ t : Nat, t < q - 1 ∧ ddR p e r q m f g x i = t ∧ t * p ^ k % (q - 1) = t := by
  have hq2 := h.q2
  rw [h.mvn_jn hx]
  -- the digits of what is moved
  have hdm : DG q (fun i => if ddR p e r q m f g x i = -1 then -1 else (((ddR p e r q m f g x i).toNat * p ^ k % (q - 1) : Nat) : Int)) e := fun i hi => by
    by_cases h1 : ddR p e r q m f g x i = -1
    · exact Or.inl (if_pos h1)
    · exact Or.inr ⟨_, Nat.mod_lt _ (by omega), if_neg h1⟩
  have hj : jnM p r q m f g (ddR p e r q m f g x) (p ^ k) e = jnM p r q m f g (fun i => if ddR p e r q m f g x i = -1 then -1 else (((ddR p e r q m f g x i).toNat * p ^ k % (q - 1) : Nat) : Int)) 1 e := h.jn_congr (fun i hi => by
    rcases h.DGx x i hi with a | ⟨t, ht, a⟩
    · exact Or.inl ⟨a, if_pos a⟩
    · refine Or.inr ⟨t, t * p ^ k % (q - 1), a, ?_, ?_⟩
      · show (if ddR p e r q m f g x i = -1 then (-1 : Int) else (((ddR p e r q m f g x i).toNat * p ^ k % (q - 1) : Nat) : Int)) = _
        rw [if_neg (by omega), a]; rfl
      · rw [Nat.mul_one, Nat.mod_mod]) e (Nat.le_refl _)
  rw [hj]
  constructor
  · intro he i hi
    have h2 := h.dd_jn hdm i hi
    rw [he] at h2
    rcases h.DGx x i hi with a | ⟨t, ht, a⟩
    · exact Or.inl a
    · refine Or.inr ⟨t, ht, a, ?_⟩
      have h2 : ddR p e r q m f g x i = if ddR p e r q m f g x i = -1 then (-1 : Int) else (((ddR p e r q m f g x i).toNat * p ^ k % (q - 1) : Nat) : Int) := h2
      rw [if_neg (by omega), a] at h2
      have h3 : (t : Int).toNat = t := rfl
      rw [h3] at h2
      omega
  · intro hall
    refine Eq.trans (h.jn_congr (d' := ddR p e r q m f g x) (b' := 1) (fun i hi => ?_) e (Nat.le_refl _)) (h.jn_all hx)
    rcases hall i hi with a | ⟨t, ht, a, b⟩
    · exact Or.inl ⟨if_pos a, a⟩
    · refine Or.inr ⟨t, t, ?_, a, rfl⟩
      show (if ddR p e r q m f g x i = -1 then (-1 : Int) else (((ddR p e r q m f g x i).toNat * p ^ k % (q - 1) : Nat) : Int)) = _
      rw [if_neg (by omega), a]
      show ((t * p ^ k % (q - 1) : Nat) : Int) = t
      rw [b]
end Many
