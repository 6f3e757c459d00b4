/-! congruence of elements, and what powers make of it -/
def cg (d m : Int) (r : Nat) (x y : Int) : Prop := ∀ i, i < r → dg m i x % d = dg m i y % d
theorem mul_emd (a b m : Int) : (a * (b % m)) % m = (a * b) % m := by rw [Int.mul_emod, Int.emod_emod, ← Int.mul_emod]
theorem emd {a m d : Int} (h : d ∣ m) : a % m % d = a % d := Int.emod_emod_of_dvd a h
section Cg
variable {d m : Int} {r : Nat} {f : Nat → Int} {x y z x' y' : Int}
theorem cg_rfl : cg d m r x x := fun _ _ => rfl
theorem cg_trans (h : cg d m r x y) (h2 : cg d m r y z) : cg d m r x z := fun i hi => (h i hi).trans (h2 i hi)
theorem cg_eq (hm : 0 < m) (hx : El m r x) (hy : El m r y) (h : cg m m r x y) : x = y :=
  el_ext hm hx hy fun i hi => by rw [← dg_mod hm i x, ← dg_mod hm i y]; exact h i hi
theorem cg_pl (hm : 0 < m) (hd : d ∣ m) (h : cg d m r x x') (h2 : cg d m r y y') : cg d m r (pl m r x y) (pl m r x' y') := fun i hi => by
  rw [dg_pl hm hi, dg_pl hm hi, emd hd, emd hd, Int.add_emod, h i hi, h2 i hi, ← Int.add_emod]
theorem cg_mi (hm : 0 < m) (hd : d ∣ m) (h : cg d m r x x') (h2 : cg d m r y y') : cg d m r (mi m r x y) (mi m r x' y') := fun i hi => by
  rw [dg_mi hm hi, dg_mi hm hi, emd hd, emd hd, Int.sub_emod, h i hi, h2 i hi, ← Int.sub_emod]
theorem cg_tm (hm : 0 < m) (hd : d ∣ m) (hy : El m r y) (hy' : El m r y') (h : cg d m r x x') (h2 : cg d m r y y') : cg d m r (tm m r f x y) (tm m r f x' y') := fun i hi => by
  rw [dg_tm hm hi, dg_tm hm hi, emd hd, emd hd]
  exact mulV_mod (dg_sup hm hy) (dg_sup hm hy') (fun j hj => h j hj) (fun j hj => h2 j hj) i
theorem cg_pw (hm : 2 ≤ m) (hr : 0 < r) (hd : d ∣ m) (hx : El m r x) (hy : El m r y) (h : cg d m r x y) : ∀ n, cg d m r (pw m r f x n) (pw m r f y n)
  | 0 => cg_rfl
  | n + 1 => cg_tm (by omega) hd hx hy (cg_pw hm hr hd hx hy h n) h
theorem cg_low {p : Nat} (hp : 0 < p) : low p r m x = low p r m y ↔ cg (p : Int) m r x y := by
  have hp' : (0 : Int) < p := by omega
  constructor
  · intro h i hi
    have h1 : un (p : Int) r (fun i => dg m i x) = un (p : Int) r (fun i => dg m i y) := by rw [← low_cast hp, ← low_cast hp, h]
    have h2 := congrArg (dg (p : Int) i) h1
    rw [dg_un hp', dg_un hp', if_pos hi, if_pos hi] at h2
    exact h2
  · intro h
    have h1 : un (p : Int) r (fun i => dg m i x) = un (p : Int) r (fun i => dg m i y) := un_congr h
    have h2 := low_cast (r := r) (m := m) (x := x) hp
    have h3 := low_cast (r := r) (m := m) (x := y) hp
    rw [h1] at h2
    omega
/-- the inner sum of a power's difference -/
def dfs (m : Int) (r : Nat) (f : Nat → Int) (b z : Int) : Nat → Int
  | 0 => 0
  | n + 1 => pl m r (tm m r f b (dfs m r f b z n)) (tm m r f (pw m r f b n) z)
theorem dfs_el (hm : 0 < m) (b z : Int) : ∀ n, El m r (dfs m r f b z n)
  | 0 => el_zero hm
  | _ + 1 => pl_el hm _ _
theorem dfs_zero (hm : 0 < m) (hd : d ∣ m) {b z : Int} (hz : El m r z) (h : cg d m r z 0) : ∀ n, cg d m r (dfs m r f b z n) 0
  | 0 => cg_rfl
  | n + 1 => by
    have h1 := cg_tm (f := f) hm hd (dfs_el hm b z n) (el_zero hm) (cg_rfl (x := b)) (dfs_zero hm hd hz h n)
    have h2 := cg_tm (f := f) hm hd hz (el_zero hm) (cg_rfl (x := pw m r f b n)) h
    rw [tm_zero hm] at h1 h2
    have h3 := cg_pl hm hd h1 h2
    rwa [pl_zero hm (el_zero hm)] at h3
theorem dfs_n (hm : 2 ≤ m) (hr : 0 < r) {b z : Int} (hb : El m r b) (hz : El m r z) : ∀ n i, i < r → dg m i (dfs m r f b z (n + 1)) % m = (((n + 1 : Nat) : Int) * dg m i (tm m r f (pw m r f b n) z)) % m
  | 0, i, hi => by
    show dg m i (pl m r (tm m r f b 0) (tm m r f 1 z)) % m = _
    rw [tm_zero (by omega), pl_zero (by omega) (tm_el (by omega) _ _)]
    show _ = ((1 : Int) * dg m i (tm m r f 1 z)) % m
    rw [Int.one_mul]
  | n + 1, i, hi => by
    have hm0 : 0 < m := by omega
    have ih := dfs_n hm hr hb hz n
    show dg m i (pl m r (tm m r f b (dfs m r f b z (n + 1))) (tm m r f (pw m r f b (n + 1)) z)) % m = _
    rw [dg_pl hm0 hi, Int.emod_emod]
    have hT : El m r (tm m r f (pw m r f b n) z) := tm_el hm0 _ _
    have e1 : dg m i (tm m r f b (dfs m r f b z (n + 1))) % m = (((n + 1 : Nat) : Int) * dg m i (tm m r f b (tm m r f (pw m r f b n) z))) % m := by
      rw [dg_tm hm0 hi, Int.emod_emod]
      have h1 := mulV_mod (r := r) (f := f) (m := m) (a := fun i => dg m i b) (a' := fun i => dg m i b) (b := fun i => dg m i (dfs m r f b z (n + 1))) (b' := fun i => ((n + 1 : Nat) : Int) * dg m i (tm m r f (pw m r f b n) z)) (dg_sup hm0 (dfs_el hm0 b z _)) (fun j hj => by show ((n + 1 : Nat) : Int) * dg m j (tm m r f (pw m r f b n) z) = 0; rw [show dg m j (tm m r f (pw m r f b n) z) = 0 from dg_sup hm0 hT j hj, Int.mul_zero]) (fun _ _ => rfl) (fun j hj => ih j hj) i
      rw [h1, mulV_scal (dg_sup hm0 hT), dg_tm hm0 hi, mul_emd]
    have e2 : tm m r f b (tm m r f (pw m r f b n) z) = tm m r f (pw m r f b (n + 1)) z := by
      rw [← tm_assoc hm0 hb (pw_el hm hr b n) hz, tm_comm hm0 hb (pw_el hm hr b n)]
      rfl
    rw [Int.add_emod, e1, e2, ← Int.add_emod]
    have e3 : (((n + 1 + 1 : Nat) : Int)) * dg m i (tm m r f (pw m r f b (n + 1)) z) = ((n + 1 : Nat) : Int) * dg m i (tm m r f (pw m r f b (n + 1)) z) + dg m i (tm m r f (pw m r f b (n + 1)) z) := by
      rw [show ((n + 1 + 1 : Nat) : Int) = ((n + 1 : Nat) : Int) + 1 from rfl, Int.add_mul, Int.one_mul]
    rw [e3]
theorem tm_dd (hm : 0 < m) {d2 : Int} (hd : d ∣ m) (h2 : d2 ∣ d * d) (hd2 : d2 ∣ m) (hy : El m r y) (hx0 : cg d m r x 0) (hy0 : cg d m r y 0) : cg d2 m r (tm m r f x y) 0 := fun i hi => by
  rw [dg_tm hm hi, emd hd2, dg_zero, Int.zero_emod]
  have hdiv : ∀ j, dg m j y = d * (dg m j y / d) := fun j => by
    by_cases hj : j < r
    · have h := hy0 j hj
      rw [dg_zero, Int.zero_emod] at h
      exact (Int.mul_ediv_cancel' (Int.dvd_of_emod_eq_zero h)).symm
    · have h0 := dg_sup hm hy j (by omega)
      show dg m j y = _
      rw [show dg m j y = 0 from h0, Int.zero_ediv, Int.mul_zero]
  have hs : sup r (fun j => dg m j y / d) := fun j hj => by
    show dg m j y / d = 0
    rw [show dg m j y = 0 from dg_sup hm hy j hj, Int.zero_ediv]
  rw [show (fun j => dg m j y) = fun j => d * (dg m j y / d) from funext hdiv, mulV_scal hs]
  have h3 := mulV_mod (r := r) (f := f) (m := d) (a := fun i => dg m i x) (a' := fun _ => 0) (b := fun j => dg m j y / d) (b' := fun j => dg m j y / d) hs hs (fun j hj => by have h := hx0 j hj; rw [dg_zero] at h; exact h) (fun _ _ => rfl) i
  have h4 : mulV r f (fun _ => 0) (fun j => dg m j y / d) i = 0 := sm_zero fun j _ => Int.zero_mul _
  rw [h4, Int.zero_emod] at h3
  exact Int.emod_eq_zero_of_dvd (Int.dvd_trans h2 (Int.mul_dvd_mul_left d (Int.dvd_of_emod_eq_zero h3)))
theorem pw_dfs (hm : 2 ≤ m) (hr : 0 < r) {d2 : Int} (hd : d ∣ m) (h2 : d2 ∣ d * d) (hd2 : d2 ∣ m) {a b : Int} (ha : El m r a) (hb : El m r b) (h : cg d m r a b) : ∀ n, cg d2 m r (pw m r f a n) (pl m r (pw m r f b n) (dfs m r f b (mi m r a b) n))
  | 0 => by
    show cg d2 m r 1 (pl m r 1 0)
    rw [pl_comm, pl_zero (by omega) (el_one hm hr)]
    exact cg_rfl
  | n + 1 => by
    have hm0 : 0 < m := by omega
    have ih := pw_dfs hm hr hd h2 hd2 ha hb h n
    have hz : El m r (mi m r a b) := mi_el hm0 a b
    have hz0 : cg d m r (mi m r a b) 0 := by
      have h9 := cg_mi hm0 hd h (cg_rfl (x := b))
      rwa [mi_self hm0] at h9
    have hB := pw_el (f := f) hm hr b n
    have hS := dfs_el (r := r) (f := f) hm0 b (mi m r a b) n
    have e1 : pw m r f a (n + 1) = tm m r f (pw m r f a n) (pl m r (mi m r a b) b) := by rw [pl_mi hm0 ha]; rfl
    have h3 : cg d2 m r (pw m r f a (n + 1)) (tm m r f (pl m r (pw m r f b n) (dfs m r f b (mi m r a b) n)) (pl m r (mi m r a b) b)) := by
      rw [e1]
      exact cg_tm hm0 hd2 (pl_el hm0 _ _) (pl_el hm0 _ _) ih cg_rfl
    refine cg_trans h3 ?_
    rw [tm_pl hm0 hz hb, tm_comm hm0 (pl_el hm0 _ _) hz, tm_pl hm0 hB hS, tm_comm hm0 (pl_el hm0 _ _) hb, tm_pl hm0 hB hS]
    have h4 := tm_dd (f := f) hm0 hd h2 hd2 hS hz0 (dfs_zero (f := f) (b := b) hm0 hd hz hz0 n)
    have h5 := cg_pl hm0 hd2 (cg_pl hm0 hd2 (cg_rfl (x := tm m r f (mi m r a b) (pw m r f b n))) h4) (cg_rfl (x := pl m r (tm m r f b (pw m r f b n)) (tm m r f b (dfs m r f b (mi m r a b) n))))
    refine cg_trans h5 ?_
    have e2 : pl m r (pl m r (tm m r f (mi m r a b) (pw m r f b n)) 0) (pl m r (tm m r f b (pw m r f b n)) (tm m r f b (dfs m r f b (mi m r a b) n))) = pl m r (pw m r f b (n + 1)) (dfs m r f b (mi m r a b) (n + 1)) := by
      rw [pl_comm (tm m r f (mi m r a b) (pw m r f b n)) 0, pl_zero hm0 (tm_el hm0 _ _), pl_comm, pl_assoc hm0]
      show _ = pl m r (tm m r f (pw m r f b n) b) (pl m r (tm m r f b (dfs m r f b (mi m r a b) n)) (tm m r f (pw m r f b n) (mi m r a b)))
      rw [tm_comm hm0 hb hB, tm_comm hm0 hz hB]
    rw [e2]
    exact cg_rfl
/-- what is alike by d is alike by p d, once taken to the p -/
theorem cg_step (hm : 2 ≤ m) (hr : 0 < r) {p : Nat} (hp : 0 < p) (hd : d ∣ m) (hd2 : (p : Int) * d ∣ m) (hpd : (p : Int) ∣ d) {a b : Int} (ha : El m r a) (hb : El m r b) (h : cg d m r a b) : cg ((p : Int) * d) m r (pw m r f a p) (pw m r f b p) := by
  have hm0 : 0 < m := by omega
  have h1 := pw_dfs (f := f) hm hr hd (Int.mul_dvd_mul_right d hpd) hd2 ha hb h p
  refine cg_trans h1 ?_
  have hz0 : cg d m r (mi m r a b) 0 := by
    have h9 := cg_mi hm0 hd h (cg_rfl (x := b))
    rwa [mi_self hm0] at h9
  have h2 : cg ((p : Int) * d) m r (dfs m r f b (mi m r a b) p) 0 := fun i hi => by
    obtain ⟨n, rfl⟩ : ∃ n, p = n + 1 := ⟨p - 1, by omega⟩
    have h3 := dfs_n (f := f) hm hr hb (mi_el hm0 a b) n i hi
    rw [← emd (a := dg m i (dfs m r f b (mi m r a b) (n + 1))) hd2, h3, emd hd2, dg_zero, Int.zero_emod]
    have h4 := cg_tm (f := f) hm0 hd (mi_el hm0 a b) (el_zero hm0) (cg_rfl (x := pw m r f b n)) hz0 i hi
    rw [tm_zero hm0, dg_zero, Int.zero_emod] at h4
    exact Int.emod_eq_zero_of_dvd (Int.mul_dvd_mul_left _ (Int.dvd_of_emod_eq_zero h4))
  have h5 := cg_pl hm0 hd2 (cg_rfl (x := pw m r f b p)) h2
  rwa [pl_comm _ 0, pl_zero hm0 (pw_el hm hr b p)] at h5
theorem cg_steps (hm : 2 ≤ m) (hr : 0 < r) {p e : Nat} (hp : 0 < p) (hme : m = (p : Int) ^ e) {a b : Int} (ha : El m r a) (hb : El m r b) (h : cg (p : Int) m r a b) : ∀ k, k + 1 ≤ e → cg ((p : Int) ^ (k + 1)) m r (pw m r f a (p ^ k)) (pw m r f b (p ^ k))
  | 0, _ => by
    rw [Int.pow_succ, Int.pow_zero, Int.one_mul, Nat.pow_zero, pw_one hm hr ha, pw_one hm hr hb]
    exact h
  | k + 1, hk => by
    have ih := cg_steps hm hr hp hme ha hb h k (by omega)
    have hdv : ∀ j, j ≤ e → (p : Int) ^ j ∣ m := fun j hj => by rw [hme]; exact ⟨(p : Int) ^ (e - j), by rw [← Int.pow_add, show j + (e - j) = e by omega]⟩
    have h1 := cg_step (f := f) hm hr hp (hdv (k + 1) (by omega)) (by rw [Int.mul_comm, ← Int.pow_succ]; exact hdv (k + 2) (by omega)) ⟨(p : Int) ^ k, by rw [Int.pow_succ, Int.mul_comm]⟩ (pw_el hm hr a _) (pw_el hm hr b _) ih
    rw [← pw_mul hm hr ha, ← pw_mul hm hr hb, ← Nat.pow_succ, Int.mul_comm, ← Int.pow_succ] at h1
    exact h1
/-- what is alike below is the same, taken to the q ^ (e - 1) -/
theorem pw_low (hm : 2 ≤ m) (hr : 0 < r) {p e q : Nat} (hp : 0 < p) (he : 1 ≤ e) (hme : m = (p : Int) ^ e) (hq : q = p ^ r) {a b : Int} (ha : El m r a) (hb : El m r b) (h : low p r m a = low p r m b) : pw m r f a (q ^ (e - 1)) = pw m r f b (q ^ (e - 1)) := by
  have hm0 : 0 < m := by omega
  have h1 := cg_steps (f := f) hm hr hp hme ha hb ((cg_low hp).mp h) (e - 1) (by omega)
  rw [show e - 1 + 1 = e by omega, ← hme] at h1
  have h2 := cg_eq hm0 (pw_el hm hr a _) (pw_el hm hr b _) h1
  have e1 : q ^ (e - 1) = p ^ (e - 1) * p ^ ((r - 1) * (e - 1)) := by
    rw [hq, ← Nat.pow_mul, ← Nat.pow_add]
    congr 1
    obtain ⟨k, rfl⟩ : ∃ k, r = k + 1 := ⟨r - 1, by omega⟩
    rw [show k + 1 - 1 = k by omega, Nat.add_mul, Nat.one_mul, Nat.add_comm]
  rw [e1, pw_mul hm hr ha, pw_mul hm hr hb, h2]
end Cg
