/-! the movement, told by t to the p: it keeps sums and products -/
def Ev (m : Int) (r : Nat) (f : Nat → Int) (s : Int) (v : Nat → Int) : Nat → Int := fun i => sm r (fun j => v j * dg m i (pw m r f s j))
def mvS (m : Int) (r : Nat) (f : Nat → Int) (s x : Int) : Int := un m r (Ev m r f s (fun j => dg m j x))
/-- s is a zero of the modulus -/
def Zs_ (m : Int) (r : Nat) (f : Nat → Int) (s : Int) : Prop := ∀ i, i < r → (dg m i (pw m r f s r) + sm r (fun j => f j * dg m i (pw m r f s j))) % m = 0
section Sig
variable {m : Int} {r : Nat} {f : Nat → Int} {s x y : Int}
theorem ev_sup (hm : 2 ≤ m) (hr : 0 < r) (v : Nat → Int) : sup r (Ev m r f s v) := fun i hi => sm_zero fun j _ => by
  rw [show dg m i (pw m r f s j) = 0 from dg_sup (by omega) (pw_el hm hr s j) i hi, Int.mul_zero]
theorem ev_mod {v v' : Nat → Int} (h : ∀ j, j < r → v j % m = v' j % m) (i : Nat) : Ev m r f s v i % m = Ev m r f s v' i % m :=
  sm_mod fun j hj => by rw [Int.mul_emod, h j hj, ← Int.mul_emod]
theorem ev_lin (n : Nat) (a : Nat → Int) (v : Nat → Nat → Int) (i : Nat) : Ev m r f s (fun j => sm n (fun k => a k * v k j)) i = sm n (fun k => a k * Ev m r f s (v k) i) := by
  unfold Ev
  have h1 : ∀ j, j < r → sm n (fun k => a k * v k j) * dg m i (pw m r f s j) = sm n (fun k => a k * (v k j * dg m i (pw m r f s j))) := fun j _ => by
    rw [← sm_mulr]
    exact sm_congr fun k _ => Int.mul_assoc _ _ _
  rw [sm_congr h1, sm_comm]
  exact sm_congr fun k _ => sm_mul _ _ _
theorem ev_sh (hm : 2 ≤ m) (hr : 0 < r) (hs : El m r s) (hZ : Zs_ m r f s) {b : Nat → Int} {i : Nat} (hi : i < r) : Ev m r f s (sh r f b) i % m = mulV r f (fun j => dg m j s) (Ev m r f s b) i % m := by
  have hm0 : 0 < m := by omega
  have e1 : mulV r f (fun j => dg m j s) (Ev m r f s b) i = sm r (fun k => b k * mulV r f (fun j => dg m j s) (fun i => dg m i (pw m r f s k)) i) := by
    have h := congrFun (mulV_lin (r := r) (f := f) (a := fun j => dg m j s) r b (fun k i => dg m i (pw m r f s k))) i
    exact h
  have e2 : mulV r f (fun j => dg m j s) (Ev m r f s b) i % m = sm r (fun k => b k * dg m i (pw m r f s (k + 1))) % m := by
    rw [e1]
    refine sm_mod fun k _ => ?_
    rw [Int.mul_emod, ← dg_tm hm0 hi, tm_comm hm0 hs (pw_el hm hr s k), ← dg_mod hm0 i, ← Int.mul_emod]
    rfl
  rw [e2]
  obtain ⟨k, rfl⟩ : ∃ k, r = k + 1 := ⟨r - 1, by omega⟩
  have e3 : Ev m (k + 1) f s (sh (k + 1) f b) i = sm k (fun j => b j * dg m i (pw m (k + 1) f s (j + 1))) - b k * sm (k + 1) (fun j => f j * dg m i (pw m (k + 1) f s j)) := by
    unfold Ev
    have h1 : ∀ j, j < k + 1 → sh (k + 1) f b j * dg m i (pw m (k + 1) f s j) = (if j = 0 then 0 else b (j - 1)) * dg m i (pw m (k + 1) f s j) - b k * (f j * dg m i (pw m (k + 1) f s j)) := fun j hj => by
      unfold sh
      rw [if_pos hj, Int.sub_mul, show k + 1 - 1 = k by omega]
      rw [Int.mul_comm (f j) (b k), Int.mul_assoc]
    rw [sm_congr h1, sm_sub, sm_mul, sm_first, if_pos rfl, Int.zero_mul, Int.zero_add]
    congr 1
  have e4 : sm (k + 1) (fun j => b j * dg m i (pw m (k + 1) f s (j + 1))) = sm k (fun j => b j * dg m i (pw m (k + 1) f s (j + 1))) + b k * dg m i (pw m (k + 1) f s (k + 1)) := rfl
  rw [e3, e4]
  have hz := Int.dvd_of_emod_eq_zero (hZ i hi)
  refine Int.emod_eq_emod_iff_emod_sub_eq_zero.mpr (Int.emod_eq_zero_of_dvd ?_)
  have e5 : sm k (fun j => b j * dg m i (pw m (k + 1) f s (j + 1))) - b k * sm (k + 1) (fun j => f j * dg m i (pw m (k + 1) f s j)) - (sm k (fun j => b j * dg m i (pw m (k + 1) f s (j + 1))) + b k * dg m i (pw m (k + 1) f s (k + 1))) = -(b k) * (dg m i (pw m (k + 1) f s (k + 1)) + sm (k + 1) (fun j => f j * dg m i (pw m (k + 1) f s j))) := by
    rw [Int.mul_add, Int.neg_mul, Int.neg_mul]; omega
  rw [e5]
  exact Int.dvd_mul_of_dvd_right hz
theorem ev_shi (hm : 2 ≤ m) (hr : 0 < r) (hs : El m r s) (hZ : Zs_ m r f s) {b : Nat → Int} : ∀ (k : Nat) {i : Nat}, i < r → Ev m r f s (shi r f k b) i % m = mulV r f (fun j => dg m j (pw m r f s k)) (Ev m r f s b) i % m
  | 0, i, hi => by
    show Ev m r f s b i % m = mulV r f (fun j => dg m j 1) (Ev m r f s b) i % m
    rw [dg_one hm, mulV_one hr]
  | k + 1, i, hi => by
    have hm0 : 0 < m := by omega
    have ih := fun j (hj : j < r) => ev_shi hm hr hs hZ (b := b) k hj
    show Ev m r f s (sh r f (shi r f k b)) i % m = _
    rw [ev_sh hm hr hs hZ hi]
    have hsd := dg_sup hm0 hs
    have hpd := dg_sup hm0 (pw_el (f := f) hm hr s k)
    rw [mulV_mod (r := r) (f := f) (m := m) (a := fun j => dg m j s) (a' := fun j => dg m j s) (b := Ev m r f s (shi r f k b)) (b' := mulV r f (fun j => dg m j (pw m r f s k)) (Ev m r f s b)) (ev_sup hm hr _) (mulV_sup (ev_sup hm hr _)) (fun _ _ => rfl) ih i]
    rw [← mulV_assoc hsd hpd (ev_sup hm hr _)]
    refine mulV_mod (ev_sup hm hr _) (ev_sup hm hr _) (fun j hj => ?_) (fun _ _ => rfl) i
    rw [← dg_tm hm0 hj, tm_comm hm0 hs (pw_el hm hr s k), ← dg_mod hm0 j]
    rfl
theorem ev_mul (hm : 2 ≤ m) (hr : 0 < r) (hs : El m r s) (hZ : Zs_ m r f s) {a b : Nat → Int} {i : Nat} (hi : i < r) : Ev m r f s (mulV r f a b) i % m = mulV r f (Ev m r f s a) (Ev m r f s b) i % m := by
  have hm0 : 0 < m := by omega
  have e1 : Ev m r f s (mulV r f a b) i = sm r (fun k => a k * Ev m r f s (shi r f k b) i) := ev_lin r a (fun k => shi r f k b) i
  have e2 : mulV r f (Ev m r f s a) (Ev m r f s b) i = sm r (fun k => a k * mulV r f (Ev m r f s b) (fun i => dg m i (pw m r f s k)) i) := by
    rw [mulV_comm (ev_sup hm hr _) (ev_sup hm hr _)]
    exact congrFun (mulV_lin (r := r) (f := f) (a := Ev m r f s b) r a (fun k i => dg m i (pw m r f s k))) i
  rw [e1, e2]
  refine sm_mod fun k _ => ?_
  rw [Int.mul_emod, ev_shi hm hr hs hZ k hi, mulV_comm (dg_sup hm0 (pw_el hm hr s k)) (ev_sup hm hr _), ← Int.mul_emod]
theorem mvS_el (hm : 0 < m) : El m r (mvS m r f s x) := un_range hm _ _
theorem dg_mvS (hm : 0 < m) {i : Nat} (hi : i < r) : dg m i (mvS m r f s x) = Ev m r f s (fun j => dg m j x) i % m := by
  unfold mvS; rw [dg_un hm, if_pos hi]
theorem mvS_tm (hm : 2 ≤ m) (hr : 0 < r) (hs : El m r s) (hZ : Zs_ m r f s) : mvS m r f s (tm m r f x y) = tm m r f (mvS m r f s x) (mvS m r f s y) := by
  have hm0 : 0 < m := by omega
  refine el_ext hm0 (mvS_el hm0) (tm_el hm0 _ _) fun i hi => ?_
  rw [dg_mvS hm0 hi, dg_tm hm0 hi]
  rw [ev_mod (v := fun j => dg m j (tm m r f x y)) (v' := mulV r f (fun j => dg m j x) (fun j => dg m j y)) (fun j hj => by rw [dg_tm hm0 hj, Int.emod_emod]) i, ev_mul hm hr hs hZ hi]
  exact mulV_mod (ev_sup hm hr _) (dg_sup hm0 (mvS_el hm0)) (fun j hj => by rw [dg_mvS hm0 hj, Int.emod_emod]) (fun j hj => by rw [dg_mvS hm0 hj, Int.emod_emod]) i
theorem mvS_pl (hm : 0 < m) : mvS m r f s (pl m r x y) = pl m r (mvS m r f s x) (mvS m r f s y) := by
  refine el_ext hm (mvS_el hm) (pl_el hm _ _) fun i hi => ?_
  rw [dg_mvS hm hi, dg_pl hm hi, dg_mvS hm hi, dg_mvS hm hi, ← Int.add_emod]
  rw [ev_mod (v := fun j => dg m j (pl m r x y)) (v' := fun j => dg m j x + dg m j y) (fun j hj => by rw [dg_pl hm hj, Int.emod_emod]) i]
  unfold Ev
  rw [← sm_add]
  congr 1
  exact sm_congr fun j _ => Int.add_mul _ _ _
theorem dg_const (hm : 2 ≤ m) (hx : 0 ≤ x ∧ x < m) (i : Nat) : dg m i x = x * ev1 0 i := by
  cases i with
  | zero =>
    show x % m = x * (if 0 = 0 then 1 else 0)
    rw [if_pos rfl, Int.mul_one, Int.emod_eq_of_lt hx.1 hx.2]
  | succ i =>
    show dg m i (x / m) = x * (if i + 1 = 0 then 1 else 0)
    rw [if_neg (by omega), Int.mul_zero, Int.ediv_eq_zero_of_lt hx.1 hx.2, dg_zero]
theorem el_const (hm : 2 ≤ m) (hr : 0 < r) (hx : 0 ≤ x ∧ x < m) : El m r x := ⟨hx.1, by have := pow_ge (m := m) (by omega) (show 1 ≤ r by omega); omega⟩
theorem mvS_const (hm : 2 ≤ m) (hr : 0 < r) (hx : 0 ≤ x ∧ x < m) : mvS m r f s x = x := by
  have hm0 : 0 < m := by omega
  refine el_ext hm0 (mvS_el hm0) (el_const hm hr hx) fun i hi => ?_
  rw [dg_mvS hm0 hi, ← dg_mod hm0 i x]
  congr 1
  unfold Ev
  rw [sm_one (k := 0) hr (fun j _ hj => by show dg m j x * dg m i (pw m r f s j) = 0; rw [dg_const hm hx]; show x * (if j = 0 then 1 else 0) * dg m i (pw m r f s j) = 0; rw [if_neg hj, Int.mul_zero, Int.zero_mul])]
  show x % m * dg m i 1 = dg m i x
  rw [dg_const hm hx i, show dg m i 1 = ev1 0 i from congrFun (dg_one hm) i, Int.emod_eq_of_lt hx.1 hx.2]
theorem mvS_pw (hm : 2 ≤ m) (hr : 0 < r) (hs : El m r s) (hZ : Zs_ m r f s) : ∀ n, mvS m r f s (pw m r f x n) = pw m r f (mvS m r f s x) n
  | 0 => by show mvS m r f s 1 = 1; exact mvS_const hm hr ⟨by omega, by omega⟩
  | n + 1 => by
    show mvS m r f s (tm m r f (pw m r f x n) x) = tm m r f (pw m r f (mvS m r f s x) n) (mvS m r f s x)
    rw [mvS_tm hm hr hs hZ, mvS_pw hm hr hs hZ n]
theorem mv_S {p : Nat} (hm : 2 ≤ m) (hr : 0 < r) : mv p r m f x = mvS m r f (pw m r f (tE m r) p) x := by
  unfold mv mvS Ev
  refine un_congr fun i _ => ?_
  congr 1
  exact sm_congr fun j _ => by rw [← pw_mul hm hr (tE_el hm (by omega))]; rfl
theorem mi_pl_ (hm : 0 < m) {x y z : Int} (hx : El m r x) (h : pl m r x y = z) : x = mi m r z y := by rw [← h, mi_pl hm hx]
theorem mvS_mi (hm : 0 < m) (hx : El m r x) (hy : El m r y) : mvS m r f s (mi m r x y) = mi m r (mvS m r f s x) (mvS m r f s y) :=
  mi_pl_ hm (mvS_el hm) (by rw [← mvS_pl hm, pl_mi hm hx])
end Sig
