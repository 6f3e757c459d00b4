/-! the ring on numbers: m the modulus, r digits, f the lower coefficients of the polynomial -/
def El (m : Int) (r : Nat) (x : Int) : Prop := 0 ≤ x ∧ x < m ^ r
def pl (m : Int) (r : Nat) (x y : Int) : Int := un m r (fun i => dg m i x + dg m i y)
def mi (m : Int) (r : Nat) (x y : Int) : Int := un m r (fun i => dg m i x - dg m i y)
def tm (m : Int) (r : Nat) (f : Nat → Int) (x y : Int) : Int := un m r (mulV r f (fun i => dg m i x) (fun i => dg m i y))
def pw (m : Int) (r : Nat) (f : Nat → Int) (x : Int) : Nat → Int
  | 0 => 1
  | n + 1 => tm m r f (pw m r f x n) x
section Ring
variable {m : Int} {r : Nat} {f : Nat → Int}
theorem dg_sup (hm : 0 < m) {x : Int} (hx : El m r x) : sup r (fun i => dg m i x) := fun j hj => dg_big hm r j x hx.1 hx.2 hj
theorem pl_el (hm : 0 < m) (x y : Int) : El m r (pl m r x y) := un_range hm _ _
theorem mi_el (hm : 0 < m) (x y : Int) : El m r (mi m r x y) := un_range hm _ _
theorem tm_el (hm : 0 < m) (x y : Int) : El m r (tm m r f x y) := un_range hm _ _
theorem dg_pl (hm : 0 < m) {x y : Int} {i : Nat} (hi : i < r) : dg m i (pl m r x y) = (dg m i x + dg m i y) % m := by
  unfold pl; rw [dg_un hm, if_pos hi]
theorem dg_mi (hm : 0 < m) {x y : Int} {i : Nat} (hi : i < r) : dg m i (mi m r x y) = (dg m i x - dg m i y) % m := by
  unfold mi; rw [dg_un hm, if_pos hi]
theorem dg_tm (hm : 0 < m) {x y : Int} {i : Nat} (hi : i < r) : dg m i (tm m r f x y) = mulV r f (fun i => dg m i x) (fun i => dg m i y) i % m := by
  unfold tm; rw [dg_un hm, if_pos hi]
theorem el_ext (hm : 0 < m) {x y : Int} (hx : El m r x) (hy : El m r y) (h : ∀ i, i < r → dg m i x = dg m i y) : x = y := by
  rw [← un_dg hm r x hx.1 hx.2, ← un_dg hm r y hy.1 hy.2]
  exact un_congr fun i hi => by rw [h i hi]
theorem pl_comm (x y : Int) : pl m r x y = pl m r y x := by
  unfold pl
  exact un_congr fun i _ => by rw [Int.add_comm]
theorem pl_assoc (hm : 0 < m) (x y z : Int) : pl m r (pl m r x y) z = pl m r x (pl m r y z) := by
  refine el_ext hm (pl_el hm _ _) (pl_el hm _ _) fun i hi => ?_
  rw [dg_pl hm hi, dg_pl hm hi, dg_pl hm hi, dg_pl hm hi, Int.emod_add_emod, Int.add_emod_emod, Int.add_assoc]
theorem pl_zero (hm : 0 < m) {x : Int} (hx : El m r x) : pl m r 0 x = x := by
  refine el_ext hm (pl_el hm _ _) hx fun i hi => ?_
  rw [dg_pl hm hi, dg_zero, Int.zero_add, dg_mod hm]
theorem mi_self (hm : 0 < m) (x : Int) : mi m r x x = 0 := by
  refine el_ext hm (mi_el hm _ _) ⟨Int.le_refl _, Int.pow_pos hm⟩ fun i hi => ?_
  rw [dg_mi hm hi, dg_zero, Int.sub_self, Int.zero_emod]
theorem pl_mi (hm : 0 < m) {x y : Int} (hx : El m r x) : pl m r (mi m r x y) y = x := by
  refine el_ext hm (pl_el hm _ _) hx fun i hi => ?_
  rw [dg_pl hm hi, dg_mi hm hi, Int.emod_add_emod, Int.sub_add_cancel, dg_mod hm]
theorem mi_pl (hm : 0 < m) {x y : Int} (hx : El m r x) : mi m r (pl m r x y) y = x := by
  refine el_ext hm (mi_el hm _ _) hx fun i hi => ?_
  rw [dg_mi hm hi, dg_pl hm hi, Int.emod_sub_emod, Int.add_sub_cancel, dg_mod hm]
theorem tm_comm (hm : 0 < m) {x y : Int} (hx : El m r x) (hy : El m r y) : tm m r f x y = tm m r f y x := by
  unfold tm
  rw [mulV_comm (dg_sup hm hx) (dg_sup hm hy)]
theorem tm_assoc (hm : 0 < m) {x y z : Int} (hx : El m r x) (hy : El m r y) (hz : El m r z) : tm m r f (tm m r f x y) z = tm m r f x (tm m r f y z) := by
  refine el_ext hm (tm_el hm _ _) (tm_el hm _ _) fun i hi => ?_
  rw [dg_tm hm hi, dg_tm hm hi]
  have h1 := mulV_mod (r := r) (f := f) (m := m) (a := fun i => dg m i (tm m r f x y)) (a' := mulV r f (fun i => dg m i x) (fun i => dg m i y)) (dg_sup hm hz) (dg_sup hm hz) (fun j hj => by rw [dg_tm hm hj, Int.emod_emod]) (fun _ _ => rfl) i
  have h2 := mulV_mod (r := r) (f := f) (m := m) (a := fun i => dg m i x) (a' := fun i => dg m i x) (b := fun i => dg m i (tm m r f y z)) (b' := mulV r f (fun i => dg m i y) (fun i => dg m i z)) (dg_sup hm (tm_el hm _ _)) (mulV_sup (dg_sup hm hz)) (fun _ _ => rfl) (fun j hj => by rw [dg_tm hm hj, Int.emod_emod]) i
  rw [h1, h2, mulV_assoc (dg_sup hm hx) (dg_sup hm hy) (dg_sup hm hz)]
theorem dg_one (hm : 2 ≤ m) : (fun i => dg m i 1) = ev1 0 := by
  funext i
  cases i with
  | zero => exact Int.emod_eq_of_lt (by omega) (by omega)
  | succ i =>
    show dg m i (1 / m) = 0
    rw [Int.ediv_eq_zero_of_lt (by omega) (by omega), dg_zero]
theorem el_one (hm : 2 ≤ m) (hr : 0 < r) : El m r 1 := by
  refine ⟨by omega, ?_⟩
  obtain ⟨k, rfl⟩ : ∃ k, r = k + 1 := ⟨r - 1, by omega⟩
  have h1 : 0 < m ^ k := Int.pow_pos (by omega)
  have h2 : 1 * 2 ≤ m ^ k * m := Int.mul_le_mul (by omega) hm (by omega) (by omega)
  rw [Int.pow_succ]; omega
theorem el_zero (hm : 0 < m) : El m r 0 := ⟨Int.le_refl _, Int.pow_pos hm⟩
theorem one_tm (hm : 2 ≤ m) (hr : 0 < r) {x : Int} (hx : El m r x) : tm m r f 1 x = x := by
  unfold tm
  rw [dg_one hm, mulV_one hr]
  exact un_dg (by omega) r x hx.1 hx.2
theorem tm_one (hm : 2 ≤ m) (hr : 0 < r) {x : Int} (hx : El m r x) : tm m r f x 1 = x := by
  rw [tm_comm (by omega) hx (el_one hm hr), one_tm hm hr hx]
theorem tm_zero (hm : 0 < m) (x : Int) : tm m r f x 0 = 0 := by
  refine el_ext hm (tm_el hm _ _) (el_zero hm) fun i hi => ?_
  rw [dg_tm hm hi, dg_zero, mulV_X (fun j _ => dg_zero j), sm_zero (fun k _ => sm_zero fun j _ => by rw [dg_zero, Int.mul_zero, Int.zero_mul]), Int.zero_emod]
theorem zero_tm (hm : 0 < m) {x : Int} (hx : El m r x) : tm m r f 0 x = 0 := by
  rw [tm_comm hm (el_zero hm) hx, tm_zero hm]
theorem tm_pl (hm : 0 < m) {x y z : Int} (hy : El m r y) (hz : El m r z) : tm m r f x (pl m r y z) = pl m r (tm m r f x y) (tm m r f x z) := by
  refine el_ext hm (tm_el hm _ _) (pl_el hm _ _) fun i hi => ?_
  rw [dg_tm hm hi, dg_pl hm hi, dg_tm hm hi, dg_tm hm hi, ← Int.add_emod, ← mulV_add (dg_sup hm hy) (dg_sup hm hz)]
  refine mulV_mod (dg_sup hm (pl_el hm _ _)) (fun j hj => ?_) (fun _ _ => rfl) (fun j hj => by rw [dg_pl hm hj, Int.emod_emod]) i
  show dg m j y + dg m j z = 0
  rw [show dg m j y = 0 from dg_sup hm hy j hj, show dg m j z = 0 from dg_sup hm hz j hj]; rfl
theorem tm_mi (hm : 0 < m) {x y z : Int} (hy : El m r y) (hz : El m r z) : tm m r f x (mi m r y z) = mi m r (tm m r f x y) (tm m r f x z) := by
  have h : pl m r (tm m r f x (mi m r y z)) (tm m r f x z) = tm m r f x y := by
    rw [← tm_pl hm (mi_el hm _ _) hz, pl_mi hm hy]
  rw [← h, mi_pl hm (tm_el hm _ _)]
theorem pw_el (hm : 2 ≤ m) (hr : 0 < r) (x : Int) : ∀ n, El m r (pw m r f x n)
  | 0 => el_one hm hr
  | _ + 1 => tm_el (by omega) _ _
theorem pw_one (hm : 2 ≤ m) (hr : 0 < r) {x : Int} (hx : El m r x) : pw m r f x 1 = x := one_tm hm hr hx
theorem pw_add (hm : 2 ≤ m) (hr : 0 < r) {x : Int} (hx : El m r x) (a : Nat) : ∀ b, pw m r f x (a + b) = tm m r f (pw m r f x a) (pw m r f x b)
  | 0 => (tm_one hm hr (pw_el hm hr x a)).symm
  | b + 1 => by
    show tm m r f (pw m r f x (a + b)) x = tm m r f (pw m r f x a) (tm m r f (pw m r f x b) x)
    rw [pw_add hm hr hx a b, tm_assoc (by omega) (pw_el hm hr x a) (pw_el hm hr x b) hx]
theorem pw_mul (hm : 2 ≤ m) (hr : 0 < r) {x : Int} (hx : El m r x) (a : Nat) : ∀ b, pw m r f x (a * b) = pw m r f (pw m r f x a) b
  | 0 => rfl
  | b + 1 => by
    rw [Nat.mul_succ, pw_add hm hr hx, pw_mul hm hr hx a b]
    rfl
theorem pw_tm (hm : 2 ≤ m) (hr : 0 < r) {x y : Int} (hx : El m r x) (hy : El m r y) : ∀ n, pw m r f (tm m r f x y) n = tm m r f (pw m r f x n) (pw m r f y n)
  | 0 => (one_tm hm hr (el_one hm hr)).symm
  | n + 1 => by
    have h0 : 0 < m := by omega
    show tm m r f (pw m r f (tm m r f x y) n) (tm m r f x y) = tm m r f (tm m r f (pw m r f x n) x) (tm m r f (pw m r f y n) y)
    have ha := pw_el (f := f) hm hr x n
    have hb := pw_el (f := f) hm hr y n
    rw [pw_tm hm hr hx hy n, tm_assoc h0 ha hb (tm_el h0 _ _), tm_assoc h0 ha hx (tm_el h0 _ _), ← tm_assoc h0 hb hx hy, tm_comm h0 hb hx, tm_assoc h0 hx hb hy]
theorem one_pw (hm : 2 ≤ m) (hr : 0 < r) : ∀ n, pw m r f 1 n = 1
  | 0 => rfl
  | n + 1 => by
    show tm m r f (pw m r f 1 n) 1 = 1
    rw [one_pw hm hr n, tm_one hm hr (el_one hm hr)]
theorem zero_pw (hm : 2 ≤ m) {n : Nat} (hn : 0 < n) : pw m r f 0 n = 0 := by
  obtain ⟨k, rfl⟩ : ∃ k, n = k + 1 := ⟨n - 1, by omega⟩
  exact tm_zero (by omega) _
end Ring
