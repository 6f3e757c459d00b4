/-! digits, the movement by digits -/
def sc (m : Int) (r : Nat) (k y : Int) : Int := un m r (fun j => k * dg m j y)
section Sc
variable {m : Int} {r : Nat} {f : Nat → Int} {x y z a b : Int}
theorem sc_el (hm : 0 < m) : El m r (sc m r a y) := un_range hm _ _
theorem dg_sc (hm : 0 < m) {i : Nat} (hi : i < r) : dg m i (sc m r a y) = (a * dg m i y) % m := by unfold sc; rw [dg_un hm, if_pos hi]
theorem sc_pl (hm : 0 < m) : sc m r a (pl m r x y) = pl m r (sc m r a x) (sc m r a y) := by
  refine el_ext hm (sc_el hm) (pl_el hm _ _) fun i hi => ?_
  rw [dg_sc hm hi, dg_pl hm hi, dg_pl hm hi, dg_sc hm hi, dg_sc hm hi, mul_emd, ← Int.add_emod, Int.mul_add]
theorem sc_sc (hm : 0 < m) : sc m r a (sc m r b y) = sc m r (a * b) y := by
  refine el_ext hm (sc_el hm) (sc_el hm) fun i hi => ?_
  rw [dg_sc hm hi, dg_sc hm hi, dg_sc hm hi, mul_emd, Int.mul_assoc]
theorem sc_m (hm : 0 < m) : sc m r m y = 0 := by
  refine el_ext hm (sc_el hm) (el_zero hm) fun i hi => ?_
  rw [dg_sc hm hi, dg_zero, Int.mul_emod_right]
theorem sc_one (hm : 0 < m) (hy : El m r y) : sc m r 1 y = y := by
  refine el_ext hm (sc_el hm) hy fun i hi => ?_
  rw [dg_sc hm hi, Int.one_mul, dg_mod hm]
theorem ev1_sup (hr : 0 < r) : sup r (ev1 0) := fun j hj => if_neg (by omega)
theorem tm_const (hm : 2 ≤ m) (hr : 0 < r) {c : Int} (hc : 0 ≤ c ∧ c < m) (hy : El m r y) : tm m r f c y = sc m r c y := by
  have hm0 : 0 < m := by omega
  refine el_ext hm0 (tm_el hm0 _ _) (sc_el hm0) fun i hi => ?_
  rw [dg_tm hm0 hi, dg_sc hm0 hi, mulV_comm (dg_sup hm0 (el_const hm hr hc)) (dg_sup hm0 hy)]
  rw [show (fun i => dg m i c) = fun i => c * ev1 0 i from funext fun i => dg_const hm hc i, mulV_scal (ev1_sup hr), mulV_comm (dg_sup hm0 hy) (ev1_sup hr), mulV_one hr]
theorem sc_bp {p : Nat} (hm : 0 < m) (hp : 1 ≤ p) (hz : El m r z) (h : cg (p : Int) m r z 0) : sc m r p (bp p r m z) = z := by
  refine el_ext hm (sc_el hm) hz fun i hi => ?_
  have h1 := h i hi
  rw [dg_zero, Int.zero_emod] at h1
  have h2 := dg_range hm i z
  rw [dg_sc hm hi]
  unfold bp
  rw [dg_un hm, if_pos hi, mul_emd, Int.mul_ediv_cancel' (Int.dvd_of_emod_eq_zero h1), dg_mod hm]
end Sc
section Dig
variable {p e r q : Nat} {m : Int} {f : Nat → Int} {g x y : Int}
abbrev rtR (p e r q : Nat) (m : Int) (f : Nat → Int) : Nat → Int := fun j => tcE p e r q m f j
theorem RK.tcc (h : RK p e r m q f g) (x : Int) : cg (p : Int) m r (tcE p e r q m f (low p r m x)) x := (cg_low (by have := h.1; omega)).mp (h.ro_low x)
theorem RK.step (h : RK p e r m q f g) (hy : El m r y) : y = pl m r (tcE p e r q m f (low p r m y)) (sc m r p (bp p r m (mi m r y (tcE p e r q m f (low p r m y))))) := by
  have hm := h.m2
  have hm0 : 0 < m := by omega
  have hpm : (p : Int) ∣ m := by
    rw [h.2.2.2.1]
    obtain ⟨k, rfl⟩ : ∃ k, e = k + 1 := ⟨e - 1, by have := h.2.1; omega⟩
    rw [Int.pow_succ]
    exact Int.dvd_mul_left _ _
  have h1 := cg_mi hm0 hpm (cg_rfl (x := y)) (h.tcc y)
  rw [mi_self hm0] at h1
  rw [sc_bp hm0 (by have := h.1; omega) (mi_el hm0 _ _) h1, pl_comm, pl_mi hm0 hy]
theorem RK.dl_el (h : RK p e r m q f g) (hx : El m r x) : ∀ i, El m r (dlM p r m (rtR p e r q m f) x i)
  | 0 => hx
  | _ + 1 => bp_el (by have := h.m2; omega)
theorem RK.dl_eq (h : RK p e r m q f g) (x : Int) : ∀ i, dlE p r m f g (lgR p r m q f g) x i = dlM p r m (rtR p e r q m f) x i
  | 0 => rfl
  | i + 1 => by
    show bp p r m (mi m r (dlE p r m f g (lgR p r m q f g) x i) (ro p r m f g (lgR p r m q f g) (dlE p r m f g (lgR p r m q f g) x i))) = _
    rw [h.ro_tc, h.dl_eq x i]
    rfl
abbrev ddR (p e r q : Nat) (m : Int) (f : Nat → Int) (g x : Int) : Nat → Int := ddM p r m (rtR p e r q m f) (lgR p r m q f g) x
/-- digits as they may stand -/
def DG (q : Nat) (d : Nat → Int) (e : Nat) : Prop := ∀ i, i < e → d i = -1 ∨ ∃ k : Nat, k < q - 1 ∧ d i = k
theorem RK.dd (h : RK p e r m q f g) (x : Int) (i : Nat) : (ddR p e r q m f g x i = -1 ∧ tcE p e r q m f (low p r m (dlM p r m (rtR p e r q m f) x i)) = 0) ∨ ∃ k : Nat, k < q - 1 ∧ ddR p e r q m f g x i = k ∧ tcE p e r q m f (low p r m (dlM p r m (rtR p e r q m f) x i)) = pw m r f g k := by
  by_cases h0 : low p r m (dlM p r m (rtR p e r q m f) x i) = 0
  · exact Or.inl ⟨by show lgR p r m q f g (low p r m _) = -1; rw [h0, h.lg0], by rw [h0, h.tc0]⟩
  · obtain ⟨k, hk, h1, h2⟩ := h.rl_k h0
    exact Or.inr ⟨k, hk, h1, by rw [← h2, h.tc_k]⟩
theorem RK.DGx (h : RK p e r m q f g) (x : Int) : DG q (ddR p e r q m f g x) e := fun i _ => by
  rcases h.dd x i with ⟨h1, -⟩ | ⟨k, hk, h1, -⟩
  · exact Or.inl h1
  · exact Or.inr ⟨k, hk, h1⟩
theorem RK.jt (h : RK p e r m q f g) (k b : Nat) : pw m r f g (((k : Int) * (b : Nat) % ((q : Int) - 1)).toNat) = pw m r f g (k * b) := by
  have hq2 := h.q2
  have e1 : (q : Int) - 1 = ((q - 1 : Nat) : Int) := by omega
  have e2 : ((k : Int) * (b : Nat) % ((q : Int) - 1)).toNat = k * b % (q - 1) := by
    rw [e1, ← Int.natCast_mul]
    exact Int.toNat_natCast _
  rw [e2, ← h.mod]
theorem RK.ppow (h : RK p e r m q f g) {i : Nat} (hi : i < e) : 0 ≤ (p : Int) ^ i ∧ (p : Int) ^ i < m := by
  have hp := h.1
  have h0 : (0 : Int) < (p : Int) ^ i := Int.pow_pos (by omega)
  refine ⟨by omega, ?_⟩
  rw [h.2.2.2.1]
  obtain ⟨k, rfl⟩ : ∃ k, e = i + (k + 1) := ⟨e - i - 1, by omega⟩
  rw [Int.pow_add]
  have h1 := pow_ge (m := (p : Int)) (by omega) (show 1 ≤ k + 1 by omega)
  have h2 : (p : Int) ^ i * 2 ≤ (p : Int) ^ i * (p : Int) ^ (k + 1) := Int.mul_le_mul_of_nonneg_left (by omega) (by omega)
  omega
theorem RK.jn_el (h : RK p e r m q f g) (d : Nat → Int) (b : Nat) : ∀ i, El m r (jnM p r q m f g d b i)
  | 0 => el_zero (by have := h.m2; omega)
  | i + 1 => by
    show El m r (if d i = -1 then _ else _)
    split
    · exact h.jn_el d b i
    · exact pl_el (by have := h.m2; omega) _ _
theorem jn_no {p r q : Nat} {m : Int} {f : Nat → Int} {g : Int} {d : Nat → Int} {b i : Nat} (hd : d i = -1) : jnM p r q m f g d b (i + 1) = jnM p r q m f g d b i := if_pos hd
theorem RK.jn_yes (h : RK p e r m q f g) {d : Nat → Int} {b i k : Nat} (hi : i < e) (hd : d i = k) : jnM p r q m f g d b (i + 1) = pl m r (jnM p r q m f g d b i) (sc m r ((p : Int) ^ i) (pw m r f g (k * b))) := by
  have e1 : jnM p r q m f g d b (i + 1) = pl m r (jnM p r q m f g d b i) (tm m r f ((p : Int) ^ i) (pw m r f g (d i * b % ((q : Int) - 1)).toNat)) := if_neg (by omega)
  rw [e1, hd, h.jt, tm_const h.m2 h.2.2.1 (h.ppow hi) (h.el _)]
theorem RK.dec (h : RK p e r m q f g) (hx : El m r x) : ∀ i, i ≤ e → x = pl m r (jnM p r q m f g (ddR p e r q m f g x) 1 i) (sc m r ((p : Int) ^ i) (dlM p r m (rtR p e r q m f) x i))
  | 0, _ => by
    have hm := h.m2
    show x = pl m r 0 (sc m r ((p : Int) ^ 0) x)
    rw [Int.pow_zero, sc_one (by omega) hx, pl_zero (by omega) hx]
  | i + 1, hi => by
    have hm := h.m2
    have hm0 : 0 < m := by omega
    have ih := h.dec hx i (by omega)
    have hs := h.step (h.dl_el hx i)
    have e2 : sc m r ((p : Int) ^ i) (sc m r p (dlM p r m (rtR p e r q m f) x (i + 1))) = sc m r ((p : Int) ^ (i + 1)) (dlM p r m (rtR p e r q m f) x (i + 1)) := by rw [sc_sc hm0, Int.pow_succ]
    have hs2 : dlM p r m (rtR p e r q m f) x i = pl m r (tcE p e r q m f (low p r m (dlM p r m (rtR p e r q m f) x i))) (sc m r p (dlM p r m (rtR p e r q m f) x (i + 1))) := hs
    rcases h.dd x i with ⟨h1, h2⟩ | ⟨k, hk, h1, h2⟩
    · rw [h2, pl_zero hm0 (sc_el hm0)] at hs2
      rw [hs2, e2] at ih
      rw [jn_no h1]; exact ih
    · rw [h2] at hs2
      rw [hs2, sc_pl hm0, e2, ← pl_assoc hm0] at ih
      rw [h.jn_yes (by omega) h1, Nat.mul_one]; exact ih
theorem RK.jn_all (h : RK p e r m q f g) (hx : El m r x) : jnM p r q m f g (ddR p e r q m f g x) 1 e = x := by
  have hm := h.m2
  have h1 := h.dec hx e (Nat.le_refl _)
  rw [← h.2.2.2.1, sc_m (by omega), pl_comm, pl_zero (by omega) (h.jn_el _ _ _)] at h1
  exact h1.symm
theorem RK.mvg (h : RK p e r m q f g) (k : Nat) : mv p r m f (pw m r f g k) = pw m r f g (k * p) := by
  have hm := h.m2
  have hr := h.2.2.1
  have hg := h.2.2.2.2.2.1
  rw [mv_S hm hr, mvS_pw hm hr (pw_el hm hr _ _) h.2.2.2.2.2.2.2.2.1, ← mv_S hm hr, h.2.2.2.2.2.2.2.2.2, ← pw_mul hm hr hg, Nat.mul_comm]
theorem RK.mv_pl (h : RK p e r m q f g) (x y : Int) : mv p r m f (pl m r x y) = pl m r (mv p r m f x) (mv p r m f y) := by
  have hm := h.m2
  have hr := h.2.2.1
  rw [mv_S hm hr, mv_S hm hr, mv_S hm hr, mvS_pl (by omega)]
theorem RK.mv_tm (h : RK p e r m q f g) (x y : Int) : mv p r m f (tm m r f x y) = tm m r f (mv p r m f x) (mv p r m f y) := by
  have hm := h.m2
  have hr := h.2.2.1
  rw [mv_S hm hr, mv_S hm hr, mv_S hm hr, mvS_tm hm hr (pw_el hm hr _ _) h.2.2.2.2.2.2.2.2.1]
theorem RK.mv_c (h : RK p e r m q f g) {c : Int} (hc : 0 ≤ c ∧ c < m) : mv p r m f c = c := by
  have hm := h.m2
  have hr := h.2.2.1
  rw [mv_S hm hr, mvS_const hm hr hc]
theorem RK.mv_jn (h : RK p e r m q f g) {d : Nat → Int} (hd : DG q d e) (b : Nat) : ∀ i, i ≤ e → mv p r m f (jnM p r q m f g d b i) = jnM p r q m f g d (b * p) i
  | 0, _ => by
    show mv p r m f 0 = 0
    exact h.mv_c ⟨by omega, by have := h.m2; omega⟩
  | i + 1, hi => by
    have hm := h.m2
    have ih := h.mv_jn hd b i (by omega)
    rcases hd i (by omega) with h1 | ⟨k, hk, h1⟩
    · rw [jn_no h1, jn_no h1, ih]
    · rw [h.jn_yes (by omega) h1, h.jn_yes (by omega) h1, h.mv_pl, ih, ← tm_const (f := f) hm h.2.2.1 (h.ppow (by omega)) (h.el _), h.mv_tm, h.mv_c (h.ppow (by omega)), h.mvg, tm_const hm h.2.2.1 (h.ppow (by omega)) (h.el _), Nat.mul_assoc]
theorem RK.mvn_jn (h : RK p e r m q f g) (hx : El m r x) : ∀ k, mvn p r m f x k = jnM p r q m f g (ddR p e r q m f g x) (p ^ k) e
  | 0 => by rw [Nat.pow_zero, h.jn_all hx]; rfl
  | k + 1 => by
    show mv p r m f (mvn p r m f x k) = _
    rw [h.mvn_jn hx k, h.mv_jn (h.DGx x) _ e (Nat.le_refl _), Nat.pow_succ]
theorem RK.jn_congr (h : RK p e r m q f g) {d d' : Nat → Int} {b b' : Nat} (hd : ∀ i, i < e → (d i = -1 ∧ d' i = -1) ∨ ∃ k k' : Nat, d i = k ∧ d' i = k' ∧ (k * b) % (q - 1) = (k' * b') % (q - 1)) : ∀ i, i ≤ e → jnM p r q m f g d b i = jnM p r q m f g d' b' i
  | 0, _ => rfl
  | i + 1, hi => by
    have ih := h.jn_congr hd i (by omega)
    rcases hd i (by omega) with ⟨h1, h2⟩ | ⟨k, k', h1, h2, h3⟩
    · rw [jn_no h1, jn_no h2, ih]
    · rw [h.jn_yes (by omega) h1, h.jn_yes (by omega) h2, ih, h.mod (k * b), h3, ← h.mod]
theorem RK.mvn_r (h : RK p e r m q f g) (hx : El m r x) : mvn p r m f x r = x := by
  rw [h.mvn_jn hx]
  refine Eq.trans (h.jn_congr (d' := ddR p e r q m f g x) (b' := 1) (fun i hi => ?_) e (Nat.le_refl _)) (h.jn_all hx)
  rcases h.DGx x i hi with h1 | ⟨k, hk, h1⟩
  · exact Or.inl ⟨h1, h1⟩
  · refine Or.inr ⟨k, k, h1, h1, ?_⟩
    rw [← h.2.2.2.2.1]
    have hq2 := h.q2
    rw [show k * q = k * 1 + (q - 1) * k by rw [Nat.mul_comm (q - 1) k, ← Nat.mul_add, show 1 + (q - 1) = q by omega], Nat.add_mul_mod_self_left]
end Dig
