/-! what the law asks of one ring -/
section Ask
variable {p e r q : Nat} {m : Int} {f : Nat → Int} {g x y : Int}
abbrev lR (p r : Nat) (m : Int) (q : Nat) (f : Nat → Int) (g : Int) : Nat → Int := lgR p r m q f g
theorem lv_ge {lg : Nat → Int} : ∀ (k i : Nat), (i : Int) ≤ lvE p r m lg x i k
  | 0, i => Int.le_refl _
  | k + 1, i => by
    show (i : Int) ≤ if rl p r m lg (bpn p r m x i) = -1 then lvE p r m lg x (i + 1) k else i
    split
    · have := lv_ge (lg := lg) k (i + 1)
      omega
    · exact Int.le_refl _
theorem lv_no {lg : Nat → Int} {k i : Nat} (h : rl p r m lg (bpn p r m x i) = -1) : lvE p r m lg x i (k + 1) = lvE p r m lg x (i + 1) k := if_pos h
theorem lv_yes {lg : Nat → Int} {k i : Nat} (h : rl p r m lg (bpn p r m x i) ≠ -1) : lvE p r m lg x i (k + 1) = i := if_neg h
theorem dl_bpn {lg : Nat → Int} (hm : 0 < m) (hx : El m r x) {i : Nat} (h0 : dlE p r m f g lg x i = bpn p r m x i) (h : rl p r m lg (dlE p r m f g lg x i) = -1) : dlE p r m f g lg x (i + 1) = bpn p r m x (i + 1) := by
  show bp p r m (mi m r (dlE p r m f g lg x i) (ro p r m f g lg (dlE p r m f g lg x i))) = bp p r m (bpn p r m x i)
  have e1 : ro p r m f g lg (dlE p r m f g lg x i) = 0 := if_pos h
  rw [e1, h0, mi_zero hm (bpn_el hm hx i)]
theorem RK.lv0 (h : RK p e r m q f g) : lvE p r m (lR p r m q f g) x 0 e = 0 ↔ rl p r m (lR p r m q f g) x ≠ -1 := by
  obtain ⟨k, rfl⟩ : ∃ k, e = k + 1 := ⟨e - 1, by have := h.2.1; omega⟩
  constructor
  · intro h0 h1
    rw [lv_no (x := x) (i := 0) h1] at h0
    have := lv_ge (p := p) (r := r) (m := m) (lg := lR p r m q f g) (x := x) k (0 + 1)
    omega
  · intro h1
    exact lv_yes (x := x) (i := 0) h1
theorem RK.ro_fix (h : RK p e r m q f g) (x : Int) : ro p r m f g (lR p r m q f g) (ro p r m f g (lR p r m q f g) x) = ro p r m f g (lR p r m q f g) x := by
  have e1 := h.ro_tc x
  have e2 := h.ro_tc (ro p r m f g (lR p r m q f g) x)
  have e3 := h.ro_low x
  show ro p r m f g (lgR p r m q f g) (ro p r m f g (lgR p r m q f g) x) = ro p r m f g (lgR p r m q f g) x
  rw [show ro p r m f g (lgR p r m q f g) (ro p r m f g (lgR p r m q f g) x) = _ from e2, show ro p r m f g (lR p r m q f g) x = _ from e1, e3]
theorem RK.ro_z (h : RK p e r m q f g) (x : Int) : ro p r m f g (lR p r m q f g) x = 0 ↔ rl p r m (lR p r m q f g) x = -1 := by
  constructor
  · intro h0
    by_cases h1 : rl p r m (lR p r m q f g) x = -1
    · exact h1
    · have e1 : ro p r m f g (lR p r m q f g) x = pw m r f g (rl p r m (lR p r m q f g) x).toNat := if_neg h1
      rw [e1] at h0
      exact absurd h0 (h.g_ne _)
  · intro h1
    exact if_pos h1
theorem RK.unitp (h : RK p e r m q f g) (hp : prm p) (hx : El m r x) (hu : rl p r m (lR p r m q f g) x ≠ -1) :
    tm m r f (ro p r m f g (lR p r m q f g) x) (obl p e r q m f g (lR p r m q f g) x) = x ∧ ro p r m f g (lR p r m q f g) (obl p e r q m f g (lR p r m q f g) x) = 1 ∧ El m r (obl p e r q m f g (lR p r m q f g) x) ∧ tm m r f x (pw m r f x (ivN p e q)) = 1 := by
  have hl : low p r m x ≠ 0 := fun k => hu (h.rl_no.mpr k)
  obtain ⟨k, hk, k1, k2, k3, k4, k5⟩ := h.split hx hl
  refine ⟨?_, ?_, k4, h.iv_one hx hl⟩
  · rw [show ro p r m f g (lR p r m q f g) x = _ from k2]
    exact k5.symm
  · have e1 : rl p r m (lR p r m q f g) (obl p e r q m f g (lR p r m q f g) x) = 0 := h.rl0.mpr k3
    show (if rl p r m (lR p r m q f g) (obl p e r q m f g (lR p r m q f g) x) = -1 then 0 else pw m r f g (rl p r m (lR p r m q f g) (obl p e r q m f g (lR p r m q f g) x)).toNat) = 1
    rw [e1, if_neg (by decide)]
    rfl
theorem RK.ordd (h : RK p e r m q f g) (hp : prm p) (hNm : ((p ^ (e * r) : Nat) : Int) = m ^ r) (hx : El m r x) (hu : rl p r m (lR p r m q f g) x ≠ -1) :
    1 ≤ ordE p e r q m f g (lR p r m q f g) x ∧ (((q : Int) - 1) * (coE p e r (p ^ (e * r)) m f (lR p r m q f g) : Nat)) % (ordE p e r q m f g (lR p r m q f g) x : Nat) = 0 := by
  have hl : low p r m x ≠ 0 := fun k => hu (h.rl_no.mpr k)
  have hq2 := h.q2
  refine ⟨(h.ord_pos hp hx hl).1, ?_⟩
  have h1 := h.exp hp hNm
  have h2 := (h.ex_spec hp hNm (p ^ (e * r) - 1) (Nat.le_refl _)).1
  have hx0 : x ≠ 0 := fun k => hl (by rw [k]; exact low_zero (by have := h.1; omega))
  have hxn : ((x.toNat : Nat) : Int) = x := Int.toNat_of_nonneg hx.1
  have h3 : x.toNat ≤ p ^ (e * r) - 1 := by
    have := hx.2
    rw [← hNm] at this
    omega
  have h4 := h2 x.toNat (by have := hx.1; omega) h3 (by rw [hxn]; exact hl)
  rw [hxn, ← h1] at h4
  have h5 := (h.ord_iff hp hx hl _).mp h4
  have e1 : ((q : Int) - 1) * (coE p e r (p ^ (e * r)) m f (lR p r m q f g) : Nat) = (((q - 1) * coE p e r (p ^ (e * r)) m f (lgR p r m q f g) : Nat) : Int) := by
    rw [Int.natCast_mul]
    congr 1
    omega
  rw [e1, ← Int.natCast_emod]
  exact congrArg Int.ofNat (Nat.mod_eq_zero_of_dvd h5)
theorem RK.nm_tm (h : RK p e r m q f g) (hx : El m r x) (hy : El m r y) : ∀ k, nmE p r m f (tm m r f x y) k = tm m r f (nmE p r m f x k) (nmE p r m f y k) ∧ mvn p r m f (tm m r f x y) k = tm m r f (mvn p r m f x k) (mvn p r m f y k)
  | 0 => ⟨(one_tm h.m2 h.2.2.1 (el_one h.m2 h.2.2.1)).symm, rfl⟩
  | k + 1 => by
    have hm := h.m2
    have hr := h.2.2.1
    have hm0 : 0 < m := by omega
    obtain ⟨h1, h2⟩ := h.nm_tm hx hy k
    have a1 := nm_el (p := p) (f := f) (x := x) hm hr k
    have a2 := nm_el (p := p) (f := f) (x := y) hm hr k
    have b1 := mvn_el (p := p) (f := f) hm0 hx k
    have b2 := mvn_el (p := p) (f := f) hm0 hy k
    refine ⟨?_, ?_⟩
    · show tm m r f (nmE p r m f (tm m r f x y) k) (mvn p r m f (tm m r f x y) k) = tm m r f (tm m r f (nmE p r m f x k) (mvn p r m f x k)) (tm m r f (nmE p r m f y k) (mvn p r m f y k))
      rw [h1, h2, tm_assoc hm0 a1 a2 (tm_el hm0 _ _), tm_assoc hm0 a1 b1 (tm_el hm0 _ _)]
      congr 1
      rw [← tm_assoc hm0 a2 b1 b2, ← tm_assoc hm0 b1 a2 b2, tm_comm hm0 a2 b1]
    · show mv p r m f (mvn p r m f (tm m r f x y) k) = tm m r f (mv p r m f (mvn p r m f x k)) (mv p r m f (mvn p r m f y k))
      rw [h2, h.mv_tm]
theorem RK.nm_sh (h : RK p e r m q f g) (hx : El m r x) : ∀ k, nmE p r m f x (k + 1) = tm m r f x (mv p r m f (nmE p r m f x k))
  | 0 => by
    have hm := h.m2
    have hr := h.2.2.1
    show tm m r f 1 x = tm m r f x (mv p r m f 1)
    rw [h.mv_c ⟨by omega, by omega⟩, one_tm hm hr hx, tm_one hm hr hx]
  | k + 1 => by
    have hm := h.m2
    have hr := h.2.2.1
    have hm0 : 0 < m := by omega
    have ih := h.nm_sh hx k
    show tm m r f (nmE p r m f x (k + 1)) (mv p r m f (mvn p r m f x k)) = tm m r f x (mv p r m f (tm m r f (nmE p r m f x k) (mvn p r m f x k)))
    rw [ih, h.mv_tm, tm_assoc hm0 hx (mv_el hm0) (mv_el hm0)]
theorem RK.nm_const (h : RK p e r m q f g) (hx : El m r x) : 0 ≤ nmE p r m f x r ∧ nmE p r m f x r < m := by
  have hm := h.m2
  have hr := h.2.2.1
  have hm0 : 0 < m := by omega
  refine h.fixc (nm_el hm hr r) ?_
  obtain ⟨k, rfl⟩ : ∃ k, r = k + 1 := ⟨r - 1, by omega⟩
  have h1 := h.nm_sh hx k
  have h2 := h.mvn_r hx
  have h2 : mv p (k + 1) m f (mvn p (k + 1) m f x k) = x := h2
  have e1 : mv p (k + 1) m f (nmE p (k + 1) m f x (k + 1)) = tm m (k + 1) f (mv p (k + 1) m f (nmE p (k + 1) m f x k)) x := by
    show mv p (k + 1) m f (tm m (k + 1) f (nmE p (k + 1) m f x k) (mvn p (k + 1) m f x k)) = _
    rw [h.mv_tm, h2]
  rw [e1, h1, tm_comm hm0 (mv_el hm0) hx]
theorem RK.nm_prod (h : RK p e r m q f g) (hx : El m r x) (hy : El m r y) : nmE p r m f (tm m r f x y) r = nmE p r m f x r * nmE p r m f y r % m := by
  rw [(h.nm_tm hx hy r).1, tm_cc h.m2 h.2.2.1 (h.nm_const hx) (h.nm_const hy)]
theorem RK.tr_sum (h : RK p e r m q f g) (hx : El m r x) (hy : El m r y) : trE p r m f (pl m r x y) r = (trE p r m f x r + trE p r m f y r) % m := by
  rw [(h.tr_pl x y r).1, pl_cc h.m2 h.2.2.1 (h.tr_const hx) (h.tr_const hy)]
theorem RK.wd0 (h : RK p e r m q f g) (k : Nat) : whE p r m f g (k : Int) (-1) (-1) (-1) = pw m r f g k := by
  have hm := h.m2
  have hm0 : 0 < m := by omega
  have e1 : whE p r m f g (k : Int) (-1) (-1) (-1) = wdE p r m f g 0 0 (k : Int) := rfl
  rw [e1, wd_pl hm0, Int.pow_zero, sc_one hm0 (h.el k), pl_zero hm0 (h.el k)]
end Ask
/-- the digits make the element anew -/
theorem whx {p e r : Nat} (h : RKr p e r) (he4 : e ≤ 4) {x : Int} (hx : El ((p : Int) ^ e) r x) {d0 d1 d2 d3 : Int}
    (hd : ∀ i : Nat, i < 4 → whD d0 d1 d2 d3 i = if i < e then rl p r ((p : Int) ^ e) (rL p e r) (dlE p r ((p : Int) ^ e) (rF p e r) (rG p e r) (rL p e r) x i) else -1) :
    ((d0 = -1 ∨ 0 < (e : Int) ∧ 0 ≤ d0 ∧ d0 ≤ ((p ^ r : Nat) : Int) - 2) ∧ (d1 = -1 ∨ 1 < (e : Int) ∧ 0 ≤ d1 ∧ d1 ≤ ((p ^ r : Nat) : Int) - 2) ∧ (d2 = -1 ∨ 2 < (e : Int) ∧ 0 ≤ d2 ∧ d2 ≤ ((p ^ r : Nat) : Int) - 2) ∧ (d3 = -1 ∨ 3 < (e : Int) ∧ 0 ≤ d3 ∧ d3 ≤ ((p ^ r : Nat) : Int) - 2)) ∧ whE p r ((p : Int) ^ e) (rF p e r) (rG p e r) d0 d1 d2 d3 = x := by
  have hq2 := h.q2
  have hdd : ∀ i : Nat, i < e → rl p r ((p : Int) ^ e) (rL p e r) (dlE p r ((p : Int) ^ e) (rF p e r) (rG p e r) (rL p e r) x i) = ddR p e r (p ^ r) ((p : Int) ^ e) (rF p e r) (rG p e r) x i := fun i hi => by
    have e1 := h.dl_eq x i
    show rl p r ((p : Int) ^ e) (rL p e r) (dlE p r ((p : Int) ^ e) (rF p e r) (rG p e r) (rL p e r) x i) = _
    rw [show dlE p r ((p : Int) ^ e) (rF p e r) (rG p e r) (rL p e r) x i = _ from e1]
    rfl
  have hB : ∀ i : Nat, i < 4 → -1 ≤ whD d0 d1 d2 d3 i ∧ whD d0 d1 d2 d3 i ≤ (if i < e then ((p ^ r : Nat) : Int) - 2 else -1) := fun i hi => by
    rw [hd i hi]
    by_cases hie : i < e
    · rw [if_pos hie, if_pos hie, hdd i hie]
      rcases h.DGx x i hie with k1 | ⟨k, hk, k1⟩
      · rw [k1]; omega
      · rw [k1]; omega
    · rw [if_neg hie, if_neg hie]; omega
  have hW : whB e (p ^ r) (whD d0 d1 d2 d3) 4 = true := decide_eq_true hB
  have hq := q_wh_of h he4 d0 d1 d2 d3
  rw [if_pos hW] at hq
  by_cases hc : (d0 = -1 ∨ 0 < (e : Int) ∧ 0 ≤ d0 ∧ d0 ≤ ((p ^ r : Nat) : Int) - 2) ∧ (d1 = -1 ∨ 1 < (e : Int) ∧ 0 ≤ d1 ∧ d1 ≤ ((p ^ r : Nat) : Int) - 2) ∧ (d2 = -1 ∨ 2 < (e : Int) ∧ 0 ≤ d2 ∧ d2 ≤ ((p ^ r : Nat) : Int) - 2) ∧ (d3 = -1 ∨ 3 < (e : Int) ∧ 0 ≤ d3 ∧ d3 ≤ ((p ^ r : Nat) : Int) - 2)
  · refine ⟨hc, ?_⟩
    rw [if_pos hc] at hq
    rw [Option.some.inj hq, ← h.jn_all hx]
    refine h.jn_congr (d := whD d0 d1 d2 d3) (d' := ddR p e r (p ^ r) ((p : Int) ^ e) (rF p e r) (rG p e r) x) (fun i hi => ?_) e (Nat.le_refl _)
    rw [hd i (by omega), if_pos hi, hdd i hi]
    rcases h.DGx x i hi with k1 | ⟨k, hk, k1⟩
    · exact Or.inl ⟨k1, k1⟩
    · exact Or.inr ⟨k, k, k1, k1, rfl⟩
  · rw [if_neg hc] at hq
    cases hq
