/-! the maker times the check is X to the n less 1 -/
section Pol
variable {m : Int} {r : Nat} {f : Nat → Int}
/-- sums in the ring -/
def rs (m : Int) (r : Nat) (F : Nat → Int) : Nat → Int
  | 0 => 0
  | n + 1 => pl m r (rs m r F n) (F n)
theorem rs_el (hm : 0 < m) (F : Nat → Int) : ∀ n, El m r (rs m r F n)
  | 0 => el_zero hm
  | _ + 1 => pl_el hm _ _
theorem rs_congr {F G : Nat → Int} : ∀ {n : Nat}, (∀ t, t < n → F t = G t) → rs m r F n = rs m r G n
  | 0, _ => rfl
  | n + 1, h => by
    show pl m r (rs m r F n) (F n) = pl m r (rs m r G n) (G n)
    rw [rs_congr (fun t ht => h t (by omega)), h n (by omega)]
theorem rs_zero (hm : 0 < m) {F : Nat → Int} : ∀ {n : Nat}, (∀ t, t < n → F t = 0) → rs m r F n = 0
  | 0, _ => rfl
  | n + 1, h => by
    show pl m r (rs m r F n) (F n) = 0
    rw [rs_zero hm (fun t ht => h t (by omega)), h n (by omega), pl_zero hm (el_zero hm)]
theorem rs_first (hm : 0 < m) {F : Nat → Int} (hF : ∀ t, El m r (F t)) : ∀ n : Nat, rs m r F (n + 1) = pl m r (F 0) (rs m r (fun t => F (t + 1)) n)
  | 0 => by
    show pl m r 0 (F 0) = pl m r (F 0) 0
    rw [pl_comm]
  | n + 1 => by
    show pl m r (rs m r F (n + 1)) (F (n + 1)) = pl m r (F 0) (pl m r (rs m r (fun t => F (t + 1)) n) (F (n + 1)))
    rw [rs_first hm hF n, pl_assoc hm]
theorem rs_tm (hm : 0 < m) {F : Nat → Int} {a : Int} (hF : ∀ t, El m r (F t)) : ∀ n : Nat, rs m r (fun t => tm m r f a (F t)) n = tm m r f a (rs m r F n)
  | 0 => (tm_zero hm a).symm
  | n + 1 => by
    show pl m r (rs m r (fun t => tm m r f a (F t)) n) (tm m r f a (F n)) = tm m r f a (pl m r (rs m r F n) (F n))
    rw [rs_tm hm hF n, tm_pl hm (rs_el hm F n) (hF n)]
theorem pl_mi4 (hm : 0 < m) (A B C D : Int) : pl m r (mi m r A B) (mi m r C D) = mi m r (pl m r A C) (pl m r B D) := by
  refine el_ext hm (pl_el hm _ _) (mi_el hm _ _) fun i hi => ?_
  rw [dg_pl hm hi, dg_mi hm hi, dg_mi hm hi, dg_mi hm hi, dg_pl hm hi, dg_pl hm hi, ← Int.add_emod, ← Int.sub_emod]
  congr 1
  omega
theorem rs_mi (hm : 0 < m) {F G : Nat → Int} : ∀ n : Nat, rs m r (fun t => mi m r (F t) (G t)) n = mi m r (rs m r F n) (rs m r G n)
  | 0 => (mi_self hm 0).symm
  | n + 1 => by
    show pl m r (rs m r (fun t => mi m r (F t) (G t)) n) (mi m r (F n) (G n)) = mi m r (pl m r (rs m r F n) (F n)) (pl m r (rs m r G n) (G n))
    rw [rs_mi hm n, pl_mi4 hm]
/-- a product's coefficient -/
def cv (m : Int) (r : Nat) (f a b : Nat → Int) (i : Nat) : Int := rs m r (fun t => tm m r f (a t) (b (i - t))) (i + 1)
theorem cv_el (hm : 0 < m) (a b : Nat → Int) (i : Nat) : El m r (cv m r f a b i) := rs_el hm _ _
theorem mi_tm (hm : 0 < m) {x y z : Int} (hx : El m r x) (hy : El m r y) (hz : El m r z) : tm m r f (mi m r x y) z = mi m r (tm m r f x z) (tm m r f y z) := by
  rw [tm_comm hm (mi_el hm _ _) hz, tm_mi hm hx hy, tm_comm hm hz hx, tm_comm hm hz hy]
theorem cv_g (hm : 0 < m) {a b : Nat → Int} {k : Int} (ha : ∀ j, El m r (a j)) (hb : ∀ j, El m r (b j)) (hk : El m r k) (i : Nat) :
    cv m r f (fun j => mi m r (if j = 0 then 0 else a (j - 1)) (tm m r f k (a j))) b i = mi m r (if i = 0 then 0 else cv m r f a b (i - 1)) (tm m r f k (cv m r f a b i)) := by
  have hu : ∀ j, El m r (if j = 0 then 0 else a (j - 1)) := fun j => by
    split
    · exact el_zero hm
    · exact ha _
  have e1 : cv m r f (fun j => mi m r (if j = 0 then 0 else a (j - 1)) (tm m r f k (a j))) b i = rs m r (fun t => mi m r (tm m r f (if t = 0 then 0 else a (t - 1)) (b (i - t))) (tm m r f k (tm m r f (a t) (b (i - t))))) (i + 1) :=
    rs_congr fun t _ => by rw [mi_tm hm (hu t) (tm_el hm _ _) (hb _), tm_assoc hm hk (ha t) (hb _)]
  rw [e1, rs_mi hm, rs_tm hm (fun t => tm_el hm _ _)]
  congr 1
  rw [rs_first hm (fun t => tm_el hm _ _), if_pos rfl, zero_tm hm (hb _), pl_zero hm (rs_el hm _ _)]
  by_cases hi : i = 0
  · subst hi
    rw [if_pos rfl]
    rfl
  · obtain ⟨i, rfl⟩ : ∃ s, i = s + 1 := ⟨i - 1, by omega⟩
    rw [if_neg hi]
    show _ = rs m r (fun t => tm m r f (a t) (b (i + 1 - 1 - t))) (i + 1 - 1 + 1)
    refine rs_congr fun t _ => ?_
    show tm m r f (if t + 1 = 0 then 0 else a (t + 1 - 1)) (b (i + 1 - (t + 1))) = tm m r f (a t) (b (i + 1 - 1 - t))
    rw [if_neg (by omega)]
    congr 2
    omega
theorem cv_one (hm : 2 ≤ m) (hr : 0 < r) {b : Nat → Int} (hb : ∀ j, El m r (b j)) (i : Nat) : cv m r f oneC b i = b i := by
  have hm0 : 0 < m := by omega
  unfold cv
  rw [rs_first hm0 (fun t => tm_el hm0 _ _), rs_zero hm0 (fun t _ => ?_)]
  · show pl m r (tm m r f 1 (b (i - 0))) 0 = b i
    rw [one_tm hm hr (hb _), pl_comm, pl_zero hm0 (hb _)]
    rfl
  · show tm m r f (if t + 1 = 0 then 1 else 0) (b (i - (t + 1))) = 0
    rw [if_neg (by omega), zero_tm hm0 (hb _)]
theorem cv_prd (hm : 2 ≤ m) (hr : 0 < r) (l2 : List Int) : ∀ (l1 : List Int), (∀ a, a ∈ l1 → El m r a) → ∀ i, cv m r f (prd m r f l1) (prd m r f l2) i = prd m r f (l1 ++ l2) i
  | [], _, i => cv_one hm hr (prd_el hm hr l2) i
  | a :: l1, h, i => by
    have hm0 : 0 < m := by omega
    have ih := cv_prd hm hr l2 l1 (fun b hb => h b (List.mem_cons_of_mem _ hb))
    show cv m r f (fun j => mi m r (if j = 0 then 0 else prd m r f l1 (j - 1)) (tm m r f a (prd m r f l1 j))) (prd m r f l2) i = mi m r (if i = 0 then 0 else prd m r f (l1 ++ l2) (i - 1)) (tm m r f a (prd m r f (l1 ++ l2) i))
    rw [cv_g hm0 (prd_el hm hr l1) (prd_el hm hr l2) (h a List.mem_cons_self), ih, ih]
theorem prd_big (hm : 2 ≤ m) : ∀ (l : List Int) (j : Nat), l.length < j → prd m r f l j = 0
  | [], j, h => if_neg (by have : 0 < j := h; omega)
  | a :: l, j, h => by
    have hm0 : 0 < m := by omega
    have h : l.length + 1 < j := h
    show mi m r (if j = 0 then 0 else prd m r f l (j - 1)) (tm m r f a (prd m r f l j)) = 0
    rw [if_neg (by omega), prd_big hm l (j - 1) (by omega), prd_big hm l j (by omega), tm_zero hm0, mi_self hm0]
theorem mi_zero (hm : 0 < m) {x : Int} (hx : El m r x) : mi m r x 0 = x := by
  have h := mi_pl (r := r) (x := x) (y := 0) hm hx
  rw [pl_comm, pl_zero hm hx] at h
  exact h
theorem prd_top (hm : 2 ≤ m) (hr : 0 < r) : ∀ (l : List Int), prd m r f l l.length = 1
  | [] => rfl
  | a :: l => by
    have hm0 : 0 < m := by omega
    show mi m r (if l.length + 1 = 0 then 0 else prd m r f l (l.length + 1 - 1)) (tm m r f a (prd m r f l (l.length + 1))) = 1
    rw [if_neg (by omega), Nat.add_sub_cancel, prd_big hm l (l.length + 1) (by omega), tm_zero hm0, prd_top hm hr l, mi_zero hm0 (el_one hm hr)]
theorem mi_eq (hm : 0 < m) {x y : Int} (hx : El m r x) (hy : El m r y) (h : mi m r x y = 0) : x = y := by
  have h1 := pl_mi (r := r) (x := x) (y := y) hm hx
  rw [h, pl_zero hm hy] at h1
  exact h1.symm
theorem prd_scale (hm : 2 ≤ m) (hr : 0 < r) {w : Int} (hw : El m r w) : ∀ (l : List Int), (∀ a, a ∈ l → El m r a) → ∀ j, j ≤ l.length → prd m r f (l.map (tm m r f w)) j = tm m r f (pw m r f w (l.length - j)) (prd m r f l j)
  | [], _, j, hj => by
    obtain rfl : j = 0 := by have : j ≤ 0 := hj; omega
    show (1 : Int) = tm m r f (pw m r f w 0) 1
    rw [tm_one hm hr (pw_el hm hr w 0)]
    rfl
  | a :: l, h, j, hj => by
    have hm0 : 0 < m := by omega
    have hj : j ≤ l.length + 1 := hj
    have hP := prd_el (f := f) hm hr l
    have hwp := pw_el (f := f) hm hr w
    have ha := h a List.mem_cons_self
    have ih := prd_scale hm hr hw l (fun b hb => h b (List.mem_cons_of_mem _ hb))
    show mi m r (if j = 0 then 0 else prd m r f (l.map (tm m r f w)) (j - 1)) (tm m r f (tm m r f w a) (prd m r f (l.map (tm m r f w)) j)) = tm m r f (pw m r f w (l.length + 1 - j)) (mi m r (if j = 0 then 0 else prd m r f l (j - 1)) (tm m r f a (prd m r f l j)))
    have hu : El m r (if j = 0 then 0 else prd m r f l (j - 1)) := by
      split
      · exact el_zero hm0
      · exact hP _
    rw [tm_mi hm0 hu (tm_el hm0 _ _)]
    congr 1
    · by_cases h0 : j = 0
      · rw [if_pos h0, if_pos h0, tm_zero hm0]
      · rw [if_neg h0, if_neg h0, ih (j - 1) (by omega), show l.length - (j - 1) = l.length + 1 - j by omega]
    · rcases Nat.lt_or_ge l.length j with q9 | q9
      · rw [prd_big hm l j q9, prd_big hm _ j (by rw [List.length_map]; exact q9), tm_zero hm0, tm_zero hm0, tm_zero hm0]
      · have e1 : l.length + 1 - j = (l.length - j) + 1 := by omega
        rw [ih j q9, e1, pw_add hm hr hw, pw_one hm hr hw, tm_assoc hm0 hw ha (tm_el hm0 _ _), tm_assoc hm0 (hwp _) hw (tm_el hm0 _ _), ← tm_assoc hm0 ha (hwp _) (hP j), ← tm_assoc hm0 hw (tm_el hm0 _ _) (hP j), ← tm_assoc hm0 hw ha (hwp _), tm_comm hm0 (tm_el hm0 _ _) (hwp _), tm_assoc hm0 (hwp _) (tm_el hm0 _ _) (hP j), tm_assoc hm0 hw ha (hP j)]
/-! whole numbers below M -/
theorem pl_cc (hm : 2 ≤ m) (hr : 0 < r) {a b : Int} (ha : 0 ≤ a ∧ a < m) (hb : 0 ≤ b ∧ b < m) : pl m r a b = (a + b) % m := by
  have hm0 : 0 < m := by omega
  have hc : 0 ≤ (a + b) % m ∧ (a + b) % m < m := ⟨Int.emod_nonneg _ (by omega), Int.emod_lt_of_pos _ hm0⟩
  refine el_ext hm0 (pl_el hm0 _ _) (el_const hm hr hc) fun i hi => ?_
  rw [dg_pl hm0 hi, dg_const hm ha, dg_const hm hb, dg_const hm hc]
  unfold ev1
  split
  · rw [Int.mul_one, Int.mul_one, Int.mul_one]
  · rw [Int.mul_zero, Int.mul_zero, Int.mul_zero, Int.add_zero, Int.zero_emod]
theorem tm_cc (hm : 2 ≤ m) (hr : 0 < r) {a b : Int} (ha : 0 ≤ a ∧ a < m) (hb : 0 ≤ b ∧ b < m) : tm m r f a b = a * b % m := by
  have hm0 : 0 < m := by omega
  have hc : 0 ≤ a * b % m ∧ a * b % m < m := ⟨Int.emod_nonneg _ (by omega), Int.emod_lt_of_pos _ hm0⟩
  rw [tm_const hm hr ha (el_const hm hr hb)]
  refine el_ext hm0 (sc_el hm0) (el_const hm hr hc) fun i hi => ?_
  rw [dg_sc hm0 hi, dg_const hm hb, dg_const hm hc]
  unfold ev1
  split
  · rw [Int.mul_one, Int.mul_one]
  · rw [Int.mul_zero, Int.mul_zero, Int.mul_zero, Int.zero_emod]
theorem mi_01 (hm : 2 ≤ m) (hr : 0 < r) : mi m r 0 1 = m - 1 := by
  have hm0 : 0 < m := by omega
  have h := mi_pl (r := r) (x := m - 1) (y := 1) hm0 (el_const hm hr ⟨by omega, by omega⟩)
  rw [pl_cc hm hr ⟨by omega, by omega⟩ ⟨by omega, by omega⟩, show m - 1 + 1 = m by omega, Int.emod_self] at h
  exact h
end Pol
section Cyc2
variable {p e r q : Nat} {m : Int} {f : Nat → Int} {g x y : Int}
theorem RK.unit1 (h : RK p e r m q f g) {v z : Int} (hv : El m r v) (hz : El m r z) (hl : low p r m 1 ≠ low p r m v) (hf : tm m r f v z = z) : z = 0 := by
  have hm := h.m2
  have hr := h.2.2.1
  have hp := h.1
  have hm0 : 0 < m := by omega
  have hpm := h.pm1
  have h1 := el_one (m := m) (r := r) hm hr
  have hu : El m r (mi m r 1 v) := mi_el hm0 _ _
  have hu0 : low p r m (mi m r 1 v) ≠ 0 := fun h0 => hl ((cg_low (by omega)).mpr (fun i hi => by
    have h2 := (low_zero_iff (by omega)).mp h0 i hi
    rw [dg_mi hm0 hi, emd hpm] at h2
    exact Int.emod_eq_emod_iff_emod_sub_eq_zero.mpr h2))
  have h2 := h.iv_one hu hu0
  have h3 : tm m r f (mi m r 1 v) z = 0 := by rw [mi_tm hm0 h1 hv hz, one_tm hm hr hz, hf, mi_self hm0]
  have h4 : tm m r f (tm m r f (mi m r 1 v) (pw m r f (mi m r 1 v) (ivN p e q))) z = z := by rw [h2, one_tm hm hr hz]
  rw [tm_comm hm0 hu (pw_el hm hr _ _), tm_assoc hm0 (pw_el hm hr _ _) hu hz, h3, tm_zero hm0] at h4
  exact h4.symm
/-- the product of X less all n roots of one -/
theorem RK.xn (h : RK p e r m q f g) {n : Nat} (hn : 1 ≤ n) (hq : (q - 1) % n = 0) (i : Nat) (hi : i ≤ n) : prd m r f ((List.range n).map (roE m r q n f g)) i = if i = n then 1 else if i = 0 then m - 1 else 0 := by
  have hm := h.m2
  have hr := h.2.2.1
  have hm0 : 0 < m := by omega
  have hq2 := h.q2
  have hns := Nat.mul_div_cancel' (Nat.dvd_of_mod_eq_zero hq)
  have hs : 1 ≤ (q - 1) / n := Nat.div_pos (Nat.le_of_dvd (by omega) (Nat.dvd_of_mod_eq_zero hq)) hn
  obtain ⟨N, rfl⟩ : ∃ N, n = N + 1 := ⟨n - 1, by omega⟩
  have hel : ∀ a, a ∈ (List.range (N + 1)).map (roE m r q (N + 1) f g) → El m r a := fun a ha => by
    obtain ⟨k, -, rfl⟩ := List.mem_map.mp ha
    exact h.el _
  have hw := h.el ((q - 1) / (N + 1))
  have hro : ∀ k, tm m r f (pw m r f g ((q - 1) / (N + 1))) (roE m r q (N + 1) f g k) = roE m r q (N + 1) f g (k + 1) := fun k => by
    unfold roE
    rw [← pw_add hm hr h.2.2.2.2.2.1]
    congr 1
    rw [Nat.add_mul, Nat.one_mul, Nat.add_comm]
  have hper : roE m r q (N + 1) f g (N + 1) = roE m r q (N + 1) f g 0 := by
    unfold roE
    rw [h.iff, hns, Nat.mod_self, Nat.zero_mul, Nat.zero_mod]
  have hlen : ((List.range (N + 1)).map (roE m r q (N + 1) f g)).length = N + 1 := by rw [List.length_map, List.length_range]
  have hperm : (((List.range (N + 1)).map (roE m r q (N + 1) f g)).map (tm m r f (pw m r f g ((q - 1) / (N + 1))))).Perm ((List.range (N + 1)).map (roE m r q (N + 1) f g)) := by
    have e1 : ((List.range (N + 1)).map (roE m r q (N + 1) f g)).map (tm m r f (pw m r f g ((q - 1) / (N + 1)))) = (List.range N).map (fun k => roE m r q (N + 1) f g (k + 1)) ++ [roE m r q (N + 1) f g 0] := by
      rw [List.map_map, List.range_succ, List.map_append, List.map_singleton]
      congr 1
      · exact List.map_congr_left fun k _ => hro k
      · show [tm m r f _ (roE m r q (N + 1) f g N)] = _
        rw [hro, hper]
    have e2 : (List.range (N + 1)).map (roE m r q (N + 1) f g) = roE m r q (N + 1) f g 0 :: (List.range N).map (fun k => roE m r q (N + 1) f g (k + 1)) := by
      rw [List.range_succ_eq_map, List.map_cons, List.map_map]
      rfl
    rw [e1, e2]
    exact List.perm_append_comm
  have hP := prd_perm (f := f) hm hr hperm (fun a ha => by
    obtain ⟨k, -, rfl⟩ := List.mem_map.mp ha
    exact tm_el hm0 _ _)
  have hmid : ∀ j, 0 < j → j < N + 1 → prd m r f ((List.range (N + 1)).map (roE m r q (N + 1) f g)) j = 0 := fun j h0 h1 => by
    have e1 := prd_scale (f := f) hm hr hw _ hel j (by rw [hlen]; omega)
    rw [hP, hlen, ← pw_mul hm hr h.2.2.2.2.2.1] at e1
    refine h.unit1 (h.el _) (prd_el hm hr _ _) (fun hl => ?_) e1.symm
    have e2 := h.linj (a := 0) (b := (q - 1) / (N + 1) * (N + 1 - j)) hl
    rw [h.iff, Nat.zero_mod] at e2
    have e3 : (q - 1) / (N + 1) * (N + 1 - j) < (q - 1) / (N + 1) * (N + 1) := Nat.mul_lt_mul_of_pos_left (by omega) (by omega)
    rw [Nat.mul_comm _ (N + 1), hns] at e3
    rw [Nat.mod_eq_of_lt e3] at e2
    have e4 : 1 * 1 ≤ (q - 1) / (N + 1) * (N + 1 - j) := Nat.mul_le_mul hs (by omega)
    omega
  have htop := prd_top (f := f) hm hr ((List.range (N + 1)).map (roE m r q (N + 1) f g))
  rw [hlen] at htop
  by_cases hin : i = N + 1
  · rw [if_pos hin, hin]; exact htop
  rw [if_neg hin]
  by_cases hi0 : i = 0
  · rw [if_pos hi0, hi0]
    have e2 : (List.range (N + 1)).map (roE m r q (N + 1) f g) = roE m r q (N + 1) f g 0 :: (List.range N).map (fun k => roE m r q (N + 1) f g (k + 1)) := by
      rw [List.range_succ_eq_map, List.map_cons, List.map_map]
      rfl
    have e3 : roE m r q (N + 1) f g 0 = 1 := by
      unfold roE
      rw [Nat.zero_mul]
      rfl
    rw [e2, e3] at hmid ⊢
    generalize hQ : (List.range N).map (fun k => roE m r q (N + 1) f g (k + 1)) = Q at hmid ⊢
    have hQl : Q.length = N := by rw [← hQ, List.length_map, List.length_range]
    have hQe := prd_el (f := f) hm hr Q
    have hstep : ∀ j, j < N → prd m r f Q j = prd m r f Q (j + 1) := fun j hj => by
      have h1 := hmid (j + 1) (by omega) (by omega)
      have h2 : mi m r (if j + 1 = 0 then 0 else prd m r f Q (j + 1 - 1)) (tm m r f 1 (prd m r f Q (j + 1))) = 0 := h1
      rw [if_neg (by omega), one_tm hm hr (hQe _), Nat.add_sub_cancel] at h2
      exact mi_eq hm0 (hQe _) (hQe _) h2
    have hall : ∀ k, k ≤ N → prd m r f Q 0 = prd m r f Q k := fun k => by
      induction k with
      | zero => intro _; rfl
      | succ k ih => intro hk; rw [ih (by omega), hstep k (by omega)]
    have hone : prd m r f Q 0 = 1 := by
      rw [hall N (Nat.le_refl _)]
      have h1 := prd_top (f := f) hm hr Q
      rw [hQl] at h1
      exact h1
    show mi m r (if 0 = 0 then 0 else prd m r f Q (0 - 1)) (tm m r f 1 (prd m r f Q 0)) = m - 1
    rw [if_pos rfl, hone, one_tm hm hr (el_one hm hr), mi_01 hm hr]
  · rw [if_neg hi0]
    exact hmid i (by omega) (by omega)
/-- the numbers not chosen -/
def slN (c : Nat → Int) (set : Int) : Nat → List Nat
  | 0 => []
  | i + 1 => if selB c set i = true then slN c set i else i :: slN c set i
theorem sn_mem {c : Nat → Int} {set : Int} : ∀ {i x : Nat}, x ∈ slN c set i ↔ x < i ∧ ¬ selE c set x
  | 0, x => ⟨fun h => absurd h List.not_mem_nil, fun h => absurd h.1 (by omega)⟩
  | i + 1, x => by
    unfold slN
    split
    · next hs =>
      rw [sn_mem]
      constructor
      · rintro ⟨a, b⟩; exact ⟨by omega, b⟩
      · rintro ⟨a, b⟩
        refine ⟨?_, b⟩
        rcases Nat.lt_or_ge x i with q9 | q9
        · exact q9
        · obtain rfl : x = i := by omega
          exact absurd (selB_iff.mp hs) b
    · next hs =>
      rw [List.mem_cons, sn_mem]
      constructor
      · rintro (rfl | ⟨a, b⟩)
        · exact ⟨by omega, fun k => hs (selB_iff.mpr k)⟩
        · exact ⟨by omega, b⟩
      · rintro ⟨a, b⟩
        rcases Nat.lt_or_ge x i with q9 | q9
        · exact Or.inr ⟨q9, b⟩
        · exact Or.inl (by omega)
theorem sn_nd {c : Nat → Int} {set : Int} : ∀ i, (slN c set i).Nodup
  | 0 => List.nodup_nil
  | i + 1 => by
    unfold slN
    split
    · exact sn_nd i
    · rw [List.nodup_cons]
      exact ⟨fun h => by have := (sn_mem.mp h).1; omega, sn_nd i⟩
theorem sl_perm {c : Nat → Int} {set : Int} : ∀ i, (slL c set i ++ slN c set i).Perm (List.range i)
  | 0 => List.Perm.refl _
  | i + 1 => by
    rw [List.range_succ]
    unfold slL slN
    split
    · rw [List.cons_append]
      exact ((sl_perm i).cons i).trans (List.perm_append_comm (l₁ := [i]))
    · exact (List.perm_middle.trans ((sl_perm i).cons i)).trans (List.perm_append_comm (l₁ := [i]))
theorem ck_prd {m : Int} {r q n : Nat} {f : Nat → Int} {g : Int} {c : Nat → Int} {set : Int} (hm : 2 ≤ m) (hr : 0 < r) : ∀ i, (cyE m r q n f g c set i).2.2 = prd m r f ((slN c set i).map (roE m r q n f g))
  | 0 => rfl
  | i + 1 => by
    have hm0 : 0 < m := by omega
    have ih := ck_prd (m := m) (r := r) (q := q) (n := n) (f := f) (g := g) (c := c) (set := set) hm hr i
    obtain ⟨-, b2⟩ := cy_big (m := m) (r := r) (q := q) (n := n) (f := f) (g := g) (c := c) (set := set) i
    unfold slN
    by_cases hs : selE c set i
    · rw [cy_yes hs, if_pos (selB_iff.mpr hs)]
      exact ih
    · rw [cy_no hs, if_neg (fun k => hs (selB_iff.mp k)), List.map_cons]
      funext j
      show grw m r f (i - (cyE m r q n f g c set i).1) (cyE m r q n f g c set i).2.2 (roE m r q n f g i) j = mi m r (if j = 0 then 0 else prd m r f _ (j - 1)) (tm m r f (roE m r q n f g i) (prd m r f _ j))
      rw [← ih]
      unfold grw gwE
      by_cases hj : j ≤ i - (cyE m r q n f g c set i).1 + 1
      · rw [if_pos hj]
      · rw [if_neg hj, b2 j (by omega), if_neg (by omega), b2 (j - 1) (by omega), tm_zero hm0, mi_self hm0]
/-- a product over numbers that go to one another by times p -/
theorem RK.prd_fix (h : RK p e r m q f g) {n : Nat} {S : Nat → Prop} {l : List Nat} (hn : 1 ≤ n) (hq : (q - 1) % n = 0) (hnd : l.Nodup) (hmem : ∀ {x}, x ∈ l ↔ x < n ∧ S x) (hsel : ∀ i, i < n → S i → S (i * p % n)) (j : Nat) : mv p r m f (prd m r f (l.map (roE m r q n f g)) j) = prd m r f (l.map (roE m r q n f g)) j := by
  have hm := h.m2
  have hr := h.2.2.1
  have hq2 := h.q2
  have hp2 := h.1
  rw [h.mv_prd, List.map_map]
  have hns := Nat.mul_div_cancel' (Nat.dvd_of_mod_eq_zero hq)
  have hro : ∀ i, mv p r m f (roE m r q n f g i) = roE m r q n f g (i * p % n) := fun i => by
    unfold roE
    rw [h.mvg, h.iff]
    have h1 : i * p = i * p % n + n * (i * p / n) := (Nat.mod_add_div _ _).symm
    have h2 : i * ((q - 1) / n) * p = (i * p % n) * ((q - 1) / n) + (q - 1) * (i * p / n) := by
      calc i * ((q - 1) / n) * p = (i * p) * ((q - 1) / n) := by rw [Nat.mul_assoc, Nat.mul_comm ((q - 1) / n) p, ← Nat.mul_assoc]
        _ = (i * p % n + n * (i * p / n)) * ((q - 1) / n) := by rw [← h1]
        _ = (i * p % n) * ((q - 1) / n) + (n * ((q - 1) / n)) * (i * p / n) := by rw [Nat.add_mul, Nat.mul_assoc n, Nat.mul_comm (i * p / n), ← Nat.mul_assoc]
        _ = _ := by rw [hns]
    rw [h2, Nat.add_mul_mod_self_left]
  have e1 : l.map (mv p r m f ∘ roE m r q n f g) = (l.map (fun i => i * p % n)).map (roE m r q n f g) := by
    rw [List.map_map]
    exact List.map_congr_left fun i _ => hro i
  rw [e1]
  have hpr : ∀ i, i < n → i * p ^ r % n = i := fun i hi => by
    have h1 : p ^ r = (q - 1) + 1 := by rw [← h.2.2.2.2.1]; omega
    rw [h1, Nat.mul_add, Nat.mul_one, ← hns, ← Nat.mul_assoc, Nat.mul_comm i n, Nat.mul_assoc, Nat.add_comm, Nat.add_mul_mod_self_left, Nat.mod_eq_of_lt hi]
  have hit : ∀ k i, i < n → S i → S (i * p ^ k % n) := fun k => by
    induction k with
    | zero => intro i hi hs; rw [Nat.pow_zero, Nat.mul_one, Nat.mod_eq_of_lt hi]; exact hs
    | succ k ih =>
      intro i hi hs
      have h1 := hsel _ (Nat.mod_lt _ (by omega)) (ih i hi hs)
      rw [Nat.mod_mul_mod, Nat.mul_assoc, ← Nat.pow_succ] at h1
      exact h1
  have hback : ∀ i, i < n → (i * p ^ (r - 1) % n) * p % n = i := fun i hi => by
    rw [Nat.mod_mul_mod, Nat.mul_assoc, ← Nat.pow_succ, show (r - 1).succ = r by omega, hpr i hi]
  have hinj : ∀ i j, i < n → j < n → i * p % n = j * p % n → i = j := fun i j hi hj he => by
    have h1 : ∀ i, i < n → (i * p % n) * p ^ (r - 1) % n = i := fun i hi => by
      rw [Nat.mod_mul_mod, Nat.mul_assoc, Nat.mul_comm p, ← Nat.pow_succ, show (r - 1).succ = r by omega, hpr i hi]
    rw [← h1 i hi, he, h1 j hj]
  have hperm : (l.map (fun i => i * p % n)).Perm l := by
    refine perm_nd _ _ ?_ hnd (fun x => ?_)
    · unfold List.Nodup
      rw [List.pairwise_map]
      exact List.Pairwise.imp_of_mem (fun ha hb hab he => hab (hinj _ _ (hmem.mp ha).1 (hmem.mp hb).1 he)) hnd
    · rw [List.mem_map, hmem]
      constructor
      · rintro ⟨a, ha, rfl⟩
        have := hmem.mp ha
        exact ⟨Nat.mod_lt _ (by omega), hsel a this.1 this.2⟩
      · rintro ⟨a, b⟩
        exact ⟨x * p ^ (r - 1) % n, hmem.mpr ⟨Nat.mod_lt _ (by omega), hit (r - 1) x a b⟩, hback x a⟩
  have h9 := prd_perm (f := f) hm hr (hperm.map (roE m r q n f g)) (fun a ha => by
    obtain ⟨k, -, rfl⟩ := List.mem_map.mp ha
    exact h.el _)
  rw [h9]
/-- maker and check, told of a ring: whole numbers below M, and what they make -/
theorem RK.mkck (h : RK p e r m q f g) (hL : ∀ n, 1 ≤ n → n ≤ 63 → (q - 1) % n = 0 → (p, n) ∈ prL) {n : Nat} {set : Int} (hn : 1 ≤ n) (hn63 : n ≤ 63) (hq : (q - 1) % n = 0) {dg : Nat} {mk ck : Nat → Int} (hcy : cyE m r q n f g (paE p n n).1 set n = (dg, mk, ck)) :
    (∀ j, 0 ≤ mk j ∧ mk j < m) ∧ (∀ j, 0 ≤ ck j ∧ ck j < m) ∧ (∀ j, dg < j → mk j = 0) ∧ (∀ j, n - dg < j → ck j = 0) ∧ ∀ i, i ≤ n → cv m r f mk ck i = if i = n then 1 else if i = 0 then m - 1 else 0 := by
  have hm := h.m2
  have hr := h.2.2.1
  have hin := hL n hn hn63 hq
  have hP := pr_P hin
  have hc : ∀ i, i < n → (paE p n n).1 (i * p % n) = (paE p n n).1 i := fun j hj => by
    obtain ⟨a, b, c, d, e9, f9⟩ := pr_O hin j hj
    rw [hP.2 j hj, hP.2 _ (Nat.mod_lt _ (by omega))]
    unfold coM
    rw [f9]
  have e1 := mk_prd (m := m) (r := r) (q := q) (n := n) (f := f) (g := g) (c := (paE p n n).1) (set := set) hm hr n
  have e2 := ck_prd (m := m) (r := r) (q := q) (n := n) (f := f) (g := g) (c := (paE p n n).1) (set := set) hm hr n
  obtain ⟨e3, e4⟩ := cy_big (m := m) (r := r) (q := q) (n := n) (f := f) (g := g) (c := (paE p n n).1) (set := set) n
  rw [hcy] at e1 e2 e3 e4
  have e1 : mk = _ := e1
  have e2 : ck = _ := e2
  have hs : ∀ i, i < n → selE (paE p n n).1 set i → selE (paE p n n).1 set (i * p % n) := fun i hi hs => by
    unfold selE at hs ⊢
    rw [hc i hi]; exact hs
  have hs2 : ∀ i, i < n → ¬ selE (paE p n n).1 set i → ¬ selE (paE p n n).1 set (i * p % n) := fun i hi hs hk => by
    unfold selE at hs hk
    rw [hc i hi] at hk; exact hs hk
  refine ⟨fun j => ?_, fun j => ?_, e3, e4, fun i hi => ?_⟩
  · rw [e1]
    exact h.fixc (prd_el hm hr _ _) (h.prd_fix hn hq (sl_nd n) sl_mem hs j)
  · rw [e2]
    exact h.fixc (prd_el hm hr _ _) (h.prd_fix hn hq (sn_nd n) sn_mem hs2 j)
  · have hel : ∀ (l : List Nat) (a : Int), a ∈ l.map (roE m r q n f g) → El m r a := fun l a ha => by
      obtain ⟨k, -, rfl⟩ := List.mem_map.mp ha
      exact h.el _
    rw [e1, e2, cv_prd hm hr _ _ (hel _), ← List.map_append, prd_perm (f := f) hm hr ((sl_perm n).map (roE m r q n f g)) (hel _)]
    exact h.xn hn hq i hi
end Cyc2
