/-! makers and checks: class and model; a maker's coefficients are whole numbers below M -/
section Cyc
variable {p e r q : Nat} {m : Int} {f : Nat → Int} {g x y : Int}
theorem grw_big {m : Int} {r : Nat} {f : Nat → Int} {D : Nat} {c : Nat → Int} {root : Int} (hz : ∀ j, D < j → c j = 0) (j : Nat) (hj : D + 1 < j) : grw m r f D c root j = 0 := by
  unfold grw
  rw [if_neg (by omega)]
  exact hz j (by omega)
theorem cy_big {m : Int} {r q n : Nat} {f : Nat → Int} {g : Int} {c : Nat → Int} {set : Int} : ∀ i, (∀ j, (cyE m r q n f g c set i).1 < j → (cyE m r q n f g c set i).2.1 j = 0) ∧ ∀ j, i - (cyE m r q n f g c set i).1 < j → (cyE m r q n f g c set i).2.2 j = 0
  | 0 => ⟨fun j hj => if_neg (by have : 0 < j := hj; omega), fun j hj => if_neg (by have : 0 - 0 < j := hj; omega)⟩
  | i + 1 => by
    obtain ⟨h1, h2⟩ := cy_big (m := m) (r := r) (q := q) (n := n) (f := f) (g := g) (c := c) (set := set) i
    have hle := cy_le (m := m) (r := r) (q := q) (n := n) (f := f) (g := g) (c := c) (set := set) i
    by_cases hs : selE c set i
    · rw [cy_yes hs]
      refine ⟨fun j hj => grw_big h1 j hj, fun j hj => h2 j ?_⟩
      have hj : i + 1 - ((cyE m r q n f g c set i).1 + 1) < j := hj
      omega
    · rw [cy_no hs]
      refine ⟨h1, fun j hj => grw_big h2 j ?_⟩
      have hj : i + 1 - (cyE m r q n f g c set i).1 < j := hj
      omega
/-! a product of X less roots -/
def prd (m : Int) (r : Nat) (f : Nat → Int) : List Int → Nat → Int
  | [] => oneC
  | a :: l => fun j => mi m r (if j = 0 then 0 else prd m r f l (j - 1)) (tm m r f a (prd m r f l j))
theorem prd_el (hm : 2 ≤ m) (hr : 0 < r) : ∀ (l : List Int) (j : Nat), El m r (prd m r f l j)
  | [], j => oneC_el hm hr j
  | _ :: _, _ => mi_el (by omega) _ _
theorem mi4 (hm : 0 < m) (u A B C : Int) : mi m r (mi m r u B) (mi m r A C) = mi m r (mi m r u A) (mi m r B C) := by
  refine el_ext hm (mi_el hm _ _) (mi_el hm _ _) fun i hi => ?_
  rw [dg_mi hm hi, dg_mi hm hi, dg_mi hm hi, dg_mi hm hi, dg_mi hm hi, dg_mi hm hi, ← Int.sub_emod, ← Int.sub_emod]
  congr 1
  omega
theorem prd_swap (hm : 2 ≤ m) (hr : 0 < r) {a b : Int} (ha : El m r a) (hb : El m r b) (l : List Int) : prd m r f (a :: b :: l) = prd m r f (b :: a :: l) := by
  have hm0 : 0 < m := by omega
  have hP := prd_el (f := f) hm hr l
  have hab : ∀ w, El m r w → tm m r f a (tm m r f b w) = tm m r f b (tm m r f a w) := fun w hw => by
    rw [← tm_assoc hm0 ha hb hw, tm_comm hm0 ha hb, tm_assoc hm0 hb ha hw]
  funext j
  show mi m r (if j = 0 then 0 else mi m r (if j - 1 = 0 then 0 else prd m r f l (j - 1 - 1)) (tm m r f b (prd m r f l (j - 1)))) (tm m r f a (mi m r (if j = 0 then 0 else prd m r f l (j - 1)) (tm m r f b (prd m r f l j)))) = mi m r (if j = 0 then 0 else mi m r (if j - 1 = 0 then 0 else prd m r f l (j - 1 - 1)) (tm m r f a (prd m r f l (j - 1)))) (tm m r f b (mi m r (if j = 0 then 0 else prd m r f l (j - 1)) (tm m r f a (prd m r f l j))))
  by_cases hj : j = 0
  · rw [if_pos hj, if_pos hj, if_pos hj, tm_mi hm0 (el_zero hm0) (tm_el hm0 _ _), tm_mi hm0 (el_zero hm0) (tm_el hm0 _ _), tm_zero hm0, tm_zero hm0, hab _ (hP j)]
  · rw [if_neg hj, if_neg hj, if_neg hj, tm_mi hm0 (hP _) (tm_el hm0 _ _), tm_mi hm0 (hP _) (tm_el hm0 _ _), mi4 hm0, hab _ (hP j)]
theorem prd_perm (hm : 2 ≤ m) (hr : 0 < r) {l1 l2 : List Int} (h : l1.Perm l2) : (∀ a, a ∈ l1 → El m r a) → prd m r f l1 = prd m r f l2 := by
  induction h with
  | nil => intro _; rfl
  | cons a h ih =>
    intro he
    have h1 := ih (fun b hb => he b (List.mem_cons_of_mem _ hb))
    funext j
    show mi m r (if j = 0 then 0 else prd m r f _ (j - 1)) (tm m r f a (prd m r f _ j)) = mi m r (if j = 0 then 0 else prd m r f _ (j - 1)) (tm m r f a (prd m r f _ j))
    rw [h1]
  | swap a b l => intro he; exact prd_swap hm hr (he _ List.mem_cons_self) (he _ (List.mem_cons_of_mem _ List.mem_cons_self)) l
  | trans h1 h2 ih1 ih2 =>
    intro he
    exact (ih1 he).trans (ih2 (fun a ha => he a (h1.mem_iff.mpr ha)))
theorem perm_nd : ∀ (l1 l2 : List Nat), l1.Nodup → l2.Nodup → (∀ x, x ∈ l1 ↔ x ∈ l2) → l1.Perm l2
  | [], l2, _, _, h => by
    cases l2 with
    | nil => exact List.Perm.refl _
    | cons a t => exact absurd ((h a).mpr List.mem_cons_self) List.not_mem_nil
  | a :: t, l2, h1, h2, h => by
    obtain ⟨s, u, rfl⟩ := List.append_of_mem ((h a).mp List.mem_cons_self)
    have hp : (s ++ a :: u).Perm (a :: (s ++ u)) := List.perm_middle
    have h3 := hp.nodup_iff.mp h2
    rw [List.nodup_cons] at h1 h3
    refine ((perm_nd t (s ++ u) h1.2 h3.2 (fun x => ?_)).cons a).trans hp.symm
    constructor
    · intro hx
      have h4 := hp.mem_iff.mp ((h x).mp (List.mem_cons_of_mem _ hx))
      rcases List.mem_cons.mp h4 with q9 | q9
      · exact absurd (q9 ▸ hx) h1.1
      · exact q9
    · intro hx
      have h4 := (h x).mpr (hp.mem_iff.mpr (List.mem_cons_of_mem _ hx))
      rcases List.mem_cons.mp h4 with q9 | q9
      · exact absurd (q9 ▸ hx) h3.1
      · exact q9
/-- the numbers chosen -/
def slL (c : Nat → Int) (set : Int) : Nat → List Nat
  | 0 => []
  | i + 1 => if selB c set i = true then i :: slL c set i else slL c set i
theorem sl_mem {c : Nat → Int} {set : Int} : ∀ {i x : Nat}, x ∈ slL c set i ↔ x < i ∧ selE c set x
  | 0, x => ⟨fun h => absurd h List.not_mem_nil, fun h => absurd h.1 (by omega)⟩
  | i + 1, x => by
    unfold slL
    split
    · next hs =>
      rw [List.mem_cons, sl_mem]
      constructor
      · rintro (rfl | ⟨a, b⟩)
        · exact ⟨by omega, selB_iff.mp hs⟩
        · exact ⟨by omega, b⟩
      · rintro ⟨a, b⟩
        rcases Nat.lt_or_ge x i with q9 | q9
        · exact Or.inr ⟨q9, b⟩
        · exact Or.inl (by omega)
    · next hs =>
      rw [sl_mem]
      constructor
      · rintro ⟨a, b⟩; exact ⟨by omega, b⟩
      · rintro ⟨a, b⟩
        refine ⟨?_, b⟩
        rcases Nat.lt_or_ge x i with q9 | q9
        · exact q9
        · obtain rfl : x = i := by omega
          exact absurd (selB_iff.mpr b) hs
theorem sl_nd {c : Nat → Int} {set : Int} : ∀ i, (slL c set i).Nodup
  | 0 => List.nodup_nil
  | i + 1 => by
    unfold slL
    split
    · rw [List.nodup_cons]
      exact ⟨fun h => by have := (sl_mem.mp h).1; omega, sl_nd i⟩
    · exact sl_nd i
theorem mk_prd {m : Int} {r q n : Nat} {f : Nat → Int} {g : Int} {c : Nat → Int} {set : Int} (hm : 2 ≤ m) (hr : 0 < r) : ∀ i, (cyE m r q n f g c set i).2.1 = prd m r f ((slL c set i).map (roE m r q n f g))
  | 0 => rfl
  | i + 1 => by
    have hm0 : 0 < m := by omega
    have ih := mk_prd (m := m) (r := r) (q := q) (n := n) (f := f) (g := g) (c := c) (set := set) hm hr i
    obtain ⟨b1, -⟩ := cy_big (m := m) (r := r) (q := q) (n := n) (f := f) (g := g) (c := c) (set := set) i
    unfold slL
    by_cases hs : selE c set i
    · rw [cy_yes hs, if_pos (selB_iff.mpr hs), List.map_cons]
      funext j
      show grw m r f (cyE m r q n f g c set i).1 (cyE m r q n f g c set i).2.1 (roE m r q n f g i) j = mi m r (if j = 0 then 0 else prd m r f _ (j - 1)) (tm m r f (roE m r q n f g i) (prd m r f _ j))
      rw [← ih]
      unfold grw gwE
      by_cases hj : j ≤ (cyE m r q n f g c set i).1 + 1
      · rw [if_pos hj]
      · rw [if_neg hj, b1 j (by omega), if_neg (by omega), b1 (j - 1) (by omega), tm_zero hm0, mi_self hm0]
    · rw [cy_no hs, if_neg (fun k => hs (selB_iff.mp k))]
      exact ih
theorem RK.mv_mi (h : RK p e r m q f g) (hx : El m r x) (hy : El m r y) : mv p r m f (mi m r x y) = mi m r (mv p r m f x) (mv p r m f y) := by
  have hm := h.m2
  have hr := h.2.2.1
  rw [mv_S hm hr, mv_S hm hr, mv_S hm hr, mvS_mi (by omega) hx hy]
theorem RK.mv_prd (h : RK p e r m q f g) : ∀ (l : List Int) (j : Nat), mv p r m f (prd m r f l j) = prd m r f (l.map (mv p r m f)) j
  | [], j => by
    have hm := h.m2
    show mv p r m f (if j = 0 then 1 else 0) = if j = 0 then 1 else 0
    split
    · exact h.mv_c ⟨by omega, by omega⟩
    · exact h.mv_c ⟨by omega, by omega⟩
  | a :: l, j => by
    have hm := h.m2
    have hr := h.2.2.1
    show mv p r m f (mi m r (if j = 0 then 0 else prd m r f l (j - 1)) (tm m r f a (prd m r f l j))) = mi m r (if j = 0 then 0 else prd m r f (l.map (mv p r m f)) (j - 1)) (tm m r f (mv p r m f a) (prd m r f (l.map (mv p r m f)) j))
    rw [h.mv_mi (by split; exact el_zero (by omega); exact prd_el hm hr _ _) (tm_el (by omega) _ _), h.mv_tm, h.mv_prd l j]
    congr 1
    split
    · exact h.mv_c ⟨by omega, by omega⟩
    · exact h.mv_prd l (j - 1)
theorem RK.mk_fix (h : RK p e r m q f g) {n : Nat} {c : Nat → Int} {set : Int} (hn : 1 ≤ n) (hq : (q - 1) % n = 0) (hc : ∀ i, i < n → c (i * p % n) = c i) (j : Nat) : mv p r m f ((cyE m r q n f g c set n).2.1 j) = (cyE m r q n f g c set n).2.1 j := by
  have hm := h.m2
  have hr := h.2.2.1
  have hq2 := h.q2
  have hp2 := h.1
  rw [mk_prd hm hr, h.mv_prd, List.map_map]
  have hns := Nat.mul_div_cancel' (Nat.dvd_of_mod_eq_zero hq)
  -- the root of a number's p-fold
  have hro : ∀ i, mv p r m f (roE m r q n f g i) = roE m r q n f g (i * p % n) := fun i => by
    unfold roE
    rw [h.mvg, h.iff]
    have h1 : i * p = i * p % n + n * (i * p / n) := (Nat.mod_add_div _ _).symm
    have h2 : i * ((q - 1) / n) * p = (i * p % n) * ((q - 1) / n) + (q - 1) * (i * p / n) := by
      calc i * ((q - 1) / n) * p = (i * p) * ((q - 1) / n) := by rw [Nat.mul_assoc, Nat.mul_comm ((q - 1) / n) p, ← Nat.mul_assoc]
        _ = (i * p % n + n * (i * p / n)) * ((q - 1) / n) := by rw [← h1]
        _ = (i * p % n) * ((q - 1) / n) + (n * ((q - 1) / n)) * (i * p / n) := by rw [Nat.add_mul, Nat.mul_assoc n, Nat.mul_comm (i * p / n), ← Nat.mul_assoc]
        _ = _ := by rw [hns]
    rw [h2, Nat.add_mul_mod_self_left]
  have e1 : (slL c set n).map (mv p r m f ∘ roE m r q n f g) = ((slL c set n).map (fun i => i * p % n)).map (roE m r q n f g) := by
    rw [List.map_map]
    exact List.map_congr_left fun i _ => hro i
  rw [e1]
  -- p-fold again and again is what it was
  have hpr : ∀ i, i < n → i * p ^ r % n = i := fun i hi => by
    have h1 : p ^ r = (q - 1) + 1 := by rw [← h.2.2.2.2.1]; omega
    rw [h1, Nat.mul_add, Nat.mul_one, ← hns, ← Nat.mul_assoc, Nat.mul_comm i n, Nat.mul_assoc, Nat.add_comm, Nat.add_mul_mod_self_left, Nat.mod_eq_of_lt hi]
  have hsel : ∀ i, i < n → selE c set i → selE c set (i * p % n) := fun i hi hs => by
    unfold selE at hs ⊢
    rw [hc i hi]; exact hs
  have hit : ∀ k i, i < n → selE c set i → selE c set (i * p ^ k % n) := fun k => by
    induction k with
    | zero => intro i hi hs; rw [Nat.pow_zero, Nat.mul_one, Nat.mod_eq_of_lt hi]; exact hs
    | succ k ih =>
      intro i hi hs
      have h1 := hsel _ (Nat.mod_lt _ (by omega)) (ih i hi hs)
      rw [Nat.mod_mul_mod, Nat.mul_assoc, ← Nat.pow_succ] at h1
      exact h1
  have hback : ∀ i, i < n → (i * p ^ (r - 1) % n) * p % n = i := fun i hi => by
    rw [Nat.mod_mul_mod, Nat.mul_assoc, ← Nat.pow_succ, show (r - 1).succ = r by omega, hpr i hi]
  have hinj : ∀ i j, i < n → j < n → i * p % n = j * p % n → i = j := fun i j hi hj he => by
    have h1 : ∀ i, i < n → (i * p % n) * p ^ (r - 1) % n = i := fun i hi => by
      rw [Nat.mod_mul_mod, Nat.mul_assoc, Nat.mul_comm p, ← Nat.pow_succ, show (r - 1).succ = r by omega, hpr i hi]
    rw [← h1 i hi, he, h1 j hj]
  have hperm : ((slL c set n).map (fun i => i * p % n)).Perm (slL c set n) := by
    refine perm_nd _ _ ?_ (sl_nd n) (fun x => ?_)
    · unfold List.Nodup
      rw [List.pairwise_map]
      exact List.Pairwise.imp_of_mem (fun ha hb hab he => hab (hinj _ _ (sl_mem.mp ha).1 (sl_mem.mp hb).1 he)) (sl_nd n)
    · rw [List.mem_map, sl_mem]
      constructor
      · rintro ⟨a, ha, rfl⟩
        have := sl_mem.mp ha
        exact ⟨Nat.mod_lt _ (by omega), hsel a this.1 this.2⟩
      · rintro ⟨a, b⟩
        exact ⟨x * p ^ (r - 1) % n, sl_mem.mpr ⟨Nat.mod_lt _ (by omega), hit (r - 1) x a b⟩, hback x a⟩
  have h9 := prd_perm (f := f) hm hr (hperm.map (roE m r q n f g)) (fun a ha => by
    obtain ⟨k, -, rfl⟩ := List.mem_map.mp ha
    exact h.el _)
  rw [h9]
theorem RK.mkok (h : RK p e r m q f g) (hL : ∀ n, 1 ≤ n → n ≤ 63 → (q - 1) % n = 0 → (p, n) ∈ prL) : MKok p r q m f g := by
  intro n set h1 h63 hq _ _ i _
  have hm := h.m2
  have hr := h.2.2.1
  have hin := hL n h1 h63 hq
  have hP := pr_P hin
  refine h.fixc ((cy_el hm hr n).1 i) (h.mk_fix h1 hq (fun j hj => ?_) i)
  obtain ⟨a, b, c, d, e9, f9⟩ := pr_O hin j hj
  rw [hP.2 j hj, hP.2 _ (Nat.mod_lt _ (by omega))]
  unfold coM
  rw [f9]
end Cyc
