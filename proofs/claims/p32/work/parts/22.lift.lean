/-! Galois: a ring begins -/
theorem up2_up2 {β : Type} {F : Nat → Nat → β} {a k : Nat} {v w : β} : up2 (up2 F a k v) a k w = up2 F a k w := by
  funext a' k'
  rw [up2_all, up2_all, up2_all]
  split <;> rfl
def FOff (l : List (Nat × Nat)) (F F2 : HF) : Prop := ∀ a k, (a, k) ∉ l → F2 a k = F a k
theorem FOff.rfl' {l : List (Nat × Nat)} {F : HF} : FOff l F F := fun _ _ _ => rfl
theorem FOff.trans {l : List (Nat × Nat)} {F G H : HF} (h : FOff l F G) (h2 : FOff l G H) : FOff l F H := fun a k hk => (h2 a k hk).trans (h a k hk)
theorem FOff.up {l : List (Nat × Nat)} {F : HF} {a k : Nat} {v : LV} (h : (a, k) ∈ l) : FOff l F (up2 F a k v) := fun a' k' hk => by
  rw [up2_all, if_neg]
  rintro ⟨rfl, rfl⟩
  exact hk h
theorem FOff.mono {l l' : List (Nat × Nat)} {F G : HF} (h : FOff l F G) (hl : ∀ b, b ∈ l → b ∈ l') : FOff l' F G := fun a k hk => h a k fun q => hk (hl _ q)
/-- the ring told, in Galois' fields -/
def GB (p e r q N : Nat) (m : Int) (F : HF) : Prop :=
  F 2 0 = vI p ∧ F 2 1 = vI e ∧ F 2 2 = vI r ∧ F 2 3 = vI m ∧ F 2 4 = vI q ∧ F 2 5 = vI N ∧
  (p = 2 ∨ p = 3 ∨ p = 5 ∨ p = 7) ∧ 2 ≤ p ∧ p ≤ 7 ∧ 1 ≤ e ∧ e ≤ 4 ∧ 1 ≤ r ∧ r ≤ 6 ∧ m = (p : Int) ^ e ∧ q = p ^ r ∧ (N : Int) = m ^ r ∧ N ≤ 4096 ∧ q ≤ 3125
section GBs
variable {p e r q N : Nat} {m : Int} {F : HF}
theorem GB.m2 (h : GB p e r q N m F) : 2 ≤ m := by
  obtain ⟨-, -, -, -, -, -, -, h2, -, h3, -, -, -, h4, -⟩ := h
  rw [h4]
  have := pow_ge (m := (p : Int)) (by omega) h3
  omega
theorem GB.q2 (h : GB p e r q N m F) : 2 ≤ q := by
  obtain ⟨-, -, -, -, -, -, -, h2, -, -, -, h3, -, -, h4, -⟩ := h
  have := pow_ge (m := (p : Int)) (by omega) h3
  have e : (p : Int) ^ r = ((p ^ r : Nat) : Int) := by simp
  omega
theorem GB.m4 (h : GB p e r q N m F) : m ≤ 4096 := by
  have hm := h.m2
  obtain ⟨-, -, -, -, -, -, -, -, -, -, -, h3, -, -, -, h4, h5, -⟩ := h
  have := pow_ge (m := m) (by omega) h3
  omega
theorem GB.qt (h : GB p e r q N m F) : q ^ (e - 1) ≤ 4096 ∧ (q : Int) ^ (e - 1) = ((q ^ (e - 1) : Nat) : Int) := by
  have hq := h.q2
  obtain ⟨-, -, -, -, -, -, -, h2, -, h3, -, -, -, h4, h5, h6, h7, -⟩ := h
  refine ⟨?_, by simp⟩
  have e1 : N = q ^ e := by
    have : (N : Int) = ((q ^ e : Nat) : Int) := by
      rw [h6, h4, h5]
      rw [← Int.pow_mul, Nat.mul_comm, ← Nat.pow_mul]
      simp
    omega
  have e2 : q ^ (e - 1) ≤ q ^ e := Nat.pow_le_pow_right (by omega) (by omega)
  omega
end GBs
/-- t -/
def tE (m : Int) (r : Nat) : Int := if r = 1 then 0 else m
theorem tE_cast {m : Int} {r : Nat} : (if (r : Int) = 1 then 0 else m) = tE m r := by
  unfold tE
  by_cases h : r = 1
  · rw [if_pos h, if_pos (by omega)]
  · rw [if_neg h, if_neg (by omega)]
theorem tE_el {m : Int} {r : Nat} (hm : 2 ≤ m) (hr : 1 ≤ r) : El m r (tE m r) := by
  unfold tE
  split
  · exact el_zero (by omega)
  · refine ⟨by omega, ?_⟩
    have h1 : m ^ 2 ≤ m ^ r := ipow_mono (by omega) (by omega)
    have h2 : m * 2 ≤ m * m := Int.mul_le_mul_of_nonneg_left hm (by omega)
    rw [Int.pow_succ, Int.pow_succ, Int.pow_zero, Int.one_mul] at h1
    omega
/-- what is below: the least prime polynomial's number -/
def lpB (p r : Nat) : Int := lpE p r ((p : Int) ^ r).toNat ((p : Int) ^ r)
theorem lpE_range {p : Int} {r : Nat} (hp : 1 ≤ p) : ∀ (k : Nat) (x : Int), p ^ r ≤ x → x + k ≤ 2 * p ^ r → p ^ r ≤ lpE p r k x ∧ lpE p r k x < 2 * p ^ r + 0
  | 0, x, _, _ => by
    have : 0 < p ^ r := Int.pow_pos (by omega)
    exact ⟨Int.le_refl _, by show p ^ r < _; omega⟩
  | k + 1, x, h1, h2 => by
    unfold lpE
    split
    · exact ⟨h1, by omega⟩
    · exact lpE_range hp k (x + 1) (by omega) (by omega)
theorem lpB_range {p r : Nat} (hp : 1 ≤ p) : (p : Int) ^ r ≤ lpB p r ∧ lpB p r < 2 * (p : Int) ^ r := by
  have h0 : 0 < (p : Int) ^ r := Int.pow_pos (by omega)
  have := lpE_range (p := (p : Int)) (r := r) (by omega) ((p : Int) ^ r).toNat ((p : Int) ^ r) (Int.le_refl _) (by omega)
  unfold lpB
  omega
/-- the coefficients of what is below -/
def fB (p r : Nat) (i : Nat) : Int := dg p i (lpB p r)
def rtE (p e r q : Nat) (m : Int) : Nat → Int
  | 0 => pw m r (fB p r) (tE m r) (q ^ (e - 1))
  | i + 1 => pw m r (fB p r) (rtE p e r q m i) p
theorem rt_el {p e r q : Nat} {m : Int} (hm : 2 ≤ m) (hr : 0 < r) : ∀ i, El m r (rtE p e r q m i)
  | 0 => pw_el hm hr _ _
  | _ + 1 => pw_el hm hr _ _
/-- the product of X less the first roots -/
def grE (p e r q : Nat) (m : Int) : Nat → Nat → Int
  | 0, j => if j = 0 then 1 else 0
  | i + 1, j => if j ≤ i + 1 then gwE m r (fB p r) (grE p e r q m i) (rtE p e r q m i) j else 0
theorem gr_el {p e r q : Nat} {m : Int} (hm : 2 ≤ m) (hr : 0 < r) : ∀ i j, El m r (grE p e r q m i j)
  | 0, j => by
    unfold grE
    split
    · exact el_one hm hr
    · exact el_zero (by omega)
  | i + 1, j => by
    unfold grE
    split
    · exact gw_el (by omega) _ _
    · exact el_zero (by omega)
theorem gr_big {p e r q : Nat} {m : Int} : ∀ i j, i < j → grE p e r q m i j = 0
  | 0, j, h => if_neg (by omega)
  | i + 1, j, h => if_neg (by omega)
set_option maxRecDepth 20000 in
theorem lp_lift1 {Post : PO} {p r : Nat} {F : HF} {A0 : HA} {al : AL} (hK : KX al) (hX : XF F) (hp : F 2 0 = vI p) (hr : F 2 2 = vI r) (hp2 : 2 ≤ p) (hp7 : p ≤ 7) (hr6 : r ≤ 6)
    (hx0 : ∀ A l1, Off [3] A0 A → (∀ j, j ≤ r → A 3 j = fB p r j) → QW mX2_liftModulus 5 0 0 Post 0 0 53 [some (vA 2), some (vI l1), some (vI ((r : Int) + 1)), none] [] F A al) :
    ∀ (k i : Nat) (x : Int) (A : HA), i + k = r + 1 → Off [3] A0 A → (∀ j, j < i → A 3 j = fB p r j) → (∀ j, dg p j x = fB p r (i + j)) → 0 ≤ x → x < 100000 →
    QW mX2_liftModulus 5 0 0 Post 0 0 14 [some (vA 2), some (vI x), some (vI i), none] [] F A al := by
  intro k
  induction k with
  | zero =>
    intro i x A hi ho h1 h2 h3 h4
    refine q_iload_n eX2_liftModulus_14 rfl ?_
    refine q_aload_n eX2_liftModulus_15 rfl ?_
    refine q_getfield eX2_liftModulus_16 gf_X2_18 (hK _ (by decide) (by decide)) (by decide) (by assumption) ?_
    refine q_icmp_gt (tgt := 53) eX2_liftModulus_19 (by decide) (by first | assumption | exact ⟨by omega, by omega⟩) (by first | assumption | exact ⟨by omega, by omega⟩) (fun c19 => ?_) (fun c19 => ?_)
    · rw [show (i : Int) = (r : Int) + 1 by omega]
      exact hx0 A x ho (fun j hj => h1 j (by omega))
    · exact absurd c19 (by omega)
  | succ k ih =>
    intro i x A hi ho h1 h2 h3 h4
    have hmod : x % (p : Int) = fB p r i := h2 0
    have hd0 : 0 ≤ x / (p : Int) := Int.ediv_nonneg h3 (by omega)
    have hd1 : x / (p : Int) ≤ x := Int.ediv_le_self _ h3
    refine q_iload_n eX2_liftModulus_14 rfl ?_
    refine q_aload_n eX2_liftModulus_15 rfl ?_
    refine q_getfield eX2_liftModulus_16 gf_X2_18 (hK _ (by decide) (by decide)) (by decide) (by assumption) ?_
    refine q_icmp_gt (tgt := 53) eX2_liftModulus_19 (by decide) (by first | assumption | exact ⟨by omega, by omega⟩) (by first | assumption | exact ⟨by omega, by omega⟩) (fun c19 => ?_) (fun c19 => ?_)
    · exact absurd c19 (by omega)
    · refine q_aload_n eX2_liftModulus_22 rfl ?_
      refine q_getfield eX2_liftModulus_23 gf_X2_33 (hK _ (by decide) (by decide)) (by decide) (xf_2_7 hX) ?_
      refine q_iload_n eX2_liftModulus_26 rfl ?_
      refine q_iload_n eX2_liftModulus_27 rfl ?_
      refine q_aload_n eX2_liftModulus_28 rfl ?_
      refine q_getfield eX2_liftModulus_29 gf_X2_9 (hK _ (by decide) (by decide)) (by decide) (by assumption) ?_
      refine q_callSP [vI x, vI p] (M1 := mX7_remainder) eX2_liftModulus_32 mf_X7_remainder lk_X2_87 (ev_remP (by omega) (by omega) (by omega) (by omega)) (by decide) (by decide) (by decide) (Nat.le_of_ble_eq_true rfl) rfl ?_
      refine q_callSV [vA 3, vI i, vI (x % (p : Int))] (M1 := mX7_set) eX2_liftModulus_35 mf_X7_set lk_X2_90 (ev_setN (hK _ (by decide) (by decide)) (show i < 7 by omega) (by decide)) (by decide) (by decide) (by decide) (Nat.le_of_ble_eq_true rfl) rfl (fun A3 h3b => ?_)
      subst h3b
      refine q_iload_n eX2_liftModulus_38 rfl ?_
      refine q_aload_n eX2_liftModulus_39 rfl ?_
      refine q_getfield eX2_liftModulus_40 gf_X2_9 (hK _ (by decide) (by decide)) (by decide) (by assumption) ?_
      refine q_callSP [vI x, vI p] (M1 := mX7_quotient) eX2_liftModulus_43 mf_X7_quotient lk_X2_94 (ev_quotP (by omega) (by omega) (by omega) (by omega)) (by decide) (by decide) (by decide) (Nat.le_of_ble_eq_true rfl) rfl ?_
      refine q_istore_n eX2_liftModulus_46 (by decide) rfl ?_
      refine q_iinc eX2_liftModulus_47 rfl (by decide) rfl ?_
      refine q_goto (tgt := 14) eX2_liftModulus_50 (by decide) ?_
      refine ih (i + 1) _ _ (by omega) (ho.trans (Off.up (by simp))) (fun j hj => ?_) (fun j => ?_) hd0 (by omega)
      · rw [up2_at]
        split
        · next he => rw [hmod, show j = i from he]
        · next hne => exact h1 j (by have : j ≠ i := hne; omega)
      · rw [show i + 1 + j = i + (j + 1) by omega, ← h2 (j + 1)]
        rfl
set_option maxRecDepth 20000 in
theorem lp_lift3 {p e r q : Nat} {m : Int} {F : HF} {A0 : HA} {al : AL} (hK : KX al) (hX : XF F) (hr : F 2 2 = vI r) (hr6 : r ≤ 6) {l1 l2 : Int} :
    ∀ (k i : Nat) (A : HA), i + k = r + 1 → Off [3, 13, 14, 15, 16] A0 A → (∀ j, j < i → A 3 j = grE p e r q m r j) → (∀ j, j < 7 → A 16 j = grE p e r q m r j) →
    QW mX2_liftModulus 5 0 0 (PV F al (fun A2 => Off [3, 13, 14, 15, 16] A0 A2 ∧ ∀ j, j ≤ r → A2 3 j = grE p e r q m r j)) 0 0 119 [some (vA 2), some (vI l1), some (vI l2), some (vI i)] [] F A al := by
  intro k
  induction k with
  | zero =>
    intro i A hi ho h1 h2
    refine q_iload_n eX2_liftModulus_119 rfl ?_
    refine q_aload_n eX2_liftModulus_120 rfl ?_
    refine q_getfield eX2_liftModulus_121 gf_X2_18 (hK _ (by decide) (by decide)) (by decide) (by assumption) ?_
    refine q_icmp_gt (tgt := 149) eX2_liftModulus_124 (by decide) (by first | assumption | exact ⟨by omega, by omega⟩) (by first | assumption | exact ⟨by omega, by omega⟩) (fun c124 => ?_) (fun c124 => ?_)
    · refine q_retV eX2_liftModulus_149 rfl (by decide) (by decide) ?_
      exact ⟨rfl, rfl, rfl, ho, fun j hj => h1 j (by omega)⟩
    · exact absurd c124 (by omega)
  | succ k ih =>
    intro i A hi ho h1 h2
    refine q_iload_n eX2_liftModulus_119 rfl ?_
    refine q_aload_n eX2_liftModulus_120 rfl ?_
    refine q_getfield eX2_liftModulus_121 gf_X2_18 (hK _ (by decide) (by decide)) (by decide) (by assumption) ?_
    refine q_icmp_gt (tgt := 149) eX2_liftModulus_124 (by decide) (by first | assumption | exact ⟨by omega, by omega⟩) (by first | assumption | exact ⟨by omega, by omega⟩) (fun c124 => ?_) (fun c124 => ?_)
    · exact absurd c124 (by omega)
    · refine q_aload_n eX2_liftModulus_127 rfl ?_
      refine q_getfield eX2_liftModulus_128 gf_X2_33 (hK _ (by decide) (by decide)) (by decide) (xf_2_7 hX) ?_
      refine q_iload_n eX2_liftModulus_131 rfl ?_
      refine q_aload_n eX2_liftModulus_132 rfl ?_
      refine q_getfield eX2_liftModulus_133 gf_X2_57 (hK _ (by decide) (by decide)) (by decide) (xf_2_14 hX) ?_
      refine q_iload_n eX2_liftModulus_136 rfl ?_
      refine q_callSP [vA 16, vI i] (M1 := mX7_at) eX2_liftModulus_137 mf_X7_at lk_X2_116 (ev_atN (hK _ (by decide) (by decide)) (show i < 7 by omega) (by decide)) (by decide) (by decide) (by decide) (Nat.le_of_ble_eq_true rfl) rfl ?_
      rw [h2 i (by omega)]
      refine q_callSV [vA 3, vI i, vI (grE p e r q m r i)] (M1 := mX7_set) eX2_liftModulus_140 mf_X7_set lk_X2_90 (ev_setN (hK _ (by decide) (by decide)) (show i < 7 by omega) (by decide)) (by decide) (by decide) (by decide) (Nat.le_of_ble_eq_true rfl) rfl (fun A3 h3b => ?_)
      subst h3b
      refine q_iinc eX2_liftModulus_143 rfl (by decide) rfl ?_
      refine q_goto (tgt := 119) eX2_liftModulus_146 (by decide) ?_
      refine ih (i + 1) _ (by omega) (ho.trans (Off.up (by simp))) (fun j hj => ?_) (fun j hj => ?_)
      · rw [up2_at]
        split
        · next he => rw [show j = i from he]
        · next hne => exact h1 j (by have : j ≠ i := hne; omega)
      · rw [up2_row (by decide)]
        exact h2 j hj
set_option maxRecDepth 20000 in
theorem lp_lift2 {A0 : HA} {p e r q N : Nat} {m : Int} {F : HF} {al : AL} (hK : KX al) (hX : XF F) (hB : GB p e r q N m F) {l1 : Int} :
    ∀ (k i : Nat) (A : HA), i + k = r → GA m r (fB p r) F A → Off [3, 13, 14, 15, 16] A0 A → (∀ j, j < 7 → A 16 j = grE p e r q m i j) →
    QW mX2_liftModulus 5 0 0 (PV F al (fun A2 => Off [3, 13, 14, 15, 16] A0 A2 ∧ ∀ j, j ≤ r → A2 3 j = grE p e r q m r j)) 0 0 83 [some (vA 2), some (vI l1), some (vI (rtE p e r q m i)), some (vI i)] [] F A al := by
  obtain ⟨hp, he, hr, hm, hq, hN, hpp, hp2, hp7, he1, he4, hr1, hr6, hme, hqe, hNm, hN4, hq3⟩ := id hB
  have hm2 := hB.m2
  have hq2 := hB.q2
  have hm4 := hB.m4
  have hqt := hB.qt
  intro k
  induction k with
  | zero =>
    intro i A hi hG ho h2
    have ei : i = r := by omega
    subst ei
    refine q_iload_n eX2_liftModulus_83 rfl ?_
    refine q_aload_n eX2_liftModulus_84 rfl ?_
    refine q_getfield eX2_liftModulus_85 gf_X2_18 (hK _ (by decide) (by decide)) (by decide) (by assumption) ?_
    refine q_icmp_ge (tgt := 117) eX2_liftModulus_88 (by decide) (by first | assumption | exact ⟨by omega, by omega⟩) (by first | assumption | exact ⟨by omega, by omega⟩) (fun c88 => ?_) (fun c88 => ?_)
    · refine q_iconst eX2_liftModulus_117 ?_
      refine q_istore_n eX2_liftModulus_118 (by decide) rfl ?_
      exact lp_lift3 hK hX hr hr6 (i + 1) 0 A (by omega) ho (fun j hj => absurd hj (by omega)) h2
    · exact absurd c88 (by omega)
  | succ k ih =>
    intro i A hi hG ho h2
    have hrt := rt_el (p := p) (e := e) (q := q) hm2 hr1 i
    refine q_iload_n eX2_liftModulus_83 rfl ?_
    refine q_aload_n eX2_liftModulus_84 rfl ?_
    refine q_getfield eX2_liftModulus_85 gf_X2_18 (hK _ (by decide) (by decide)) (by decide) (by assumption) ?_
    refine q_icmp_ge (tgt := 117) eX2_liftModulus_88 (by decide) (by first | assumption | exact ⟨by omega, by omega⟩) (by first | assumption | exact ⟨by omega, by omega⟩) (fun c88 => ?_) (fun c88 => ?_)
    · exact absurd c88 (by omega)
    · refine q_aload_n eX2_liftModulus_91 rfl ?_
      refine q_aload_n eX2_liftModulus_92 rfl ?_
      refine q_getfield eX2_liftModulus_93 gf_X2_57 (hK _ (by decide) (by decide)) (by decide) (xf_2_14 hX) ?_
      refine q_iload_n eX2_liftModulus_96 rfl ?_
      refine q_iload_n eX2_liftModulus_97 rfl ?_
      refine q_callVV [vA 16, vI i, vI (rtE p e r q m i)] (M1 := mX2_grow) eX2_liftModulus_98 mf_X2_grow lk_X2_113 (hK _ (by decide) (by decide)) (ev_grow (c := grE p e r q m i) hK hX hG (hK _ (by decide) (by decide)) (by decide) (by decide) (show i + 1 < 7 by omega) hrt (fun j _ => gr_el hm2 hr1 i j) (fun j hj => h2 j (by omega))) (by decide) (by decide) (by decide) (Nat.le_of_ble_eq_true rfl) rfl (fun A2 h9 => ?_)
      obtain ⟨o2, v2, v3⟩ := h9
      refine q_aload_n eX2_liftModulus_101 rfl ?_
      refine q_iload_n eX2_liftModulus_102 rfl ?_
      refine q_aload_n eX2_liftModulus_103 rfl ?_
      refine q_getfield eX2_liftModulus_104 gf_X2_9 (hK _ (by decide) (by decide)) (by decide) (by assumption) ?_
      refine q_callVQ [vI (rtE p e r q m i), vI p] (M1 := mX2_power) eX2_liftModulus_107 mf_X2_power lk_X2_110 (hK _ (by decide) (by decide)) (ev_power (n := p) hK hX (hG.off o2 (by decide)) hrt (by omega)) (by decide) (by decide) (by decide) (Nat.le_of_ble_eq_true rfl) rfl (fun A4 h4 => ?_)
      refine q_istore_n eX2_liftModulus_110 (by decide) rfl ?_
      refine q_iinc eX2_liftModulus_111 rfl (by decide) rfl ?_
      refine q_goto (tgt := 83) eX2_liftModulus_114 (by decide) ?_
      refine ih (i + 1) A4 (by omega) ((hG.off o2 (by decide)).s3 h4) ((ho.trans (o2.mono (by simp))).trans (h4.mono (by simp))) (fun j hj => ?_)
      rw [h4 16 (by decide)]
      by_cases hj2 : j ≤ i + 1
      · rw [v2 j hj2]
        exact (if_pos hj2).symm
      · rw [v3 j (by omega), h2 j hj, gr_big i j (by omega), gr_big (i + 1) j (by omega)]
set_option maxRecDepth 20000 in
theorem ev_liftModulus {p e r q N : Nat} {m : Int} {F : HF} {A : HA} {al : AL} (hK : KX al) (hX : XF F) (hB : GB p e r q N m F) : QE 5 0 0 mX2_liftModulus [vA 2] F A al (PV F al (fun A2 => Off [3, 13, 14, 15, 16] A A2 ∧ ∀ j, j ≤ r → A2 3 j = grE p e r q m r j)) := by
  refine QE.mk (by decide +kernel) (Nat.le_of_ble_eq_true rfl) ?_
  obtain ⟨hp, he, hr, hm, hq, hN, hpp, hp2, hp7, he1, he4, hr1, hr6, hme, hqe, hNm, hN4, hq3⟩ := id hB
  have hm2 := hB.m2
  have hq2 := hB.q2
  have hm4 := hB.m4
  have hqt := hB.qt
  have hqr : (p : Int) ^ r = (q : Int) := by rw [hqe]; simp
  have hpm : (p : Int) ≤ m := by rw [hme]; exact pow_ge (by omega) he1
  have hlr := lpB_range (p := p) (r := r) (by omega)
  rw [hqr] at hlr
  refine q_aload_n eX2_liftModulus_0 rfl ?_
  refine q_getfield eX2_liftModulus_1 gf_X2_9 (hK _ (by decide) (by decide)) (by decide) (by assumption) ?_
  refine q_aload_n eX2_liftModulus_4 rfl ?_
  refine q_getfield eX2_liftModulus_5 gf_X2_18 (hK _ (by decide) (by decide)) (by decide) (by assumption) ?_
  refine q_callSP [vI p, vI r] (M1 := mX0_leastPrime) eX2_liftModulus_8 mf_X0_leastPrime lk_X2_82 (ev_leastPrime (by omega) (by omega) hr6 (by omega)) (by decide) (by decide) (by decide) (Nat.le_of_ble_eq_true rfl) rfl ?_
  refine q_istore_n eX2_liftModulus_11 (by decide) rfl ?_
  refine q_iconst eX2_liftModulus_12 ?_
  refine q_istore_n eX2_liftModulus_13 (by decide) rfl ?_
  refine lp_lift1 hK hX hp hr hp2 hp7 hr6 (fun A1 l1 o1 h1 => ?_) (r + 1) 0 _ A (by omega) Off.rfl' (fun j hj => absurd hj (by omega)) (fun j => by rw [Nat.zero_add]; rfl) (by have := hlr; unfold lpB at this; omega) (by have := hlr; unfold lpB at this; omega)
  have hG1 : GA m r (fB p r) F A1 := ⟨hm, hr, fun i hi => ⟨h1 i (by omega), (dg_range (by omega) i _).1, by have := (dg_range (m := (p : Int)) (by omega) i (lpB p r)).2; show dg p i (lpB p r) < m; omega⟩, hm2, hr1, hr6, by omega⟩
  refine q_aload_n eX2_liftModulus_53 rfl ?_
  refine q_getfield eX2_liftModulus_54 gf_X2_57 (hK _ (by decide) (by decide)) (by decide) (xf_2_14 hX) ?_
  refine q_iconst eX2_liftModulus_57 ?_
  refine q_callSV [vA 16, vI 0] (M1 := mJ7_fill_53178) eX2_liftModulus_58 mf_J7_fill_53178 lk_X2_97 (ev_fill (hK _ (by decide) (by decide)) (by decide)) (by decide) (by decide) (by decide) (Nat.le_of_ble_eq_true rfl) rfl (fun A2 h2 => ?_)
  obtain ⟨o2, v2⟩ := h2
  refine q_aload_n eX2_liftModulus_61 rfl ?_
  refine q_getfield eX2_liftModulus_62 gf_X2_57 (hK _ (by decide) (by decide)) (by decide) (xf_2_14 hX) ?_
  refine q_iconst eX2_liftModulus_65 ?_
  refine q_iconst eX2_liftModulus_66 ?_
  refine q_iast eX2_liftModulus_67 (hK _ (by decide) (by decide)) (by omega) (by omega) ?_
  refine q_aload_n eX2_liftModulus_68 rfl ?_
  refine q_aload_n eX2_liftModulus_69 rfl ?_
  refine q_callVP [] (M1 := mX2_t) eX2_liftModulus_70 mf_X2_t lk_X2_103 (hK _ (by decide) (by decide)) (ev_t hK hX (((hG1.off o2 (by decide)).off (l := [16]) (Off.up (by decide)) (by decide)))) (by decide) (by decide) (by decide) (Nat.le_of_ble_eq_true rfl) rfl ?_
  rw [tE_cast]
  refine q_aload_n eX2_liftModulus_73 rfl ?_
  refine q_callVP [] (M1 := mX2_toRoot) eX2_liftModulus_74 mf_X2_toRoot lk_X2_107 (hK _ (by decide) (by decide)) (ev_toRoot hK hq he he1 he4) (by decide) (by decide) (by decide) (Nat.le_of_ble_eq_true rfl) rfl ?_
  rw [hqt.2]
  refine q_callVQ [vI (tE m r), vI (q ^ (e - 1) : Nat)] (M1 := mX2_power) eX2_liftModulus_77 mf_X2_power lk_X2_110 (hK _ (by decide) (by decide)) (ev_power hK hX (((hG1.off o2 (by decide)).off (l := [16]) (Off.up (by decide)) (by decide))) (tE_el hm2 hr1) (by omega)) (by decide) (by decide) (by decide) (Nat.le_of_ble_eq_true rfl) rfl (fun A4 h4 => ?_)
  refine q_istore_n eX2_liftModulus_80 (by decide) rfl ?_
  refine q_iconst eX2_liftModulus_81 ?_
  refine q_istore_n eX2_liftModulus_82 (by decide) rfl ?_
  refine lp_lift2 hK hX hB r 0 A4 (by omega) ((((hG1.off o2 (by decide)).off (l := [16]) (Off.up (by decide)) (by decide))).s3 h4) ((((o1.mono (by simp)).trans (o2.mono (by simp))).trans (Off.up (a := 16) (by simp))).trans (h4.mono (by simp))) (fun j hj => ?_)
  rw [h4 16 (by decide), up2_at]
  show _ = if j = 0 then (1 : Int) else 0
  split
  · next he => rw [if_pos (show j = 0 from he)]
  · next hne => rw [if_neg (show ¬ j = 0 from hne)]; exact v2 j hj
