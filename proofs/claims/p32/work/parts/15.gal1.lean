/-! Galois: sums, products -/
def GA (m : Int) (r : Nat) (f : Nat → Int) (F : HF) (A : HA) : Prop := F 2 3 = vI m ∧ F 2 2 = vI r ∧ (∀ i, i < r → A 3 i = f i ∧ 0 ≤ f i ∧ f i < m) ∧ 2 ≤ m ∧ 1 ≤ r ∧ r ≤ 6 ∧ m ^ r ≤ 4096
theorem pow_ge {m : Int} (hm : 1 ≤ m) : ∀ {r : Nat}, 1 ≤ r → m ≤ m ^ r
  | 0, h => by omega
  | 1, _ => Int.le_of_eq (by rw [Int.pow_succ, Int.pow_zero, Int.one_mul])
  | r + 2, _ => by
    have ih := pow_ge hm (r := r + 1) (by omega)
    have h1 : m ^ (r + 1) * 1 ≤ m ^ (r + 1) * m := Int.mul_le_mul_of_nonneg_left hm (by omega)
    rw [Int.pow_succ]; omega
theorem GA.m4 {m : Int} {r : Nat} {f : Nat → Int} {F : HF} {A : HA} (h : GA m r f F A) : m ≤ 4096 := by
  have := pow_ge (m := m) (by have := h.2.2.2.1; omega) h.2.2.2.2.1
  have := h.2.2.2.2.2.2
  omega
theorem GA.off {m : Int} {r : Nat} {f : Nat → Int} {F : HF} {A A2 : HA} {l : List Nat} (h : GA m r f F A) (ho : Off l A A2) (hl : 3 ∉ l) : GA m r f F A2 := by
  refine ⟨h.1, h.2.1, fun i hi => ?_, h.2.2.2⟩
  rw [ho 3 hl]
  exact h.2.2.1 i hi
theorem El.lt {m : Int} {r : Nat} {x : Int} (hx : El m r x) (h : m ^ r ≤ 4096) : 0 ≤ x ∧ x < 4096 := ⟨hx.1, by have := hx.2; omega⟩
theorem sq_le {a b m : Int} (h0 : 0 ≤ a) (h1 : a ≤ m) (h2 : 0 ≤ b) (h3 : b ≤ m) (hm : m ≤ 4096) : 0 ≤ a * b ∧ a * b ≤ 16777216 := by
  refine ⟨Int.mul_nonneg h0 h2, ?_⟩
  have e1 : a * b ≤ 4096 * b := Int.mul_le_mul_of_nonneg_right (by omega) h2
  omega
set_option maxRecDepth 20000 in
theorem ev_t {m : Int} {r : Nat} {f : Nat → Int} {F : HF} {A : HA} {al : AL} (hK : KX al) (hX : XF F) (hG : GA m r f F A) : QE 0 0 0 mX2_t [vA 2] F A al (PI (if (r : Int) = 1 then 0 else m) F A al) := by
  refine QE.mk (by decide +kernel) (Nat.le_of_ble_eq_true rfl) ?_
  obtain ⟨hm, hr, hf, hm2, hr1, hr6, hN⟩ := id hG
  have hm4 := hG.m4
  refine q_aload_n eX2_t_0 rfl ?_
  refine q_getfield eX2_t_1 gf_X2_18 (hK _ (by decide) (by decide)) (by decide) (by assumption) ?_
  refine q_iconst eX2_t_4 ?_
  refine q_icmp_ne (tgt := 12) eX2_t_5 (by decide) (by first | assumption | exact ⟨by omega, by omega⟩) (by first | assumption | exact ⟨by omega, by omega⟩) (fun c5 => ?_) (fun c5 => ?_)
  · refine q_aload_n eX2_t_12 rfl ?_
    refine q_getfield eX2_t_13 gf_X2_21 (hK _ (by decide) (by decide)) (by decide) (by assumption) ?_
    refine q_retI eX2_t_16 rfl (by decide) (by decide) ?_
    refine PI_ok ?_
    first | rw [if_pos (by omega)] | rw [if_neg (by omega)]
  · refine q_iconst eX2_t_8 ?_
    refine q_goto (tgt := 16) eX2_t_9 (by decide) ?_
    refine q_retI eX2_t_16 rfl (by decide) (by decide) ?_
    refine PI_ok ?_
    first | rw [if_pos (by omega)] | rw [if_neg (by omega)]
set_option maxRecDepth 20000 in
theorem ev_has {s x : Int} {F : HF} {A : HA} {al : AL} (hK : KX al) (hs : F 2 5 = vI s) (hs2 : InR s) (hx : InR x) : QE 0 0 0 mX2_has [vA 2, vI x] F A al (PI (if 0 ≤ x ∧ x < s then 1 else 0) F A al) := by
  refine QE.mk (by decide +kernel) (Nat.le_of_ble_eq_true rfl) ?_
  refine q_iload_n eX2_has_0 rfl ?_
  refine q_if_lt (tgt := 16) eX2_has_1 (by decide) (by first | assumption | exact ⟨by omega, by omega⟩) (fun c1 => ?_) (fun c1 => ?_)
  · refine q_iconst eX2_has_16 ?_
    refine q_retZ eX2_has_17 rfl (by first | exact Or.inl rfl | exact Or.inr rfl | assumption) (by decide) (by decide) ?_
    refine PI_ok ?_
    first | rw [if_pos (by omega)] | rw [if_neg (by omega)]
  · refine q_iload_n eX2_has_4 rfl ?_
    refine q_aload_n eX2_has_5 rfl ?_
    refine q_getfield eX2_has_6 gf_X2_27 (hK _ (by decide) (by decide)) (by decide) (by assumption) ?_
    refine q_icmp_ge (tgt := 16) eX2_has_9 (by decide) (by first | assumption | exact ⟨by omega, by omega⟩) (by first | assumption | exact ⟨by omega, by omega⟩) (fun c9 => ?_) (fun c9 => ?_)
    · refine q_iconst eX2_has_16 ?_
      refine q_retZ eX2_has_17 rfl (by first | exact Or.inl rfl | exact Or.inr rfl | assumption) (by decide) (by decide) ?_
      refine PI_ok ?_
      first | rw [if_pos (by omega)] | rw [if_neg (by omega)]
    · refine q_iconst eX2_has_12 ?_
      refine q_goto (tgt := 17) eX2_has_13 (by decide) ?_
      refine q_retZ eX2_has_17 rfl (by first | exact Or.inl rfl | exact Or.inr rfl | assumption) (by decide) (by decide) ?_
      refine PI_ok ?_
      first | rw [if_pos (by omega)] | rw [if_neg (by omega)]
set_option maxRecDepth 20000 in
theorem ev_plus {x y : Int} {m : Int} {r : Nat} {f : Nat → Int} {F : HF} {A : HA} {al : AL} (hK : KX al) (hX : XF F) (hG : GA m r f F A) (hx : El m r x) (hy : El m r y) : QE 1 0 0 mX2_plus [vA 2, vI x, vI y] F A al (PI (pl m r x y) F A al) := by
  refine QE.mk (by decide +kernel) (Nat.le_of_ble_eq_true rfl) ?_
  obtain ⟨hm, hr, hf, hm2, hr1, hr6, hN⟩ := id hG
  have hm4 := hG.m4
  have hx1 := hx.lt hN
  have hy1 := hy.lt hN
  refine q_iload_n eX2_plus_0 rfl ?_
  refine q_iload_n eX2_plus_1 rfl ?_
  refine q_iconst eX2_plus_2 ?_
  refine q_aload_n eX2_plus_3 rfl ?_
  refine q_getfield eX2_plus_4 gf_X2_21 (hK _ (by decide) (by decide)) (by decide) (by assumption) ?_
  refine q_callSP [vI x, vI y, vI 1, vI m] (M1 := mX7_mix) eX2_plus_7 mf_X7_mix lk_X2_135 (ev_mix hx1.1 (by omega) hy1.1 (by omega) (by omega) (by omega) (by omega) (by omega)) (by decide) (by decide) (by decide) (by decide) rfl ?_
  refine q_retI eX2_plus_10 rfl (by decide) (by decide) ?_
  refine PI_ok ?_
  rw [if_neg (by omega), mixI_r (by omega) (by omega) hx.1 hx.2 hy.1 hy.2]
  exact un_congr fun i _ => by rw [Int.one_mul]
set_option maxRecDepth 20000 in
theorem ev_minus {x y : Int} {m : Int} {r : Nat} {f : Nat → Int} {F : HF} {A : HA} {al : AL} (hK : KX al) (hX : XF F) (hG : GA m r f F A) (hx : El m r x) (hy : El m r y) : QE 1 0 0 mX2_minus [vA 2, vI x, vI y] F A al (PI (mi m r x y) F A al) := by
  refine QE.mk (by decide +kernel) (Nat.le_of_ble_eq_true rfl) ?_
  obtain ⟨hm, hr, hf, hm2, hr1, hr6, hN⟩ := id hG
  have hm4 := hG.m4
  have hx1 := hx.lt hN
  have hy1 := hy.lt hN
  refine q_iload_n eX2_minus_0 rfl ?_
  refine q_iload_n eX2_minus_1 rfl ?_
  refine q_aload_n eX2_minus_2 rfl ?_
  refine q_getfield eX2_minus_3 gf_X2_21 (hK _ (by decide) (by decide)) (by decide) (by assumption) ?_
  refine q_iconst eX2_minus_6 ?_
  refine q_isub eX2_minus_7 ?_
  refine q_aload_n eX2_minus_8 rfl ?_
  refine q_getfield eX2_minus_9 gf_X2_21 (hK _ (by decide) (by decide)) (by decide) (by assumption) ?_
  refine q_callSP [vI x, vI y, vI (m - 1), vI m] (M1 := mX7_mix) eX2_minus_12 mf_X7_mix lk_X2_135 (ev_mix hx1.1 (by omega) hy1.1 (by omega) (by omega) (by omega) (by omega) (by have := sq_le (a := m) (b := m) (m := m) (by omega) (by omega) (by omega) (by omega) hm4; rw [Int.sub_add_cancel]; omega)) (by decide) (by decide) (by decide) (by decide) rfl ?_
  refine q_retI eX2_minus_15 rfl (by decide) (by decide) ?_
  refine PI_ok ?_
  rw [if_neg (by omega), mixI_r (by omega) (by omega) hx.1 hx.2 hy.1 hy.2]
  refine un_congr fun i _ => ?_
  rw [Int.sub_mul, Int.one_mul, show dg m i x + (m * dg m i y - dg m i y) = dg m i x - dg m i y + m * dg m i y by omega, Int.add_mul_emod_self_left]
def dv (m : Int) : Nat → Int → Int
  | 0, x => x
  | i + 1, x => dv m i x / m
theorem dv_dg {m : Int} : ∀ (i : Nat) (x : Int), dv m i x % m = dg m i x ∧ dv m i (x / m) = dv m (i + 1) x
  | 0, x => ⟨rfl, rfl⟩
  | i + 1, x => by
    obtain ⟨h1, h2⟩ := dv_dg (m := m) i (x / m)
    obtain ⟨h3, h4⟩ := dv_dg (m := m) i x
    refine ⟨?_, ?_⟩
    · show dv m (i + 1) x % m = dg m i (x / m)
      rw [← h4]; exact h1
    · show dv m i (x / m) / m = _
      rw [h4]; rfl
theorem dv_range {m x : Int} (hm : 1 ≤ m) (h0 : 0 ≤ x) : ∀ i : Nat, 0 ≤ dv m i x ∧ dv m i x ≤ x
  | 0 => ⟨h0, Int.le_refl _⟩
  | i + 1 => by
    obtain ⟨h1, h2⟩ := dv_range hm h0 i
    have h3 := Int.ediv_nonneg h1 (show (0:Int) ≤ m by omega)
    have h4 := Int.ediv_le_self m h1
    exact ⟨h3, by show dv m i x / m ≤ x; omega⟩
theorem lp_spread {m x : Int} {a n : Nat} {F : HF} {A0 : HA} {al : AL} (hK : KX al) (hm : F 2 3 = vI m) (hm2 : 2 ≤ m) (hm3 : m < 2147483648) (hk : al.1 a = (0, n)) (hn : n < 2147483648) (hx : 0 ≤ x) (hx2 : x < 2147483648) : ∀ (k i : Nat) (A : HA), i + k = n → Off [a] A0 A → (∀ j, j < i → A a j = dg m j x) →
    QW mX2_spread 0 0 0 (PV F al (fun A2 => Off [a] A0 A2 ∧ ∀ j, j < n → A2 a j = dg m j x)) 0 0 14 [some (vA 2), some (vI x), some (vA a), some (vI (dv m i x)), some (vI i)] [] F A al := by
  intro k
  induction k with
  | zero =>
    intro i A hi ho hv
    have hd := dv_range (m := m) (by omega) hx i
    refine q_iload eX2_spread_14 rfl ?_
    refine q_aload_n eX2_spread_16 rfl ?_
    refine q_alen eX2_spread_17 hk ?_
    refine q_icmp_ge (tgt := 44) eX2_spread_18 (by decide) (by first | assumption | exact ⟨by omega, by omega⟩) (by first | assumption | exact ⟨by omega, by omega⟩) (fun c18 => ?_) (fun c18 => ?_)
    · refine q_retV eX2_spread_44 rfl (by decide) (by decide) ?_
      exact ⟨rfl, rfl, rfl, ho, fun j hj => hv j (by omega)⟩
    · exact absurd c18 (by omega)
  | succ k ih =>
    intro i A hi ho hv
    have hd := dv_range (m := m) (by omega) hx i
    refine q_iload eX2_spread_14 rfl ?_
    refine q_aload_n eX2_spread_16 rfl ?_
    refine q_alen eX2_spread_17 hk ?_
    refine q_icmp_ge (tgt := 44) eX2_spread_18 (by decide) (by first | assumption | exact ⟨by omega, by omega⟩) (by first | assumption | exact ⟨by omega, by omega⟩) (fun c18 => ?_) (fun c18 => ?_)
    · exact absurd c18 (by omega)
    · refine q_aload_n eX2_spread_21 rfl ?_
      refine q_iload eX2_spread_22 rfl ?_
      refine q_iload_n eX2_spread_24 rfl ?_
      refine q_aload_n eX2_spread_25 rfl ?_
      refine q_getfield eX2_spread_26 gf_X2_21 (hK _ (by decide) (by decide)) (by decide) (by assumption) ?_
      refine q_irem eX2_spread_29 (by omega) (by omega) (by omega) (by omega) ?_
      refine q_iast eX2_spread_30 hk (by omega) (by omega) ?_
      refine q_iload_n eX2_spread_31 rfl ?_
      refine q_aload_n eX2_spread_32 rfl ?_
      refine q_getfield eX2_spread_33 gf_X2_21 (hK _ (by decide) (by decide)) (by decide) (by assumption) ?_
      refine q_idiv eX2_spread_36 (by omega) (by omega) (by omega) (by omega) ?_
      refine q_istore_n eX2_spread_37 (by decide) rfl ?_
      refine q_iinc eX2_spread_38 rfl (by decide) rfl ?_
      refine q_goto (tgt := 14) eX2_spread_41 (by decide) ?_
      refine ih (i + 1) _ (by omega) (ho.trans (Off.up (by simp))) (fun j hj => ?_)
      rw [up2_at]
      split
      · next he => rw [show j = i from he]; exact (dv_dg i x).1
      · next hne => exact hv j (by have : j ≠ i := hne; omega)
set_option maxRecDepth 20000 in
theorem ev_spread {m x : Int} {a n : Nat} {F : HF} {A : HA} {al : AL} (hK : KX al) (hm : F 2 3 = vI m) (hm2 : 2 ≤ m) (hm3 : m < 2147483648) (hk : al.1 a = (0, n)) (hn : n < 2147483648) (hx : 0 ≤ x) (hx2 : x < 2147483648) : QE 0 0 0 mX2_spread [vA 2, vI x, vA a] F A al (PV F al (fun A2 => Off [a] A A2 ∧ ∀ j, j < n → A2 a j = dg m j x)) := by
  refine QE.mk (by decide +kernel) (Nat.le_of_ble_eq_true rfl) ?_
  refine q_aload_n eX2_spread_0 rfl ?_
  refine q_getfield eX2_spread_1 gf_X2_21 (hK _ (by decide) (by decide)) (by decide) (by assumption) ?_
  refine q_iconst eX2_spread_4 ?_
  refine q_icmp_ge (tgt := 9) eX2_spread_5 (by decide) (by first | assumption | exact ⟨by omega, by omega⟩) (by first | assumption | exact ⟨by omega, by omega⟩) (fun c5 => ?_) (fun c5 => ?_)
  · refine q_iload_n eX2_spread_9 rfl ?_
    refine q_istore_n eX2_spread_10 (by decide) rfl ?_
    refine q_iconst eX2_spread_11 ?_
    refine q_istore eX2_spread_12 (by decide) rfl ?_
    exact lp_spread hK hm hm2 hm3 hk hn hx hx2 n 0 A (by omega) Off.rfl' (fun j hj => by omega)
  · exact absurd c5 (by omega)
theorem un_shift {m : Int} {n : Nat} (c : Nat → Int) (i : Nat) : un m (n + 1) (fun j => c (i + j)) = c i % m + m * un m n (fun j => c (i + 1 + j)) := by
  show c (i + 0) % m + m * un m n (fun j => c (i + (j + 1))) = _
  rw [Nat.add_zero]
  congr 3
  funext j
  rw [show i + (j + 1) = i + 1 + j by omega]
theorem lp_gather {m : Int} {r a n : Nat} {F : HF} {A : HA} {al : AL} (hK : KX al) (hm : F 2 3 = vI m) (hr : F 2 2 = vI r) (hm2 : 2 ≤ m) (hm3 : m < 2147483648) (hk : al.1 a = (0, n)) (hn : n < 2147483648) (hrn : r ≤ n) (hA : ∀ j, j < n → 0 ≤ A a j ∧ A a j < 2147483648) : ∀ (i k : Nat), i + k = r →
    QW mX2_gather 1 0 0 (PI (un m r (A a)) F A al) 0 0 24 [some (vA 2), some (vA a), some (vI (un m k (fun j => A a (i + j)))), some (vI ((i : Int) - 1))] [] F A al := by
  intro i
  induction i with
  | zero =>
    intro k hi
    have hkr : k = r := by omega
    subst hkr
    refine q_iload_n eX2_gather_24 rfl ?_
    refine q_if_lt (tgt := 50) eX2_gather_25 (by decide) (by first | assumption | exact ⟨by omega, by omega⟩) (fun c25 => ?_) (fun c25 => ?_)
    · refine q_iload_n eX2_gather_50 rfl ?_
      refine q_retI eX2_gather_51 rfl (by decide) (by decide) ?_
      refine PI_ok ?_
      congr 1
      funext j
      rw [Nat.zero_add]
    · exact absurd c25 (by omega)
  | succ i ih =>
    intro k hi
    have hv := hA i (by omega)
    have e0 : ((i + 1 : Nat) : Int) - 1 = (i : Int) := by omega
    rw [e0]
    refine q_iload_n eX2_gather_24 rfl ?_
    refine q_if_lt (tgt := 50) eX2_gather_25 (by decide) (by first | assumption | exact ⟨by omega, by omega⟩) (fun c25 => ?_) (fun c25 => ?_)
    · exact absurd c25 (by omega)
    · refine q_iload_n eX2_gather_28 rfl ?_
      refine q_aload_n eX2_gather_29 rfl ?_
      refine q_getfield eX2_gather_30 gf_X2_21 (hK _ (by decide) (by decide)) (by decide) (by assumption) ?_
      refine q_imul eX2_gather_33 ?_
      refine q_aload_n eX2_gather_34 rfl ?_
      refine q_iload_n eX2_gather_35 rfl ?_
      refine q_iald eX2_gather_36 hk (by omega) (by omega) ?_
      refine q_aload_n eX2_gather_37 rfl ?_
      refine q_getfield eX2_gather_38 gf_X2_21 (hK _ (by decide) (by decide)) (by decide) (by assumption) ?_
      refine q_irem eX2_gather_41 hv.1 hv.2 (by omega) (by omega) ?_
      refine q_iadd eX2_gather_42 ?_
      refine q_istore_n eX2_gather_43 (by decide) rfl ?_
      refine q_iinc eX2_gather_44 rfl (by decide) rfl ?_
      refine q_goto (tgt := 24) eX2_gather_47 (by decide) ?_
      have h := ih (k + 1) (by omega)
      rw [un_shift] at h
      have e1 : un m k (fun j => A a (i + 1 + j)) * m + A a (i : Int).toNat % m = A a i % m + m * un m k (fun j => A a (i + 1 + j)) := by
        rw [Int.mul_comm, Int.add_comm]; rfl
      have e2 : (i : Int) + -1 = (i : Int) - 1 := by omega
      rw [e1, e2]
      exact h
set_option maxRecDepth 20000 in
theorem ev_gather {m : Int} {r a n : Nat} {F : HF} {A : HA} {al : AL} (hK : KX al) (hm : F 2 3 = vI m) (hr : F 2 2 = vI r) (hm2 : 2 ≤ m) (hm3 : m < 2147483648) (hk : al.1 a = (0, n)) (hn : n < 2147483648) (hrn : r ≤ n) (hA : ∀ j, j < n → 0 ≤ A a j ∧ A a j < 2147483648) : QE 1 0 0 mX2_gather [vA 2, vA a] F A al (PI (un m r (A a)) F A al) := by
  refine QE.mk (by decide +kernel) (Nat.le_of_ble_eq_true rfl) ?_
  refine q_aload_n eX2_gather_0 rfl ?_
  refine q_getfield eX2_gather_1 gf_X2_21 (hK _ (by decide) (by decide)) (by decide) (by assumption) ?_
  refine q_iconst eX2_gather_4 ?_
  refine q_icmp_ge (tgt := 10) eX2_gather_5 (by decide) (by first | assumption | exact ⟨by omega, by omega⟩) (by first | assumption | exact ⟨by omega, by omega⟩) (fun c5 => ?_) (fun c5 => ?_)
  · refine q_iconst eX2_gather_10 ?_
    refine q_istore_n eX2_gather_11 (by decide) rfl ?_
    refine q_aload_n eX2_gather_12 rfl ?_
    refine q_getfield eX2_gather_13 gf_X2_18 (hK _ (by decide) (by decide)) (by decide) (by assumption) ?_
    refine q_aload_n eX2_gather_16 rfl ?_
    refine q_alen eX2_gather_17 hk ?_
    refine q_callSP [vI r, vI n] (M1 := mJ9_min_7cf53) eX2_gather_18 mf_J9_min_7cf53 lk_X2_152 (ev_min (by exact ⟨by omega, by omega⟩) (by exact ⟨by omega, by omega⟩)) (by decide) (by decide) (by decide) (by decide) rfl ?_
    rw [Int.min_def, if_pos (by omega)]
    refine q_iconst eX2_gather_21 ?_
    refine q_isub eX2_gather_22 ?_
    refine q_istore_n eX2_gather_23 (by decide) rfl ?_
    exact lp_gather hK hm hr hm2 hm3 hk hn hrn hA r 0 (by omega)
  · exact absurd c5 (by omega)
