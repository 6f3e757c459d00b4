/-! the model: thrown, rows, sums -/
def GM (m : Int) (r : Nat) (f : Nat → Int) (F : HF) (A : HA) : Prop := F 44 4 = vI m ∧ F 44 3 = vI r ∧ (∀ i, i < r → A 45 i = f i ∧ 0 ≤ f i ∧ f i < m) ∧ 2 ≤ m ∧ 1 ≤ r ∧ r ≤ 6 ∧ m ^ r ≤ 4096
theorem GM.m4 {m : Int} {r : Nat} {f : Nat → Int} {F : HF} {A : HA} (h : GM m r f F A) : m ≤ 4096 := by
  obtain ⟨-, -, -, h2, h1, -, h4⟩ := h
  have := pow_ge (m := m) (by omega) h1
  omega
theorem GM.off {m : Int} {r : Nat} {f : Nat → Int} {F : HF} {A A2 : HA} {l : List Nat} (h : GM m r f F A) (ho : Off l A A2) (hl : 45 ∉ l) : GM m r f F A2 := by
  obtain ⟨h1, h2, h3, h4⟩ := h
  refine ⟨h1, h2, fun i hi => ?_, h4⟩
  rw [ho 45 hl]; exact h3 i hi
theorem GM.row {m : Int} {r : Nat} {f : Nat → Int} {F F2 : HF} {A : HA} (h : GM m r f F A) (h4 : F2 44 4 = F 44 4) (h3 : F2 44 3 = F 44 3) : GM m r f F2 A := ⟨by rw [h4]; exact h.1, by rw [h3]; exact h.2.1, h.2.2⟩
set_option maxRecDepth 20000 in
theorem mo_thrown {t : Int} {F : HF} {A : HA} {al : AL} (hK : KM al) (ht : F 44 0 = vI t) : QE 1 0 0 mX12_thrown [vA 44] F A al (PI t F A al) := by
  refine QE.mk (by decide +kernel) (Nat.le_of_ble_eq_true rfl) ?_
  refine q_aload_n eX12_thrown_0 rfl ?_
  refine q_getfield eX12_thrown_1 gf_X12_1 (hK _ (by decide) (by decide)) (by decide) (by first | assumption) ?_
  refine q_retI eX12_thrown_4 rfl (by decide) (by decide) ?_
  exact PI_ok rfl
def rgF (t b w : Int) (F : HF) : HF := if t = 0 ∧ b = 0 then up2 F 44 0 (vI w) else F
def PF1 (x : Int) (F' : HF) (A : HA) (al : AL) : PO := fun o F2 A2 al2 => o = .inl (some x) ∧ F2 = F' ∧ A2 = A ∧ al2 = al
theorem nt_PF1 {x : Int} {F' : HF} {A : HA} {al : AL} : NT (PF1 x F' A al) := by intro E F A al h; cases h.1
set_option maxRecDepth 20000 in
theorem mo_right1 {b w : Int} {F : HF} {A : HA} {al : AL} (hK : KM al) (ht : F 44 0 = vI 0) (hb : InR b) (hb1 : b ≠ 0) : QE 1 0 0 mX12_right [vA 44, vI b, vI w] F A al (PI 1 F A al) := by
  refine QE.mk (by decide +kernel) (Nat.le_of_ble_eq_true rfl) ?_
  refine q_aload_n eX12_right_0 rfl ?_
  refine q_getfield eX12_right_1 gf_X12_1 (hK _ (by decide) (by decide)) (by decide) (by first | assumption) ?_
  refine q_if_ne (tgt := 16) eX12_right_4 (by decide) (by first | assumption | exact ⟨by omega, by omega⟩) (fun c4 => ?_) (fun c4 => ?_)
  · exact absurd rfl c4
  · refine q_iload_n eX12_right_7 rfl ?_
    refine q_if_ne (tgt := 16) eX12_right_8 (by decide) (by first | assumption | exact ⟨by omega, by omega⟩) (fun c8 => ?_) (fun c8 => ?_)
    · refine q_aload_n eX12_right_16 rfl ?_
      refine q_getfield eX12_right_17 gf_X12_1 (hK _ (by decide) (by decide)) (by decide) (by first | assumption) ?_
      refine q_if_ne (tgt := 27) eX12_right_20 (by decide) (by first | assumption | exact ⟨by omega, by omega⟩) (fun c20 => ?_) (fun c20 => ?_)
      · exact absurd rfl c20
      · refine q_iconst eX12_right_23 ?_
        refine q_goto (tgt := 28) eX12_right_24 (by decide) ?_
        refine q_retZ eX12_right_28 rfl (by first | exact Or.inl rfl | exact Or.inr rfl | assumption) (by decide) (by decide) ?_
        exact PI_ok rfl
    · exact absurd c8 hb1
set_option maxRecDepth 20000 in
theorem mo_right0 {w : Int} {F : HF} {A : HA} {al : AL} (hK : KM al) (ht : F 44 0 = vI 0) (hw : InR w) (hw0 : w ≠ 0) : QE 1 0 0 mX12_right [vA 44, vI 0, vI w] F A al (PF1 0 (up2 F 44 0 (vI w)) A al) := by
  refine QE.mk (by decide +kernel) (Nat.le_of_ble_eq_true rfl) ?_
  refine q_aload_n eX12_right_0 rfl ?_
  refine q_getfield eX12_right_1 gf_X12_1 (hK _ (by decide) (by decide)) (by decide) (by first | assumption) ?_
  refine q_if_ne (tgt := 16) eX12_right_4 (by decide) (by first | assumption | exact ⟨by omega, by omega⟩) (fun c4 => ?_) (fun c4 => ?_)
  · exact absurd rfl c4
  · refine q_iload_n eX12_right_7 rfl ?_
    refine q_if_ne (tgt := 16) eX12_right_8 (by decide) (by first | assumption | exact ⟨by omega, by omega⟩) (fun c8 => ?_) (fun c8 => ?_)
    · exact absurd rfl c8
    · refine q_aload_n eX12_right_11 rfl ?_
      refine q_iload_n eX12_right_12 rfl ?_
      refine q_putfield eX12_right_13 pf_X12_1 (hK _ (by decide) (by decide)) (by decide) (FT_i rfl) ?_
      refine q_aload_n eX12_right_16 rfl ?_
      refine q_getfield eX12_right_17 gf_X12_1 (hK _ (by decide) (by decide)) (by decide) (up2_eq _ _ _ _) ?_
      refine q_if_ne (tgt := 27) eX12_right_20 (by decide) (by first | assumption | exact ⟨by omega, by omega⟩) (fun c20 => ?_) (fun c20 => ?_)
      · refine q_iconst eX12_right_27 ?_
        refine q_retZ eX12_right_28 rfl (by first | exact Or.inl rfl | exact Or.inr rfl | assumption) (by decide) (by decide) ?_
        exact ⟨rfl, rfl, rfl, rfl⟩
      · exact absurd c20 hw0
set_option maxRecDepth 20000 in
theorem mo_isIn {v lo hi : Int} {F : HF} {A : HA} {al : AL} (hv : InL v) (hl : InL lo) (hh : InL hi) : QE 1 0 0 mX12_isIn [vJ v, vJ lo, vJ hi] F A al (PI (if lo ≤ v ∧ v ≤ hi then 1 else 0) F A al) := by
  refine QE.mk (by decide +kernel) (Nat.le_of_ble_eq_true rfl) ?_
  refine q_lload_n eX12_isIn_0 rfl ?_
  refine q_lload_n eX12_isIn_1 rfl ?_
  refine q_lcmp eX12_isIn_2 hv hl  ?_
  refine q_if_lt (tgt := 17) eX12_isIn_3 (by decide) (cmpL_R _ _) (fun c3 => ?_) (fun c3 => ?_)
  · refine q_iconst eX12_isIn_17 ?_
    refine q_retZ eX12_isIn_18 rfl (by first | exact Or.inl rfl | exact Or.inr rfl | assumption) (by decide) (by decide) ?_
    refine PI_ok ?_
    have q1 := @cmpL_lt v lo
    have q2 := @cmpL_gt v hi
    first | rw [if_pos (by omega)] | rw [if_neg (by omega)]
  · refine q_lload_n eX12_isIn_6 rfl ?_
    refine q_lload eX12_isIn_7 rfl ?_
    refine q_lcmp eX12_isIn_9 hv hh  ?_
    refine q_if_gt (tgt := 17) eX12_isIn_10 (by decide) (cmpL_R _ _) (fun c10 => ?_) (fun c10 => ?_)
    · refine q_iconst eX12_isIn_17 ?_
      refine q_retZ eX12_isIn_18 rfl (by first | exact Or.inl rfl | exact Or.inr rfl | assumption) (by decide) (by decide) ?_
      refine PI_ok ?_
      have q1 := @cmpL_lt v lo
      have q2 := @cmpL_gt v hi
      first | rw [if_pos (by omega)] | rw [if_neg (by omega)]
    · refine q_iconst eX12_isIn_13 ?_
      refine q_goto (tgt := 18) eX12_isIn_14 (by decide) ?_
      refine q_retZ eX12_isIn_18 rfl (by first | exact Or.inl rfl | exact Or.inr rfl | assumption) (by decide) (by decide) ?_
      refine PI_ok ?_
      have q1 := @cmpL_lt v lo
      have q2 := @cmpL_gt v hi
      first | rw [if_pos (by omega)] | rw [if_neg (by omega)]
set_option maxRecDepth 20000 in
theorem lp_mpower {v : Int} {n : Nat} {F : HF} {A : HA} {al : AL} (hn : n < 2147483648) : ∀ (k i : Nat), i + k = n →
    QW mX12_power 0 0 0 (PI (v ^ n) F A al) 0 0 4 [some (vI v), some (vI n), some (vI (v ^ i)), some (vI i)] [] F A al := by
  intro k
  induction k with
  | zero =>
    intro i hi
    have ei : i = n := by omega
    subst ei
    refine q_iload_n eX12_power_4 rfl ?_
    refine q_iload_n eX12_power_5 rfl ?_
    refine q_icmp_ge (tgt := 19) eX12_power_6 (by decide) (by first | assumption | exact ⟨by omega, by omega⟩) (by first | assumption | exact ⟨by omega, by omega⟩) (fun c6 => ?_) (fun c6 => ?_)
    · refine q_iload_n eX12_power_19 rfl ?_
      refine q_retI eX12_power_20 rfl (by decide) (by decide) ?_
      exact PI_ok rfl
    · exact absurd c6 (by omega)
  | succ k ih =>
    intro i hi
    have hb := ih (i + 1) (by omega)
    rw [Int.pow_succ] at hb
    refine q_iload_n eX12_power_4 rfl ?_
    refine q_iload_n eX12_power_5 rfl ?_
    refine q_icmp_ge (tgt := 19) eX12_power_6 (by decide) (by first | assumption | exact ⟨by omega, by omega⟩) (by first | assumption | exact ⟨by omega, by omega⟩) (fun c6 => ?_) (fun c6 => ?_)
    · exact absurd c6 (by omega)
    · refine q_iload_n eX12_power_9 rfl ?_
      refine q_iload_n eX12_power_10 rfl ?_
      refine q_imul eX12_power_11 ?_
      refine q_istore_n eX12_power_12 (by decide) rfl ?_
      refine q_iinc eX12_power_13 rfl (by decide) rfl ?_
      refine q_goto (tgt := 4) eX12_power_16 (by decide) ?_
      exact hb
set_option maxRecDepth 20000 in
theorem mo_power {v : Int} {n : Nat} {F : HF} {A : HA} {al : AL} (hn : n < 2147483648) : QE 0 0 0 mX12_power [vI v, vI n] F A al (PI (v ^ n) F A al) := by
  refine QE.mk (by decide +kernel) (Nat.le_of_ble_eq_true rfl) ?_
  refine q_iconst eX12_power_0 ?_
  refine q_istore_n eX12_power_1 (by decide) rfl ?_
  refine q_iconst eX12_power_2 ?_
  refine q_istore_n eX12_power_3 (by decide) rfl ?_
  have h := lp_mpower (v := v) (F := F) (A := A) (al := al) hn n 0 (by omega)
  rw [Int.pow_zero] at h
  exact h
set_option maxRecDepth 20000 in
theorem lp_lays {m x : Int} {r a n : Nat} {F : HF} {A0 : HA} {al : AL} (hK : KM al) (hm : F 44 4 = vI m) (hr : F 44 3 = vI r) (hm2 : 2 ≤ m) (hm3 : m < 2147483648) (hk : al.1 a = (0, n)) (hrn : r ≤ n) (hn : n < 2147483648) (hx : 0 ≤ x) (hx2 : x < 2147483648) : ∀ (k i : Nat) (A : HA), i + k = r → Off [a] A0 A → (∀ j, j < i → A a j = dg m j x) → (∀ j, i ≤ j → A a j = A0 a j) →
    QW mX12_lays 0 0 0 (PV F al (fun A2 => Off [a] A0 A2 ∧ (∀ j, j < r → A2 a j = dg m j x) ∧ ∀ j, r ≤ j → A2 a j = A0 a j)) 0 0 5 [some (vA 44), some (vA a), some (vI x), some (vI (dv m i x)), some (vI i)] [] F A al := by
  intro k
  induction k with
  | zero =>
    intro i A hi ho hv hw
    have hd := dv_range (m := m) (by omega) hx i
    refine q_iload eX12_lays_5 rfl ?_
    refine q_aload_n eX12_lays_7 rfl ?_
    refine q_getfield eX12_lays_8 gf_X12_19 (hK _ (by decide) (by decide)) (by decide) (by first | assumption) ?_
    refine q_icmp_ge (tgt := 37) eX12_lays_11 (by decide) (by first | assumption | exact ⟨by omega, by omega⟩) (by first | assumption | exact ⟨by omega, by omega⟩) (fun c11 => ?_) (fun c11 => ?_)
    · refine q_retV eX12_lays_37 rfl (by decide) (by decide) ?_
      exact ⟨rfl, rfl, rfl, ho, fun j hj => hv j (by omega), fun j hj => hw j (by omega)⟩
    · exact absurd c11 (by omega)
  | succ k ih =>
    intro i A hi ho hv hw
    have hd := dv_range (m := m) (by omega) hx i
    refine q_iload eX12_lays_5 rfl ?_
    refine q_aload_n eX12_lays_7 rfl ?_
    refine q_getfield eX12_lays_8 gf_X12_19 (hK _ (by decide) (by decide)) (by decide) (by first | assumption) ?_
    refine q_icmp_ge (tgt := 37) eX12_lays_11 (by decide) (by first | assumption | exact ⟨by omega, by omega⟩) (by first | assumption | exact ⟨by omega, by omega⟩) (fun c11 => ?_) (fun c11 => ?_)
    · exact absurd c11 (by omega)
    · refine q_aload_n eX12_lays_14 rfl ?_
      refine q_iload eX12_lays_15 rfl ?_
      refine q_iload_n eX12_lays_17 rfl ?_
      refine q_aload_n eX12_lays_18 rfl ?_
      refine q_getfield eX12_lays_19 gf_X12_22 (hK _ (by decide) (by decide)) (by decide) (by first | assumption) ?_
      refine q_irem eX12_lays_22 (by omega) (by omega) (by omega) (by omega) ?_
      refine q_iast eX12_lays_23 hk (by omega) (by omega) ?_
      refine q_iload_n eX12_lays_24 rfl ?_
      refine q_aload_n eX12_lays_25 rfl ?_
      refine q_getfield eX12_lays_26 gf_X12_22 (hK _ (by decide) (by decide)) (by decide) (by first | assumption) ?_
      refine q_idiv eX12_lays_29 (by omega) (by omega) (by omega) (by omega) ?_
      refine q_istore_n eX12_lays_30 (by decide) rfl ?_
      refine q_iinc eX12_lays_31 rfl (by decide) rfl ?_
      refine q_goto (tgt := 5) eX12_lays_34 (by decide) ?_
      refine ih (i + 1) _ (by omega) (ho.trans (Off.up (by simp))) (fun j hj => ?_) (fun j hj => ?_)
      · rw [up2_at]
        split
        · next he => rw [show j = i from he]; exact (dv_dg i x).1
        · next hne => exact hv j (by have : j ≠ i := hne; omega)
      · rw [up2_at, if_neg (by show ¬ j = i; omega)]
        exact hw j (by omega)
set_option maxRecDepth 20000 in
theorem mo_lays {m x : Int} {r a n : Nat} {F : HF} {A : HA} {al : AL} (hK : KM al) (hm : F 44 4 = vI m) (hr : F 44 3 = vI r) (hm2 : 2 ≤ m) (hm3 : m < 2147483648) (hk : al.1 a = (0, n)) (hrn : r ≤ n) (hn : n < 2147483648) (hx : 0 ≤ x) (hx2 : x < 2147483648) : QE 0 0 0 mX12_lays [vA 44, vA a, vI x] F A al (PV F al (fun A2 => Off [a] A A2 ∧ (∀ j, j < r → A2 a j = dg m j x) ∧ ∀ j, r ≤ j → A2 a j = A a j)) := by
  refine QE.mk (by decide +kernel) (Nat.le_of_ble_eq_true rfl) ?_
  refine q_iload_n eX12_lays_0 rfl ?_
  refine q_istore_n eX12_lays_1 (by decide) rfl ?_
  refine q_iconst eX12_lays_2 ?_
  refine q_istore eX12_lays_3 (by decide) rfl ?_
  exact lp_lays hK hm hr hm2 hm3 hk hrn hn hx hx2 r 0 A (by omega) Off.rfl' (fun j hj => by omega) (fun j hj => rfl)
set_option maxRecDepth 20000 in
theorem lp_elem {m : Int} {r a n : Nat} {F : HF} {A : HA} {al : AL} (hK : KM al) (hm : F 44 4 = vI m) (hr : F 44 3 = vI r) (hm2 : 2 ≤ m) (hm3 : m < 2147483648) (hk : al.1 a = (0, n)) (hn : n < 2147483648) (hrn : r ≤ n) (hA : ∀ j, j < r → 0 ≤ A a j ∧ A a j < m) : ∀ (i k : Nat), i + k = r →
    QW mX12_elementOf 0 0 0 (PI (un m r (A a)) F A al) 0 0 9 [some (vA 44), some (vA a), some (vI (un m k (fun j => A a (i + j)))), some (vI ((i : Int) - 1))] [] F A al := by
  intro i
  induction i with
  | zero =>
    intro k hi
    have hkr : k = r := by omega
    subst hkr
    refine q_iload_n eX12_elementOf_9 rfl ?_
    refine q_if_lt (tgt := 30) eX12_elementOf_10 (by decide) (by first | assumption | exact ⟨by omega, by omega⟩) (fun c10 => ?_) (fun c10 => ?_)
    · refine q_iload_n eX12_elementOf_30 rfl ?_
      refine q_retI eX12_elementOf_31 rfl (by decide) (by decide) ?_
      refine PI_ok ?_
      congr 1
      funext j
      rw [Nat.zero_add]
    · exact absurd c10 (by omega)
  | succ i ih =>
    intro k hi
    have hv := hA i (by omega)
    have e0 : ((i + 1 : Nat) : Int) - 1 = (i : Int) := by omega
    rw [e0]
    refine q_iload_n eX12_elementOf_9 rfl ?_
    refine q_if_lt (tgt := 30) eX12_elementOf_10 (by decide) (by first | assumption | exact ⟨by omega, by omega⟩) (fun c10 => ?_) (fun c10 => ?_)
    · exact absurd c10 (by omega)
    · refine q_iload_n eX12_elementOf_13 rfl ?_
      refine q_aload_n eX12_elementOf_14 rfl ?_
      refine q_getfield eX12_elementOf_15 gf_X12_22 (hK _ (by decide) (by decide)) (by decide) (by first | assumption) ?_
      refine q_imul eX12_elementOf_18 ?_
      refine q_aload_n eX12_elementOf_19 rfl ?_
      refine q_iload_n eX12_elementOf_20 rfl ?_
      refine q_iald eX12_elementOf_21 hk (by omega) (by omega) ?_
      refine q_iadd eX12_elementOf_22 ?_
      refine q_istore_n eX12_elementOf_23 (by decide) rfl ?_
      refine q_iinc eX12_elementOf_24 rfl (by decide) rfl ?_
      refine q_goto (tgt := 9) eX12_elementOf_27 (by decide) ?_
      have h := ih (k + 1) (by omega)
      rw [un_shift] at h
      have e1 : un m k (fun j => A a (i + 1 + j)) * m + A a (i : Int).toNat = A a i % m + m * un m k (fun j => A a (i + 1 + j)) := by
        rw [Int.mul_comm, Int.add_comm, Int.emod_eq_of_lt hv.1 hv.2]; rfl
      have e2 : (i : Int) + -1 = (i : Int) - 1 := by omega
      rw [e1, e2]
      exact h
set_option maxRecDepth 20000 in
theorem mo_elem {m : Int} {r a n : Nat} {F : HF} {A : HA} {al : AL} (hK : KM al) (hm : F 44 4 = vI m) (hr : F 44 3 = vI r) (hm2 : 2 ≤ m) (hm3 : m < 2147483648) (hk : al.1 a = (0, n)) (hn : n < 2147483648) (hrn : r ≤ n) (hA : ∀ j, j < r → 0 ≤ A a j ∧ A a j < m) : QE 0 0 0 mX12_elementOf [vA 44, vA a] F A al (PI (un m r (A a)) F A al) := by
  refine QE.mk (by decide +kernel) (Nat.le_of_ble_eq_true rfl) ?_
  refine q_iconst eX12_elementOf_0 ?_
  refine q_istore_n eX12_elementOf_1 (by decide) rfl ?_
  refine q_aload_n eX12_elementOf_2 rfl ?_
  refine q_getfield eX12_elementOf_3 gf_X12_19 (hK _ (by decide) (by decide)) (by decide) (by first | assumption) ?_
  refine q_iconst eX12_elementOf_6 ?_
  refine q_isub eX12_elementOf_7 ?_
  refine q_istore_n eX12_elementOf_8 (by decide) rfl ?_
  exact lp_elem hK hm hr hm2 hm3 hk hn hrn hA r 0 (by omega)
set_option maxRecDepth 20000 in
theorem lp_added {x y b : Int} {m : Int} {r : Nat} {f : Nat → Int} {F : HF} {A0 : HA} {al : AL} (hK : KM al) (hX : MR F) (hG : GM m r f F A0) (hb : b = 1 ∨ b = -1) : ∀ (k i : Nat) (A : HA), i + k = r → Off [51, 52] A0 A → (∀ j, j < i → A 51 j = (dg m j x + b * dg m j y) % m) → (∀ j, i ≤ j → j < r → A 51 j = dg m j x) → (∀ j, j < r → A 52 j = dg m j y) →
    QW mX12_added 1 0 0 (PQ (un m r (fun i => dg m i x + b * dg m i y)) F al (fun A2 => Off [51, 52] A0 A2)) 0 0 21 [some (vA 44), some (vI x), some (vI y), some (vI b), some (vI i)] [] F A al := by
  obtain ⟨hm, hr, hf, hm2, hr1, hr6, hN4⟩ := id hG
  have hm4 := hG.m4
  intro k
  induction k with
  | zero =>
    intro i A hi ho h1 h2 h3
    have ei : i = r := by omega
    subst ei
    refine q_iload eX12_added_21 rfl ?_
    refine q_aload_n eX12_added_23 rfl ?_
    refine q_getfield eX12_added_24 gf_X12_19 (hK _ (by decide) (by decide)) (by decide) (by first | assumption) ?_
    refine q_icmp_ge (tgt := 67) eX12_added_27 (by decide) (by first | assumption | exact ⟨by omega, by omega⟩) (by first | assumption | exact ⟨by omega, by omega⟩) (fun c27 => ?_) (fun c27 => ?_)
    · refine q_aload_n eX12_added_67 rfl ?_
      refine q_aload_n eX12_added_68 rfl ?_
      refine q_getfield eX12_added_69 gf_X12_50 (hK _ (by decide) (by decide)) (by decide) (mr_44_14 hX) ?_
      refine q_callVP [vA 51] (M1 := mX12_elementOf) eX12_added_72 mf_X12_elementOf lk_X12_126 (hK _ (by decide) (by decide)) (mo_elem hK hm hr hm2 (by omega) (hK _ (by decide) (by decide)) (by decide) (by omega) (fun j hj => by rw [h1 j hj]; exact ⟨Int.emod_nonneg _ (by omega), Int.emod_lt_of_pos _ (by omega)⟩)) (by decide) (by decide) (by decide) (Nat.le_of_ble_eq_true rfl) rfl ?_
      refine q_retI eX12_added_75 rfl (by decide) (by decide) ?_
      refine ⟨?_, rfl, rfl, ho⟩
      rw [show un m i (A 51) = un m i (fun j => dg m j x + b * dg m j y) from un_congr fun j hj => by rw [h1 j hj, Int.emod_emod]]
    · exact absurd c27 (by omega)
  | succ k ih =>
    intro i A hi ho h1 h2 h3
    have hx := dg_range (m := m) (by omega) i x
    have hy := dg_range (m := m) (by omega) i y
    have hbr : -4096 ≤ b * dg m i y ∧ b * dg m i y ≤ 4096 := by
      rcases hb with rfl | rfl
      · rw [Int.one_mul]; omega
      · rw [Int.neg_mul, Int.one_mul]; omega
    refine q_iload eX12_added_21 rfl ?_
    refine q_aload_n eX12_added_23 rfl ?_
    refine q_getfield eX12_added_24 gf_X12_19 (hK _ (by decide) (by decide)) (by decide) (by first | assumption) ?_
    refine q_icmp_ge (tgt := 67) eX12_added_27 (by decide) (by first | assumption | exact ⟨by omega, by omega⟩) (by first | assumption | exact ⟨by omega, by omega⟩) (fun c27 => ?_) (fun c27 => ?_)
    · exact absurd c27 (by omega)
    · refine q_aload_n eX12_added_30 rfl ?_
      refine q_getfield eX12_added_31 gf_X12_50 (hK _ (by decide) (by decide)) (by decide) (mr_44_14 hX) ?_
      refine q_iload eX12_added_34 rfl ?_
      refine q_aload_n eX12_added_36 rfl ?_
      refine q_getfield eX12_added_37 gf_X12_50 (hK _ (by decide) (by decide)) (by decide) (mr_44_14 hX) ?_
      refine q_iload eX12_added_40 rfl ?_
      refine q_iald eX12_added_42 (hK _ (by decide) (by decide)) (by omega) (by omega) ?_
      rw [show A 51 (i : Int).toNat = dg m i x from h2 i (Nat.le_refl _) (by omega)]
      refine q_iload_n eX12_added_43 rfl ?_
      refine q_aload_n eX12_added_44 rfl ?_
      refine q_getfield eX12_added_45 gf_X12_53 (hK _ (by decide) (by decide)) (by decide) (mr_44_15 hX) ?_
      refine q_iload eX12_added_48 rfl ?_
      refine q_iald eX12_added_50 (hK _ (by decide) (by decide)) (by omega) (by omega) ?_
      rw [show A 52 (i : Int).toNat = dg m i y from h3 i (by omega)]
      refine q_imul eX12_added_51 ?_
      refine q_iadd eX12_added_52 ?_
      refine q_aload_n eX12_added_53 rfl ?_
      refine q_getfield eX12_added_54 gf_X12_22 (hK _ (by decide) (by decide)) (by decide) (by first | assumption) ?_
      refine q_callSP [vI (dg m i x + b * dg m i y), vI m] (M1 := mJ9_floorMod_7cf53) eX12_added_57 mf_J9_floorMod_7cf53 lk_X12_109 (ev_floorMod (by exact ⟨by omega, by omega⟩) (by omega) (by omega)) (by decide) (by decide) (by decide) (Nat.le_of_ble_eq_true rfl) rfl ?_
      refine q_iast eX12_added_60 (hK _ (by decide) (by decide)) (by omega) (by omega) ?_
      refine q_iinc eX12_added_61 rfl (by decide) rfl ?_
      refine q_goto (tgt := 21) eX12_added_64 (by decide) ?_
      refine ih (i + 1) _ (by omega) (ho.trans (Off.up (by simp))) (fun j hj => ?_) (fun j hj hj2 => ?_) (fun j hj => ?_)
      · rw [up2_at]
        split
        · next he => rw [show j = i from he]
        · next hne => exact h1 j (by have : j ≠ i := hne; omega)
      · rw [up2_at, if_neg (by show ¬ j = i; omega)]
        exact h2 j (by omega) hj2
      · rw [up2_row (by decide)]
        exact h3 j hj
set_option maxRecDepth 20000 in
theorem mo_added {x y b : Int} {m : Int} {r : Nat} {f : Nat → Int} {F : HF} {A : HA} {al : AL} (hK : KM al) (hX : MR F) (hG : GM m r f F A) (hb : b = 1 ∨ b = -1) (hx : El m r x) (hy : El m r y) : QE 1 0 0 mX12_added [vA 44, vI x, vI y, vI b] F A al (PQ (un m r (fun i => dg m i x + b * dg m i y)) F al (fun A2 => Off [51, 52] A A2)) := by
  refine QE.mk (by decide +kernel) (Nat.le_of_ble_eq_true rfl) ?_
  obtain ⟨hm, hr, hf, hm2, hr1, hr6, hN4⟩ := id hG
  have hm4 := hG.m4
  have hxl := hx.lt hN4
  have hyl := hy.lt hN4
  refine q_aload_n eX12_added_0 rfl ?_
  refine q_aload_n eX12_added_1 rfl ?_
  refine q_getfield eX12_added_2 gf_X12_50 (hK _ (by decide) (by decide)) (by decide) (mr_44_14 hX) ?_
  refine q_iload_n eX12_added_5 rfl ?_
  refine q_callVV [vA 51, vI x] (M1 := mX12_lays) eX12_added_6 mf_X12_lays lk_X12_122 (hK _ (by decide) (by decide)) (mo_lays hK hm hr hm2 (by omega) (hK _ (by decide) (by decide)) (by omega) (by decide) hx.1 (by omega)) (by decide) (by decide) (by decide) (Nat.le_of_ble_eq_true rfl) rfl (fun A3 h3 => ?_)
  obtain ⟨o3, v3, -⟩ := h3
  refine q_aload_n eX12_added_9 rfl ?_
  refine q_aload_n eX12_added_10 rfl ?_
  refine q_getfield eX12_added_11 gf_X12_53 (hK _ (by decide) (by decide)) (by decide) (mr_44_15 hX) ?_
  refine q_iload_n eX12_added_14 rfl ?_
  refine q_callVV [vA 52, vI y] (M1 := mX12_lays) eX12_added_15 mf_X12_lays lk_X12_122 (hK _ (by decide) (by decide)) (mo_lays hK hm hr hm2 (by omega) (hK _ (by decide) (by decide)) (by omega) (by decide) hy.1 (by omega)) (by decide) (by decide) (by decide) (Nat.le_of_ble_eq_true rfl) rfl (fun A4 h4 => ?_)
  obtain ⟨o4, v4, -⟩ := h4
  refine q_iconst eX12_added_18 ?_
  refine q_istore eX12_added_19 (by decide) rfl ?_
  have oo := (o3.mono (l' := [51, 52]) (by simp)).trans (o4.mono (l' := [51, 52]) (by simp))
  exact lp_added (x := x) (y := y) hK hX hG hb r 0 A4 (by omega) oo (fun j hj => by omega) (fun j _ hj => by rw [o4 51 (by decide)]; exact v3 j hj) v4
