/-! RootedRing: calls that change nothing -/
theorem ir_ite {P : Prop} [Decidable P] : InR (if P then 1 else 0) := by
  split <;> exact ⟨by decide, by decide⟩
theorem i1 {P : Prop} [Decidable P] (h : (if P then (1 : Int) else 0) ≠ 0) : P := by
  by_cases hp : P
  · exact hp
  · exact absurd (if_neg hp) h
theorem i0 {P : Prop} [Decidable P] (h : (if P then (1 : Int) else 0) = 0) : ¬ P := by
  intro hp
  rw [if_pos hp] at h
  exact absurd h (by decide)
theorem i1n {P : Prop} [Decidable P] (h : (if P then (0 : Int) else 1) ≠ 0) : ¬ P := by
  intro hp
  exact h (if_pos hp)
theorem i0n {P : Prop} [Decidable P] (h : (if P then (0 : Int) else 1) = 0) : P := by
  by_cases hp : P
  · exact hp
  · rw [if_neg hp] at h
    exact absurd h (by decide)
theorem ir_iten {P : Prop} [Decidable P] : InR (if P then 0 else 1) := by
  split <;> exact ⟨by decide, by decide⟩
theorem PXP_r {E : String} {R : Option Int} {a : Int} {F : HF} {A A' : HA} {al : AL} (h : R = some a) (ho : Off [13, 14, 15, 18] A A') : PXP E R F A al (.inl (some a)) F A' al := ⟨by rw [h]; rfl, rfl, rfl, ho⟩
theorem PXP_t {E : String} {R : Option Int} {F : HF} {A A' : HA} {al : AL} (h : R = none) (ho : Off [13, 14, 15, 18] A A') : PXP E R F A al (.inr E) F A' al := ⟨by rw [h]; rfl, rfl, rfl, ho⟩
theorem Off.s34 {A A' : HA} (h : Off [13, 14, 15] A A') : Off [13, 14, 15, 18] A A' := h.mono (by simp)
def dvE (r : Nat) : Nat := ctn (fun i => decide (r % (i + 1) = 0)) r
set_option maxRecDepth 20000 in
theorem lp_divisors {r : Nat} {F : HF} {A : HA} {al : AL} (hr : r ≤ 6) : ∀ (k i : Nat), i + k = r →
    QW mX11_divisors 1 0 0 (PI (dvE r : Nat) F A al) 0 0 4 [some (vI r), some (vI (ctn (fun i => decide (r % (i + 1) = 0)) i : Nat)), some (vI ((i : Int) + 1))] [] F A al := by
  intro k
  induction k with
  | zero =>
    intro i hi
    have ei : i = r := by omega
    subst ei
    have hc := ctn_le (fun j => decide (i % (j + 1) = 0)) i
    refine q_iload_n eX11_divisors_4 rfl ?_
    refine q_iload_n eX11_divisors_5 rfl ?_
    refine q_icmp_gt (tgt := 31) eX11_divisors_6 (by decide) (by first | assumption | exact ⟨by omega, by omega⟩) (by first | assumption | exact ⟨by omega, by omega⟩) (fun c6 => ?_) (fun c6 => ?_)
    · refine q_iload_n eX11_divisors_31 rfl ?_
      refine q_retI eX11_divisors_32 rfl (by decide) (by decide) ?_
      exact PI_ok rfl
    · exact absurd c6 (by omega)
  | succ k ih =>
    intro i hi
    have hc := ctn_le (fun j => decide (r % (j + 1) = 0)) i
    have hb := ih (i + 1) (by omega)
    have em : ((r : Int) % ((i : Int) + 1)) = ((r % (i + 1) : Nat) : Int) := by simp
    have hmr : r % (i + 1) ≤ r := Nat.mod_le _ _
    refine q_iload_n eX11_divisors_4 rfl ?_
    refine q_iload_n eX11_divisors_5 rfl ?_
    refine q_icmp_gt (tgt := 31) eX11_divisors_6 (by decide) (by first | assumption | exact ⟨by omega, by omega⟩) (by first | assumption | exact ⟨by omega, by omega⟩) (fun c6 => ?_) (fun c6 => ?_)
    · exact absurd c6 (by omega)
    · refine q_iload_n eX11_divisors_9 rfl ?_
      refine q_iload_n eX11_divisors_10 rfl ?_
      refine q_iload_n eX11_divisors_11 rfl ?_
      refine q_callSP [vI r, vI ((i : Int) + 1)] (M1 := mX7_remainder) eX11_divisors_12 mf_X7_remainder lk_X11_238 (ev_remP (by omega) (by omega) (by omega) (by omega)) (by decide) (by decide) (by decide) (Nat.le_of_ble_eq_true rfl) rfl ?_
      rw [em]
      refine q_if_ne (tgt := 22) eX11_divisors_15 (by decide) (by first | assumption | exact ⟨by omega, by omega⟩) (fun c15 => ?_) (fun c15 => ?_)
      · refine q_iconst eX11_divisors_22 ?_
        refine q_iadd eX11_divisors_23 ?_
        refine q_istore_n eX11_divisors_24 (by decide) rfl ?_
        refine q_iinc eX11_divisors_25 rfl (by decide) rfl ?_
        refine q_goto (tgt := 4) eX11_divisors_28 (by decide) ?_
        first
        | (rw [ctn_yes (by rw [decide_eq_true_eq]; omega)] at hb
           exact hb)
        | (rw [ctn_no (by rw [decide_eq_true_eq]; omega)] at hb
           rw [show ((ctn (fun i => decide (r % (i + 1) = 0)) i : Nat) : Int) + 0 = ((ctn (fun i => decide (r % (i + 1) = 0)) i : Nat) : Int) by omega]
           exact hb)
      · refine q_iconst eX11_divisors_18 ?_
        refine q_goto (tgt := 23) eX11_divisors_19 (by decide) ?_
        refine q_iadd eX11_divisors_23 ?_
        refine q_istore_n eX11_divisors_24 (by decide) rfl ?_
        refine q_iinc eX11_divisors_25 rfl (by decide) rfl ?_
        refine q_goto (tgt := 4) eX11_divisors_28 (by decide) ?_
        first
        | (rw [ctn_yes (by rw [decide_eq_true_eq]; omega)] at hb
           exact hb)
        | (rw [ctn_no (by rw [decide_eq_true_eq]; omega)] at hb
           rw [show ((ctn (fun i => decide (r % (i + 1) = 0)) i : Nat) : Int) + 0 = ((ctn (fun i => decide (r % (i + 1) = 0)) i : Nat) : Int) by omega]
           exact hb)
theorem ev_divisors {r : Nat} {F : HF} {A : HA} {al : AL} (hr : r ≤ 6) : QE 1 0 0 mX11_divisors [vI r] F A al (PI (dvE r : Nat) F A al) := by
  refine QE.mk (by decide +kernel) (Nat.le_of_ble_eq_true rfl) ?_
  refine q_iconst eX11_divisors_0 ?_
  refine q_istore_n eX11_divisors_1 (by decide) rfl ?_
  refine q_iconst eX11_divisors_2 ?_
  refine q_istore_n eX11_divisors_3 (by decide) rfl ?_
  exact lp_divisors hr r 0 (by omega)
theorem ev_canStand {d i : Int} {e q : Nat} {F : HF} {A : HA} {al : AL} (hK : KX al) (hX : XF F) (he : F 2 1 = vI e) (he4 : e ≤ 4) (hq : F 2 4 = vI q) (hq3 : q ≤ 3125) (hd : InR d) (hi : InR i) : QE 1 0 0 mX11_canStand [vA 1, vI d, vI i] F A al (PI (if d = -1 ∨ i < (e : Int) ∧ 0 ≤ d ∧ d ≤ (q : Int) - 2 then 1 else 0) F A al) := by
  refine QE.mk (by decide +kernel) (Nat.le_of_ble_eq_true rfl) ?_
  refine q_iload_n eX11_canStand_0 rfl ?_
  refine q_iconst eX11_canStand_1 ?_
  refine q_icmp_eq (tgt := 33) eX11_canStand_2 (by decide) (by first | assumption | exact ⟨by omega, by omega⟩) (by first | assumption | exact ⟨by omega, by omega⟩) (fun c2 => ?_) (fun c2 => ?_)
  · refine q_iconst eX11_canStand_33 ?_
    refine q_goto (tgt := 38) eX11_canStand_34 (by decide) ?_
    refine q_retZ eX11_canStand_38 rfl (by first | exact Or.inl rfl | exact Or.inr rfl | assumption) (by decide) (by decide) ?_
    refine PI_ok ?_
    first | rw [if_pos (by omega)] | rw [if_neg (by omega)]
  · refine q_iload_n eX11_canStand_5 rfl ?_
    refine q_aload_n eX11_canStand_6 rfl ?_
    refine q_getfield eX11_canStand_7 gf_X11_10 (hK _ (by decide) (by decide)) (by decide) (xf_1_0 hX) ?_
    refine q_getfield eX11_canStand_10 gf_X11_134 (hK _ (by decide) (by decide)) (by decide) (by first | assumption) ?_
    refine q_icmp_ge (tgt := 37) eX11_canStand_13 (by decide) (by first | assumption | exact ⟨by omega, by omega⟩) (by first | assumption | exact ⟨by omega, by omega⟩) (fun c13 => ?_) (fun c13 => ?_)
    · refine q_iconst eX11_canStand_37 ?_
      refine q_retZ eX11_canStand_38 rfl (by first | exact Or.inl rfl | exact Or.inr rfl | assumption) (by decide) (by decide) ?_
      refine PI_ok ?_
      first | rw [if_pos (by omega)] | rw [if_neg (by omega)]
    · refine q_iload_n eX11_canStand_16 rfl ?_
      refine q_if_lt (tgt := 37) eX11_canStand_17 (by decide) (by first | assumption | exact ⟨by omega, by omega⟩) (fun c17 => ?_) (fun c17 => ?_)
      · refine q_iconst eX11_canStand_37 ?_
        refine q_retZ eX11_canStand_38 rfl (by first | exact Or.inl rfl | exact Or.inr rfl | assumption) (by decide) (by decide) ?_
        refine PI_ok ?_
        first | rw [if_pos (by omega)] | rw [if_neg (by omega)]
      · refine q_iload_n eX11_canStand_20 rfl ?_
        refine q_aload_n eX11_canStand_21 rfl ?_
        refine q_getfield eX11_canStand_22 gf_X11_10 (hK _ (by decide) (by decide)) (by decide) (xf_1_0 hX) ?_
        refine q_getfield eX11_canStand_25 gf_X11_143 (hK _ (by decide) (by decide)) (by decide) (by first | assumption) ?_
        refine q_iconst eX11_canStand_28 ?_
        refine q_isub eX11_canStand_29 ?_
        refine q_icmp_gt (tgt := 37) eX11_canStand_30 (by decide) (by first | assumption | exact ⟨by omega, by omega⟩) (by first | assumption | exact ⟨by omega, by omega⟩) (fun c30 => ?_) (fun c30 => ?_)
        · refine q_iconst eX11_canStand_37 ?_
          refine q_retZ eX11_canStand_38 rfl (by first | exact Or.inl rfl | exact Or.inr rfl | assumption) (by decide) (by decide) ?_
          refine PI_ok ?_
          first | rw [if_pos (by omega)] | rw [if_neg (by omega)]
        · refine q_iconst eX11_canStand_33 ?_
          refine q_goto (tgt := 38) eX11_canStand_34 (by decide) ?_
          refine q_retZ eX11_canStand_38 rfl (by first | exact Or.inl rfl | exact Or.inr rfl | assumption) (by decide) (by decide) ?_
          refine PI_ok ?_
          first | rw [if_pos (by omega)] | rw [if_neg (by omega)]
/-- the j-th number below N with P -/
def nth (P : Nat → Bool) : Nat → Nat → Int
  | 0, _ => -1
  | y + 1, j => if P y = true ∧ ctn P y = j then y else nth P y j
