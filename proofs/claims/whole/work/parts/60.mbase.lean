/-! the model: thrown, rows, sums -/
def GM (m : Int) (r : Nat) (f : Nat → Int) (F : HF) (A : HA) : Prop := F 44 4 = vI m ∧ F 44 3 = vI r ∧ (∀ i, i < r → A 45 i = f i ∧ 0 ≤ f i ∧ f i < m) ∧ 2 ≤ m ∧ 1 ≤ r ∧ r ≤ 6 ∧ m ^ r ≤ 4096
theorem GM.m4 {m : Int} {r : Nat} {f : Nat → Int} {F : HF} {A : HA} (h : GM m r f F A) : m ≤ 4096 := by
  obtain ⟨-, -, -, h2, h1, -, h4⟩ := h
  have := pow_ge (m := m) (by omega) h1
  omega
theorem GM.off {m : Int} {r : Nat} {f : Nat → Int} {F : HF} {A A2 : HA} {l : List Nat} (h : GM m r f F A) (ho : Off l A A2) (hl : 45 ∉ l) : GM m r f F A2 := by
  obtain ⟨h1, h2, h3, h4⟩ := h
  refine ⟨h1, h2, fun i hi => ?_, h4⟩
  rw [ho 45 hl]; exact h3 i hi
theorem GM.row {m : Int} {r : Nat} {f : Nat → Int} {F F2 : HF} {A : HA} (h : GM m r f F A) (h4 : F2 44 4 = F 44 4) (h3 : F2 44 3 = F 44 3) : GM m r f F2 A := ⟨by rw [h4]; exact h.1, by rw [h3]; exact h.2.1, h.2.2⟩
set_option maxRecDepth 20000 in
theorem mo_thrown {t : Int} {F : HF} {A : HA} {al : AL} (hK : KM al) (ht : F 44 0 = vI t) : QE 1 0 0 mX12_thrown [vA 44] F A al (PI t F A al) := by
  refine QE.mk (by decide +kernel) (Nat.le_of_ble_eq_true rfl) ?_
  refine q_aload_n dX12_thrown_0 rfl ?_
  refine q_getfield dX12_thrown_1 gf_X12_1 (hK _ (by decide) (by decide)) (by decide) (by first | assumption) ?_
  refine q_retI dX12_thrown_4 rfl (by decide) (by decide) ?_
  exact PI_ok rfl
def rgF (t b w : Int) (F : HF) : HF := if t = 0 ∧ b = 0 then up2 F 44 0 (vI w) else F
def PF1 (x : Int) (F' : HF) (A : HA) (al : AL) : PO := fun o F2 A2 al2 => o = .inl (some x) ∧ F2 = F' ∧ A2 = A ∧ al2 = al
theorem nt_PF1 {x : Int} {F' : HF} {A : HA} {al : AL} : NT (PF1 x F' A al) := by intro E F A al h; cases h.1
set_option maxRecDepth 20000 in
theorem mo_right1 {b w : Int} {F : HF} {A : HA} {al : AL} (hK : KM al) (ht : F 44 0 = vI 0) (hb : InR b) (hb1 : b ≠ 0) : QE 1 0 0 mX12_right [vA 44, vI b, vI w] F A al (PI 1 F A al) := by
  refine QE.mk (by decide +kernel) (Nat.le_of_ble_eq_true rfl) ?_
  refine q_aload_n dX12_right_0 rfl ?_
  refine q_getfield dX12_right_1 gf_X12_1 (hK _ (by decide) (by decide)) (by decide) (by first | assumption) ?_
  refine q_if_ne (tgt := 16) dX12_right_4 (by decide) (by first | assumption | exact ⟨by omega, by omega⟩) (fun c4 => ?_) (fun c4 => ?_)
  · exact absurd rfl c4
  · refine q_iload_n dX12_right_7 rfl ?_
    refine q_if_ne (tgt := 16) dX12_right_8 (by decide) (by first | assumption | exact ⟨by omega, by omega⟩) (fun c8 => ?_) (fun c8 => ?_)
    · refine q_aload_n dX12_right_16 rfl ?_
      refine q_getfield dX12_right_17 gf_X12_1 (hK _ (by decide) (by decide)) (by decide) (by first | assumption) ?_
      refine q_if_ne (tgt := 27) dX12_right_20 (by decide) (by first | assumption | exact ⟨by omega, by omega⟩) (fun c20 => ?_) (fun c20 => ?_)
      · exact absurd rfl c20
      · refine q_iconst dX12_right_23 ?_
        refine q_goto (tgt := 28) dX12_right_24 (by decide) ?_
        refine q_retZ dX12_right_28 rfl (by first | exact Or.inl rfl | exact Or.inr rfl | assumption) (by decide) (by decide) ?_
        exact PI_ok rfl
    · exact absurd (by omega) c8
set_option maxRecDepth 20000 in
theorem mo_right0 {w : Int} {F : HF} {A : HA} {al : AL} (hK : KM al) (ht : F 44 0 = vI 0) (hw : InR w) (hw0 : w ≠ 0) : QE 1 0 0 mX12_right [vA 44, vI 0, vI w] F A al (PF1 0 (up2 F 44 0 (vI w)) A al) := by
  refine QE.mk (by decide +kernel) (Nat.le_of_ble_eq_true rfl) ?_
  refine q_aload_n dX12_right_0 rfl ?_
  refine q_getfield dX12_right_1 gf_X12_1 (hK _ (by decide) (by decide)) (by decide) (by first | assumption) ?_
  refine q_if_ne (tgt := 16) dX12_right_4 (by decide) (by first | assumption | exact ⟨by omega, by omega⟩) (fun c4 => ?_) (fun c4 => ?_)
  · exact absurd rfl c4
  · refine q_iload_n dX12_right_7 rfl ?_
    refine q_if_ne (tgt := 16) dX12_right_8 (by decide) (by first | assumption | exact ⟨by omega, by omega⟩) (fun c8 => ?_) (fun c8 => ?_)
    · exact absurd rfl c8
    · refine q_aload_n dX12_right_11 rfl ?_
      refine q_iload_n dX12_right_12 rfl ?_
      refine q_putfield dX12_right_13 pf_X12_1 (hK _ (by decide) (by decide)) (by decide) (FT_i rfl) ?_
      refine q_aload_n dX12_right_16 rfl ?_
      refine q_getfield dX12_right_17 gf_X12_1 (hK _ (by decide) (by decide)) (by decide) (up2_eq _ _ _ _) ?_
      refine q_if_ne (tgt := 27) dX12_right_20 (by decide) (by first | assumption | exact ⟨by omega, by omega⟩) (fun c20 => ?_) (fun c20 => ?_)
      · refine q_iconst dX12_right_27 ?_
        refine q_retZ dX12_right_28 rfl (by first | exact Or.inl rfl | exact Or.inr rfl | assumption) (by decide) (by decide) ?_
        exact ⟨rfl, rfl, rfl, rfl⟩
      · exact absurd (by omega) c20
set_option maxRecDepth 20000 in
theorem mo_isIn {v lo hi : Int} {F : HF} {A : HA} {al : AL} (hv : InL v) (hl : InL lo) (hh : InL hi) : QE 1 0 0 mX12_isIn [vJ v, vJ lo, vJ hi] F A al (PI (if lo ≤ v ∧ v ≤ hi then 1 else 0) F A al) := by
  refine QE.mk (by decide +kernel) (Nat.le_of_ble_eq_true rfl) ?_
  refine q_lload_n dX12_isIn_0 rfl ?_
  refine q_lload_n dX12_isIn_1 rfl ?_
  refine q_lcmp dX12_isIn_2 hv hl  ?_
  refine q_if_lt (tgt := 17) dX12_isIn_3 (by decide) (by unfold sgn; repeat' split
      all_goals exact ⟨by decide, by decide⟩) (fun c3 => ?_) (fun c3 => ?_)
  · refine q_iconst dX12_isIn_17 ?_
    refine q_retZ dX12_isIn_18 rfl (by first | exact Or.inl rfl | exact Or.inr rfl | assumption) (by decide) (by decide) ?_
    refine PI_ok ?_
    first | rw [if_pos (by omega)] | rw [if_neg (by omega)]
  · refine q_lload_n dX12_isIn_6 rfl ?_
    refine q_lload dX12_isIn_7 rfl ?_
    refine q_lcmp dX12_isIn_9 hv hh  ?_
    refine q_if_gt (tgt := 17) dX12_isIn_10 (by decide) (by unfold sgn; repeat' split
        all_goals exact ⟨by decide, by decide⟩) (fun c10 => ?_) (fun c10 => ?_)
    · refine q_iconst dX12_isIn_17 ?_
      refine q_retZ dX12_isIn_18 rfl (by first | exact Or.inl rfl | exact Or.inr rfl | assumption) (by decide) (by decide) ?_
      refine PI_ok ?_
      first | rw [if_pos (by omega)] | rw [if_neg (by omega)]
    · refine q_iconst dX12_isIn_13 ?_
      refine q_goto (tgt := 18) dX12_isIn_14 (by decide) ?_
      refine q_retZ dX12_isIn_18 rfl (by first | exact Or.inl rfl | exact Or.inr rfl | assumption) (by decide) (by decide) ?_
      refine PI_ok ?_
      first | rw [if_pos (by omega)] | rw [if_neg (by omega)]
