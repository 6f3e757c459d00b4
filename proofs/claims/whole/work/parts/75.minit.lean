/-! the model: made; rings, places, bytes, codes, words told -/
set_option maxRecDepth 20000 in
set_option maxHeartbeats 4000000 in
theorem mo_init {f : Nat → Int} {g : Int} {F : HF} {A : HA} {K : Nat → Nat × Nat} (hk : K 44 = (20, 54)) (hF19 : F 44 19 = vI 0) (hF20 : F 44 20 = vI 0) (hF21 : F 44 21 = vI 0) (hF22 : F 44 22 = vI 0) (hF23 : F 44 23 = vI 0) (hF24 : F 44 24 = vI 0) (hF25 : F 44 25 = vI 0) (hF26 : F 44 26 = vI 0) (hF28 : F 44 28 = vI 0) (hF29 : F 44 29 = vI 0) (hF52 : F 44 52 = vI 0) (hR : RM 2 1 1 f g) : QE 9 23 22410 mX12_init [vA 44] F A (K, 45) (fun o F' A' al' => o = .inl none ∧ 67 ≤ al'.2 ∧ KM al' ∧ (∀ b, b < 44 → al'.1 b = K b) ∧ (∀ b, b ≠ 44 → F' b = F b) ∧ (∀ b, b < 44 → A' b = A b) ∧ MI 2 1 1 (2 ^ 1) (2 ^ (1 * 1)) (((2 : Nat) : Int) ^ 1) f g (fun j => tcE 2 1 1 (2 ^ 1) (((2 : Nat) : Int) ^ 1) f j) (lgE 2 1 (((2 : Nat) : Int) ^ 1) f g (2 ^ 1 - 1)) (fun _ => 0) 0 (fun _ => 0) (-1) 1 0 (cy1 2 1 1 f g).1 (cy1 2 1 1 f g).2.1 (cy1 2 1 1 f g).2.2 none [] F' A') := by
  refine QE.mk (by decide +kernel) (Nat.le_of_ble_eq_true rfl) ?_
  refine q_aload_n eX12_init_0 rfl ?_
  refine q_obj eX12_init_1 ob_X12_7 (by decide) (Nat.le_of_ble_eq_true rfl) ?_
  refine q_aload_n eX12_init_4 rfl ?_
  refine q_iconst eX12_init_5 ?_
  refine q_putfield eX12_init_6 pf_X12_13 hk (by decide) (FT_i rfl) ?_
  refine q_cut 45 rfl (fun F1 A1 K1 hF1 hA1 hK1 => ?_)
  have f1_44_19 : F1 44 19 = vI 0 := (congrFun (congrFun hF1 44) 19).trans hF19
  have f1_44_20 : F1 44 20 = vI 0 := (congrFun (congrFun hF1 44) 20).trans hF20
  have f1_44_21 : F1 44 21 = vI 0 := (congrFun (congrFun hF1 44) 21).trans hF21
  have f1_44_22 : F1 44 22 = vI 0 := (congrFun (congrFun hF1 44) 22).trans hF22
  have f1_44_23 : F1 44 23 = vI 0 := (congrFun (congrFun hF1 44) 23).trans hF23
  have f1_44_24 : F1 44 24 = vI 0 := (congrFun (congrFun hF1 44) 24).trans hF24
  have f1_44_25 : F1 44 25 = vI 0 := (congrFun (congrFun hF1 44) 25).trans hF25
  have f1_44_26 : F1 44 26 = vI 0 := (congrFun (congrFun hF1 44) 26).trans hF26
  have f1_44_28 : F1 44 28 = vI 0 := (congrFun (congrFun hF1 44) 28).trans hF28
  have f1_44_29 : F1 44 29 = vI 0 := (congrFun (congrFun hF1 44) 29).trans hF29
  have f1_44_52 : F1 44 52 = vI 0 := (congrFun (congrFun hF1 44) 52).trans hF52
  have k1_44 : K1 44 = (20, 54) := (hK1 44).trans hk
  have a1_0 : A1 0 = A 0 := (congrFun hA1 0).trans rfl
  have kb1 : ∀ b, b < 44 → K1 b = K b := fun b hb => (hK1 b).trans (rfl)
  have ab1 : ∀ b, b < 44 → A1 b = A b := fun b hb => (congrFun hA1 b).trans (rfl)
  have fb1 : ∀ b, b ≠ 44 → F1 b = F b := fun b hb => (congrFun hF1 b).trans ((up2_row hb).trans (rfl))
  clear hF1 hA1 hK1
  refine q_aload_n eX12_init_9 rfl ?_
  refine q_iconst eX12_init_10 ?_
  refine q_putfield eX12_init_11 pf_X12_16 k1_44 (by decide) (FT_i rfl) ?_
  refine q_cut 45 rfl (fun F2 A2 K2 hF2 hA2 hK2 => ?_)
  have f2_44_19 : F2 44 19 = vI 0 := (congrFun (congrFun hF2 44) 19).trans f1_44_19
  have f2_44_20 : F2 44 20 = vI 0 := (congrFun (congrFun hF2 44) 20).trans f1_44_20
  have f2_44_21 : F2 44 21 = vI 0 := (congrFun (congrFun hF2 44) 21).trans f1_44_21
  have f2_44_22 : F2 44 22 = vI 0 := (congrFun (congrFun hF2 44) 22).trans f1_44_22
  have f2_44_23 : F2 44 23 = vI 0 := (congrFun (congrFun hF2 44) 23).trans f1_44_23
  have f2_44_24 : F2 44 24 = vI 0 := (congrFun (congrFun hF2 44) 24).trans f1_44_24
  have f2_44_25 : F2 44 25 = vI 0 := (congrFun (congrFun hF2 44) 25).trans f1_44_25
  have f2_44_26 : F2 44 26 = vI 0 := (congrFun (congrFun hF2 44) 26).trans f1_44_26
  have f2_44_28 : F2 44 28 = vI 0 := (congrFun (congrFun hF2 44) 28).trans f1_44_28
  have f2_44_29 : F2 44 29 = vI 0 := (congrFun (congrFun hF2 44) 29).trans f1_44_29
  have f2_44_52 : F2 44 52 = vI 0 := (congrFun (congrFun hF2 44) 52).trans f1_44_52
  have k2_44 : K2 44 = (20, 54) := (hK2 44).trans k1_44
  have a2_0 : A2 0 = A 0 := (congrFun hA2 0).trans a1_0
  have kb2 : ∀ b, b < 44 → K2 b = K b := fun b hb => (hK2 b).trans (kb1 b hb)
  have ab2 : ∀ b, b < 44 → A2 b = A b := fun b hb => (congrFun hA2 b).trans (ab1 b hb)
  have fb2 : ∀ b, b ≠ 44 → F2 b = F b := fun b hb => (congrFun hF2 b).trans ((up2_row hb).trans (fb1 b hb))
  clear hF2 hA2 hK2
  refine q_aload_n eX12_init_14 rfl ?_
  refine q_iconst eX12_init_15 ?_
  refine q_putfield eX12_init_16 pf_X12_19 k2_44 (by decide) (FT_i rfl) ?_
  refine q_cut 45 rfl (fun F3 A3 K3 hF3 hA3 hK3 => ?_)
  have f3_44_19 : F3 44 19 = vI 0 := (congrFun (congrFun hF3 44) 19).trans f2_44_19
  have f3_44_20 : F3 44 20 = vI 0 := (congrFun (congrFun hF3 44) 20).trans f2_44_20
  have f3_44_21 : F3 44 21 = vI 0 := (congrFun (congrFun hF3 44) 21).trans f2_44_21
  have f3_44_22 : F3 44 22 = vI 0 := (congrFun (congrFun hF3 44) 22).trans f2_44_22
  have f3_44_23 : F3 44 23 = vI 0 := (congrFun (congrFun hF3 44) 23).trans f2_44_23
  have f3_44_24 : F3 44 24 = vI 0 := (congrFun (congrFun hF3 44) 24).trans f2_44_24
  have f3_44_25 : F3 44 25 = vI 0 := (congrFun (congrFun hF3 44) 25).trans f2_44_25
  have f3_44_26 : F3 44 26 = vI 0 := (congrFun (congrFun hF3 44) 26).trans f2_44_26
  have f3_44_28 : F3 44 28 = vI 0 := (congrFun (congrFun hF3 44) 28).trans f2_44_28
  have f3_44_29 : F3 44 29 = vI 0 := (congrFun (congrFun hF3 44) 29).trans f2_44_29
  have f3_44_52 : F3 44 52 = vI 0 := (congrFun (congrFun hF3 44) 52).trans f2_44_52
  have k3_44 : K3 44 = (20, 54) := (hK3 44).trans k2_44
  have a3_0 : A3 0 = A 0 := (congrFun hA3 0).trans a2_0
  have kb3 : ∀ b, b < 44 → K3 b = K b := fun b hb => (hK3 b).trans (kb2 b hb)
  have ab3 : ∀ b, b < 44 → A3 b = A b := fun b hb => (congrFun hA3 b).trans (ab2 b hb)
  have fb3 : ∀ b, b ≠ 44 → F3 b = F b := fun b hb => (congrFun hF3 b).trans ((up2_row hb).trans (fb2 b hb))
  clear hF3 hA3 hK3
  refine q_aload_n eX12_init_19 rfl ?_
  refine q_iconst eX12_init_20 ?_
  refine q_putfield eX12_init_21 pf_X12_22 k3_44 (by decide) (FT_i rfl) ?_
  refine q_cut 45 rfl (fun F4 A4 K4 hF4 hA4 hK4 => ?_)
  have f4_44_19 : F4 44 19 = vI 0 := (congrFun (congrFun hF4 44) 19).trans f3_44_19
  have f4_44_20 : F4 44 20 = vI 0 := (congrFun (congrFun hF4 44) 20).trans f3_44_20
  have f4_44_21 : F4 44 21 = vI 0 := (congrFun (congrFun hF4 44) 21).trans f3_44_21
  have f4_44_22 : F4 44 22 = vI 0 := (congrFun (congrFun hF4 44) 22).trans f3_44_22
  have f4_44_23 : F4 44 23 = vI 0 := (congrFun (congrFun hF4 44) 23).trans f3_44_23
  have f4_44_24 : F4 44 24 = vI 0 := (congrFun (congrFun hF4 44) 24).trans f3_44_24
  have f4_44_25 : F4 44 25 = vI 0 := (congrFun (congrFun hF4 44) 25).trans f3_44_25
  have f4_44_26 : F4 44 26 = vI 0 := (congrFun (congrFun hF4 44) 26).trans f3_44_26
  have f4_44_28 : F4 44 28 = vI 0 := (congrFun (congrFun hF4 44) 28).trans f3_44_28
  have f4_44_29 : F4 44 29 = vI 0 := (congrFun (congrFun hF4 44) 29).trans f3_44_29
  have f4_44_52 : F4 44 52 = vI 0 := (congrFun (congrFun hF4 44) 52).trans f3_44_52
  have k4_44 : K4 44 = (20, 54) := (hK4 44).trans k3_44
  have a4_0 : A4 0 = A 0 := (congrFun hA4 0).trans a3_0
  have kb4 : ∀ b, b < 44 → K4 b = K b := fun b hb => (hK4 b).trans (kb3 b hb)
  have ab4 : ∀ b, b < 44 → A4 b = A b := fun b hb => (congrFun hA4 b).trans (ab3 b hb)
  have fb4 : ∀ b, b ≠ 44 → F4 b = F b := fun b hb => (congrFun hF4 b).trans ((up2_row hb).trans (fb3 b hb))
  clear hF4 hA4 hK4
  refine q_aload_n eX12_init_24 rfl ?_
  refine q_iconst eX12_init_25 ?_
  refine q_putfield eX12_init_26 pf_X12_25 k4_44 (by decide) (FT_i rfl) ?_
  refine q_cut 45 rfl (fun F5 A5 K5 hF5 hA5 hK5 => ?_)
  have f5_44_19 : F5 44 19 = vI 0 := (congrFun (congrFun hF5 44) 19).trans f4_44_19
  have f5_44_20 : F5 44 20 = vI 0 := (congrFun (congrFun hF5 44) 20).trans f4_44_20
  have f5_44_21 : F5 44 21 = vI 0 := (congrFun (congrFun hF5 44) 21).trans f4_44_21
  have f5_44_22 : F5 44 22 = vI 0 := (congrFun (congrFun hF5 44) 22).trans f4_44_22
  have f5_44_23 : F5 44 23 = vI 0 := (congrFun (congrFun hF5 44) 23).trans f4_44_23
  have f5_44_24 : F5 44 24 = vI 0 := (congrFun (congrFun hF5 44) 24).trans f4_44_24
  have f5_44_25 : F5 44 25 = vI 0 := (congrFun (congrFun hF5 44) 25).trans f4_44_25
  have f5_44_26 : F5 44 26 = vI 0 := (congrFun (congrFun hF5 44) 26).trans f4_44_26
  have f5_44_28 : F5 44 28 = vI 0 := (congrFun (congrFun hF5 44) 28).trans f4_44_28
  have f5_44_29 : F5 44 29 = vI 0 := (congrFun (congrFun hF5 44) 29).trans f4_44_29
  have f5_44_52 : F5 44 52 = vI 0 := (congrFun (congrFun hF5 44) 52).trans f4_44_52
  have k5_44 : K5 44 = (20, 54) := (hK5 44).trans k4_44
  have a5_0 : A5 0 = A 0 := (congrFun hA5 0).trans a4_0
  have kb5 : ∀ b, b < 44 → K5 b = K b := fun b hb => (hK5 b).trans (kb4 b hb)
  have ab5 : ∀ b, b < 44 → A5 b = A b := fun b hb => (congrFun hA5 b).trans (ab4 b hb)
  have fb5 : ∀ b, b ≠ 44 → F5 b = F b := fun b hb => (congrFun hF5 b).trans ((up2_row hb).trans (fb4 b hb))
  clear hF5 hA5 hK5
  refine q_aload_n eX12_init_29 rfl ?_
  refine q_iconst eX12_init_30 ?_
  refine q_putfield eX12_init_31 pf_X12_28 k5_44 (by decide) (FT_i rfl) ?_
  refine q_cut 45 rfl (fun F6 A6 K6 hF6 hA6 hK6 => ?_)
  have f6_44_19 : F6 44 19 = vI 0 := (congrFun (congrFun hF6 44) 19).trans f5_44_19
  have f6_44_20 : F6 44 20 = vI 0 := (congrFun (congrFun hF6 44) 20).trans f5_44_20
  have f6_44_21 : F6 44 21 = vI 0 := (congrFun (congrFun hF6 44) 21).trans f5_44_21
  have f6_44_22 : F6 44 22 = vI 0 := (congrFun (congrFun hF6 44) 22).trans f5_44_22
  have f6_44_23 : F6 44 23 = vI 0 := (congrFun (congrFun hF6 44) 23).trans f5_44_23
  have f6_44_24 : F6 44 24 = vI 0 := (congrFun (congrFun hF6 44) 24).trans f5_44_24
  have f6_44_25 : F6 44 25 = vI 0 := (congrFun (congrFun hF6 44) 25).trans f5_44_25
  have f6_44_26 : F6 44 26 = vI 0 := (congrFun (congrFun hF6 44) 26).trans f5_44_26
  have f6_44_28 : F6 44 28 = vI 0 := (congrFun (congrFun hF6 44) 28).trans f5_44_28
  have f6_44_29 : F6 44 29 = vI 0 := (congrFun (congrFun hF6 44) 29).trans f5_44_29
  have f6_44_52 : F6 44 52 = vI 0 := (congrFun (congrFun hF6 44) 52).trans f5_44_52
  have k6_44 : K6 44 = (20, 54) := (hK6 44).trans k5_44
  have a6_0 : A6 0 = A 0 := (congrFun hA6 0).trans a5_0
  have kb6 : ∀ b, b < 44 → K6 b = K b := fun b hb => (hK6 b).trans (kb5 b hb)
  have ab6 : ∀ b, b < 44 → A6 b = A b := fun b hb => (congrFun hA6 b).trans (ab5 b hb)
  have fb6 : ∀ b, b ≠ 44 → F6 b = F b := fun b hb => (congrFun hF6 b).trans ((up2_row hb).trans (fb5 b hb))
  clear hF6 hA6 hK6
  refine q_aload_n eX12_init_34 rfl ?_
  refine q_bipush eX12_init_35 (by decide +kernel) ?_
  refine q_newa_I (N := 7) eX12_init_37 (by decide) (by decide) (by decide) ?_
  refine q_putF eX12_init_39 pf_X12_31 rfl k6_44 (by decide) (FT_a (Or.inr ⟨_, rfl⟩)) ?_
  refine q_cut 46 rfl (fun F7 A7 K7 hF7 hA7 hK7 => ?_)
  have f7_44_7 : F7 44 7 = vA 45 := (congrFun (congrFun hF7 44) 7).trans rfl
  have f7_44_19 : F7 44 19 = vI 0 := (congrFun (congrFun hF7 44) 19).trans f6_44_19
  have f7_44_20 : F7 44 20 = vI 0 := (congrFun (congrFun hF7 44) 20).trans f6_44_20
  have f7_44_21 : F7 44 21 = vI 0 := (congrFun (congrFun hF7 44) 21).trans f6_44_21
  have f7_44_22 : F7 44 22 = vI 0 := (congrFun (congrFun hF7 44) 22).trans f6_44_22
  have f7_44_23 : F7 44 23 = vI 0 := (congrFun (congrFun hF7 44) 23).trans f6_44_23
  have f7_44_24 : F7 44 24 = vI 0 := (congrFun (congrFun hF7 44) 24).trans f6_44_24
  have f7_44_25 : F7 44 25 = vI 0 := (congrFun (congrFun hF7 44) 25).trans f6_44_25
  have f7_44_26 : F7 44 26 = vI 0 := (congrFun (congrFun hF7 44) 26).trans f6_44_26
  have f7_44_28 : F7 44 28 = vI 0 := (congrFun (congrFun hF7 44) 28).trans f6_44_28
  have f7_44_29 : F7 44 29 = vI 0 := (congrFun (congrFun hF7 44) 29).trans f6_44_29
  have f7_44_52 : F7 44 52 = vI 0 := (congrFun (congrFun hF7 44) 52).trans f6_44_52
  have k7_44 : K7 44 = (20, 54) := (hK7 44).trans k6_44
  have k7_45 : K7 45 = (0, 7) := (hK7 45).trans rfl
  have a7_0 : A7 0 = A 0 := (congrFun hA7 0).trans a6_0
  have kb7 : ∀ b, b < 44 → K7 b = K b := fun b hb => (hK7 b).trans ((if_neg (by omega)).trans (kb6 b hb))
  have ab7 : ∀ b, b < 44 → A7 b = A b := fun b hb => (congrFun hA7 b).trans ((if_neg (by omega)).trans (ab6 b hb))
  have fb7 : ∀ b, b ≠ 44 → F7 b = F b := fun b hb => (congrFun hF7 b).trans ((up2_row hb).trans (fb6 b hb))
  clear hF7 hA7 hK7
  refine q_aload_n eX12_init_42 rfl ?_
  refine q_sipush eX12_init_43 (by decide +kernel) ?_
  refine q_newa_I (N := 4096) eX12_init_46 (by decide) (by decide) (by decide) ?_
  refine q_putF eX12_init_48 pf_X12_35 rfl k7_44 (by decide) (FT_a (Or.inr ⟨_, rfl⟩)) ?_
  refine q_cut 47 rfl (fun F8 A8 K8 hF8 hA8 hK8 => ?_)
  have f8_44_7 : F8 44 7 = vA 45 := (congrFun (congrFun hF8 44) 7).trans f7_44_7
  have f8_44_8 : F8 44 8 = vA 46 := (congrFun (congrFun hF8 44) 8).trans rfl
  have f8_44_19 : F8 44 19 = vI 0 := (congrFun (congrFun hF8 44) 19).trans f7_44_19
  have f8_44_20 : F8 44 20 = vI 0 := (congrFun (congrFun hF8 44) 20).trans f7_44_20
  have f8_44_21 : F8 44 21 = vI 0 := (congrFun (congrFun hF8 44) 21).trans f7_44_21
  have f8_44_22 : F8 44 22 = vI 0 := (congrFun (congrFun hF8 44) 22).trans f7_44_22
  have f8_44_23 : F8 44 23 = vI 0 := (congrFun (congrFun hF8 44) 23).trans f7_44_23
  have f8_44_24 : F8 44 24 = vI 0 := (congrFun (congrFun hF8 44) 24).trans f7_44_24
  have f8_44_25 : F8 44 25 = vI 0 := (congrFun (congrFun hF8 44) 25).trans f7_44_25
  have f8_44_26 : F8 44 26 = vI 0 := (congrFun (congrFun hF8 44) 26).trans f7_44_26
  have f8_44_28 : F8 44 28 = vI 0 := (congrFun (congrFun hF8 44) 28).trans f7_44_28
  have f8_44_29 : F8 44 29 = vI 0 := (congrFun (congrFun hF8 44) 29).trans f7_44_29
  have f8_44_52 : F8 44 52 = vI 0 := (congrFun (congrFun hF8 44) 52).trans f7_44_52
  have k8_44 : K8 44 = (20, 54) := (hK8 44).trans k7_44
  have k8_45 : K8 45 = (0, 7) := (hK8 45).trans k7_45
  have k8_46 : K8 46 = (0, 4096) := (hK8 46).trans rfl
  have a8_0 : A8 0 = A 0 := (congrFun hA8 0).trans a7_0
  have kb8 : ∀ b, b < 44 → K8 b = K b := fun b hb => (hK8 b).trans ((if_neg (by omega)).trans (kb7 b hb))
  have ab8 : ∀ b, b < 44 → A8 b = A b := fun b hb => (congrFun hA8 b).trans ((if_neg (by omega)).trans (ab7 b hb))
  have fb8 : ∀ b, b ≠ 44 → F8 b = F b := fun b hb => (congrFun hF8 b).trans ((up2_row hb).trans (fb7 b hb))
  clear hF8 hA8 hK8
  refine q_aload_n eX12_init_51 rfl ?_
  refine q_sipush eX12_init_52 (by decide +kernel) ?_
  refine q_newa_I (N := 4096) eX12_init_55 (by decide) (by decide) (by decide) ?_
  refine q_putF eX12_init_57 pf_X12_38 rfl k8_44 (by decide) (FT_a (Or.inr ⟨_, rfl⟩)) ?_
  refine q_cut 48 rfl (fun F9 A9 K9 hF9 hA9 hK9 => ?_)
  have f9_44_7 : F9 44 7 = vA 45 := (congrFun (congrFun hF9 44) 7).trans f8_44_7
  have f9_44_8 : F9 44 8 = vA 46 := (congrFun (congrFun hF9 44) 8).trans f8_44_8
  have f9_44_9 : F9 44 9 = vA 47 := (congrFun (congrFun hF9 44) 9).trans rfl
  have f9_44_19 : F9 44 19 = vI 0 := (congrFun (congrFun hF9 44) 19).trans f8_44_19
  have f9_44_20 : F9 44 20 = vI 0 := (congrFun (congrFun hF9 44) 20).trans f8_44_20
  have f9_44_21 : F9 44 21 = vI 0 := (congrFun (congrFun hF9 44) 21).trans f8_44_21
  have f9_44_22 : F9 44 22 = vI 0 := (congrFun (congrFun hF9 44) 22).trans f8_44_22
  have f9_44_23 : F9 44 23 = vI 0 := (congrFun (congrFun hF9 44) 23).trans f8_44_23
  have f9_44_24 : F9 44 24 = vI 0 := (congrFun (congrFun hF9 44) 24).trans f8_44_24
  have f9_44_25 : F9 44 25 = vI 0 := (congrFun (congrFun hF9 44) 25).trans f8_44_25
  have f9_44_26 : F9 44 26 = vI 0 := (congrFun (congrFun hF9 44) 26).trans f8_44_26
  have f9_44_28 : F9 44 28 = vI 0 := (congrFun (congrFun hF9 44) 28).trans f8_44_28
  have f9_44_29 : F9 44 29 = vI 0 := (congrFun (congrFun hF9 44) 29).trans f8_44_29
  have f9_44_52 : F9 44 52 = vI 0 := (congrFun (congrFun hF9 44) 52).trans f8_44_52
  have k9_44 : K9 44 = (20, 54) := (hK9 44).trans k8_44
  have k9_45 : K9 45 = (0, 7) := (hK9 45).trans k8_45
  have k9_46 : K9 46 = (0, 4096) := (hK9 46).trans k8_46
  have k9_47 : K9 47 = (0, 4096) := (hK9 47).trans rfl
  have a9_0 : A9 0 = A 0 := (congrFun hA9 0).trans a8_0
  have kb9 : ∀ b, b < 44 → K9 b = K b := fun b hb => (hK9 b).trans ((if_neg (by omega)).trans (kb8 b hb))
  have ab9 : ∀ b, b < 44 → A9 b = A b := fun b hb => (congrFun hA9 b).trans ((if_neg (by omega)).trans (ab8 b hb))
  have fb9 : ∀ b, b ≠ 44 → F9 b = F b := fun b hb => (congrFun hF9 b).trans ((up2_row hb).trans (fb8 b hb))
  clear hF9 hA9 hK9
  refine q_aload_n eX12_init_60 rfl ?_
  refine q_sipush eX12_init_61 (by decide +kernel) ?_
  refine q_newa_I (N := 4096) eX12_init_64 (by decide) (by decide) (by decide) ?_
  refine q_putF eX12_init_66 pf_X12_41 rfl k9_44 (by decide) (FT_a (Or.inr ⟨_, rfl⟩)) ?_
  refine q_cut 49 rfl (fun F10 A10 K10 hF10 hA10 hK10 => ?_)
  have f10_44_7 : F10 44 7 = vA 45 := (congrFun (congrFun hF10 44) 7).trans f9_44_7
  have f10_44_8 : F10 44 8 = vA 46 := (congrFun (congrFun hF10 44) 8).trans f9_44_8
  have f10_44_9 : F10 44 9 = vA 47 := (congrFun (congrFun hF10 44) 9).trans f9_44_9
  have f10_44_10 : F10 44 10 = vA 48 := (congrFun (congrFun hF10 44) 10).trans rfl
  have f10_44_19 : F10 44 19 = vI 0 := (congrFun (congrFun hF10 44) 19).trans f9_44_19
  have f10_44_20 : F10 44 20 = vI 0 := (congrFun (congrFun hF10 44) 20).trans f9_44_20
  have f10_44_21 : F10 44 21 = vI 0 := (congrFun (congrFun hF10 44) 21).trans f9_44_21
  have f10_44_22 : F10 44 22 = vI 0 := (congrFun (congrFun hF10 44) 22).trans f9_44_22
  have f10_44_23 : F10 44 23 = vI 0 := (congrFun (congrFun hF10 44) 23).trans f9_44_23
  have f10_44_24 : F10 44 24 = vI 0 := (congrFun (congrFun hF10 44) 24).trans f9_44_24
  have f10_44_25 : F10 44 25 = vI 0 := (congrFun (congrFun hF10 44) 25).trans f9_44_25
  have f10_44_26 : F10 44 26 = vI 0 := (congrFun (congrFun hF10 44) 26).trans f9_44_26
  have f10_44_28 : F10 44 28 = vI 0 := (congrFun (congrFun hF10 44) 28).trans f9_44_28
  have f10_44_29 : F10 44 29 = vI 0 := (congrFun (congrFun hF10 44) 29).trans f9_44_29
  have f10_44_52 : F10 44 52 = vI 0 := (congrFun (congrFun hF10 44) 52).trans f9_44_52
  have k10_44 : K10 44 = (20, 54) := (hK10 44).trans k9_44
  have k10_45 : K10 45 = (0, 7) := (hK10 45).trans k9_45
  have k10_46 : K10 46 = (0, 4096) := (hK10 46).trans k9_46
  have k10_47 : K10 47 = (0, 4096) := (hK10 47).trans k9_47
  have k10_48 : K10 48 = (0, 4096) := (hK10 48).trans rfl
  have a10_0 : A10 0 = A 0 := (congrFun hA10 0).trans a9_0
  have kb10 : ∀ b, b < 44 → K10 b = K b := fun b hb => (hK10 b).trans ((if_neg (by omega)).trans (kb9 b hb))
  have ab10 : ∀ b, b < 44 → A10 b = A b := fun b hb => (congrFun hA10 b).trans ((if_neg (by omega)).trans (ab9 b hb))
  have fb10 : ∀ b, b ≠ 44 → F10 b = F b := fun b hb => (congrFun hF10 b).trans ((up2_row hb).trans (fb9 b hb))
  clear hF10 hA10 hK10
  refine q_aload_n eX12_init_69 rfl ?_
  refine q_bipush eX12_init_70 (by decide +kernel) ?_
  refine q_newa_I (N := 8) eX12_init_72 (by decide) (by decide) (by decide) ?_
  refine q_putF eX12_init_74 pf_X12_44 rfl k10_44 (by decide) (FT_a (Or.inr ⟨_, rfl⟩)) ?_
  refine q_cut 50 rfl (fun F11 A11 K11 hF11 hA11 hK11 => ?_)
  have f11_44_7 : F11 44 7 = vA 45 := (congrFun (congrFun hF11 44) 7).trans f10_44_7
  have f11_44_8 : F11 44 8 = vA 46 := (congrFun (congrFun hF11 44) 8).trans f10_44_8
  have f11_44_9 : F11 44 9 = vA 47 := (congrFun (congrFun hF11 44) 9).trans f10_44_9
  have f11_44_10 : F11 44 10 = vA 48 := (congrFun (congrFun hF11 44) 10).trans f10_44_10
  have f11_44_12 : F11 44 12 = vA 49 := (congrFun (congrFun hF11 44) 12).trans rfl
  have f11_44_19 : F11 44 19 = vI 0 := (congrFun (congrFun hF11 44) 19).trans f10_44_19
  have f11_44_20 : F11 44 20 = vI 0 := (congrFun (congrFun hF11 44) 20).trans f10_44_20
  have f11_44_21 : F11 44 21 = vI 0 := (congrFun (congrFun hF11 44) 21).trans f10_44_21
  have f11_44_22 : F11 44 22 = vI 0 := (congrFun (congrFun hF11 44) 22).trans f10_44_22
  have f11_44_23 : F11 44 23 = vI 0 := (congrFun (congrFun hF11 44) 23).trans f10_44_23
  have f11_44_24 : F11 44 24 = vI 0 := (congrFun (congrFun hF11 44) 24).trans f10_44_24
  have f11_44_25 : F11 44 25 = vI 0 := (congrFun (congrFun hF11 44) 25).trans f10_44_25
  have f11_44_26 : F11 44 26 = vI 0 := (congrFun (congrFun hF11 44) 26).trans f10_44_26
  have f11_44_28 : F11 44 28 = vI 0 := (congrFun (congrFun hF11 44) 28).trans f10_44_28
  have f11_44_29 : F11 44 29 = vI 0 := (congrFun (congrFun hF11 44) 29).trans f10_44_29
  have f11_44_52 : F11 44 52 = vI 0 := (congrFun (congrFun hF11 44) 52).trans f10_44_52
  have k11_44 : K11 44 = (20, 54) := (hK11 44).trans k10_44
  have k11_45 : K11 45 = (0, 7) := (hK11 45).trans k10_45
  have k11_46 : K11 46 = (0, 4096) := (hK11 46).trans k10_46
  have k11_47 : K11 47 = (0, 4096) := (hK11 47).trans k10_47
  have k11_48 : K11 48 = (0, 4096) := (hK11 48).trans k10_48
  have k11_49 : K11 49 = (0, 8) := (hK11 49).trans rfl
  have a11_0 : A11 0 = A 0 := (congrFun hA11 0).trans a10_0
  have kb11 : ∀ b, b < 44 → K11 b = K b := fun b hb => (hK11 b).trans ((if_neg (by omega)).trans (kb10 b hb))
  have ab11 : ∀ b, b < 44 → A11 b = A b := fun b hb => (congrFun hA11 b).trans ((if_neg (by omega)).trans (ab10 b hb))
  have fb11 : ∀ b, b ≠ 44 → F11 b = F b := fun b hb => (congrFun hF11 b).trans ((up2_row hb).trans (fb10 b hb))
  clear hF11 hA11 hK11
  refine q_aload_n eX12_init_77 rfl ?_
  refine q_bipush eX12_init_78 (by decide +kernel) ?_
  refine q_newa_I (N := 8) eX12_init_80 (by decide) (by decide) (by decide) ?_
  refine q_putF eX12_init_82 pf_X12_47 rfl k11_44 (by decide) (FT_a (Or.inr ⟨_, rfl⟩)) ?_
  refine q_cut 51 rfl (fun F12 A12 K12 hF12 hA12 hK12 => ?_)
  have f12_44_7 : F12 44 7 = vA 45 := (congrFun (congrFun hF12 44) 7).trans f11_44_7
  have f12_44_8 : F12 44 8 = vA 46 := (congrFun (congrFun hF12 44) 8).trans f11_44_8
  have f12_44_9 : F12 44 9 = vA 47 := (congrFun (congrFun hF12 44) 9).trans f11_44_9
  have f12_44_10 : F12 44 10 = vA 48 := (congrFun (congrFun hF12 44) 10).trans f11_44_10
  have f12_44_12 : F12 44 12 = vA 49 := (congrFun (congrFun hF12 44) 12).trans f11_44_12
  have f12_44_13 : F12 44 13 = vA 50 := (congrFun (congrFun hF12 44) 13).trans rfl
  have f12_44_19 : F12 44 19 = vI 0 := (congrFun (congrFun hF12 44) 19).trans f11_44_19
  have f12_44_20 : F12 44 20 = vI 0 := (congrFun (congrFun hF12 44) 20).trans f11_44_20
  have f12_44_21 : F12 44 21 = vI 0 := (congrFun (congrFun hF12 44) 21).trans f11_44_21
  have f12_44_22 : F12 44 22 = vI 0 := (congrFun (congrFun hF12 44) 22).trans f11_44_22
  have f12_44_23 : F12 44 23 = vI 0 := (congrFun (congrFun hF12 44) 23).trans f11_44_23
  have f12_44_24 : F12 44 24 = vI 0 := (congrFun (congrFun hF12 44) 24).trans f11_44_24
  have f12_44_25 : F12 44 25 = vI 0 := (congrFun (congrFun hF12 44) 25).trans f11_44_25
  have f12_44_26 : F12 44 26 = vI 0 := (congrFun (congrFun hF12 44) 26).trans f11_44_26
  have f12_44_28 : F12 44 28 = vI 0 := (congrFun (congrFun hF12 44) 28).trans f11_44_28
  have f12_44_29 : F12 44 29 = vI 0 := (congrFun (congrFun hF12 44) 29).trans f11_44_29
  have f12_44_52 : F12 44 52 = vI 0 := (congrFun (congrFun hF12 44) 52).trans f11_44_52
  have k12_44 : K12 44 = (20, 54) := (hK12 44).trans k11_44
  have k12_45 : K12 45 = (0, 7) := (hK12 45).trans k11_45
  have k12_46 : K12 46 = (0, 4096) := (hK12 46).trans k11_46
  have k12_47 : K12 47 = (0, 4096) := (hK12 47).trans k11_47
  have k12_48 : K12 48 = (0, 4096) := (hK12 48).trans k11_48
  have k12_49 : K12 49 = (0, 8) := (hK12 49).trans k11_49
  have k12_50 : K12 50 = (0, 8) := (hK12 50).trans rfl
  have a12_0 : A12 0 = A 0 := (congrFun hA12 0).trans a11_0
  have kb12 : ∀ b, b < 44 → K12 b = K b := fun b hb => (hK12 b).trans ((if_neg (by omega)).trans (kb11 b hb))
  have ab12 : ∀ b, b < 44 → A12 b = A b := fun b hb => (congrFun hA12 b).trans ((if_neg (by omega)).trans (ab11 b hb))
  have fb12 : ∀ b, b ≠ 44 → F12 b = F b := fun b hb => (congrFun hF12 b).trans ((up2_row hb).trans (fb11 b hb))
  clear hF12 hA12 hK12
  refine q_aload_n eX12_init_85 rfl ?_
  refine q_bipush eX12_init_86 (by decide +kernel) ?_
  refine q_newa_I (N := 6) eX12_init_88 (by decide) (by decide) (by decide) ?_
  refine q_putF eX12_init_90 pf_X12_50 rfl k12_44 (by decide) (FT_a (Or.inr ⟨_, rfl⟩)) ?_
  refine q_cut 52 rfl (fun F13 A13 K13 hF13 hA13 hK13 => ?_)
  have f13_44_7 : F13 44 7 = vA 45 := (congrFun (congrFun hF13 44) 7).trans f12_44_7
  have f13_44_8 : F13 44 8 = vA 46 := (congrFun (congrFun hF13 44) 8).trans f12_44_8
  have f13_44_9 : F13 44 9 = vA 47 := (congrFun (congrFun hF13 44) 9).trans f12_44_9
  have f13_44_10 : F13 44 10 = vA 48 := (congrFun (congrFun hF13 44) 10).trans f12_44_10
  have f13_44_12 : F13 44 12 = vA 49 := (congrFun (congrFun hF13 44) 12).trans f12_44_12
  have f13_44_13 : F13 44 13 = vA 50 := (congrFun (congrFun hF13 44) 13).trans f12_44_13
  have f13_44_14 : F13 44 14 = vA 51 := (congrFun (congrFun hF13 44) 14).trans rfl
  have f13_44_19 : F13 44 19 = vI 0 := (congrFun (congrFun hF13 44) 19).trans f12_44_19
  have f13_44_20 : F13 44 20 = vI 0 := (congrFun (congrFun hF13 44) 20).trans f12_44_20
  have f13_44_21 : F13 44 21 = vI 0 := (congrFun (congrFun hF13 44) 21).trans f12_44_21
  have f13_44_22 : F13 44 22 = vI 0 := (congrFun (congrFun hF13 44) 22).trans f12_44_22
  have f13_44_23 : F13 44 23 = vI 0 := (congrFun (congrFun hF13 44) 23).trans f12_44_23
  have f13_44_24 : F13 44 24 = vI 0 := (congrFun (congrFun hF13 44) 24).trans f12_44_24
  have f13_44_25 : F13 44 25 = vI 0 := (congrFun (congrFun hF13 44) 25).trans f12_44_25
  have f13_44_26 : F13 44 26 = vI 0 := (congrFun (congrFun hF13 44) 26).trans f12_44_26
  have f13_44_28 : F13 44 28 = vI 0 := (congrFun (congrFun hF13 44) 28).trans f12_44_28
  have f13_44_29 : F13 44 29 = vI 0 := (congrFun (congrFun hF13 44) 29).trans f12_44_29
  have f13_44_52 : F13 44 52 = vI 0 := (congrFun (congrFun hF13 44) 52).trans f12_44_52
  have k13_44 : K13 44 = (20, 54) := (hK13 44).trans k12_44
  have k13_45 : K13 45 = (0, 7) := (hK13 45).trans k12_45
  have k13_46 : K13 46 = (0, 4096) := (hK13 46).trans k12_46
  have k13_47 : K13 47 = (0, 4096) := (hK13 47).trans k12_47
  have k13_48 : K13 48 = (0, 4096) := (hK13 48).trans k12_48
  have k13_49 : K13 49 = (0, 8) := (hK13 49).trans k12_49
  have k13_50 : K13 50 = (0, 8) := (hK13 50).trans k12_50
  have k13_51 : K13 51 = (0, 6) := (hK13 51).trans rfl
  have a13_0 : A13 0 = A 0 := (congrFun hA13 0).trans a12_0
  have kb13 : ∀ b, b < 44 → K13 b = K b := fun b hb => (hK13 b).trans ((if_neg (by omega)).trans (kb12 b hb))
  have ab13 : ∀ b, b < 44 → A13 b = A b := fun b hb => (congrFun hA13 b).trans ((if_neg (by omega)).trans (ab12 b hb))
  have fb13 : ∀ b, b ≠ 44 → F13 b = F b := fun b hb => (congrFun hF13 b).trans ((up2_row hb).trans (fb12 b hb))
  clear hF13 hA13 hK13
  refine q_aload_n eX12_init_93 rfl ?_
  refine q_bipush eX12_init_94 (by decide +kernel) ?_
  refine q_newa_I (N := 6) eX12_init_96 (by decide) (by decide) (by decide) ?_
  refine q_putF eX12_init_98 pf_X12_53 rfl k13_44 (by decide) (FT_a (Or.inr ⟨_, rfl⟩)) ?_
  refine q_cut 53 rfl (fun F14 A14 K14 hF14 hA14 hK14 => ?_)
  have f14_44_7 : F14 44 7 = vA 45 := (congrFun (congrFun hF14 44) 7).trans f13_44_7
  have f14_44_8 : F14 44 8 = vA 46 := (congrFun (congrFun hF14 44) 8).trans f13_44_8
  have f14_44_9 : F14 44 9 = vA 47 := (congrFun (congrFun hF14 44) 9).trans f13_44_9
  have f14_44_10 : F14 44 10 = vA 48 := (congrFun (congrFun hF14 44) 10).trans f13_44_10
  have f14_44_12 : F14 44 12 = vA 49 := (congrFun (congrFun hF14 44) 12).trans f13_44_12
  have f14_44_13 : F14 44 13 = vA 50 := (congrFun (congrFun hF14 44) 13).trans f13_44_13
  have f14_44_14 : F14 44 14 = vA 51 := (congrFun (congrFun hF14 44) 14).trans f13_44_14
  have f14_44_15 : F14 44 15 = vA 52 := (congrFun (congrFun hF14 44) 15).trans rfl
  have f14_44_19 : F14 44 19 = vI 0 := (congrFun (congrFun hF14 44) 19).trans f13_44_19
  have f14_44_20 : F14 44 20 = vI 0 := (congrFun (congrFun hF14 44) 20).trans f13_44_20
  have f14_44_21 : F14 44 21 = vI 0 := (congrFun (congrFun hF14 44) 21).trans f13_44_21
  have f14_44_22 : F14 44 22 = vI 0 := (congrFun (congrFun hF14 44) 22).trans f13_44_22
  have f14_44_23 : F14 44 23 = vI 0 := (congrFun (congrFun hF14 44) 23).trans f13_44_23
  have f14_44_24 : F14 44 24 = vI 0 := (congrFun (congrFun hF14 44) 24).trans f13_44_24
  have f14_44_25 : F14 44 25 = vI 0 := (congrFun (congrFun hF14 44) 25).trans f13_44_25
  have f14_44_26 : F14 44 26 = vI 0 := (congrFun (congrFun hF14 44) 26).trans f13_44_26
  have f14_44_28 : F14 44 28 = vI 0 := (congrFun (congrFun hF14 44) 28).trans f13_44_28
  have f14_44_29 : F14 44 29 = vI 0 := (congrFun (congrFun hF14 44) 29).trans f13_44_29
  have f14_44_52 : F14 44 52 = vI 0 := (congrFun (congrFun hF14 44) 52).trans f13_44_52
  have k14_44 : K14 44 = (20, 54) := (hK14 44).trans k13_44
  have k14_45 : K14 45 = (0, 7) := (hK14 45).trans k13_45
  have k14_46 : K14 46 = (0, 4096) := (hK14 46).trans k13_46
  have k14_47 : K14 47 = (0, 4096) := (hK14 47).trans k13_47
  have k14_48 : K14 48 = (0, 4096) := (hK14 48).trans k13_48
  have k14_49 : K14 49 = (0, 8) := (hK14 49).trans k13_49
  have k14_50 : K14 50 = (0, 8) := (hK14 50).trans k13_50
  have k14_51 : K14 51 = (0, 6) := (hK14 51).trans k13_51
  have k14_52 : K14 52 = (0, 6) := (hK14 52).trans rfl
  have a14_0 : A14 0 = A 0 := (congrFun hA14 0).trans a13_0
  have kb14 : ∀ b, b < 44 → K14 b = K b := fun b hb => (hK14 b).trans ((if_neg (by omega)).trans (kb13 b hb))
  have ab14 : ∀ b, b < 44 → A14 b = A b := fun b hb => (congrFun hA14 b).trans ((if_neg (by omega)).trans (ab13 b hb))
  have fb14 : ∀ b, b ≠ 44 → F14 b = F b := fun b hb => (congrFun hF14 b).trans ((up2_row hb).trans (fb13 b hb))
  clear hF14 hA14 hK14
  refine q_aload_n eX12_init_101 rfl ?_
  refine q_bipush eX12_init_102 (by decide +kernel) ?_
  refine q_newa_I (N := 12) eX12_init_104 (by decide) (by decide) (by decide) ?_
  refine q_putF eX12_init_106 pf_X12_56 rfl k14_44 (by decide) (FT_a (Or.inr ⟨_, rfl⟩)) ?_
  refine q_cut 54 rfl (fun F15 A15 K15 hF15 hA15 hK15 => ?_)
  have f15_44_7 : F15 44 7 = vA 45 := (congrFun (congrFun hF15 44) 7).trans f14_44_7
  have f15_44_8 : F15 44 8 = vA 46 := (congrFun (congrFun hF15 44) 8).trans f14_44_8
  have f15_44_9 : F15 44 9 = vA 47 := (congrFun (congrFun hF15 44) 9).trans f14_44_9
  have f15_44_10 : F15 44 10 = vA 48 := (congrFun (congrFun hF15 44) 10).trans f14_44_10
  have f15_44_12 : F15 44 12 = vA 49 := (congrFun (congrFun hF15 44) 12).trans f14_44_12
  have f15_44_13 : F15 44 13 = vA 50 := (congrFun (congrFun hF15 44) 13).trans f14_44_13
  have f15_44_14 : F15 44 14 = vA 51 := (congrFun (congrFun hF15 44) 14).trans f14_44_14
  have f15_44_15 : F15 44 15 = vA 52 := (congrFun (congrFun hF15 44) 15).trans f14_44_15
  have f15_44_16 : F15 44 16 = vA 53 := (congrFun (congrFun hF15 44) 16).trans rfl
  have f15_44_19 : F15 44 19 = vI 0 := (congrFun (congrFun hF15 44) 19).trans f14_44_19
  have f15_44_20 : F15 44 20 = vI 0 := (congrFun (congrFun hF15 44) 20).trans f14_44_20
  have f15_44_21 : F15 44 21 = vI 0 := (congrFun (congrFun hF15 44) 21).trans f14_44_21
  have f15_44_22 : F15 44 22 = vI 0 := (congrFun (congrFun hF15 44) 22).trans f14_44_22
  have f15_44_23 : F15 44 23 = vI 0 := (congrFun (congrFun hF15 44) 23).trans f14_44_23
  have f15_44_24 : F15 44 24 = vI 0 := (congrFun (congrFun hF15 44) 24).trans f14_44_24
  have f15_44_25 : F15 44 25 = vI 0 := (congrFun (congrFun hF15 44) 25).trans f14_44_25
  have f15_44_26 : F15 44 26 = vI 0 := (congrFun (congrFun hF15 44) 26).trans f14_44_26
  have f15_44_28 : F15 44 28 = vI 0 := (congrFun (congrFun hF15 44) 28).trans f14_44_28
  have f15_44_29 : F15 44 29 = vI 0 := (congrFun (congrFun hF15 44) 29).trans f14_44_29
  have f15_44_52 : F15 44 52 = vI 0 := (congrFun (congrFun hF15 44) 52).trans f14_44_52
  have k15_44 : K15 44 = (20, 54) := (hK15 44).trans k14_44
  have k15_45 : K15 45 = (0, 7) := (hK15 45).trans k14_45
  have k15_46 : K15 46 = (0, 4096) := (hK15 46).trans k14_46
  have k15_47 : K15 47 = (0, 4096) := (hK15 47).trans k14_47
  have k15_48 : K15 48 = (0, 4096) := (hK15 48).trans k14_48
  have k15_49 : K15 49 = (0, 8) := (hK15 49).trans k14_49
  have k15_50 : K15 50 = (0, 8) := (hK15 50).trans k14_50
  have k15_51 : K15 51 = (0, 6) := (hK15 51).trans k14_51
  have k15_52 : K15 52 = (0, 6) := (hK15 52).trans k14_52
  have k15_53 : K15 53 = (0, 12) := (hK15 53).trans rfl
  have a15_0 : A15 0 = A 0 := (congrFun hA15 0).trans a14_0
  have kb15 : ∀ b, b < 44 → K15 b = K b := fun b hb => (hK15 b).trans ((if_neg (by omega)).trans (kb14 b hb))
  have ab15 : ∀ b, b < 44 → A15 b = A b := fun b hb => (congrFun hA15 b).trans ((if_neg (by omega)).trans (ab14 b hb))
  have fb15 : ∀ b, b ≠ 44 → F15 b = F b := fun b hb => (congrFun hF15 b).trans ((up2_row hb).trans (fb14 b hb))
  clear hF15 hA15 hK15
  refine q_aload_n eX12_init_109 rfl ?_
  refine q_iconst eX12_init_110 ?_
  refine q_newa_I (N := 4) eX12_init_111 (by decide) (by decide) (by decide) ?_
  refine q_putF eX12_init_113 pf_X12_59 rfl k15_44 (by decide) (FT_a (Or.inr ⟨_, rfl⟩)) ?_
  refine q_cut 55 rfl (fun F16 A16 K16 hF16 hA16 hK16 => ?_)
  have f16_44_7 : F16 44 7 = vA 45 := (congrFun (congrFun hF16 44) 7).trans f15_44_7
  have f16_44_8 : F16 44 8 = vA 46 := (congrFun (congrFun hF16 44) 8).trans f15_44_8
  have f16_44_9 : F16 44 9 = vA 47 := (congrFun (congrFun hF16 44) 9).trans f15_44_9
  have f16_44_10 : F16 44 10 = vA 48 := (congrFun (congrFun hF16 44) 10).trans f15_44_10
  have f16_44_12 : F16 44 12 = vA 49 := (congrFun (congrFun hF16 44) 12).trans f15_44_12
  have f16_44_13 : F16 44 13 = vA 50 := (congrFun (congrFun hF16 44) 13).trans f15_44_13
  have f16_44_14 : F16 44 14 = vA 51 := (congrFun (congrFun hF16 44) 14).trans f15_44_14
  have f16_44_15 : F16 44 15 = vA 52 := (congrFun (congrFun hF16 44) 15).trans f15_44_15
  have f16_44_16 : F16 44 16 = vA 53 := (congrFun (congrFun hF16 44) 16).trans f15_44_16
  have f16_44_17 : F16 44 17 = vA 54 := (congrFun (congrFun hF16 44) 17).trans rfl
  have f16_44_19 : F16 44 19 = vI 0 := (congrFun (congrFun hF16 44) 19).trans f15_44_19
  have f16_44_20 : F16 44 20 = vI 0 := (congrFun (congrFun hF16 44) 20).trans f15_44_20
  have f16_44_21 : F16 44 21 = vI 0 := (congrFun (congrFun hF16 44) 21).trans f15_44_21
  have f16_44_22 : F16 44 22 = vI 0 := (congrFun (congrFun hF16 44) 22).trans f15_44_22
  have f16_44_23 : F16 44 23 = vI 0 := (congrFun (congrFun hF16 44) 23).trans f15_44_23
  have f16_44_24 : F16 44 24 = vI 0 := (congrFun (congrFun hF16 44) 24).trans f15_44_24
  have f16_44_25 : F16 44 25 = vI 0 := (congrFun (congrFun hF16 44) 25).trans f15_44_25
  have f16_44_26 : F16 44 26 = vI 0 := (congrFun (congrFun hF16 44) 26).trans f15_44_26
  have f16_44_28 : F16 44 28 = vI 0 := (congrFun (congrFun hF16 44) 28).trans f15_44_28
  have f16_44_29 : F16 44 29 = vI 0 := (congrFun (congrFun hF16 44) 29).trans f15_44_29
  have f16_44_52 : F16 44 52 = vI 0 := (congrFun (congrFun hF16 44) 52).trans f15_44_52
  have k16_44 : K16 44 = (20, 54) := (hK16 44).trans k15_44
  have k16_45 : K16 45 = (0, 7) := (hK16 45).trans k15_45
  have k16_46 : K16 46 = (0, 4096) := (hK16 46).trans k15_46
  have k16_47 : K16 47 = (0, 4096) := (hK16 47).trans k15_47
  have k16_48 : K16 48 = (0, 4096) := (hK16 48).trans k15_48
  have k16_49 : K16 49 = (0, 8) := (hK16 49).trans k15_49
  have k16_50 : K16 50 = (0, 8) := (hK16 50).trans k15_50
  have k16_51 : K16 51 = (0, 6) := (hK16 51).trans k15_51
  have k16_52 : K16 52 = (0, 6) := (hK16 52).trans k15_52
  have k16_53 : K16 53 = (0, 12) := (hK16 53).trans k15_53
  have k16_54 : K16 54 = (0, 4) := (hK16 54).trans rfl
  have a16_0 : A16 0 = A 0 := (congrFun hA16 0).trans a15_0
  have kb16 : ∀ b, b < 44 → K16 b = K b := fun b hb => (hK16 b).trans ((if_neg (by omega)).trans (kb15 b hb))
  have ab16 : ∀ b, b < 44 → A16 b = A b := fun b hb => (congrFun hA16 b).trans ((if_neg (by omega)).trans (ab15 b hb))
  have fb16 : ∀ b, b ≠ 44 → F16 b = F b := fun b hb => (congrFun hF16 b).trans ((up2_row hb).trans (fb15 b hb))
  clear hF16 hA16 hK16
  refine q_aload_n eX12_init_116 rfl ?_
  refine q_sipush eX12_init_117 (by decide +kernel) ?_
  refine q_newa_B (N := 200) eX12_init_120 (by decide) (by decide) (by decide) ?_
  refine q_putF eX12_init_122 pf_X12_62 rfl k16_44 (by decide) (FT_a (Or.inr ⟨_, rfl⟩)) ?_
  refine q_cut 56 rfl (fun F17 A17 K17 hF17 hA17 hK17 => ?_)
  have f17_44_7 : F17 44 7 = vA 45 := (congrFun (congrFun hF17 44) 7).trans f16_44_7
  have f17_44_8 : F17 44 8 = vA 46 := (congrFun (congrFun hF17 44) 8).trans f16_44_8
  have f17_44_9 : F17 44 9 = vA 47 := (congrFun (congrFun hF17 44) 9).trans f16_44_9
  have f17_44_10 : F17 44 10 = vA 48 := (congrFun (congrFun hF17 44) 10).trans f16_44_10
  have f17_44_12 : F17 44 12 = vA 49 := (congrFun (congrFun hF17 44) 12).trans f16_44_12
  have f17_44_13 : F17 44 13 = vA 50 := (congrFun (congrFun hF17 44) 13).trans f16_44_13
  have f17_44_14 : F17 44 14 = vA 51 := (congrFun (congrFun hF17 44) 14).trans f16_44_14
  have f17_44_15 : F17 44 15 = vA 52 := (congrFun (congrFun hF17 44) 15).trans f16_44_15
  have f17_44_16 : F17 44 16 = vA 53 := (congrFun (congrFun hF17 44) 16).trans f16_44_16
  have f17_44_17 : F17 44 17 = vA 54 := (congrFun (congrFun hF17 44) 17).trans f16_44_17
  have f17_44_18 : F17 44 18 = vA 55 := (congrFun (congrFun hF17 44) 18).trans rfl
  have f17_44_19 : F17 44 19 = vI 0 := (congrFun (congrFun hF17 44) 19).trans f16_44_19
  have f17_44_20 : F17 44 20 = vI 0 := (congrFun (congrFun hF17 44) 20).trans f16_44_20
  have f17_44_21 : F17 44 21 = vI 0 := (congrFun (congrFun hF17 44) 21).trans f16_44_21
  have f17_44_22 : F17 44 22 = vI 0 := (congrFun (congrFun hF17 44) 22).trans f16_44_22
  have f17_44_23 : F17 44 23 = vI 0 := (congrFun (congrFun hF17 44) 23).trans f16_44_23
  have f17_44_24 : F17 44 24 = vI 0 := (congrFun (congrFun hF17 44) 24).trans f16_44_24
  have f17_44_25 : F17 44 25 = vI 0 := (congrFun (congrFun hF17 44) 25).trans f16_44_25
  have f17_44_26 : F17 44 26 = vI 0 := (congrFun (congrFun hF17 44) 26).trans f16_44_26
  have f17_44_28 : F17 44 28 = vI 0 := (congrFun (congrFun hF17 44) 28).trans f16_44_28
  have f17_44_29 : F17 44 29 = vI 0 := (congrFun (congrFun hF17 44) 29).trans f16_44_29
  have f17_44_52 : F17 44 52 = vI 0 := (congrFun (congrFun hF17 44) 52).trans f16_44_52
  have k17_44 : K17 44 = (20, 54) := (hK17 44).trans k16_44
  have k17_45 : K17 45 = (0, 7) := (hK17 45).trans k16_45
  have k17_46 : K17 46 = (0, 4096) := (hK17 46).trans k16_46
  have k17_47 : K17 47 = (0, 4096) := (hK17 47).trans k16_47
  have k17_48 : K17 48 = (0, 4096) := (hK17 48).trans k16_48
  have k17_49 : K17 49 = (0, 8) := (hK17 49).trans k16_49
  have k17_50 : K17 50 = (0, 8) := (hK17 50).trans k16_50
  have k17_51 : K17 51 = (0, 6) := (hK17 51).trans k16_51
  have k17_52 : K17 52 = (0, 6) := (hK17 52).trans k16_52
  have k17_53 : K17 53 = (0, 12) := (hK17 53).trans k16_53
  have k17_54 : K17 54 = (0, 4) := (hK17 54).trans k16_54
  have k17_55 : K17 55 = (1, 200) := (hK17 55).trans rfl
  have a17_0 : A17 0 = A 0 := (congrFun hA17 0).trans a16_0
  have a17_55 : A17 55 = fun _ => 0 := (congrFun hA17 55).trans rfl
  have kb17 : ∀ b, b < 44 → K17 b = K b := fun b hb => (hK17 b).trans ((if_neg (by omega)).trans (kb16 b hb))
  have ab17 : ∀ b, b < 44 → A17 b = A b := fun b hb => (congrFun hA17 b).trans ((if_neg (by omega)).trans (ab16 b hb))
  have fb17 : ∀ b, b ≠ 44 → F17 b = F b := fun b hb => (congrFun hF17 b).trans ((up2_row hb).trans (fb16 b hb))
  clear hF17 hA17 hK17
  refine q_aload_n eX12_init_125 rfl ?_
  refine q_iconst eX12_init_126 ?_
  refine q_putfield eX12_init_127 pf_X12_66 k17_44 (by decide) (FT_i rfl) ?_
  refine q_cut 56 rfl (fun F18 A18 K18 hF18 hA18 hK18 => ?_)
  have f18_44_7 : F18 44 7 = vA 45 := (congrFun (congrFun hF18 44) 7).trans f17_44_7
  have f18_44_8 : F18 44 8 = vA 46 := (congrFun (congrFun hF18 44) 8).trans f17_44_8
  have f18_44_9 : F18 44 9 = vA 47 := (congrFun (congrFun hF18 44) 9).trans f17_44_9
  have f18_44_10 : F18 44 10 = vA 48 := (congrFun (congrFun hF18 44) 10).trans f17_44_10
  have f18_44_12 : F18 44 12 = vA 49 := (congrFun (congrFun hF18 44) 12).trans f17_44_12
  have f18_44_13 : F18 44 13 = vA 50 := (congrFun (congrFun hF18 44) 13).trans f17_44_13
  have f18_44_14 : F18 44 14 = vA 51 := (congrFun (congrFun hF18 44) 14).trans f17_44_14
  have f18_44_15 : F18 44 15 = vA 52 := (congrFun (congrFun hF18 44) 15).trans f17_44_15
  have f18_44_16 : F18 44 16 = vA 53 := (congrFun (congrFun hF18 44) 16).trans f17_44_16
  have f18_44_17 : F18 44 17 = vA 54 := (congrFun (congrFun hF18 44) 17).trans f17_44_17
  have f18_44_18 : F18 44 18 = vA 55 := (congrFun (congrFun hF18 44) 18).trans f17_44_18
  have f18_44_19 : F18 44 19 = vI 0 := (congrFun (congrFun hF18 44) 19).trans f17_44_19
  have f18_44_20 : F18 44 20 = vI 0 := (congrFun (congrFun hF18 44) 20).trans f17_44_20
  have f18_44_21 : F18 44 21 = vI 0 := (congrFun (congrFun hF18 44) 21).trans f17_44_21
  have f18_44_22 : F18 44 22 = vI 0 := (congrFun (congrFun hF18 44) 22).trans f17_44_22
  have f18_44_23 : F18 44 23 = vI 0 := (congrFun (congrFun hF18 44) 23).trans f17_44_23
  have f18_44_24 : F18 44 24 = vI 0 := (congrFun (congrFun hF18 44) 24).trans f17_44_24
  have f18_44_25 : F18 44 25 = vI 0 := (congrFun (congrFun hF18 44) 25).trans f17_44_25
  have f18_44_26 : F18 44 26 = vI 0 := (congrFun (congrFun hF18 44) 26).trans f17_44_26
  have f18_44_27 : F18 44 27 = vI (-1) := (congrFun (congrFun hF18 44) 27).trans rfl
  have f18_44_28 : F18 44 28 = vI 0 := (congrFun (congrFun hF18 44) 28).trans f17_44_28
  have f18_44_29 : F18 44 29 = vI 0 := (congrFun (congrFun hF18 44) 29).trans f17_44_29
  have f18_44_52 : F18 44 52 = vI 0 := (congrFun (congrFun hF18 44) 52).trans f17_44_52
  have k18_44 : K18 44 = (20, 54) := (hK18 44).trans k17_44
  have k18_45 : K18 45 = (0, 7) := (hK18 45).trans k17_45
  have k18_46 : K18 46 = (0, 4096) := (hK18 46).trans k17_46
  have k18_47 : K18 47 = (0, 4096) := (hK18 47).trans k17_47
  have k18_48 : K18 48 = (0, 4096) := (hK18 48).trans k17_48
  have k18_49 : K18 49 = (0, 8) := (hK18 49).trans k17_49
  have k18_50 : K18 50 = (0, 8) := (hK18 50).trans k17_50
  have k18_51 : K18 51 = (0, 6) := (hK18 51).trans k17_51
  have k18_52 : K18 52 = (0, 6) := (hK18 52).trans k17_52
  have k18_53 : K18 53 = (0, 12) := (hK18 53).trans k17_53
  have k18_54 : K18 54 = (0, 4) := (hK18 54).trans k17_54
  have k18_55 : K18 55 = (1, 200) := (hK18 55).trans k17_55
  have a18_0 : A18 0 = A 0 := (congrFun hA18 0).trans a17_0
  have a18_55 : A18 55 = fun _ => 0 := (congrFun hA18 55).trans a17_55
  have kb18 : ∀ b, b < 44 → K18 b = K b := fun b hb => (hK18 b).trans (kb17 b hb)
  have ab18 : ∀ b, b < 44 → A18 b = A b := fun b hb => (congrFun hA18 b).trans (ab17 b hb)
  have fb18 : ∀ b, b ≠ 44 → F18 b = F b := fun b hb => (congrFun hF18 b).trans ((up2_row hb).trans (fb17 b hb))
  clear hF18 hA18 hK18
  refine q_aload_n eX12_init_130 rfl ?_
  refine q_iconst eX12_init_131 ?_
  refine q_putfield eX12_init_132 pf_X12_69 k18_44 (by decide) (FT_i rfl) ?_
  refine q_cut 56 rfl (fun F19 A19 K19 hF19 hA19 hK19 => ?_)
  have f19_44_7 : F19 44 7 = vA 45 := (congrFun (congrFun hF19 44) 7).trans f18_44_7
  have f19_44_8 : F19 44 8 = vA 46 := (congrFun (congrFun hF19 44) 8).trans f18_44_8
  have f19_44_9 : F19 44 9 = vA 47 := (congrFun (congrFun hF19 44) 9).trans f18_44_9
  have f19_44_10 : F19 44 10 = vA 48 := (congrFun (congrFun hF19 44) 10).trans f18_44_10
  have f19_44_12 : F19 44 12 = vA 49 := (congrFun (congrFun hF19 44) 12).trans f18_44_12
  have f19_44_13 : F19 44 13 = vA 50 := (congrFun (congrFun hF19 44) 13).trans f18_44_13
  have f19_44_14 : F19 44 14 = vA 51 := (congrFun (congrFun hF19 44) 14).trans f18_44_14
  have f19_44_15 : F19 44 15 = vA 52 := (congrFun (congrFun hF19 44) 15).trans f18_44_15
  have f19_44_16 : F19 44 16 = vA 53 := (congrFun (congrFun hF19 44) 16).trans f18_44_16
  have f19_44_17 : F19 44 17 = vA 54 := (congrFun (congrFun hF19 44) 17).trans f18_44_17
  have f19_44_18 : F19 44 18 = vA 55 := (congrFun (congrFun hF19 44) 18).trans f18_44_18
  have f19_44_19 : F19 44 19 = vI 0 := (congrFun (congrFun hF19 44) 19).trans f18_44_19
  have f19_44_20 : F19 44 20 = vI 0 := (congrFun (congrFun hF19 44) 20).trans f18_44_20
  have f19_44_21 : F19 44 21 = vI 0 := (congrFun (congrFun hF19 44) 21).trans f18_44_21
  have f19_44_22 : F19 44 22 = vI 0 := (congrFun (congrFun hF19 44) 22).trans f18_44_22
  have f19_44_23 : F19 44 23 = vI 0 := (congrFun (congrFun hF19 44) 23).trans f18_44_23
  have f19_44_24 : F19 44 24 = vI 0 := (congrFun (congrFun hF19 44) 24).trans f18_44_24
  have f19_44_25 : F19 44 25 = vI 0 := (congrFun (congrFun hF19 44) 25).trans f18_44_25
  have f19_44_26 : F19 44 26 = vI 0 := (congrFun (congrFun hF19 44) 26).trans f18_44_26
  have f19_44_27 : F19 44 27 = vI (-1) := (congrFun (congrFun hF19 44) 27).trans f18_44_27
  have f19_44_28 : F19 44 28 = vI 0 := (congrFun (congrFun hF19 44) 28).trans f18_44_28
  have f19_44_29 : F19 44 29 = vI 0 := (congrFun (congrFun hF19 44) 29).trans f18_44_29
  have f19_44_52 : F19 44 52 = vI 0 := (congrFun (congrFun hF19 44) 52).trans f18_44_52
  have k19_44 : K19 44 = (20, 54) := (hK19 44).trans k18_44
  have k19_45 : K19 45 = (0, 7) := (hK19 45).trans k18_45
  have k19_46 : K19 46 = (0, 4096) := (hK19 46).trans k18_46
  have k19_47 : K19 47 = (0, 4096) := (hK19 47).trans k18_47
  have k19_48 : K19 48 = (0, 4096) := (hK19 48).trans k18_48
  have k19_49 : K19 49 = (0, 8) := (hK19 49).trans k18_49
  have k19_50 : K19 50 = (0, 8) := (hK19 50).trans k18_50
  have k19_51 : K19 51 = (0, 6) := (hK19 51).trans k18_51
  have k19_52 : K19 52 = (0, 6) := (hK19 52).trans k18_52
  have k19_53 : K19 53 = (0, 12) := (hK19 53).trans k18_53
  have k19_54 : K19 54 = (0, 4) := (hK19 54).trans k18_54
  have k19_55 : K19 55 = (1, 200) := (hK19 55).trans k18_55
  have a19_0 : A19 0 = A 0 := (congrFun hA19 0).trans a18_0
  have a19_55 : A19 55 = fun _ => 0 := (congrFun hA19 55).trans a18_55
  have kb19 : ∀ b, b < 44 → K19 b = K b := fun b hb => (hK19 b).trans (kb18 b hb)
  have ab19 : ∀ b, b < 44 → A19 b = A b := fun b hb => (congrFun hA19 b).trans (ab18 b hb)
  have fb19 : ∀ b, b ≠ 44 → F19 b = F b := fun b hb => (congrFun hF19 b).trans ((up2_row hb).trans (fb18 b hb))
  clear hF19 hA19 hK19
  refine q_aload_n eX12_init_135 rfl ?_
  refine q_bipush eX12_init_136 (by decide +kernel) ?_
  refine q_newa_I (N := 65) eX12_init_138 (by decide) (by decide) (by decide) ?_
  refine q_putF eX12_init_140 pf_X12_72 rfl k19_44 (by decide) (FT_a (Or.inr ⟨_, rfl⟩)) ?_
  refine q_cut 57 rfl (fun F20 A20 K20 hF20 hA20 hK20 => ?_)
  have f20_44_7 : F20 44 7 = vA 45 := (congrFun (congrFun hF20 44) 7).trans f19_44_7
  have f20_44_8 : F20 44 8 = vA 46 := (congrFun (congrFun hF20 44) 8).trans f19_44_8
  have f20_44_9 : F20 44 9 = vA 47 := (congrFun (congrFun hF20 44) 9).trans f19_44_9
  have f20_44_10 : F20 44 10 = vA 48 := (congrFun (congrFun hF20 44) 10).trans f19_44_10
  have f20_44_12 : F20 44 12 = vA 49 := (congrFun (congrFun hF20 44) 12).trans f19_44_12
  have f20_44_13 : F20 44 13 = vA 50 := (congrFun (congrFun hF20 44) 13).trans f19_44_13
  have f20_44_14 : F20 44 14 = vA 51 := (congrFun (congrFun hF20 44) 14).trans f19_44_14
  have f20_44_15 : F20 44 15 = vA 52 := (congrFun (congrFun hF20 44) 15).trans f19_44_15
  have f20_44_16 : F20 44 16 = vA 53 := (congrFun (congrFun hF20 44) 16).trans f19_44_16
  have f20_44_17 : F20 44 17 = vA 54 := (congrFun (congrFun hF20 44) 17).trans f19_44_17
  have f20_44_18 : F20 44 18 = vA 55 := (congrFun (congrFun hF20 44) 18).trans f19_44_18
  have f20_44_19 : F20 44 19 = vI 0 := (congrFun (congrFun hF20 44) 19).trans f19_44_19
  have f20_44_20 : F20 44 20 = vI 0 := (congrFun (congrFun hF20 44) 20).trans f19_44_20
  have f20_44_21 : F20 44 21 = vI 0 := (congrFun (congrFun hF20 44) 21).trans f19_44_21
  have f20_44_22 : F20 44 22 = vI 0 := (congrFun (congrFun hF20 44) 22).trans f19_44_22
  have f20_44_23 : F20 44 23 = vI 0 := (congrFun (congrFun hF20 44) 23).trans f19_44_23
  have f20_44_24 : F20 44 24 = vI 0 := (congrFun (congrFun hF20 44) 24).trans f19_44_24
  have f20_44_25 : F20 44 25 = vI 0 := (congrFun (congrFun hF20 44) 25).trans f19_44_25
  have f20_44_26 : F20 44 26 = vI 0 := (congrFun (congrFun hF20 44) 26).trans f19_44_26
  have f20_44_27 : F20 44 27 = vI (-1) := (congrFun (congrFun hF20 44) 27).trans f19_44_27
  have f20_44_28 : F20 44 28 = vI 0 := (congrFun (congrFun hF20 44) 28).trans f19_44_28
  have f20_44_29 : F20 44 29 = vI 0 := (congrFun (congrFun hF20 44) 29).trans f19_44_29
  have f20_44_36 : F20 44 36 = vA 56 := (congrFun (congrFun hF20 44) 36).trans rfl
  have f20_44_52 : F20 44 52 = vI 0 := (congrFun (congrFun hF20 44) 52).trans f19_44_52
  have k20_44 : K20 44 = (20, 54) := (hK20 44).trans k19_44
  have k20_45 : K20 45 = (0, 7) := (hK20 45).trans k19_45
  have k20_46 : K20 46 = (0, 4096) := (hK20 46).trans k19_46
  have k20_47 : K20 47 = (0, 4096) := (hK20 47).trans k19_47
  have k20_48 : K20 48 = (0, 4096) := (hK20 48).trans k19_48
  have k20_49 : K20 49 = (0, 8) := (hK20 49).trans k19_49
  have k20_50 : K20 50 = (0, 8) := (hK20 50).trans k19_50
  have k20_51 : K20 51 = (0, 6) := (hK20 51).trans k19_51
  have k20_52 : K20 52 = (0, 6) := (hK20 52).trans k19_52
  have k20_53 : K20 53 = (0, 12) := (hK20 53).trans k19_53
  have k20_54 : K20 54 = (0, 4) := (hK20 54).trans k19_54
  have k20_55 : K20 55 = (1, 200) := (hK20 55).trans k19_55
  have k20_56 : K20 56 = (0, 65) := (hK20 56).trans rfl
  have a20_0 : A20 0 = A 0 := (congrFun hA20 0).trans a19_0
  have a20_55 : A20 55 = fun _ => 0 := (congrFun hA20 55).trans a19_55
  have kb20 : ∀ b, b < 44 → K20 b = K b := fun b hb => (hK20 b).trans ((if_neg (by omega)).trans (kb19 b hb))
  have ab20 : ∀ b, b < 44 → A20 b = A b := fun b hb => (congrFun hA20 b).trans ((if_neg (by omega)).trans (ab19 b hb))
  have fb20 : ∀ b, b ≠ 44 → F20 b = F b := fun b hb => (congrFun hF20 b).trans ((up2_row hb).trans (fb19 b hb))
  clear hF20 hA20 hK20
  refine q_aload_n eX12_init_143 rfl ?_
  refine q_bipush eX12_init_144 (by decide +kernel) ?_
  refine q_newa_I (N := 65) eX12_init_146 (by decide) (by decide) (by decide) ?_
  refine q_putF eX12_init_148 pf_X12_75 rfl k20_44 (by decide) (FT_a (Or.inr ⟨_, rfl⟩)) ?_
  refine q_cut 58 rfl (fun F21 A21 K21 hF21 hA21 hK21 => ?_)
  have f21_44_7 : F21 44 7 = vA 45 := (congrFun (congrFun hF21 44) 7).trans f20_44_7
  have f21_44_8 : F21 44 8 = vA 46 := (congrFun (congrFun hF21 44) 8).trans f20_44_8
  have f21_44_9 : F21 44 9 = vA 47 := (congrFun (congrFun hF21 44) 9).trans f20_44_9
  have f21_44_10 : F21 44 10 = vA 48 := (congrFun (congrFun hF21 44) 10).trans f20_44_10
  have f21_44_12 : F21 44 12 = vA 49 := (congrFun (congrFun hF21 44) 12).trans f20_44_12
  have f21_44_13 : F21 44 13 = vA 50 := (congrFun (congrFun hF21 44) 13).trans f20_44_13
  have f21_44_14 : F21 44 14 = vA 51 := (congrFun (congrFun hF21 44) 14).trans f20_44_14
  have f21_44_15 : F21 44 15 = vA 52 := (congrFun (congrFun hF21 44) 15).trans f20_44_15
  have f21_44_16 : F21 44 16 = vA 53 := (congrFun (congrFun hF21 44) 16).trans f20_44_16
  have f21_44_17 : F21 44 17 = vA 54 := (congrFun (congrFun hF21 44) 17).trans f20_44_17
  have f21_44_18 : F21 44 18 = vA 55 := (congrFun (congrFun hF21 44) 18).trans f20_44_18
  have f21_44_19 : F21 44 19 = vI 0 := (congrFun (congrFun hF21 44) 19).trans f20_44_19
  have f21_44_20 : F21 44 20 = vI 0 := (congrFun (congrFun hF21 44) 20).trans f20_44_20
  have f21_44_21 : F21 44 21 = vI 0 := (congrFun (congrFun hF21 44) 21).trans f20_44_21
  have f21_44_22 : F21 44 22 = vI 0 := (congrFun (congrFun hF21 44) 22).trans f20_44_22
  have f21_44_23 : F21 44 23 = vI 0 := (congrFun (congrFun hF21 44) 23).trans f20_44_23
  have f21_44_24 : F21 44 24 = vI 0 := (congrFun (congrFun hF21 44) 24).trans f20_44_24
  have f21_44_25 : F21 44 25 = vI 0 := (congrFun (congrFun hF21 44) 25).trans f20_44_25
  have f21_44_26 : F21 44 26 = vI 0 := (congrFun (congrFun hF21 44) 26).trans f20_44_26
  have f21_44_27 : F21 44 27 = vI (-1) := (congrFun (congrFun hF21 44) 27).trans f20_44_27
  have f21_44_28 : F21 44 28 = vI 0 := (congrFun (congrFun hF21 44) 28).trans f20_44_28
  have f21_44_29 : F21 44 29 = vI 0 := (congrFun (congrFun hF21 44) 29).trans f20_44_29
  have f21_44_36 : F21 44 36 = vA 56 := (congrFun (congrFun hF21 44) 36).trans f20_44_36
  have f21_44_37 : F21 44 37 = vA 57 := (congrFun (congrFun hF21 44) 37).trans rfl
  have f21_44_52 : F21 44 52 = vI 0 := (congrFun (congrFun hF21 44) 52).trans f20_44_52
  have k21_44 : K21 44 = (20, 54) := (hK21 44).trans k20_44
  have k21_45 : K21 45 = (0, 7) := (hK21 45).trans k20_45
  have k21_46 : K21 46 = (0, 4096) := (hK21 46).trans k20_46
  have k21_47 : K21 47 = (0, 4096) := (hK21 47).trans k20_47
  have k21_48 : K21 48 = (0, 4096) := (hK21 48).trans k20_48
  have k21_49 : K21 49 = (0, 8) := (hK21 49).trans k20_49
  have k21_50 : K21 50 = (0, 8) := (hK21 50).trans k20_50
  have k21_51 : K21 51 = (0, 6) := (hK21 51).trans k20_51
  have k21_52 : K21 52 = (0, 6) := (hK21 52).trans k20_52
  have k21_53 : K21 53 = (0, 12) := (hK21 53).trans k20_53
  have k21_54 : K21 54 = (0, 4) := (hK21 54).trans k20_54
  have k21_55 : K21 55 = (1, 200) := (hK21 55).trans k20_55
  have k21_56 : K21 56 = (0, 65) := (hK21 56).trans k20_56
  have k21_57 : K21 57 = (0, 65) := (hK21 57).trans rfl
  have a21_0 : A21 0 = A 0 := (congrFun hA21 0).trans a20_0
  have a21_55 : A21 55 = fun _ => 0 := (congrFun hA21 55).trans a20_55
  have kb21 : ∀ b, b < 44 → K21 b = K b := fun b hb => (hK21 b).trans ((if_neg (by omega)).trans (kb20 b hb))
  have ab21 : ∀ b, b < 44 → A21 b = A b := fun b hb => (congrFun hA21 b).trans ((if_neg (by omega)).trans (ab20 b hb))
  have fb21 : ∀ b, b ≠ 44 → F21 b = F b := fun b hb => (congrFun hF21 b).trans ((up2_row hb).trans (fb20 b hb))
  clear hF21 hA21 hK21
  refine q_aload_n eX12_init_151 rfl ?_
  refine q_sipush eX12_init_152 (by decide +kernel) ?_
  refine q_newa_I (N := 1088) eX12_init_155 (by decide) (by decide) (by decide) ?_
  refine q_putF eX12_init_157 pf_X12_78 rfl k21_44 (by decide) (FT_a (Or.inr ⟨_, rfl⟩)) ?_
  refine q_cut 59 rfl (fun F22 A22 K22 hF22 hA22 hK22 => ?_)
  have f22_44_7 : F22 44 7 = vA 45 := (congrFun (congrFun hF22 44) 7).trans f21_44_7
  have f22_44_8 : F22 44 8 = vA 46 := (congrFun (congrFun hF22 44) 8).trans f21_44_8
  have f22_44_9 : F22 44 9 = vA 47 := (congrFun (congrFun hF22 44) 9).trans f21_44_9
  have f22_44_10 : F22 44 10 = vA 48 := (congrFun (congrFun hF22 44) 10).trans f21_44_10
  have f22_44_12 : F22 44 12 = vA 49 := (congrFun (congrFun hF22 44) 12).trans f21_44_12
  have f22_44_13 : F22 44 13 = vA 50 := (congrFun (congrFun hF22 44) 13).trans f21_44_13
  have f22_44_14 : F22 44 14 = vA 51 := (congrFun (congrFun hF22 44) 14).trans f21_44_14
  have f22_44_15 : F22 44 15 = vA 52 := (congrFun (congrFun hF22 44) 15).trans f21_44_15
  have f22_44_16 : F22 44 16 = vA 53 := (congrFun (congrFun hF22 44) 16).trans f21_44_16
  have f22_44_17 : F22 44 17 = vA 54 := (congrFun (congrFun hF22 44) 17).trans f21_44_17
  have f22_44_18 : F22 44 18 = vA 55 := (congrFun (congrFun hF22 44) 18).trans f21_44_18
  have f22_44_19 : F22 44 19 = vI 0 := (congrFun (congrFun hF22 44) 19).trans f21_44_19
  have f22_44_20 : F22 44 20 = vI 0 := (congrFun (congrFun hF22 44) 20).trans f21_44_20
  have f22_44_21 : F22 44 21 = vI 0 := (congrFun (congrFun hF22 44) 21).trans f21_44_21
  have f22_44_22 : F22 44 22 = vI 0 := (congrFun (congrFun hF22 44) 22).trans f21_44_22
  have f22_44_23 : F22 44 23 = vI 0 := (congrFun (congrFun hF22 44) 23).trans f21_44_23
  have f22_44_24 : F22 44 24 = vI 0 := (congrFun (congrFun hF22 44) 24).trans f21_44_24
  have f22_44_25 : F22 44 25 = vI 0 := (congrFun (congrFun hF22 44) 25).trans f21_44_25
  have f22_44_26 : F22 44 26 = vI 0 := (congrFun (congrFun hF22 44) 26).trans f21_44_26
  have f22_44_27 : F22 44 27 = vI (-1) := (congrFun (congrFun hF22 44) 27).trans f21_44_27
  have f22_44_28 : F22 44 28 = vI 0 := (congrFun (congrFun hF22 44) 28).trans f21_44_28
  have f22_44_29 : F22 44 29 = vI 0 := (congrFun (congrFun hF22 44) 29).trans f21_44_29
  have f22_44_36 : F22 44 36 = vA 56 := (congrFun (congrFun hF22 44) 36).trans f21_44_36
  have f22_44_37 : F22 44 37 = vA 57 := (congrFun (congrFun hF22 44) 37).trans f21_44_37
  have f22_44_38 : F22 44 38 = vA 58 := (congrFun (congrFun hF22 44) 38).trans rfl
  have f22_44_52 : F22 44 52 = vI 0 := (congrFun (congrFun hF22 44) 52).trans f21_44_52
  have k22_44 : K22 44 = (20, 54) := (hK22 44).trans k21_44
  have k22_45 : K22 45 = (0, 7) := (hK22 45).trans k21_45
  have k22_46 : K22 46 = (0, 4096) := (hK22 46).trans k21_46
  have k22_47 : K22 47 = (0, 4096) := (hK22 47).trans k21_47
  have k22_48 : K22 48 = (0, 4096) := (hK22 48).trans k21_48
  have k22_49 : K22 49 = (0, 8) := (hK22 49).trans k21_49
  have k22_50 : K22 50 = (0, 8) := (hK22 50).trans k21_50
  have k22_51 : K22 51 = (0, 6) := (hK22 51).trans k21_51
  have k22_52 : K22 52 = (0, 6) := (hK22 52).trans k21_52
  have k22_53 : K22 53 = (0, 12) := (hK22 53).trans k21_53
  have k22_54 : K22 54 = (0, 4) := (hK22 54).trans k21_54
  have k22_55 : K22 55 = (1, 200) := (hK22 55).trans k21_55
  have k22_56 : K22 56 = (0, 65) := (hK22 56).trans k21_56
  have k22_57 : K22 57 = (0, 65) := (hK22 57).trans k21_57
  have k22_58 : K22 58 = (0, 1088) := (hK22 58).trans rfl
  have a22_0 : A22 0 = A 0 := (congrFun hA22 0).trans a21_0
  have a22_55 : A22 55 = fun _ => 0 := (congrFun hA22 55).trans a21_55
  have kb22 : ∀ b, b < 44 → K22 b = K b := fun b hb => (hK22 b).trans ((if_neg (by omega)).trans (kb21 b hb))
  have ab22 : ∀ b, b < 44 → A22 b = A b := fun b hb => (congrFun hA22 b).trans ((if_neg (by omega)).trans (ab21 b hb))
  have fb22 : ∀ b, b ≠ 44 → F22 b = F b := fun b hb => (congrFun hF22 b).trans ((up2_row hb).trans (fb21 b hb))
  clear hF22 hA22 hK22
  refine q_aload_n eX12_init_160 rfl ?_
  refine q_bipush eX12_init_161 (by decide +kernel) ?_
  refine q_newa_I (N := 64) eX12_init_163 (by decide) (by decide) (by decide) ?_
  refine q_putF eX12_init_165 pf_X12_81 rfl k22_44 (by decide) (FT_a (Or.inr ⟨_, rfl⟩)) ?_
  refine q_cut 60 rfl (fun F23 A23 K23 hF23 hA23 hK23 => ?_)
  have f23_44_7 : F23 44 7 = vA 45 := (congrFun (congrFun hF23 44) 7).trans f22_44_7
  have f23_44_8 : F23 44 8 = vA 46 := (congrFun (congrFun hF23 44) 8).trans f22_44_8
  have f23_44_9 : F23 44 9 = vA 47 := (congrFun (congrFun hF23 44) 9).trans f22_44_9
  have f23_44_10 : F23 44 10 = vA 48 := (congrFun (congrFun hF23 44) 10).trans f22_44_10
  have f23_44_12 : F23 44 12 = vA 49 := (congrFun (congrFun hF23 44) 12).trans f22_44_12
  have f23_44_13 : F23 44 13 = vA 50 := (congrFun (congrFun hF23 44) 13).trans f22_44_13
  have f23_44_14 : F23 44 14 = vA 51 := (congrFun (congrFun hF23 44) 14).trans f22_44_14
  have f23_44_15 : F23 44 15 = vA 52 := (congrFun (congrFun hF23 44) 15).trans f22_44_15
  have f23_44_16 : F23 44 16 = vA 53 := (congrFun (congrFun hF23 44) 16).trans f22_44_16
  have f23_44_17 : F23 44 17 = vA 54 := (congrFun (congrFun hF23 44) 17).trans f22_44_17
  have f23_44_18 : F23 44 18 = vA 55 := (congrFun (congrFun hF23 44) 18).trans f22_44_18
  have f23_44_19 : F23 44 19 = vI 0 := (congrFun (congrFun hF23 44) 19).trans f22_44_19
  have f23_44_20 : F23 44 20 = vI 0 := (congrFun (congrFun hF23 44) 20).trans f22_44_20
  have f23_44_21 : F23 44 21 = vI 0 := (congrFun (congrFun hF23 44) 21).trans f22_44_21
  have f23_44_22 : F23 44 22 = vI 0 := (congrFun (congrFun hF23 44) 22).trans f22_44_22
  have f23_44_23 : F23 44 23 = vI 0 := (congrFun (congrFun hF23 44) 23).trans f22_44_23
  have f23_44_24 : F23 44 24 = vI 0 := (congrFun (congrFun hF23 44) 24).trans f22_44_24
  have f23_44_25 : F23 44 25 = vI 0 := (congrFun (congrFun hF23 44) 25).trans f22_44_25
  have f23_44_26 : F23 44 26 = vI 0 := (congrFun (congrFun hF23 44) 26).trans f22_44_26
  have f23_44_27 : F23 44 27 = vI (-1) := (congrFun (congrFun hF23 44) 27).trans f22_44_27
  have f23_44_28 : F23 44 28 = vI 0 := (congrFun (congrFun hF23 44) 28).trans f22_44_28
  have f23_44_29 : F23 44 29 = vI 0 := (congrFun (congrFun hF23 44) 29).trans f22_44_29
  have f23_44_36 : F23 44 36 = vA 56 := (congrFun (congrFun hF23 44) 36).trans f22_44_36
  have f23_44_37 : F23 44 37 = vA 57 := (congrFun (congrFun hF23 44) 37).trans f22_44_37
  have f23_44_38 : F23 44 38 = vA 58 := (congrFun (congrFun hF23 44) 38).trans f22_44_38
  have f23_44_39 : F23 44 39 = vA 59 := (congrFun (congrFun hF23 44) 39).trans rfl
  have f23_44_52 : F23 44 52 = vI 0 := (congrFun (congrFun hF23 44) 52).trans f22_44_52
  have k23_44 : K23 44 = (20, 54) := (hK23 44).trans k22_44
  have k23_45 : K23 45 = (0, 7) := (hK23 45).trans k22_45
  have k23_46 : K23 46 = (0, 4096) := (hK23 46).trans k22_46
  have k23_47 : K23 47 = (0, 4096) := (hK23 47).trans k22_47
  have k23_48 : K23 48 = (0, 4096) := (hK23 48).trans k22_48
  have k23_49 : K23 49 = (0, 8) := (hK23 49).trans k22_49
  have k23_50 : K23 50 = (0, 8) := (hK23 50).trans k22_50
  have k23_51 : K23 51 = (0, 6) := (hK23 51).trans k22_51
  have k23_52 : K23 52 = (0, 6) := (hK23 52).trans k22_52
  have k23_53 : K23 53 = (0, 12) := (hK23 53).trans k22_53
  have k23_54 : K23 54 = (0, 4) := (hK23 54).trans k22_54
  have k23_55 : K23 55 = (1, 200) := (hK23 55).trans k22_55
  have k23_56 : K23 56 = (0, 65) := (hK23 56).trans k22_56
  have k23_57 : K23 57 = (0, 65) := (hK23 57).trans k22_57
  have k23_58 : K23 58 = (0, 1088) := (hK23 58).trans k22_58
  have k23_59 : K23 59 = (0, 64) := (hK23 59).trans rfl
  have a23_0 : A23 0 = A 0 := (congrFun hA23 0).trans a22_0
  have a23_55 : A23 55 = fun _ => 0 := (congrFun hA23 55).trans a22_55
  have kb23 : ∀ b, b < 44 → K23 b = K b := fun b hb => (hK23 b).trans ((if_neg (by omega)).trans (kb22 b hb))
  have ab23 : ∀ b, b < 44 → A23 b = A b := fun b hb => (congrFun hA23 b).trans ((if_neg (by omega)).trans (ab22 b hb))
  have fb23 : ∀ b, b ≠ 44 → F23 b = F b := fun b hb => (congrFun hF23 b).trans ((up2_row hb).trans (fb22 b hb))
  clear hF23 hA23 hK23
  refine q_aload_n eX12_init_168 rfl ?_
  refine q_sipush eX12_init_169 (by decide +kernel) ?_
  refine q_newa_I (N := 8192) eX12_init_172 (by decide) (by decide) (by decide) ?_
  refine q_putF eX12_init_174 pf_X12_84 rfl k23_44 (by decide) (FT_a (Or.inr ⟨_, rfl⟩)) ?_
  refine q_cut 61 rfl (fun F24 A24 K24 hF24 hA24 hK24 => ?_)
  have f24_44_7 : F24 44 7 = vA 45 := (congrFun (congrFun hF24 44) 7).trans f23_44_7
  have f24_44_8 : F24 44 8 = vA 46 := (congrFun (congrFun hF24 44) 8).trans f23_44_8
  have f24_44_9 : F24 44 9 = vA 47 := (congrFun (congrFun hF24 44) 9).trans f23_44_9
  have f24_44_10 : F24 44 10 = vA 48 := (congrFun (congrFun hF24 44) 10).trans f23_44_10
  have f24_44_12 : F24 44 12 = vA 49 := (congrFun (congrFun hF24 44) 12).trans f23_44_12
  have f24_44_13 : F24 44 13 = vA 50 := (congrFun (congrFun hF24 44) 13).trans f23_44_13
  have f24_44_14 : F24 44 14 = vA 51 := (congrFun (congrFun hF24 44) 14).trans f23_44_14
  have f24_44_15 : F24 44 15 = vA 52 := (congrFun (congrFun hF24 44) 15).trans f23_44_15
  have f24_44_16 : F24 44 16 = vA 53 := (congrFun (congrFun hF24 44) 16).trans f23_44_16
  have f24_44_17 : F24 44 17 = vA 54 := (congrFun (congrFun hF24 44) 17).trans f23_44_17
  have f24_44_18 : F24 44 18 = vA 55 := (congrFun (congrFun hF24 44) 18).trans f23_44_18
  have f24_44_19 : F24 44 19 = vI 0 := (congrFun (congrFun hF24 44) 19).trans f23_44_19
  have f24_44_20 : F24 44 20 = vI 0 := (congrFun (congrFun hF24 44) 20).trans f23_44_20
  have f24_44_21 : F24 44 21 = vI 0 := (congrFun (congrFun hF24 44) 21).trans f23_44_21
  have f24_44_22 : F24 44 22 = vI 0 := (congrFun (congrFun hF24 44) 22).trans f23_44_22
  have f24_44_23 : F24 44 23 = vI 0 := (congrFun (congrFun hF24 44) 23).trans f23_44_23
  have f24_44_24 : F24 44 24 = vI 0 := (congrFun (congrFun hF24 44) 24).trans f23_44_24
  have f24_44_25 : F24 44 25 = vI 0 := (congrFun (congrFun hF24 44) 25).trans f23_44_25
  have f24_44_26 : F24 44 26 = vI 0 := (congrFun (congrFun hF24 44) 26).trans f23_44_26
  have f24_44_27 : F24 44 27 = vI (-1) := (congrFun (congrFun hF24 44) 27).trans f23_44_27
  have f24_44_28 : F24 44 28 = vI 0 := (congrFun (congrFun hF24 44) 28).trans f23_44_28
  have f24_44_29 : F24 44 29 = vI 0 := (congrFun (congrFun hF24 44) 29).trans f23_44_29
  have f24_44_36 : F24 44 36 = vA 56 := (congrFun (congrFun hF24 44) 36).trans f23_44_36
  have f24_44_37 : F24 44 37 = vA 57 := (congrFun (congrFun hF24 44) 37).trans f23_44_37
  have f24_44_38 : F24 44 38 = vA 58 := (congrFun (congrFun hF24 44) 38).trans f23_44_38
  have f24_44_39 : F24 44 39 = vA 59 := (congrFun (congrFun hF24 44) 39).trans f23_44_39
  have f24_44_40 : F24 44 40 = vA 60 := (congrFun (congrFun hF24 44) 40).trans rfl
  have f24_44_52 : F24 44 52 = vI 0 := (congrFun (congrFun hF24 44) 52).trans f23_44_52
  have k24_44 : K24 44 = (20, 54) := (hK24 44).trans k23_44
  have k24_45 : K24 45 = (0, 7) := (hK24 45).trans k23_45
  have k24_46 : K24 46 = (0, 4096) := (hK24 46).trans k23_46
  have k24_47 : K24 47 = (0, 4096) := (hK24 47).trans k23_47
  have k24_48 : K24 48 = (0, 4096) := (hK24 48).trans k23_48
  have k24_49 : K24 49 = (0, 8) := (hK24 49).trans k23_49
  have k24_50 : K24 50 = (0, 8) := (hK24 50).trans k23_50
  have k24_51 : K24 51 = (0, 6) := (hK24 51).trans k23_51
  have k24_52 : K24 52 = (0, 6) := (hK24 52).trans k23_52
  have k24_53 : K24 53 = (0, 12) := (hK24 53).trans k23_53
  have k24_54 : K24 54 = (0, 4) := (hK24 54).trans k23_54
  have k24_55 : K24 55 = (1, 200) := (hK24 55).trans k23_55
  have k24_56 : K24 56 = (0, 65) := (hK24 56).trans k23_56
  have k24_57 : K24 57 = (0, 65) := (hK24 57).trans k23_57
  have k24_58 : K24 58 = (0, 1088) := (hK24 58).trans k23_58
  have k24_59 : K24 59 = (0, 64) := (hK24 59).trans k23_59
  have k24_60 : K24 60 = (0, 8192) := (hK24 60).trans rfl
  have a24_0 : A24 0 = A 0 := (congrFun hA24 0).trans a23_0
  have a24_55 : A24 55 = fun _ => 0 := (congrFun hA24 55).trans a23_55
  have kb24 : ∀ b, b < 44 → K24 b = K b := fun b hb => (hK24 b).trans ((if_neg (by omega)).trans (kb23 b hb))
  have ab24 : ∀ b, b < 44 → A24 b = A b := fun b hb => (congrFun hA24 b).trans ((if_neg (by omega)).trans (ab23 b hb))
  have fb24 : ∀ b, b ≠ 44 → F24 b = F b := fun b hb => (congrFun hF24 b).trans ((up2_row hb).trans (fb23 b hb))
  clear hF24 hA24 hK24
  refine q_aload_n eX12_init_177 rfl ?_
  refine q_bipush eX12_init_178 (by decide +kernel) ?_
  refine q_newa_I (N := 64) eX12_init_180 (by decide) (by decide) (by decide) ?_
  refine q_putF eX12_init_182 pf_X12_87 rfl k24_44 (by decide) (FT_a (Or.inr ⟨_, rfl⟩)) ?_
  refine q_cut 62 rfl (fun F25 A25 K25 hF25 hA25 hK25 => ?_)
  have f25_44_7 : F25 44 7 = vA 45 := (congrFun (congrFun hF25 44) 7).trans f24_44_7
  have f25_44_8 : F25 44 8 = vA 46 := (congrFun (congrFun hF25 44) 8).trans f24_44_8
  have f25_44_9 : F25 44 9 = vA 47 := (congrFun (congrFun hF25 44) 9).trans f24_44_9
  have f25_44_10 : F25 44 10 = vA 48 := (congrFun (congrFun hF25 44) 10).trans f24_44_10
  have f25_44_12 : F25 44 12 = vA 49 := (congrFun (congrFun hF25 44) 12).trans f24_44_12
  have f25_44_13 : F25 44 13 = vA 50 := (congrFun (congrFun hF25 44) 13).trans f24_44_13
  have f25_44_14 : F25 44 14 = vA 51 := (congrFun (congrFun hF25 44) 14).trans f24_44_14
  have f25_44_15 : F25 44 15 = vA 52 := (congrFun (congrFun hF25 44) 15).trans f24_44_15
  have f25_44_16 : F25 44 16 = vA 53 := (congrFun (congrFun hF25 44) 16).trans f24_44_16
  have f25_44_17 : F25 44 17 = vA 54 := (congrFun (congrFun hF25 44) 17).trans f24_44_17
  have f25_44_18 : F25 44 18 = vA 55 := (congrFun (congrFun hF25 44) 18).trans f24_44_18
  have f25_44_19 : F25 44 19 = vI 0 := (congrFun (congrFun hF25 44) 19).trans f24_44_19
  have f25_44_20 : F25 44 20 = vI 0 := (congrFun (congrFun hF25 44) 20).trans f24_44_20
  have f25_44_21 : F25 44 21 = vI 0 := (congrFun (congrFun hF25 44) 21).trans f24_44_21
  have f25_44_22 : F25 44 22 = vI 0 := (congrFun (congrFun hF25 44) 22).trans f24_44_22
  have f25_44_23 : F25 44 23 = vI 0 := (congrFun (congrFun hF25 44) 23).trans f24_44_23
  have f25_44_24 : F25 44 24 = vI 0 := (congrFun (congrFun hF25 44) 24).trans f24_44_24
  have f25_44_25 : F25 44 25 = vI 0 := (congrFun (congrFun hF25 44) 25).trans f24_44_25
  have f25_44_26 : F25 44 26 = vI 0 := (congrFun (congrFun hF25 44) 26).trans f24_44_26
  have f25_44_27 : F25 44 27 = vI (-1) := (congrFun (congrFun hF25 44) 27).trans f24_44_27
  have f25_44_28 : F25 44 28 = vI 0 := (congrFun (congrFun hF25 44) 28).trans f24_44_28
  have f25_44_29 : F25 44 29 = vI 0 := (congrFun (congrFun hF25 44) 29).trans f24_44_29
  have f25_44_36 : F25 44 36 = vA 56 := (congrFun (congrFun hF25 44) 36).trans f24_44_36
  have f25_44_37 : F25 44 37 = vA 57 := (congrFun (congrFun hF25 44) 37).trans f24_44_37
  have f25_44_38 : F25 44 38 = vA 58 := (congrFun (congrFun hF25 44) 38).trans f24_44_38
  have f25_44_39 : F25 44 39 = vA 59 := (congrFun (congrFun hF25 44) 39).trans f24_44_39
  have f25_44_40 : F25 44 40 = vA 60 := (congrFun (congrFun hF25 44) 40).trans f24_44_40
  have f25_44_42 : F25 44 42 = vA 61 := (congrFun (congrFun hF25 44) 42).trans rfl
  have f25_44_52 : F25 44 52 = vI 0 := (congrFun (congrFun hF25 44) 52).trans f24_44_52
  have k25_44 : K25 44 = (20, 54) := (hK25 44).trans k24_44
  have k25_45 : K25 45 = (0, 7) := (hK25 45).trans k24_45
  have k25_46 : K25 46 = (0, 4096) := (hK25 46).trans k24_46
  have k25_47 : K25 47 = (0, 4096) := (hK25 47).trans k24_47
  have k25_48 : K25 48 = (0, 4096) := (hK25 48).trans k24_48
  have k25_49 : K25 49 = (0, 8) := (hK25 49).trans k24_49
  have k25_50 : K25 50 = (0, 8) := (hK25 50).trans k24_50
  have k25_51 : K25 51 = (0, 6) := (hK25 51).trans k24_51
  have k25_52 : K25 52 = (0, 6) := (hK25 52).trans k24_52
  have k25_53 : K25 53 = (0, 12) := (hK25 53).trans k24_53
  have k25_54 : K25 54 = (0, 4) := (hK25 54).trans k24_54
  have k25_55 : K25 55 = (1, 200) := (hK25 55).trans k24_55
  have k25_56 : K25 56 = (0, 65) := (hK25 56).trans k24_56
  have k25_57 : K25 57 = (0, 65) := (hK25 57).trans k24_57
  have k25_58 : K25 58 = (0, 1088) := (hK25 58).trans k24_58
  have k25_59 : K25 59 = (0, 64) := (hK25 59).trans k24_59
  have k25_60 : K25 60 = (0, 8192) := (hK25 60).trans k24_60
  have k25_61 : K25 61 = (0, 64) := (hK25 61).trans rfl
  have a25_0 : A25 0 = A 0 := (congrFun hA25 0).trans a24_0
  have a25_55 : A25 55 = fun _ => 0 := (congrFun hA25 55).trans a24_55
  have kb25 : ∀ b, b < 44 → K25 b = K b := fun b hb => (hK25 b).trans ((if_neg (by omega)).trans (kb24 b hb))
  have ab25 : ∀ b, b < 44 → A25 b = A b := fun b hb => (congrFun hA25 b).trans ((if_neg (by omega)).trans (ab24 b hb))
  have fb25 : ∀ b, b ≠ 44 → F25 b = F b := fun b hb => (congrFun hF25 b).trans ((up2_row hb).trans (fb24 b hb))
  clear hF25 hA25 hK25
  refine q_aload_n eX12_init_185 rfl ?_
  refine q_bipush eX12_init_186 (by decide +kernel) ?_
  refine q_newa_I (N := 64) eX12_init_188 (by decide) (by decide) (by decide) ?_
  refine q_putF eX12_init_190 pf_X12_90 rfl k25_44 (by decide) (FT_a (Or.inr ⟨_, rfl⟩)) ?_
  refine q_cut 63 rfl (fun F26 A26 K26 hF26 hA26 hK26 => ?_)
  have f26_44_7 : F26 44 7 = vA 45 := (congrFun (congrFun hF26 44) 7).trans f25_44_7
  have f26_44_8 : F26 44 8 = vA 46 := (congrFun (congrFun hF26 44) 8).trans f25_44_8
  have f26_44_9 : F26 44 9 = vA 47 := (congrFun (congrFun hF26 44) 9).trans f25_44_9
  have f26_44_10 : F26 44 10 = vA 48 := (congrFun (congrFun hF26 44) 10).trans f25_44_10
  have f26_44_12 : F26 44 12 = vA 49 := (congrFun (congrFun hF26 44) 12).trans f25_44_12
  have f26_44_13 : F26 44 13 = vA 50 := (congrFun (congrFun hF26 44) 13).trans f25_44_13
  have f26_44_14 : F26 44 14 = vA 51 := (congrFun (congrFun hF26 44) 14).trans f25_44_14
  have f26_44_15 : F26 44 15 = vA 52 := (congrFun (congrFun hF26 44) 15).trans f25_44_15
  have f26_44_16 : F26 44 16 = vA 53 := (congrFun (congrFun hF26 44) 16).trans f25_44_16
  have f26_44_17 : F26 44 17 = vA 54 := (congrFun (congrFun hF26 44) 17).trans f25_44_17
  have f26_44_18 : F26 44 18 = vA 55 := (congrFun (congrFun hF26 44) 18).trans f25_44_18
  have f26_44_19 : F26 44 19 = vI 0 := (congrFun (congrFun hF26 44) 19).trans f25_44_19
  have f26_44_20 : F26 44 20 = vI 0 := (congrFun (congrFun hF26 44) 20).trans f25_44_20
  have f26_44_21 : F26 44 21 = vI 0 := (congrFun (congrFun hF26 44) 21).trans f25_44_21
  have f26_44_22 : F26 44 22 = vI 0 := (congrFun (congrFun hF26 44) 22).trans f25_44_22
  have f26_44_23 : F26 44 23 = vI 0 := (congrFun (congrFun hF26 44) 23).trans f25_44_23
  have f26_44_24 : F26 44 24 = vI 0 := (congrFun (congrFun hF26 44) 24).trans f25_44_24
  have f26_44_25 : F26 44 25 = vI 0 := (congrFun (congrFun hF26 44) 25).trans f25_44_25
  have f26_44_26 : F26 44 26 = vI 0 := (congrFun (congrFun hF26 44) 26).trans f25_44_26
  have f26_44_27 : F26 44 27 = vI (-1) := (congrFun (congrFun hF26 44) 27).trans f25_44_27
  have f26_44_28 : F26 44 28 = vI 0 := (congrFun (congrFun hF26 44) 28).trans f25_44_28
  have f26_44_29 : F26 44 29 = vI 0 := (congrFun (congrFun hF26 44) 29).trans f25_44_29
  have f26_44_36 : F26 44 36 = vA 56 := (congrFun (congrFun hF26 44) 36).trans f25_44_36
  have f26_44_37 : F26 44 37 = vA 57 := (congrFun (congrFun hF26 44) 37).trans f25_44_37
  have f26_44_38 : F26 44 38 = vA 58 := (congrFun (congrFun hF26 44) 38).trans f25_44_38
  have f26_44_39 : F26 44 39 = vA 59 := (congrFun (congrFun hF26 44) 39).trans f25_44_39
  have f26_44_40 : F26 44 40 = vA 60 := (congrFun (congrFun hF26 44) 40).trans f25_44_40
  have f26_44_42 : F26 44 42 = vA 61 := (congrFun (congrFun hF26 44) 42).trans f25_44_42
  have f26_44_44 : F26 44 44 = vA 62 := (congrFun (congrFun hF26 44) 44).trans rfl
  have f26_44_52 : F26 44 52 = vI 0 := (congrFun (congrFun hF26 44) 52).trans f25_44_52
  have k26_44 : K26 44 = (20, 54) := (hK26 44).trans k25_44
  have k26_45 : K26 45 = (0, 7) := (hK26 45).trans k25_45
  have k26_46 : K26 46 = (0, 4096) := (hK26 46).trans k25_46
  have k26_47 : K26 47 = (0, 4096) := (hK26 47).trans k25_47
  have k26_48 : K26 48 = (0, 4096) := (hK26 48).trans k25_48
  have k26_49 : K26 49 = (0, 8) := (hK26 49).trans k25_49
  have k26_50 : K26 50 = (0, 8) := (hK26 50).trans k25_50
  have k26_51 : K26 51 = (0, 6) := (hK26 51).trans k25_51
  have k26_52 : K26 52 = (0, 6) := (hK26 52).trans k25_52
  have k26_53 : K26 53 = (0, 12) := (hK26 53).trans k25_53
  have k26_54 : K26 54 = (0, 4) := (hK26 54).trans k25_54
  have k26_55 : K26 55 = (1, 200) := (hK26 55).trans k25_55
  have k26_56 : K26 56 = (0, 65) := (hK26 56).trans k25_56
  have k26_57 : K26 57 = (0, 65) := (hK26 57).trans k25_57
  have k26_58 : K26 58 = (0, 1088) := (hK26 58).trans k25_58
  have k26_59 : K26 59 = (0, 64) := (hK26 59).trans k25_59
  have k26_60 : K26 60 = (0, 8192) := (hK26 60).trans k25_60
  have k26_61 : K26 61 = (0, 64) := (hK26 61).trans k25_61
  have k26_62 : K26 62 = (0, 64) := (hK26 62).trans rfl
  have a26_0 : A26 0 = A 0 := (congrFun hA26 0).trans a25_0
  have a26_55 : A26 55 = fun _ => 0 := (congrFun hA26 55).trans a25_55
  have kb26 : ∀ b, b < 44 → K26 b = K b := fun b hb => (hK26 b).trans ((if_neg (by omega)).trans (kb25 b hb))
  have ab26 : ∀ b, b < 44 → A26 b = A b := fun b hb => (congrFun hA26 b).trans ((if_neg (by omega)).trans (ab25 b hb))
  have fb26 : ∀ b, b ≠ 44 → F26 b = F b := fun b hb => (congrFun hF26 b).trans ((up2_row hb).trans (fb25 b hb))
  clear hF26 hA26 hK26
  refine q_aload_n eX12_init_193 rfl ?_
  refine q_bipush eX12_init_194 (by decide +kernel) ?_
  refine q_newa_I (N := 64) eX12_init_196 (by decide) (by decide) (by decide) ?_
  refine q_putF eX12_init_198 pf_X12_93 rfl k26_44 (by decide) (FT_a (Or.inr ⟨_, rfl⟩)) ?_
  refine q_cut 64 rfl (fun F27 A27 K27 hF27 hA27 hK27 => ?_)
  have f27_44_7 : F27 44 7 = vA 45 := (congrFun (congrFun hF27 44) 7).trans f26_44_7
  have f27_44_8 : F27 44 8 = vA 46 := (congrFun (congrFun hF27 44) 8).trans f26_44_8
  have f27_44_9 : F27 44 9 = vA 47 := (congrFun (congrFun hF27 44) 9).trans f26_44_9
  have f27_44_10 : F27 44 10 = vA 48 := (congrFun (congrFun hF27 44) 10).trans f26_44_10
  have f27_44_12 : F27 44 12 = vA 49 := (congrFun (congrFun hF27 44) 12).trans f26_44_12
  have f27_44_13 : F27 44 13 = vA 50 := (congrFun (congrFun hF27 44) 13).trans f26_44_13
  have f27_44_14 : F27 44 14 = vA 51 := (congrFun (congrFun hF27 44) 14).trans f26_44_14
  have f27_44_15 : F27 44 15 = vA 52 := (congrFun (congrFun hF27 44) 15).trans f26_44_15
  have f27_44_16 : F27 44 16 = vA 53 := (congrFun (congrFun hF27 44) 16).trans f26_44_16
  have f27_44_17 : F27 44 17 = vA 54 := (congrFun (congrFun hF27 44) 17).trans f26_44_17
  have f27_44_18 : F27 44 18 = vA 55 := (congrFun (congrFun hF27 44) 18).trans f26_44_18
  have f27_44_19 : F27 44 19 = vI 0 := (congrFun (congrFun hF27 44) 19).trans f26_44_19
  have f27_44_20 : F27 44 20 = vI 0 := (congrFun (congrFun hF27 44) 20).trans f26_44_20
  have f27_44_21 : F27 44 21 = vI 0 := (congrFun (congrFun hF27 44) 21).trans f26_44_21
  have f27_44_22 : F27 44 22 = vI 0 := (congrFun (congrFun hF27 44) 22).trans f26_44_22
  have f27_44_23 : F27 44 23 = vI 0 := (congrFun (congrFun hF27 44) 23).trans f26_44_23
  have f27_44_24 : F27 44 24 = vI 0 := (congrFun (congrFun hF27 44) 24).trans f26_44_24
  have f27_44_25 : F27 44 25 = vI 0 := (congrFun (congrFun hF27 44) 25).trans f26_44_25
  have f27_44_26 : F27 44 26 = vI 0 := (congrFun (congrFun hF27 44) 26).trans f26_44_26
  have f27_44_27 : F27 44 27 = vI (-1) := (congrFun (congrFun hF27 44) 27).trans f26_44_27
  have f27_44_28 : F27 44 28 = vI 0 := (congrFun (congrFun hF27 44) 28).trans f26_44_28
  have f27_44_29 : F27 44 29 = vI 0 := (congrFun (congrFun hF27 44) 29).trans f26_44_29
  have f27_44_36 : F27 44 36 = vA 56 := (congrFun (congrFun hF27 44) 36).trans f26_44_36
  have f27_44_37 : F27 44 37 = vA 57 := (congrFun (congrFun hF27 44) 37).trans f26_44_37
  have f27_44_38 : F27 44 38 = vA 58 := (congrFun (congrFun hF27 44) 38).trans f26_44_38
  have f27_44_39 : F27 44 39 = vA 59 := (congrFun (congrFun hF27 44) 39).trans f26_44_39
  have f27_44_40 : F27 44 40 = vA 60 := (congrFun (congrFun hF27 44) 40).trans f26_44_40
  have f27_44_42 : F27 44 42 = vA 61 := (congrFun (congrFun hF27 44) 42).trans f26_44_42
  have f27_44_44 : F27 44 44 = vA 62 := (congrFun (congrFun hF27 44) 44).trans f26_44_44
  have f27_44_46 : F27 44 46 = vA 63 := (congrFun (congrFun hF27 44) 46).trans rfl
  have f27_44_52 : F27 44 52 = vI 0 := (congrFun (congrFun hF27 44) 52).trans f26_44_52
  have k27_44 : K27 44 = (20, 54) := (hK27 44).trans k26_44
  have k27_45 : K27 45 = (0, 7) := (hK27 45).trans k26_45
  have k27_46 : K27 46 = (0, 4096) := (hK27 46).trans k26_46
  have k27_47 : K27 47 = (0, 4096) := (hK27 47).trans k26_47
  have k27_48 : K27 48 = (0, 4096) := (hK27 48).trans k26_48
  have k27_49 : K27 49 = (0, 8) := (hK27 49).trans k26_49
  have k27_50 : K27 50 = (0, 8) := (hK27 50).trans k26_50
  have k27_51 : K27 51 = (0, 6) := (hK27 51).trans k26_51
  have k27_52 : K27 52 = (0, 6) := (hK27 52).trans k26_52
  have k27_53 : K27 53 = (0, 12) := (hK27 53).trans k26_53
  have k27_54 : K27 54 = (0, 4) := (hK27 54).trans k26_54
  have k27_55 : K27 55 = (1, 200) := (hK27 55).trans k26_55
  have k27_56 : K27 56 = (0, 65) := (hK27 56).trans k26_56
  have k27_57 : K27 57 = (0, 65) := (hK27 57).trans k26_57
  have k27_58 : K27 58 = (0, 1088) := (hK27 58).trans k26_58
  have k27_59 : K27 59 = (0, 64) := (hK27 59).trans k26_59
  have k27_60 : K27 60 = (0, 8192) := (hK27 60).trans k26_60
  have k27_61 : K27 61 = (0, 64) := (hK27 61).trans k26_61
  have k27_62 : K27 62 = (0, 64) := (hK27 62).trans k26_62
  have k27_63 : K27 63 = (0, 64) := (hK27 63).trans rfl
  have a27_0 : A27 0 = A 0 := (congrFun hA27 0).trans a26_0
  have a27_55 : A27 55 = fun _ => 0 := (congrFun hA27 55).trans a26_55
  have kb27 : ∀ b, b < 44 → K27 b = K b := fun b hb => (hK27 b).trans ((if_neg (by omega)).trans (kb26 b hb))
  have ab27 : ∀ b, b < 44 → A27 b = A b := fun b hb => (congrFun hA27 b).trans ((if_neg (by omega)).trans (ab26 b hb))
  have fb27 : ∀ b, b ≠ 44 → F27 b = F b := fun b hb => (congrFun hF27 b).trans ((up2_row hb).trans (fb26 b hb))
  clear hF27 hA27 hK27
  refine q_aload_n eX12_init_201 rfl ?_
  refine q_bipush eX12_init_202 (by decide +kernel) ?_
  refine q_newa_I (N := 64) eX12_init_204 (by decide) (by decide) (by decide) ?_
  refine q_putF eX12_init_206 pf_X12_96 rfl k27_44 (by decide) (FT_a (Or.inr ⟨_, rfl⟩)) ?_
  refine q_cut 65 rfl (fun F28 A28 K28 hF28 hA28 hK28 => ?_)
  have f28_44_7 : F28 44 7 = vA 45 := (congrFun (congrFun hF28 44) 7).trans f27_44_7
  have f28_44_8 : F28 44 8 = vA 46 := (congrFun (congrFun hF28 44) 8).trans f27_44_8
  have f28_44_9 : F28 44 9 = vA 47 := (congrFun (congrFun hF28 44) 9).trans f27_44_9
  have f28_44_10 : F28 44 10 = vA 48 := (congrFun (congrFun hF28 44) 10).trans f27_44_10
  have f28_44_12 : F28 44 12 = vA 49 := (congrFun (congrFun hF28 44) 12).trans f27_44_12
  have f28_44_13 : F28 44 13 = vA 50 := (congrFun (congrFun hF28 44) 13).trans f27_44_13
  have f28_44_14 : F28 44 14 = vA 51 := (congrFun (congrFun hF28 44) 14).trans f27_44_14
  have f28_44_15 : F28 44 15 = vA 52 := (congrFun (congrFun hF28 44) 15).trans f27_44_15
  have f28_44_16 : F28 44 16 = vA 53 := (congrFun (congrFun hF28 44) 16).trans f27_44_16
  have f28_44_17 : F28 44 17 = vA 54 := (congrFun (congrFun hF28 44) 17).trans f27_44_17
  have f28_44_18 : F28 44 18 = vA 55 := (congrFun (congrFun hF28 44) 18).trans f27_44_18
  have f28_44_19 : F28 44 19 = vI 0 := (congrFun (congrFun hF28 44) 19).trans f27_44_19
  have f28_44_20 : F28 44 20 = vI 0 := (congrFun (congrFun hF28 44) 20).trans f27_44_20
  have f28_44_21 : F28 44 21 = vI 0 := (congrFun (congrFun hF28 44) 21).trans f27_44_21
  have f28_44_22 : F28 44 22 = vI 0 := (congrFun (congrFun hF28 44) 22).trans f27_44_22
  have f28_44_23 : F28 44 23 = vI 0 := (congrFun (congrFun hF28 44) 23).trans f27_44_23
  have f28_44_24 : F28 44 24 = vI 0 := (congrFun (congrFun hF28 44) 24).trans f27_44_24
  have f28_44_25 : F28 44 25 = vI 0 := (congrFun (congrFun hF28 44) 25).trans f27_44_25
  have f28_44_26 : F28 44 26 = vI 0 := (congrFun (congrFun hF28 44) 26).trans f27_44_26
  have f28_44_27 : F28 44 27 = vI (-1) := (congrFun (congrFun hF28 44) 27).trans f27_44_27
  have f28_44_28 : F28 44 28 = vI 0 := (congrFun (congrFun hF28 44) 28).trans f27_44_28
  have f28_44_29 : F28 44 29 = vI 0 := (congrFun (congrFun hF28 44) 29).trans f27_44_29
  have f28_44_36 : F28 44 36 = vA 56 := (congrFun (congrFun hF28 44) 36).trans f27_44_36
  have f28_44_37 : F28 44 37 = vA 57 := (congrFun (congrFun hF28 44) 37).trans f27_44_37
  have f28_44_38 : F28 44 38 = vA 58 := (congrFun (congrFun hF28 44) 38).trans f27_44_38
  have f28_44_39 : F28 44 39 = vA 59 := (congrFun (congrFun hF28 44) 39).trans f27_44_39
  have f28_44_40 : F28 44 40 = vA 60 := (congrFun (congrFun hF28 44) 40).trans f27_44_40
  have f28_44_42 : F28 44 42 = vA 61 := (congrFun (congrFun hF28 44) 42).trans f27_44_42
  have f28_44_44 : F28 44 44 = vA 62 := (congrFun (congrFun hF28 44) 44).trans f27_44_44
  have f28_44_46 : F28 44 46 = vA 63 := (congrFun (congrFun hF28 44) 46).trans f27_44_46
  have f28_44_50 : F28 44 50 = vA 64 := (congrFun (congrFun hF28 44) 50).trans rfl
  have f28_44_52 : F28 44 52 = vI 0 := (congrFun (congrFun hF28 44) 52).trans f27_44_52
  have k28_44 : K28 44 = (20, 54) := (hK28 44).trans k27_44
  have k28_45 : K28 45 = (0, 7) := (hK28 45).trans k27_45
  have k28_46 : K28 46 = (0, 4096) := (hK28 46).trans k27_46
  have k28_47 : K28 47 = (0, 4096) := (hK28 47).trans k27_47
  have k28_48 : K28 48 = (0, 4096) := (hK28 48).trans k27_48
  have k28_49 : K28 49 = (0, 8) := (hK28 49).trans k27_49
  have k28_50 : K28 50 = (0, 8) := (hK28 50).trans k27_50
  have k28_51 : K28 51 = (0, 6) := (hK28 51).trans k27_51
  have k28_52 : K28 52 = (0, 6) := (hK28 52).trans k27_52
  have k28_53 : K28 53 = (0, 12) := (hK28 53).trans k27_53
  have k28_54 : K28 54 = (0, 4) := (hK28 54).trans k27_54
  have k28_55 : K28 55 = (1, 200) := (hK28 55).trans k27_55
  have k28_56 : K28 56 = (0, 65) := (hK28 56).trans k27_56
  have k28_57 : K28 57 = (0, 65) := (hK28 57).trans k27_57
  have k28_58 : K28 58 = (0, 1088) := (hK28 58).trans k27_58
  have k28_59 : K28 59 = (0, 64) := (hK28 59).trans k27_59
  have k28_60 : K28 60 = (0, 8192) := (hK28 60).trans k27_60
  have k28_61 : K28 61 = (0, 64) := (hK28 61).trans k27_61
  have k28_62 : K28 62 = (0, 64) := (hK28 62).trans k27_62
  have k28_63 : K28 63 = (0, 64) := (hK28 63).trans k27_63
  have k28_64 : K28 64 = (0, 64) := (hK28 64).trans rfl
  have a28_0 : A28 0 = A 0 := (congrFun hA28 0).trans a27_0
  have a28_55 : A28 55 = fun _ => 0 := (congrFun hA28 55).trans a27_55
  have kb28 : ∀ b, b < 44 → K28 b = K b := fun b hb => (hK28 b).trans ((if_neg (by omega)).trans (kb27 b hb))
  have ab28 : ∀ b, b < 44 → A28 b = A b := fun b hb => (congrFun hA28 b).trans ((if_neg (by omega)).trans (ab27 b hb))
  have fb28 : ∀ b, b ≠ 44 → F28 b = F b := fun b hb => (congrFun hF28 b).trans ((up2_row hb).trans (fb27 b hb))
  clear hF28 hA28 hK28
  refine q_aload_n eX12_init_209 rfl ?_
  refine q_sipush eX12_init_210 (by decide +kernel) ?_
  refine q_newa_B (N := 128) eX12_init_213 (by decide) (by decide) (by decide) ?_
  refine q_putF eX12_init_215 pf_X12_99 rfl k28_44 (by decide) (FT_a (Or.inr ⟨_, rfl⟩)) ?_
  refine q_cut 66 rfl (fun F29 A29 K29 hF29 hA29 hK29 => ?_)
  have f29_44_7 : F29 44 7 = vA 45 := (congrFun (congrFun hF29 44) 7).trans f28_44_7
  have f29_44_8 : F29 44 8 = vA 46 := (congrFun (congrFun hF29 44) 8).trans f28_44_8
  have f29_44_9 : F29 44 9 = vA 47 := (congrFun (congrFun hF29 44) 9).trans f28_44_9
  have f29_44_10 : F29 44 10 = vA 48 := (congrFun (congrFun hF29 44) 10).trans f28_44_10
  have f29_44_12 : F29 44 12 = vA 49 := (congrFun (congrFun hF29 44) 12).trans f28_44_12
  have f29_44_13 : F29 44 13 = vA 50 := (congrFun (congrFun hF29 44) 13).trans f28_44_13
  have f29_44_14 : F29 44 14 = vA 51 := (congrFun (congrFun hF29 44) 14).trans f28_44_14
  have f29_44_15 : F29 44 15 = vA 52 := (congrFun (congrFun hF29 44) 15).trans f28_44_15
  have f29_44_16 : F29 44 16 = vA 53 := (congrFun (congrFun hF29 44) 16).trans f28_44_16
  have f29_44_17 : F29 44 17 = vA 54 := (congrFun (congrFun hF29 44) 17).trans f28_44_17
  have f29_44_18 : F29 44 18 = vA 55 := (congrFun (congrFun hF29 44) 18).trans f28_44_18
  have f29_44_19 : F29 44 19 = vI 0 := (congrFun (congrFun hF29 44) 19).trans f28_44_19
  have f29_44_20 : F29 44 20 = vI 0 := (congrFun (congrFun hF29 44) 20).trans f28_44_20
  have f29_44_21 : F29 44 21 = vI 0 := (congrFun (congrFun hF29 44) 21).trans f28_44_21
  have f29_44_22 : F29 44 22 = vI 0 := (congrFun (congrFun hF29 44) 22).trans f28_44_22
  have f29_44_23 : F29 44 23 = vI 0 := (congrFun (congrFun hF29 44) 23).trans f28_44_23
  have f29_44_24 : F29 44 24 = vI 0 := (congrFun (congrFun hF29 44) 24).trans f28_44_24
  have f29_44_25 : F29 44 25 = vI 0 := (congrFun (congrFun hF29 44) 25).trans f28_44_25
  have f29_44_26 : F29 44 26 = vI 0 := (congrFun (congrFun hF29 44) 26).trans f28_44_26
  have f29_44_27 : F29 44 27 = vI (-1) := (congrFun (congrFun hF29 44) 27).trans f28_44_27
  have f29_44_28 : F29 44 28 = vI 0 := (congrFun (congrFun hF29 44) 28).trans f28_44_28
  have f29_44_29 : F29 44 29 = vI 0 := (congrFun (congrFun hF29 44) 29).trans f28_44_29
  have f29_44_36 : F29 44 36 = vA 56 := (congrFun (congrFun hF29 44) 36).trans f28_44_36
  have f29_44_37 : F29 44 37 = vA 57 := (congrFun (congrFun hF29 44) 37).trans f28_44_37
  have f29_44_38 : F29 44 38 = vA 58 := (congrFun (congrFun hF29 44) 38).trans f28_44_38
  have f29_44_39 : F29 44 39 = vA 59 := (congrFun (congrFun hF29 44) 39).trans f28_44_39
  have f29_44_40 : F29 44 40 = vA 60 := (congrFun (congrFun hF29 44) 40).trans f28_44_40
  have f29_44_42 : F29 44 42 = vA 61 := (congrFun (congrFun hF29 44) 42).trans f28_44_42
  have f29_44_44 : F29 44 44 = vA 62 := (congrFun (congrFun hF29 44) 44).trans f28_44_44
  have f29_44_46 : F29 44 46 = vA 63 := (congrFun (congrFun hF29 44) 46).trans f28_44_46
  have f29_44_50 : F29 44 50 = vA 64 := (congrFun (congrFun hF29 44) 50).trans f28_44_50
  have f29_44_51 : F29 44 51 = vA 65 := (congrFun (congrFun hF29 44) 51).trans rfl
  have f29_44_52 : F29 44 52 = vI 0 := (congrFun (congrFun hF29 44) 52).trans f28_44_52
  have k29_44 : K29 44 = (20, 54) := (hK29 44).trans k28_44
  have k29_45 : K29 45 = (0, 7) := (hK29 45).trans k28_45
  have k29_46 : K29 46 = (0, 4096) := (hK29 46).trans k28_46
  have k29_47 : K29 47 = (0, 4096) := (hK29 47).trans k28_47
  have k29_48 : K29 48 = (0, 4096) := (hK29 48).trans k28_48
  have k29_49 : K29 49 = (0, 8) := (hK29 49).trans k28_49
  have k29_50 : K29 50 = (0, 8) := (hK29 50).trans k28_50
  have k29_51 : K29 51 = (0, 6) := (hK29 51).trans k28_51
  have k29_52 : K29 52 = (0, 6) := (hK29 52).trans k28_52
  have k29_53 : K29 53 = (0, 12) := (hK29 53).trans k28_53
  have k29_54 : K29 54 = (0, 4) := (hK29 54).trans k28_54
  have k29_55 : K29 55 = (1, 200) := (hK29 55).trans k28_55
  have k29_56 : K29 56 = (0, 65) := (hK29 56).trans k28_56
  have k29_57 : K29 57 = (0, 65) := (hK29 57).trans k28_57
  have k29_58 : K29 58 = (0, 1088) := (hK29 58).trans k28_58
  have k29_59 : K29 59 = (0, 64) := (hK29 59).trans k28_59
  have k29_60 : K29 60 = (0, 8192) := (hK29 60).trans k28_60
  have k29_61 : K29 61 = (0, 64) := (hK29 61).trans k28_61
  have k29_62 : K29 62 = (0, 64) := (hK29 62).trans k28_62
  have k29_63 : K29 63 = (0, 64) := (hK29 63).trans k28_63
  have k29_64 : K29 64 = (0, 64) := (hK29 64).trans k28_64
  have k29_65 : K29 65 = (1, 128) := (hK29 65).trans rfl
  have a29_0 : A29 0 = A 0 := (congrFun hA29 0).trans a28_0
  have a29_55 : A29 55 = fun _ => 0 := (congrFun hA29 55).trans a28_55
  have kb29 : ∀ b, b < 44 → K29 b = K b := fun b hb => (hK29 b).trans ((if_neg (by omega)).trans (kb28 b hb))
  have ab29 : ∀ b, b < 44 → A29 b = A b := fun b hb => (congrFun hA29 b).trans ((if_neg (by omega)).trans (ab28 b hb))
  have fb29 : ∀ b, b ≠ 44 → F29 b = F b := fun b hb => (congrFun hF29 b).trans ((up2_row hb).trans (fb28 b hb))
  clear hF29 hA29 hK29
  refine q_aload_n eX12_init_218 rfl ?_
  refine q_bipush eX12_init_219 (by decide +kernel) ?_
  refine q_newa_I (N := 6) eX12_init_221 (by decide) (by decide) (by decide) ?_
  refine q_putF eX12_init_223 pf_X12_102 rfl k29_44 (by decide) (FT_a (Or.inr ⟨_, rfl⟩)) ?_
  refine q_cut 67 rfl (fun F30 A30 K30 hF30 hA30 hK30 => ?_)
  have f30_44_7 : F30 44 7 = vA 45 := (congrFun (congrFun hF30 44) 7).trans f29_44_7
  have f30_44_8 : F30 44 8 = vA 46 := (congrFun (congrFun hF30 44) 8).trans f29_44_8
  have f30_44_9 : F30 44 9 = vA 47 := (congrFun (congrFun hF30 44) 9).trans f29_44_9
  have f30_44_10 : F30 44 10 = vA 48 := (congrFun (congrFun hF30 44) 10).trans f29_44_10
  have f30_44_12 : F30 44 12 = vA 49 := (congrFun (congrFun hF30 44) 12).trans f29_44_12
  have f30_44_13 : F30 44 13 = vA 50 := (congrFun (congrFun hF30 44) 13).trans f29_44_13
  have f30_44_14 : F30 44 14 = vA 51 := (congrFun (congrFun hF30 44) 14).trans f29_44_14
  have f30_44_15 : F30 44 15 = vA 52 := (congrFun (congrFun hF30 44) 15).trans f29_44_15
  have f30_44_16 : F30 44 16 = vA 53 := (congrFun (congrFun hF30 44) 16).trans f29_44_16
  have f30_44_17 : F30 44 17 = vA 54 := (congrFun (congrFun hF30 44) 17).trans f29_44_17
  have f30_44_18 : F30 44 18 = vA 55 := (congrFun (congrFun hF30 44) 18).trans f29_44_18
  have f30_44_19 : F30 44 19 = vI 0 := (congrFun (congrFun hF30 44) 19).trans f29_44_19
  have f30_44_20 : F30 44 20 = vI 0 := (congrFun (congrFun hF30 44) 20).trans f29_44_20
  have f30_44_21 : F30 44 21 = vI 0 := (congrFun (congrFun hF30 44) 21).trans f29_44_21
  have f30_44_22 : F30 44 22 = vI 0 := (congrFun (congrFun hF30 44) 22).trans f29_44_22
  have f30_44_23 : F30 44 23 = vI 0 := (congrFun (congrFun hF30 44) 23).trans f29_44_23
  have f30_44_24 : F30 44 24 = vI 0 := (congrFun (congrFun hF30 44) 24).trans f29_44_24
  have f30_44_25 : F30 44 25 = vI 0 := (congrFun (congrFun hF30 44) 25).trans f29_44_25
  have f30_44_26 : F30 44 26 = vI 0 := (congrFun (congrFun hF30 44) 26).trans f29_44_26
  have f30_44_27 : F30 44 27 = vI (-1) := (congrFun (congrFun hF30 44) 27).trans f29_44_27
  have f30_44_28 : F30 44 28 = vI 0 := (congrFun (congrFun hF30 44) 28).trans f29_44_28
  have f30_44_29 : F30 44 29 = vI 0 := (congrFun (congrFun hF30 44) 29).trans f29_44_29
  have f30_44_36 : F30 44 36 = vA 56 := (congrFun (congrFun hF30 44) 36).trans f29_44_36
  have f30_44_37 : F30 44 37 = vA 57 := (congrFun (congrFun hF30 44) 37).trans f29_44_37
  have f30_44_38 : F30 44 38 = vA 58 := (congrFun (congrFun hF30 44) 38).trans f29_44_38
  have f30_44_39 : F30 44 39 = vA 59 := (congrFun (congrFun hF30 44) 39).trans f29_44_39
  have f30_44_40 : F30 44 40 = vA 60 := (congrFun (congrFun hF30 44) 40).trans f29_44_40
  have f30_44_42 : F30 44 42 = vA 61 := (congrFun (congrFun hF30 44) 42).trans f29_44_42
  have f30_44_44 : F30 44 44 = vA 62 := (congrFun (congrFun hF30 44) 44).trans f29_44_44
  have f30_44_46 : F30 44 46 = vA 63 := (congrFun (congrFun hF30 44) 46).trans f29_44_46
  have f30_44_50 : F30 44 50 = vA 64 := (congrFun (congrFun hF30 44) 50).trans f29_44_50
  have f30_44_51 : F30 44 51 = vA 65 := (congrFun (congrFun hF30 44) 51).trans f29_44_51
  have f30_44_52 : F30 44 52 = vI 0 := (congrFun (congrFun hF30 44) 52).trans f29_44_52
  have f30_44_53 : F30 44 53 = vA 66 := (congrFun (congrFun hF30 44) 53).trans rfl
  have k30_44 : K30 44 = (20, 54) := (hK30 44).trans k29_44
  have k30_45 : K30 45 = (0, 7) := (hK30 45).trans k29_45
  have k30_46 : K30 46 = (0, 4096) := (hK30 46).trans k29_46
  have k30_47 : K30 47 = (0, 4096) := (hK30 47).trans k29_47
  have k30_48 : K30 48 = (0, 4096) := (hK30 48).trans k29_48
  have k30_49 : K30 49 = (0, 8) := (hK30 49).trans k29_49
  have k30_50 : K30 50 = (0, 8) := (hK30 50).trans k29_50
  have k30_51 : K30 51 = (0, 6) := (hK30 51).trans k29_51
  have k30_52 : K30 52 = (0, 6) := (hK30 52).trans k29_52
  have k30_53 : K30 53 = (0, 12) := (hK30 53).trans k29_53
  have k30_54 : K30 54 = (0, 4) := (hK30 54).trans k29_54
  have k30_55 : K30 55 = (1, 200) := (hK30 55).trans k29_55
  have k30_56 : K30 56 = (0, 65) := (hK30 56).trans k29_56
  have k30_57 : K30 57 = (0, 65) := (hK30 57).trans k29_57
  have k30_58 : K30 58 = (0, 1088) := (hK30 58).trans k29_58
  have k30_59 : K30 59 = (0, 64) := (hK30 59).trans k29_59
  have k30_60 : K30 60 = (0, 8192) := (hK30 60).trans k29_60
  have k30_61 : K30 61 = (0, 64) := (hK30 61).trans k29_61
  have k30_62 : K30 62 = (0, 64) := (hK30 62).trans k29_62
  have k30_63 : K30 63 = (0, 64) := (hK30 63).trans k29_63
  have k30_64 : K30 64 = (0, 64) := (hK30 64).trans k29_64
  have k30_65 : K30 65 = (1, 128) := (hK30 65).trans k29_65
  have k30_66 : K30 66 = (0, 6) := (hK30 66).trans rfl
  have a30_0 : A30 0 = A 0 := (congrFun hA30 0).trans a29_0
  have a30_55 : A30 55 = fun _ => 0 := (congrFun hA30 55).trans a29_55
  have kb30 : ∀ b, b < 44 → K30 b = K b := fun b hb => (hK30 b).trans ((if_neg (by omega)).trans (kb29 b hb))
  have ab30 : ∀ b, b < 44 → A30 b = A b := fun b hb => (congrFun hA30 b).trans ((if_neg (by omega)).trans (ab29 b hb))
  have fb30 : ∀ b, b ≠ 44 → F30 b = F b := fun b hb => (congrFun hF30 b).trans ((up2_row hb).trans (fb29 b hb))
  clear hF30 hA30 hK30
  have hX : MR F30 := by
    show ∀ q ∈ mrefs, F30 q.1 q.2.1 = vA q.2.2
    unfold mrefs
    exact List.forall_mem_cons.mpr ⟨f30_44_7, List.forall_mem_cons.mpr ⟨f30_44_8, List.forall_mem_cons.mpr ⟨f30_44_9, List.forall_mem_cons.mpr ⟨f30_44_10, List.forall_mem_cons.mpr ⟨f30_44_12, List.forall_mem_cons.mpr ⟨f30_44_13, List.forall_mem_cons.mpr ⟨f30_44_14, List.forall_mem_cons.mpr ⟨f30_44_15, List.forall_mem_cons.mpr ⟨f30_44_16, List.forall_mem_cons.mpr ⟨f30_44_17, List.forall_mem_cons.mpr ⟨f30_44_18, List.forall_mem_cons.mpr ⟨f30_44_36, List.forall_mem_cons.mpr ⟨f30_44_37, List.forall_mem_cons.mpr ⟨f30_44_38, List.forall_mem_cons.mpr ⟨f30_44_39, List.forall_mem_cons.mpr ⟨f30_44_40, List.forall_mem_cons.mpr ⟨f30_44_42, List.forall_mem_cons.mpr ⟨f30_44_44, List.forall_mem_cons.mpr ⟨f30_44_46, List.forall_mem_cons.mpr ⟨f30_44_50, List.forall_mem_cons.mpr ⟨f30_44_51, List.forall_mem_cons.mpr ⟨f30_44_53, fun _ h => absurd h List.not_mem_nil⟩⟩⟩⟩⟩⟩⟩⟩⟩⟩⟩⟩⟩⟩⟩⟩⟩⟩⟩⟩⟩⟩
  have hKM : KM (K30, 67) := by
    intro a h1 h2
    have h : a = 44 ∨ a = 45 ∨ a = 46 ∨ a = 47 ∨ a = 48 ∨ a = 49 ∨ a = 50 ∨ a = 51 ∨ a = 52 ∨ a = 53 ∨ a = 54 ∨ a = 55 ∨ a = 56 ∨ a = 57 ∨ a = 58 ∨ a = 59 ∨ a = 60 ∨ a = 61 ∨ a = 62 ∨ a = 63 ∨ a = 64 ∨ a = 65 ∨ a = 66 := by omega
    rcases h with rfl | rfl | rfl | rfl | rfl | rfl | rfl | rfl | rfl | rfl | rfl | rfl | rfl | rfl | rfl | rfl | rfl | rfl | rfl | rfl | rfl | rfl | rfl
    · exact k30_44
    · exact k30_45
    · exact k30_46
    · exact k30_47
    · exact k30_48
    · exact k30_49
    · exact k30_50
    · exact k30_51
    · exact k30_52
    · exact k30_53
    · exact k30_54
    · exact k30_55
    · exact k30_56
    · exact k30_57
    · exact k30_58
    · exact k30_59
    · exact k30_60
    · exact k30_61
    · exact k30_62
    · exact k30_63
    · exact k30_64
    · exact k30_65
    · exact k30_66
  refine q_aload_n eX12_init_226 rfl ?_
  refine q_iconst eX12_init_227 ?_
  refine q_iconst eX12_init_228 ?_
  refine q_iconst eX12_init_229 ?_
  refine q_callV [vI 2, vI 1, vI 1] (M1 := mX12_beginsRing) eX12_init_230 mf_X12_beginsRing lk_X12_105 (hKM _ (by decide) (by decide)) (mo_beginsRing (p := 2) (e := 1) (r := 1) hKM hX (by decide) (by decide) (by decide) hR) (by intro E F A al h; cases h.1) (by decide) (by decide) (by decide) (Nat.le_of_ble_eq_true rfl) (st := []) rfl (fun v9 F9 A9 al9 h9 => ?_)
  obtain ⟨e9, hKE, f9, o9, m1, pl9, m5, w9⟩ := h9
  obtain rfl := Sum.inl.inj e9
  refine q_retV eX12_init_233 rfl (by decide) (by decide) ?_
  refine ⟨rfl, hKE.1, fun b h1 h2 => (hKE.2 b (by show b < 67; omega)).trans (hKM b h1 h2), fun b hb => (hKE.2 b (by show b < 67; omega)).trans (kb30 b hb), fun b hb => by rw [f9.row b (by simp [BRF]; omega)]; exact fb30 b hb, fun b hb => by rw [o9 b (by show b < 67; omega) (by simp [BRA]; omega)]; exact ab30 b hb, ?_⟩
  have z19 : F9 44 19 = vI 0 := (f9 44 19 (by decide)).trans f30_44_19
  have z27 : F9 44 27 = vI (-1) := (f9 44 27 (by decide)).trans f30_44_27
  have z29 : ∀ k, 20 ≤ k → k ≤ 29 → F9 44 k = vI (if k = 27 then -1 else 0) := by
    intro k k1 k2
    have hk : k = 20 ∨ k = 21 ∨ k = 22 ∨ k = 23 ∨ k = 24 ∨ k = 25 ∨ k = 26 ∨ k = 27 ∨ k = 28 ∨ k = 29 := by omega
    rcases hk with rfl | rfl | rfl | rfl | rfl | rfl | rfl | rfl | rfl | rfl
    · exact (f9 44 20 (by decide)).trans f30_44_20
    · exact (f9 44 21 (by decide)).trans f30_44_21
    · exact (f9 44 22 (by decide)).trans f30_44_22
    · exact (f9 44 23 (by decide)).trans f30_44_23
    · exact (f9 44 24 (by decide)).trans f30_44_24
    · exact (f9 44 25 (by decide)).trans f30_44_25
    · exact (f9 44 26 (by decide)).trans f30_44_26
    · exact (f9 44 27 (by decide)).trans f30_44_27
    · exact (f9 44 28 (by decide)).trans f30_44_28
    · exact (f9 44 29 (by decide)).trans f30_44_29
  have z52 : F9 44 52 = vI 0 := (f9 44 52 (by decide)).trans f30_44_52
  have z55 : A9 55 = fun _ => 0 := (o9 55 (by show 55 < 67; decide) (by decide)).trans a30_55
  exact ⟨m1, fun j hj => ⟨pl9 j hj, el_zero (by decide)⟩, ⟨z19, by decide, fun j hj => ⟨by rw [z55]; rfl, (show (0 : Int) ≤ 0 from by decide), (show (0 : Int) < 256 from by decide)⟩⟩, ⟨z27, _, z29, by decide, by decide⟩, m5, w9, ⟨⟨z52, fun j hj => absurd hj (by show ¬ j < 0; omega)⟩, by decide⟩⟩
