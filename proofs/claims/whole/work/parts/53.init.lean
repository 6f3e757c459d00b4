/-! constructors -/
theorem nw_L_8 : NW RL 8 9 RX11 10 := ⟨⟨_, rfl⟩, tb_i (List.mem_of_getElem? (i := 128) (by decide +kernel)) (by decide +kernel), tb_i (List.mem_of_getElem? (i := 129) (by decide +kernel)) (by decide +kernel), tb_i (List.mem_of_getElem? (i := 107) (by decide +kernel)) (by decide +kernel), by decide +kernel, by decide⟩
theorem nw_X11_7 : NW RX11 7 1 RX2 15 := ⟨⟨_, rfl⟩, tb_i (List.mem_of_getElem? (i := 136) (by decide +kernel)) (by decide +kernel), tb_i (List.mem_of_getElem? (i := 137) (by decide +kernel)) (by decide +kernel), tb_i (List.mem_of_getElem? (i := 108) (by decide +kernel)) (by decide +kernel), by decide +kernel, by decide⟩
theorem nw_X11_23 : NW RX11 23 6 RX8 2 := ⟨⟨_, rfl⟩, tb_i (List.mem_of_getElem? (i := 209) (by decide +kernel)) (by decide +kernel), tb_i (List.mem_of_getElem? (i := 210) (by decide +kernel)) (by decide +kernel), tb_i (List.mem_of_getElem? (i := 109) (by decide +kernel)) (by decide +kernel), by decide +kernel, by decide⟩
theorem nw_X11_30 : NW RX11 30 5 RX6 3 := ⟨⟨_, rfl⟩, tb_i (List.mem_of_getElem? (i := 225) (by decide +kernel)) (by decide +kernel), tb_i (List.mem_of_getElem? (i := 226) (by decide +kernel)) (by decide +kernel), tb_i (List.mem_of_getElem? (i := 110) (by decide +kernel)) (by decide +kernel), by decide +kernel, by decide⟩
theorem nw_X11_37 : NW RX11 37 3 RX4 3 := ⟨⟨_, rfl⟩, tb_i (List.mem_of_getElem? (i := 243) (by decide +kernel)) (by decide +kernel), tb_i (List.mem_of_getElem? (i := 244) (by decide +kernel)) (by decide +kernel), tb_i (List.mem_of_getElem? (i := 111) (by decide +kernel)) (by decide +kernel), by decide +kernel, by decide⟩
theorem nw_X11_44 : NW RX11 44 4 RX5 11 := ⟨⟨_, rfl⟩, tb_i (List.mem_of_getElem? (i := 261) (by decide +kernel)) (by decide +kernel), tb_i (List.mem_of_getElem? (i := 262) (by decide +kernel)) (by decide +kernel), tb_i (List.mem_of_getElem? (i := 112) (by decide +kernel)) (by decide +kernel), by decide +kernel, by decide⟩
theorem nw_X11_53 : NW RX11 53 0 RX1 7 := ⟨⟨_, rfl⟩, tb_i (List.mem_of_getElem? (i := 304) (by decide +kernel)) (by decide +kernel), tb_i (List.mem_of_getElem? (i := 305) (by decide +kernel)) (by decide +kernel), tb_i (List.mem_of_getElem? (i := 113) (by decide +kernel)) (by decide +kernel), by decide +kernel, by decide⟩
theorem nw_X11_62 : NW RX11 62 8 RX10 5 := ⟨⟨_, rfl⟩, tb_i (List.mem_of_getElem? (i := 349) (by decide +kernel)) (by decide +kernel), tb_i (List.mem_of_getElem? (i := 350) (by decide +kernel)) (by decide +kernel), tb_i (List.mem_of_getElem? (i := 114) (by decide +kernel)) (by decide +kernel), by decide +kernel, by decide⟩
theorem nw_X10_26 : NW RX10 26 7 RX9 3 := ⟨⟨_, rfl⟩, tb_i (List.mem_of_getElem? (i := 355) (by decide +kernel)) (by decide +kernel), tb_i (List.mem_of_getElem? (i := 356) (by decide +kernel)) (by decide +kernel), tb_i (List.mem_of_getElem? (i := 115) (by decide +kernel)) (by decide +kernel), by decide +kernel, by decide⟩
theorem nw_X11_71 : NW RX11 71 2 RX3 13 := ⟨⟨_, rfl⟩, tb_i (List.mem_of_getElem? (i := 392) (by decide +kernel)) (by decide +kernel), tb_i (List.mem_of_getElem? (i := 393) (by decide +kernel)) (by decide +kernel), tb_i (List.mem_of_getElem? (i := 116) (by decide +kernel)) (by decide +kernel), by decide +kernel, by decide⟩
theorem nw_X3_51 : NW RX3 51 7 RX9 3 := ⟨⟨_, rfl⟩, tb_i (List.mem_of_getElem? (i := 398) (by decide +kernel)) (by decide +kernel), tb_i (List.mem_of_getElem? (i := 356) (by decide +kernel)) (by decide +kernel), tb_i (List.mem_of_getElem? (i := 115) (by decide +kernel)) (by decide +kernel), by decide +kernel, by decide⟩
theorem nw_L_85 : NW RL 85 10 RX12 54 := ⟨⟨_, rfl⟩, tb_i (List.mem_of_getElem? (i := 1190) (by decide +kernel)) (by decide +kernel), tb_i (List.mem_of_getElem? (i := 1191) (by decide +kernel)) (by decide +kernel), tb_i (List.mem_of_getElem? (i := 121) (by decide +kernel)) (by decide +kernel), by decide +kernel, by decide⟩
theorem ob_X11_1 : Cond.methodLink RX11 1 Lib.objectInit ∈ TBg := tb_i (List.mem_of_getElem? (i := 133) (by decide +kernel)) (by decide +kernel)
theorem ob_X2_3 : Cond.methodLink RX2 3 Lib.objectInit ∈ TBg := tb_i (List.mem_of_getElem? (i := 141) (by decide +kernel)) (by decide +kernel)
theorem ob_X8_3 : Cond.methodLink RX8 3 Lib.objectInit ∈ TBg := tb_i (List.mem_of_getElem? (i := 214) (by decide +kernel)) (by decide +kernel)
theorem ob_X6_3 : Cond.methodLink RX6 3 Lib.objectInit ∈ TBg := tb_i (List.mem_of_getElem? (i := 230) (by decide +kernel)) (by decide +kernel)
theorem ob_X4_3 : Cond.methodLink RX4 3 Lib.objectInit ∈ TBg := tb_i (List.mem_of_getElem? (i := 248) (by decide +kernel)) (by decide +kernel)
theorem ob_X5_3 : Cond.methodLink RX5 3 Lib.objectInit ∈ TBg := tb_i (List.mem_of_getElem? (i := 266) (by decide +kernel)) (by decide +kernel)
theorem ob_X1_3 : Cond.methodLink RX1 3 Lib.objectInit ∈ TBg := tb_i (List.mem_of_getElem? (i := 309) (by decide +kernel)) (by decide +kernel)
theorem ob_X10_3 : Cond.methodLink RX10 3 Lib.objectInit ∈ TBg := tb_i (List.mem_of_getElem? (i := 354) (by decide +kernel)) (by decide +kernel)
theorem ob_X9_3 : Cond.methodLink RX9 3 Lib.objectInit ∈ TBg := tb_i (List.mem_of_getElem? (i := 360) (by decide +kernel)) (by decide +kernel)
theorem ob_X3_3 : Cond.methodLink RX3 3 Lib.objectInit ∈ TBg := tb_i (List.mem_of_getElem? (i := 397) (by decide +kernel)) (by decide +kernel)
theorem ob_X12_7 : Cond.methodLink RX12 7 Lib.objectInit ∈ TBg := tb_i (List.mem_of_getElem? (i := 1195) (by decide +kernel)) (by decide +kernel)
def PIT (F1 : HF) (A1 : HA) (al1 : AL) : PO := fun o F' A' al' => o = .inl none ∧ F' = F1 ∧ A' = A1 ∧ al' = al1
theorem nt_PIT {F1 : HF} {A1 : HA} {al1 : AL} : NT (PIT F1 A1 al1) := by intro E F A al h; cases h.1
def iF_n2 (F : HF) : HF := (up2 (up2 (up2 (up2 (up2 (mF (up2 (up2 (up2 (up2 (up2 (up2 (up2 (up2 (up2 (up2 F 2 0 (vI (2))) 2 1 (vI (1))) 2 2 (vI (1))) 2 3 (vI (2))) 2 4 (vI (2))) 2 5 (vI (2))) 2 6 (vI (1))) 2 7 (vA 3)) 2 8 (vA 4)) 2 9 (vA 5)) 6) 2 10 (vA 6)) 2 11 (vA 13)) 2 12 (vA 14)) 2 13 (vA 15)) 2 14 (vA 16))
def iA_n2 (A : HA) : HA := (nA (nA (nA (nA (mA (nA (nA (nA A 3) 4) 5) 6) 13) 14) 15) 16)
def iK_n2 (al : AL) : AL := (kU (kU (kU (kU (mU (kU (kU (kU al (0, 7)) (0, 3125)) (0, 3125))) (0, 6)) (0, 6)) (0, 12)) (0, 7))
set_option maxRecDepth 20000 in
theorem ev_n2 {F : HF} {A : HA} {K : Nat → Nat × Nat} (hk : K 2 = (11, 15)) : QE 1 14 6330 mX2_init [vA 2] F A (K, 3) (PIT (iF_n2 F) (iA_n2 A) (iK_n2 (K, 3))) := by
  refine QE.mk (by decide +kernel) (Nat.le_of_ble_eq_true rfl) ?_
  refine q_aload_n dX2_init_0 rfl ?_
  refine q_obj dX2_init_1 ob_X2_3 (by decide) (Nat.le_of_ble_eq_true rfl) ?_
  refine q_aload_n dX2_init_4 rfl ?_
  refine q_iconst dX2_init_5 ?_
  refine q_putfield dX2_init_6 pf_X2_9 (by first | exact hk | rfl) (by decide) (FT_i rfl) ?_
  refine q_aload_n dX2_init_9 rfl ?_
  refine q_iconst dX2_init_10 ?_
  refine q_putfield dX2_init_11 pf_X2_15 (by first | exact hk | rfl) (by decide) (FT_i rfl) ?_
  refine q_aload_n dX2_init_14 rfl ?_
  refine q_iconst dX2_init_15 ?_
  refine q_putfield dX2_init_16 pf_X2_18 (by first | exact hk | rfl) (by decide) (FT_i rfl) ?_
  refine q_aload_n dX2_init_19 rfl ?_
  refine q_iconst dX2_init_20 ?_
  refine q_putfield dX2_init_21 pf_X2_21 (by first | exact hk | rfl) (by decide) (FT_i rfl) ?_
  refine q_aload_n dX2_init_24 rfl ?_
  refine q_iconst dX2_init_25 ?_
  refine q_putfield dX2_init_26 pf_X2_24 (by first | exact hk | rfl) (by decide) (FT_i rfl) ?_
  refine q_aload_n dX2_init_29 rfl ?_
  refine q_iconst dX2_init_30 ?_
  refine q_putfield dX2_init_31 pf_X2_27 (by first | exact hk | rfl) (by decide) (FT_i rfl) ?_
  refine q_aload_n dX2_init_34 rfl ?_
  refine q_iconst dX2_init_35 ?_
  refine q_putfield dX2_init_36 pf_X2_30 (by first | exact hk | rfl) (by decide) (FT_i rfl) ?_
  refine q_aload_n dX2_init_39 rfl ?_
  refine q_bipush dX2_init_40 (by decide +kernel) ?_
  refine q_newa_I (N := 7) dX2_init_42 (by decide) (by decide) (by decide) ?_
  refine q_putF dX2_init_44 pf_X2_33 rfl (by first | exact hk | rfl) (by decide) (FT_a (Or.inr ⟨_, rfl⟩)) ?_
  refine q_aload_n dX2_init_47 rfl ?_
  refine q_sipush dX2_init_48 (by decide +kernel) ?_
  refine q_newa_I (N := 3125) dX2_init_51 (by decide) (by decide) (by decide) ?_
  refine q_putF dX2_init_53 pf_X2_37 rfl (by first | exact hk | rfl) (by decide) (FT_a (Or.inr ⟨_, rfl⟩)) ?_
  refine q_aload_n dX2_init_56 rfl ?_
  refine q_sipush dX2_init_57 (by decide +kernel) ?_
  refine q_newa_I (N := 3125) dX2_init_60 (by decide) (by decide) (by decide) ?_
  refine q_putF dX2_init_62 pf_X2_40 rfl (by first | exact hk | rfl) (by decide) (FT_a (Or.inr ⟨_, rfl⟩)) ?_
  refine q_aload_n dX2_init_65 rfl ?_
  refine q_bipush dX2_init_66 (by decide +kernel) ?_
  refine q_bipush dX2_init_68 (by decide +kernel) ?_
  refine q_mna rfl dX2_init_70 (by decide) (by decide) ?_
  refine q_putF dX2_init_74 pf_X2_45 rfl (by first | exact hk | rfl) (by decide) (FT_a (Or.inr ⟨_, rfl⟩)) ?_
  refine q_aload_n dX2_init_77 rfl ?_
  refine q_bipush dX2_init_78 (by decide +kernel) ?_
  refine q_newa_I (N := 6) dX2_init_80 (by decide) (by decide) (by decide) ?_
  refine q_putF dX2_init_82 pf_X2_48 rfl (by first | exact hk | rfl) (by decide) (FT_a (Or.inr ⟨_, rfl⟩)) ?_
  refine q_aload_n dX2_init_85 rfl ?_
  refine q_bipush dX2_init_86 (by decide +kernel) ?_
  refine q_newa_I (N := 6) dX2_init_88 (by decide) (by decide) (by decide) ?_
  refine q_putF dX2_init_90 pf_X2_51 rfl (by first | exact hk | rfl) (by decide) (FT_a (Or.inr ⟨_, rfl⟩)) ?_
  refine q_aload_n dX2_init_93 rfl ?_
  refine q_bipush dX2_init_94 (by decide +kernel) ?_
  refine q_newa_I (N := 12) dX2_init_96 (by decide) (by decide) (by decide) ?_
  refine q_putF dX2_init_98 pf_X2_54 rfl (by first | exact hk | rfl) (by decide) (FT_a (Or.inr ⟨_, rfl⟩)) ?_
  refine q_aload_n dX2_init_101 rfl ?_
  refine q_bipush dX2_init_102 (by decide +kernel) ?_
  refine q_newa_I (N := 7) dX2_init_104 (by decide) (by decide) (by decide) ?_
  refine q_putF dX2_init_106 pf_X2_57 rfl (by first | exact hk | rfl) (by decide) (FT_a (Or.inr ⟨_, rfl⟩)) ?_
  refine q_retV dX2_init_109 rfl (by decide) (by decide) ?_
  exact ⟨rfl, rfl, rfl, rfl⟩
def iF_n19 (F : HF) : HF := (up2 (up2 F 19 0 (vI (0))) 19 1 (vA 20))
def iA_n19 (A : HA) : HA := (nA A 20)
def iK_n19 (al : AL) : AL := (kU al (0, 200))
set_option maxRecDepth 20000 in
theorem ev_n19 {F : HF} {A : HA} {K : Nat → Nat × Nat} (hk : K 19 = (16, 2)) : QE 1 1 200 mX8_init [vA 19] F A (K, 20) (PIT (iF_n19 F) (iA_n19 A) (iK_n19 (K, 20))) := by
  refine QE.mk (by decide +kernel) (Nat.le_of_ble_eq_true rfl) ?_
  refine q_aload_n dX8_init_0 rfl ?_
  refine q_obj dX8_init_1 ob_X8_3 (by decide) (Nat.le_of_ble_eq_true rfl) ?_
  refine q_aload_n dX8_init_4 rfl ?_
  refine q_iconst dX8_init_5 ?_
  refine q_putfield dX8_init_6 pf_X8_9 (by first | exact hk | rfl) (by decide) (FT_i rfl) ?_
  refine q_aload_n dX8_init_9 rfl ?_
  refine q_sipush dX8_init_10 (by decide +kernel) ?_
  refine q_newa_I (N := 200) dX8_init_13 (by decide) (by decide) (by decide) ?_
  refine q_putF dX8_init_15 pf_X8_15 rfl (by first | exact hk | rfl) (by decide) (FT_a (Or.inr ⟨_, rfl⟩)) ?_
  refine q_retV dX8_init_18 rfl (by decide) (by decide) ?_
  exact ⟨rfl, rfl, rfl, rfl⟩
def iF_n21 (F : HF) : HF := (up2 (up2 (up2 F 21 0 (vI (0))) 21 1 (vA 22)) 21 2 (vA 23))
def iA_n21 (A : HA) : HA := (nA (nA A 22) 23)
def iK_n21 (al : AL) : AL := (kU (kU al (0, 200)) (0, 6))
set_option maxRecDepth 20000 in
theorem ev_n21 {F : HF} {A : HA} {K : Nat → Nat × Nat} (hk : K 21 = (15, 3)) : QE 1 2 206 mX6_init [vA 21] F A (K, 22) (PIT (iF_n21 F) (iA_n21 A) (iK_n21 (K, 22))) := by
  refine QE.mk (by decide +kernel) (Nat.le_of_ble_eq_true rfl) ?_
  refine q_aload_n dX6_init_0 rfl ?_
  refine q_obj dX6_init_1 ob_X6_3 (by decide) (Nat.le_of_ble_eq_true rfl) ?_
  refine q_aload_n dX6_init_4 rfl ?_
  refine q_iconst dX6_init_5 ?_
  refine q_putfield dX6_init_6 pf_X6_9 (by first | exact hk | rfl) (by decide) (FT_i rfl) ?_
  refine q_aload_n dX6_init_9 rfl ?_
  refine q_sipush dX6_init_10 (by decide +kernel) ?_
  refine q_newa_I (N := 200) dX6_init_13 (by decide) (by decide) (by decide) ?_
  refine q_putF dX6_init_15 pf_X6_15 rfl (by first | exact hk | rfl) (by decide) (FT_a (Or.inr ⟨_, rfl⟩)) ?_
  refine q_aload_n dX6_init_18 rfl ?_
  refine q_bipush dX6_init_19 (by decide +kernel) ?_
  refine q_newa_I (N := 6) dX6_init_21 (by decide) (by decide) (by decide) ?_
  refine q_putF dX6_init_23 pf_X6_19 rfl (by first | exact hk | rfl) (by decide) (FT_a (Or.inr ⟨_, rfl⟩)) ?_
  refine q_retV dX6_init_26 rfl (by decide) (by decide) ?_
  exact ⟨rfl, rfl, rfl, rfl⟩
def iF_n24 (F : HF) : HF := (up2 (up2 (up2 F 24 0 (vI (1))) 24 1 (vI (1))) 24 2 (vA 25))
def iA_n24 (A : HA) : HA := (nA A 25)
def iK_n24 (al : AL) : AL := (kU al (0, 63))
set_option maxRecDepth 20000 in
theorem ev_n24 {F : HF} {A : HA} {K : Nat → Nat × Nat} (hk : K 24 = (13, 3)) : QE 1 1 63 mX4_init [vA 24] F A (K, 25) (PIT (iF_n24 F) (iA_n24 A) (iK_n24 (K, 25))) := by
  refine QE.mk (by decide +kernel) (Nat.le_of_ble_eq_true rfl) ?_
  refine q_aload_n dX4_init_0 rfl ?_
  refine q_obj dX4_init_1 ob_X4_3 (by decide) (Nat.le_of_ble_eq_true rfl) ?_
  refine q_aload_n dX4_init_4 rfl ?_
  refine q_iconst dX4_init_5 ?_
  refine q_putfield dX4_init_6 pf_X4_9 (by first | exact hk | rfl) (by decide) (FT_i rfl) ?_
  refine q_aload_n dX4_init_9 rfl ?_
  refine q_iconst dX4_init_10 ?_
  refine q_putfield dX4_init_11 pf_X4_15 (by first | exact hk | rfl) (by decide) (FT_i rfl) ?_
  refine q_aload_n dX4_init_14 rfl ?_
  refine q_bipush dX4_init_15 (by decide +kernel) ?_
  refine q_newa_I (N := 63) dX4_init_17 (by decide) (by decide) (by decide) ?_
  refine q_putF dX4_init_19 pf_X4_18 rfl (by first | exact hk | rfl) (by decide) (FT_a (Or.inr ⟨_, rfl⟩)) ?_
  refine q_retV dX4_init_22 rfl (by decide) (by decide) ?_
  exact ⟨rfl, rfl, rfl, rfl⟩
def iF_n26 (F : HF) : HF := (up2 (up2 (up2 (up2 (up2 (up2 (up2 (up2 (up2 (up2 (up2 F 26 0 (vI (0))) 26 1 (vI (-1))) 26 2 (vI (0))) 26 6 (vI (0))) 26 7 (vI (257))) 26 8 (vI (0))) 26 9 (vI (0))) 26 10 (vI (0))) 26 3 (vA 2)) 26 4 (vA 17)) 26 5 (vA 19))
def iA_n26 (A : HA) : HA := A
def iK_n26 (al : AL) : AL := al
set_option maxRecDepth 20000 in
theorem ev_n26 {F : HF} {A : HA} {K : Nat → Nat × Nat} (hk : K 26 = (14, 11)) : QE 1 0 0 mX5_init [vA 26, vA 2, vA 17, vA 19] F A (K, 27) (PIT (iF_n26 F) (iA_n26 A) (iK_n26 (K, 27))) := by
  refine QE.mk (by decide +kernel) (Nat.le_of_ble_eq_true rfl) ?_
  refine q_aload_n dX5_init_0 rfl ?_
  refine q_obj dX5_init_1 ob_X5_3 (by decide) (Nat.le_of_ble_eq_true rfl) ?_
  refine q_aload_n dX5_init_4 rfl ?_
  refine q_iconst dX5_init_5 ?_
  refine q_putfield dX5_init_6 pf_X5_9 (by first | exact hk | rfl) (by decide) (FT_i rfl) ?_
  refine q_aload_n dX5_init_9 rfl ?_
  refine q_iconst dX5_init_10 ?_
  refine q_putfield dX5_init_11 pf_X5_15 (by first | exact hk | rfl) (by decide) (FT_i rfl) ?_
  refine q_aload_n dX5_init_14 rfl ?_
  refine q_iconst dX5_init_15 ?_
  refine q_putfield dX5_init_16 pf_X5_18 (by first | exact hk | rfl) (by decide) (FT_z rfl (Or.inl rfl)) ?_
  refine q_aload_n dX5_init_19 rfl ?_
  refine q_iconst dX5_init_20 ?_
  refine q_putfield dX5_init_21 pf_X5_22 (by first | exact hk | rfl) (by decide) (FT_i rfl) ?_
  refine q_aload_n dX5_init_24 rfl ?_
  refine q_sipush dX5_init_25 (by decide +kernel) ?_
  refine q_putfield dX5_init_28 pf_X5_25 (by first | exact hk | rfl) (by decide) (FT_i rfl) ?_
  refine q_aload_n dX5_init_31 rfl ?_
  refine q_iconst dX5_init_32 ?_
  refine q_putfield dX5_init_33 pf_X5_28 (by first | exact hk | rfl) (by decide) (FT_i rfl) ?_
  refine q_aload_n dX5_init_36 rfl ?_
  refine q_iconst dX5_init_37 ?_
  refine q_putfield dX5_init_38 pf_X5_31 (by first | exact hk | rfl) (by decide) (FT_i rfl) ?_
  refine q_aload_n dX5_init_41 rfl ?_
  refine q_iconst dX5_init_42 ?_
  refine q_putfield dX5_init_43 pf_X5_34 (by first | exact hk | rfl) (by decide) (FT_i rfl) ?_
  refine q_aload_n dX5_init_46 rfl ?_
  refine q_aload_n dX5_init_47 rfl ?_
  refine q_putF dX5_init_48 pf_X5_37 rfl (by first | exact hk | rfl) (by decide) (FT_a (Or.inl ⟨_, rfl⟩)) ?_
  refine q_aload_n dX5_init_51 rfl ?_
  refine q_aload_n dX5_init_52 rfl ?_
  refine q_putF dX5_init_53 pf_X5_41 rfl (by first | exact hk | rfl) (by decide) (FT_a (Or.inr ⟨_, rfl⟩)) ?_
  refine q_aload_n dX5_init_56 rfl ?_
  refine q_aload_n dX5_init_57 rfl ?_
  refine q_putF dX5_init_58 pf_X5_45 rfl (by first | exact hk | rfl) (by decide) (FT_a (Or.inl ⟨_, rfl⟩)) ?_
  refine q_retV dX5_init_61 rfl (by decide) (by decide) ?_
  exact ⟨rfl, rfl, rfl, rfl⟩
def iF_n27 (F : HF) : HF := (up2 (up2 (up2 (up2 (up2 (up2 (up2 F 27 1 (vI (1))) 27 2 (vI (0))) 27 3 (vI (1))) 27 4 (vI (2))) 27 5 (vA 28)) 27 6 (vA 29)) 27 0 (vA 2))
def iA_n27 (A : HA) : HA := (nA (nA A 28) 29)
def iK_n27 (al : AL) : AL := (kU (kU al (0, 64)) (0, 64))
set_option maxRecDepth 20000 in
theorem ev_n27 {F : HF} {A : HA} {K : Nat → Nat × Nat} (hk : K 27 = (10, 7)) : QE 1 2 128 mX1_init [vA 27, vA 2] F A (K, 28) (PIT (iF_n27 F) (iA_n27 A) (iK_n27 (K, 28))) := by
  refine QE.mk (by decide +kernel) (Nat.le_of_ble_eq_true rfl) ?_
  refine q_aload_n dX1_init_0 rfl ?_
  refine q_obj dX1_init_1 ob_X1_3 (by decide) (Nat.le_of_ble_eq_true rfl) ?_
  refine q_aload_n dX1_init_4 rfl ?_
  refine q_iconst dX1_init_5 ?_
  refine q_putfield dX1_init_6 pf_X1_9 (by first | exact hk | rfl) (by decide) (FT_i rfl) ?_
  refine q_aload_n dX1_init_9 rfl ?_
  refine q_iconst dX1_init_10 ?_
  refine q_putfield dX1_init_11 pf_X1_15 (by first | exact hk | rfl) (by decide) (FT_i rfl) ?_
  refine q_aload_n dX1_init_14 rfl ?_
  refine q_iconst dX1_init_15 ?_
  refine q_putfield dX1_init_16 pf_X1_18 (by first | exact hk | rfl) (by decide) (FT_i rfl) ?_
  refine q_aload_n dX1_init_19 rfl ?_
  refine q_iconst dX1_init_20 ?_
  refine q_putfield dX1_init_21 pf_X1_21 (by first | exact hk | rfl) (by decide) (FT_i rfl) ?_
  refine q_aload_n dX1_init_24 rfl ?_
  refine q_bipush dX1_init_25 (by decide +kernel) ?_
  refine q_newa_I (N := 64) dX1_init_27 (by decide) (by decide) (by decide) ?_
  refine q_putF dX1_init_29 pf_X1_24 rfl (by first | exact hk | rfl) (by decide) (FT_a (Or.inr ⟨_, rfl⟩)) ?_
  refine q_aload_n dX1_init_32 rfl ?_
  refine q_bipush dX1_init_33 (by decide +kernel) ?_
  refine q_newa_I (N := 64) dX1_init_35 (by decide) (by decide) (by decide) ?_
  refine q_putF dX1_init_37 pf_X1_28 rfl (by first | exact hk | rfl) (by decide) (FT_a (Or.inr ⟨_, rfl⟩)) ?_
  refine q_aload_n dX1_init_40 rfl ?_
  refine q_aload_n dX1_init_41 rfl ?_
  refine q_putF dX1_init_42 pf_X1_31 rfl (by first | exact hk | rfl) (by decide) (FT_a (Or.inl ⟨_, rfl⟩)) ?_
  refine q_retV dX1_init_45 rfl (by decide) (by decide) ?_
  exact ⟨rfl, rfl, rfl, rfl⟩
def iF_n33 (F : HF) : HF := (up2 (up2 (up2 F 33 0 (vA 34)) 33 1 (vA 35)) 33 2 (vA 27))
def iA_n33 (A : HA) : HA := (nA (nA A 34) 35)
def iK_n33 (al : AL) : AL := (kU (kU al (0, 63)) (0, 63))
set_option maxRecDepth 20000 in
theorem ev_n33 {F : HF} {A : HA} {K : Nat → Nat × Nat} (hk : K 33 = (17, 3)) : QE 1 2 126 mX9_init [vA 33, vA 27] F A (K, 34) (PIT (iF_n33 F) (iA_n33 A) (iK_n33 (K, 34))) := by
  refine QE.mk (by decide +kernel) (Nat.le_of_ble_eq_true rfl) ?_
  refine q_aload_n dX9_init_0 rfl ?_
  refine q_obj dX9_init_1 ob_X9_3 (by decide) (Nat.le_of_ble_eq_true rfl) ?_
  refine q_aload_n dX9_init_4 rfl ?_
  refine q_bipush dX9_init_5 (by decide +kernel) ?_
  refine q_newa_I (N := 63) dX9_init_7 (by decide) (by decide) (by decide) ?_
  refine q_putF dX9_init_9 pf_X9_9 rfl (by first | exact hk | rfl) (by decide) (FT_a (Or.inr ⟨_, rfl⟩)) ?_
  refine q_aload_n dX9_init_12 rfl ?_
  refine q_bipush dX9_init_13 (by decide +kernel) ?_
  refine q_newa_I (N := 63) dX9_init_15 (by decide) (by decide) (by decide) ?_
  refine q_putF dX9_init_17 pf_X9_15 rfl (by first | exact hk | rfl) (by decide) (FT_a (Or.inr ⟨_, rfl⟩)) ?_
  refine q_aload_n dX9_init_20 rfl ?_
  refine q_aload_n dX9_init_21 rfl ?_
  refine q_putF dX9_init_22 pf_X9_18 rfl (by first | exact hk | rfl) (by decide) (FT_a (Or.inl ⟨_, rfl⟩)) ?_
  refine q_retV dX9_init_25 rfl (by decide) (by decide) ?_
  exact ⟨rfl, rfl, rfl, rfl⟩
def iF_n30 (F : HF) : HF := (up2 (iF_n33 (nF (up2 (up2 (up2 (up2 F 30 0 (vI (0))) 30 1 (vA 31)) 30 2 (vA 32)) 30 3 (vA 27)) 33 (dfF 7))) 30 4 (vA 33))
def iA_n30 (A : HA) : HA := (iA_n33 (nA (nA A 31) 32))
def iK_n30 (al : AL) : AL := (iK_n33 (kU (kU (kU al (0, 64)) (0, 7201)) (17, 3)))
set_option maxRecDepth 20000 in
theorem ev_n30 {F : HF} {A : HA} {K : Nat → Nat × Nat} (hk : K 30 = (18, 5)) : QE 2 5 7394 mX10_init [vA 30, vA 27] F A (K, 31) (PIT (iF_n30 F) (iA_n30 A) (iK_n30 (K, 31))) := by
  refine QE.mk (by decide +kernel) (Nat.le_of_ble_eq_true rfl) ?_
  refine q_aload_n dX10_init_0 rfl ?_
  refine q_obj dX10_init_1 ob_X10_3 (by decide) (Nat.le_of_ble_eq_true rfl) ?_
  refine q_aload_n dX10_init_4 rfl ?_
  refine q_iconst dX10_init_5 ?_
  refine q_putfield dX10_init_6 pf_X10_9 (by first | exact hk | rfl) (by decide) (FT_z rfl (Or.inl rfl)) ?_
  refine q_aload_n dX10_init_9 rfl ?_
  refine q_bipush dX10_init_10 (by decide +kernel) ?_
  refine q_newa_I (N := 64) dX10_init_12 (by decide) (by decide) (by decide) ?_
  refine q_putF dX10_init_14 pf_X10_15 rfl (by first | exact hk | rfl) (by decide) (FT_a (Or.inr ⟨_, rfl⟩)) ?_
  refine q_aload_n dX10_init_17 rfl ?_
  refine q_sipush dX10_init_18 (by decide +kernel) ?_
  refine q_newa_I (N := 7201) dX10_init_21 (by decide) (by decide) (by decide) ?_
  refine q_putF dX10_init_23 pf_X10_19 rfl (by first | exact hk | rfl) (by decide) (FT_a (Or.inr ⟨_, rfl⟩)) ?_
  refine q_aload_n dX10_init_26 rfl ?_
  refine q_aload_n dX10_init_27 rfl ?_
  refine q_putF dX10_init_28 pf_X10_22 rfl (by first | exact hk | rfl) (by decide) (FT_a (Or.inl ⟨_, rfl⟩)) ?_
  refine q_aload_n dX10_init_31 rfl ?_
  refine q_new dX10_init_32 nw_X10_26 (by decide) (by decide) ?_
  refine q_dup dX10_init_35 rfl ?_
  refine q_aload_n dX10_init_36 rfl ?_
  refine q_callI [vA 27] dX10_init_37 mf_X9_init lk_X10_28 (ev_n33 rfl) nt_PIT (by decide) (by decide) (by decide) (Nat.le_of_ble_eq_true rfl) (st := _) rfl (fun v9 F9 A9 al9 h9 => ?_)
  obtain ⟨e9, rfl, rfl, rfl⟩ := h9
  obtain rfl := Sum.inl.inj e9
  refine q_putF dX10_init_40 pf_X10_31 rfl (by first | exact hk | rfl) (by decide) (FT_a (Or.inl ⟨_, rfl⟩)) ?_
  refine q_retV dX10_init_43 rfl (by decide) (by decide) ?_
  exact ⟨rfl, rfl, rfl, rfl⟩
def iF_n41 (F : HF) : HF := (up2 (up2 (up2 F 41 0 (vA 42)) 41 1 (vA 43)) 41 2 (vA 27))
def iA_n41 (A : HA) : HA := (nA (nA A 42) 43)
def iK_n41 (al : AL) : AL := (kU (kU al (0, 63)) (0, 63))
set_option maxRecDepth 20000 in
theorem ev_n41 {F : HF} {A : HA} {K : Nat → Nat × Nat} (hk : K 41 = (17, 3)) : QE 1 2 126 mX9_init [vA 41, vA 27] F A (K, 42) (PIT (iF_n41 F) (iA_n41 A) (iK_n41 (K, 42))) := by
  refine QE.mk (by decide +kernel) (Nat.le_of_ble_eq_true rfl) ?_
  refine q_aload_n dX9_init_0 rfl ?_
  refine q_obj dX9_init_1 ob_X9_3 (by decide) (Nat.le_of_ble_eq_true rfl) ?_
  refine q_aload_n dX9_init_4 rfl ?_
  refine q_bipush dX9_init_5 (by decide +kernel) ?_
  refine q_newa_I (N := 63) dX9_init_7 (by decide) (by decide) (by decide) ?_
  refine q_putF dX9_init_9 pf_X9_9 rfl (by first | exact hk | rfl) (by decide) (FT_a (Or.inr ⟨_, rfl⟩)) ?_
  refine q_aload_n dX9_init_12 rfl ?_
  refine q_bipush dX9_init_13 (by decide +kernel) ?_
  refine q_newa_I (N := 63) dX9_init_15 (by decide) (by decide) (by decide) ?_
  refine q_putF dX9_init_17 pf_X9_15 rfl (by first | exact hk | rfl) (by decide) (FT_a (Or.inr ⟨_, rfl⟩)) ?_
  refine q_aload_n dX9_init_20 rfl ?_
  refine q_aload_n dX9_init_21 rfl ?_
  refine q_putF dX9_init_22 pf_X9_18 rfl (by first | exact hk | rfl) (by decide) (FT_a (Or.inl ⟨_, rfl⟩)) ?_
  refine q_retV dX9_init_25 rfl (by decide) (by decide) ?_
  exact ⟨rfl, rfl, rfl, rfl⟩
def iF_n36 (F : HF) : HF := (up2 (iF_n41 (nF (up2 (up2 (up2 (up2 (up2 (up2 (up2 (up2 (up2 (up2 (up2 (up2 F 36 0 (vI (0))) 36 1 (vI (0))) 36 2 (vA 37)) 36 3 (vA 38)) 36 4 (vI (0))) 36 5 (vI (-1))) 36 6 (vI (-1))) 36 7 (vI (0))) 36 8 (vA 39)) 36 9 (vI (0))) 36 10 (vA 40)) 36 11 (vA 27)) 41 (dfF 7))) 36 12 (vA 41))
def iA_n36 (A : HA) : HA := (iA_n41 (nA (nA (nA (nA A 37) 38) 39) 40))
def iK_n36 (al : AL) : AL := (iK_n41 (kU (kU (kU (kU (kU al (0, 63)) (0, 63)) (0, 63)) (0, 63)) (17, 3)))
set_option maxRecDepth 20000 in
theorem ev_n36 {F : HF} {A : HA} {K : Nat → Nat × Nat} (hk : K 36 = (12, 13)) : QE 2 7 381 mX3_init [vA 36, vA 27] F A (K, 37) (PIT (iF_n36 F) (iA_n36 A) (iK_n36 (K, 37))) := by
  refine QE.mk (by decide +kernel) (Nat.le_of_ble_eq_true rfl) ?_
  refine q_aload_n dX3_init_0 rfl ?_
  refine q_obj dX3_init_1 ob_X3_3 (by decide) (Nat.le_of_ble_eq_true rfl) ?_
  refine q_aload_n dX3_init_4 rfl ?_
  refine q_iconst dX3_init_5 ?_
  refine q_putfield dX3_init_6 pf_X3_9 (by first | exact hk | rfl) (by decide) (FT_z rfl (Or.inl rfl)) ?_
  refine q_aload_n dX3_init_9 rfl ?_
  refine q_iconst dX3_init_10 ?_
  refine q_putfield dX3_init_11 pf_X3_15 (by first | exact hk | rfl) (by decide) (FT_z rfl (Or.inl rfl)) ?_
  refine q_aload_n dX3_init_14 rfl ?_
  refine q_bipush dX3_init_15 (by decide +kernel) ?_
  refine q_newa_I (N := 63) dX3_init_17 (by decide) (by decide) (by decide) ?_
  refine q_putF dX3_init_19 pf_X3_18 rfl (by first | exact hk | rfl) (by decide) (FT_a (Or.inr ⟨_, rfl⟩)) ?_
  refine q_aload_n dX3_init_22 rfl ?_
  refine q_bipush dX3_init_23 (by decide +kernel) ?_
  refine q_newa_I (N := 63) dX3_init_25 (by decide) (by decide) (by decide) ?_
  refine q_putF dX3_init_27 pf_X3_22 rfl (by first | exact hk | rfl) (by decide) (FT_a (Or.inr ⟨_, rfl⟩)) ?_
  refine q_aload_n dX3_init_30 rfl ?_
  refine q_iconst dX3_init_31 ?_
  refine q_putfield dX3_init_32 pf_X3_25 (by first | exact hk | rfl) (by decide) (FT_i rfl) ?_
  refine q_aload_n dX3_init_35 rfl ?_
  refine q_iconst dX3_init_36 ?_
  refine q_putfield dX3_init_37 pf_X3_29 (by first | exact hk | rfl) (by decide) (FT_i rfl) ?_
  refine q_aload_n dX3_init_40 rfl ?_
  refine q_iconst dX3_init_41 ?_
  refine q_putfield dX3_init_42 pf_X3_32 (by first | exact hk | rfl) (by decide) (FT_i rfl) ?_
  refine q_aload_n dX3_init_45 rfl ?_
  refine q_iconst dX3_init_46 ?_
  refine q_putfield dX3_init_47 pf_X3_35 (by first | exact hk | rfl) (by decide) (FT_i rfl) ?_
  refine q_aload_n dX3_init_50 rfl ?_
  refine q_bipush dX3_init_51 (by decide +kernel) ?_
  refine q_newa_I (N := 63) dX3_init_53 (by decide) (by decide) (by decide) ?_
  refine q_putF dX3_init_55 pf_X3_38 rfl (by first | exact hk | rfl) (by decide) (FT_a (Or.inr ⟨_, rfl⟩)) ?_
  refine q_aload_n dX3_init_58 rfl ?_
  refine q_iconst dX3_init_59 ?_
  refine q_putfield dX3_init_60 pf_X3_41 (by first | exact hk | rfl) (by decide) (FT_z rfl (Or.inl rfl)) ?_
  refine q_aload_n dX3_init_63 rfl ?_
  refine q_bipush dX3_init_64 (by decide +kernel) ?_
  refine q_newa_I (N := 63) dX3_init_66 (by decide) (by decide) (by decide) ?_
  refine q_putF dX3_init_68 pf_X3_44 rfl (by first | exact hk | rfl) (by decide) (FT_a (Or.inr ⟨_, rfl⟩)) ?_
  refine q_aload_n dX3_init_71 rfl ?_
  refine q_aload_n dX3_init_72 rfl ?_
  refine q_putF dX3_init_73 pf_X3_47 rfl (by first | exact hk | rfl) (by decide) (FT_a (Or.inl ⟨_, rfl⟩)) ?_
  refine q_aload_n dX3_init_76 rfl ?_
  refine q_new dX3_init_77 nw_X3_51 (by decide) (by decide) ?_
  refine q_dup dX3_init_80 rfl ?_
  refine q_aload_n dX3_init_81 rfl ?_
  refine q_callI [vA 27] dX3_init_82 mf_X9_init lk_X3_53 (ev_n41 rfl) nt_PIT (by decide) (by decide) (by decide) (Nat.le_of_ble_eq_true rfl) (st := _) rfl (fun v9 F9 A9 al9 h9 => ?_)
  obtain ⟨e9, rfl, rfl, rfl⟩ := h9
  obtain rfl := Sum.inl.inj e9
  refine q_putF dX3_init_85 pf_X3_56 rfl (by first | exact hk | rfl) (by decide) (FT_a (Or.inl ⟨_, rfl⟩)) ?_
  refine q_retV dX3_init_88 rfl (by decide) (by decide) ?_
  exact ⟨rfl, rfl, rfl, rfl⟩
def iF_x11 (F : HF) : HF := (up2 (iF_n36 (nF (up2 (iF_n30 (nF (up2 (iF_n27 (nF (up2 (iF_n26 (nF (up2 (iF_n24 (nF (up2 (iF_n21 (nF (up2 (iF_n19 (nF (up2 (up2 (up2 (iF_n2 (nF F 2 (dfF 1))) 1 0 (vA 2)) 1 1 (vA 17)) 1 2 (vA 18)) 19 (dfF 6))) 1 3 (vA 19)) 21 (dfF 5))) 1 5 (vA 21)) 24 (dfF 3))) 1 6 (vA 24)) 26 (dfF 4))) 1 4 (vA 26)) 27 (dfF 0))) 1 7 (vA 27)) 30 (dfF 8))) 1 8 (vA 30)) 36 (dfF 2))) 1 9 (vA 36))
def iA_x11 (A : HA) : HA := (iA_n36 (iA_n30 (iA_n27 (iA_n26 (iA_n24 (iA_n21 (iA_n19 (nA (nA (iA_n2 A) 17) 18))))))))
def iK_x11 (al : AL) : AL := (iK_n36 (kU (iK_n30 (kU (iK_n27 (kU (iK_n26 (kU (iK_n24 (kU (iK_n21 (kU (iK_n19 (kU (kU (kU (iK_n2 (kU al (11, 15))) (0, 8)) (0, 4096)) (16, 2))) (15, 3))) (13, 3))) (14, 11))) (10, 7))) (18, 5))) (12, 13)))
set_option maxRecDepth 20000 in
theorem xf_x11 (F : HF) : XF (iF_x11 F) := by
  show ∀ q ∈ xrefs, iF_x11 F q.1 q.2.1 = vA q.2.2
  unfold xrefs
  exact List.forall_mem_cons.mpr ⟨rfl, List.forall_mem_cons.mpr ⟨rfl, List.forall_mem_cons.mpr ⟨rfl, List.forall_mem_cons.mpr ⟨rfl, List.forall_mem_cons.mpr ⟨rfl, List.forall_mem_cons.mpr ⟨rfl, List.forall_mem_cons.mpr ⟨rfl, List.forall_mem_cons.mpr ⟨rfl, List.forall_mem_cons.mpr ⟨rfl, List.forall_mem_cons.mpr ⟨rfl, List.forall_mem_cons.mpr ⟨rfl, List.forall_mem_cons.mpr ⟨rfl, List.forall_mem_cons.mpr ⟨rfl, List.forall_mem_cons.mpr ⟨rfl, List.forall_mem_cons.mpr ⟨rfl, List.forall_mem_cons.mpr ⟨rfl, List.forall_mem_cons.mpr ⟨rfl, List.forall_mem_cons.mpr ⟨rfl, List.forall_mem_cons.mpr ⟨rfl, List.forall_mem_cons.mpr ⟨rfl, List.forall_mem_cons.mpr ⟨rfl, List.forall_mem_cons.mpr ⟨rfl, List.forall_mem_cons.mpr ⟨rfl, List.forall_mem_cons.mpr ⟨rfl, List.forall_mem_cons.mpr ⟨rfl, List.forall_mem_cons.mpr ⟨rfl, List.forall_mem_cons.mpr ⟨rfl, List.forall_mem_cons.mpr ⟨rfl, List.forall_mem_cons.mpr ⟨rfl, List.forall_mem_cons.mpr ⟨rfl, List.forall_mem_cons.mpr ⟨rfl, List.forall_mem_cons.mpr ⟨rfl, List.forall_mem_cons.mpr ⟨rfl, List.forall_mem_cons.mpr ⟨rfl, List.forall_mem_cons.mpr ⟨rfl, List.forall_mem_cons.mpr ⟨rfl, List.forall_mem_cons.mpr ⟨rfl, List.forall_mem_cons.mpr ⟨rfl, List.forall_mem_cons.mpr ⟨rfl, List.forall_mem_cons.mpr ⟨rfl, List.forall_mem_cons.mpr ⟨rfl, List.forall_mem_cons.mpr ⟨rfl, List.forall_mem_cons.mpr ⟨rfl, List.forall_mem_cons.mpr ⟨rfl, List.forall_mem_cons.mpr ⟨rfl, List.forall_mem_cons.mpr ⟨rfl, List.forall_mem_cons.mpr ⟨rfl, List.forall_mem_cons.mpr ⟨rfl, List.forall_mem_cons.mpr ⟨rfl, List.forall_mem_cons.mpr ⟨rfl, fun _ h => absurd h List.not_mem_nil⟩⟩⟩⟩⟩⟩⟩⟩⟩⟩⟩⟩⟩⟩⟩⟩⟩⟩⟩⟩⟩⟩⟩⟩⟩⟩⟩⟩⟩⟩⟩⟩⟩⟩⟩⟩⟩⟩⟩⟩⟩⟩⟩⟩⟩⟩⟩⟩⟩⟩
set_option maxRecDepth 20000 in
theorem kx_x11 (K : Nat → Nat × Nat) (hk : K 1 = (19, 10)) : KX (iK_x11 (K, 2)) := by
  intro a h1 h2
  have h : a = 1 ∨ a = 2 ∨ a = 3 ∨ a = 4 ∨ a = 5 ∨ a = 6 ∨ a = 7 ∨ a = 8 ∨ a = 9 ∨ a = 10 ∨ a = 11 ∨ a = 12 ∨ a = 13 ∨ a = 14 ∨ a = 15 ∨ a = 16 ∨ a = 17 ∨ a = 18 ∨ a = 19 ∨ a = 20 ∨ a = 21 ∨ a = 22 ∨ a = 23 ∨ a = 24 ∨ a = 25 ∨ a = 26 ∨ a = 27 ∨ a = 28 ∨ a = 29 ∨ a = 30 ∨ a = 31 ∨ a = 32 ∨ a = 33 ∨ a = 34 ∨ a = 35 ∨ a = 36 ∨ a = 37 ∨ a = 38 ∨ a = 39 ∨ a = 40 ∨ a = 41 ∨ a = 42 ∨ a = 43 := by omega
  rcases h with rfl | rfl | rfl | rfl | rfl | rfl | rfl | rfl | rfl | rfl | rfl | rfl | rfl | rfl | rfl | rfl | rfl | rfl | rfl | rfl | rfl | rfl | rfl | rfl | rfl | rfl | rfl | rfl | rfl | rfl | rfl | rfl | rfl | rfl | rfl | rfl | rfl | rfl | rfl | rfl | rfl | rfl | rfl
  · exact hk
  · rfl
  · rfl
  · rfl
  · rfl
  · rfl
  · rfl
  · rfl
  · rfl
  · rfl
  · rfl
  · rfl
  · rfl
  · rfl
  · rfl
  · rfl
  · rfl
  · rfl
  · rfl
  · rfl
  · rfl
  · rfl
  · rfl
  · rfl
  · rfl
  · rfl
  · rfl
  · rfl
  · rfl
  · rfl
  · rfl
  · rfl
  · rfl
  · rfl
  · rfl
  · rfl
  · rfl
  · rfl
  · rfl
  · rfl
  · rfl
  · rfl
  · rfl
set_option maxRecDepth 20000 in
set_option maxHeartbeats 8000000 in
theorem ev_x11 {F : HF} {A : HA} {K : Nat → Nat × Nat} (hk : K 1 = (19, 10)) (hR : RH 2 1 1) : QE 8 42 18865 mX11_init [vA 1] F A (K, 2) (fun o F' A' al' => o = .inl none ∧ al' = iK_x11 (K, 2) ∧ A' 0 = A 0 ∧ XI 2 1 1 (2 ^ 1) (2 ^ (1 * 1)) (((2 : Nat) : Int) ^ 1) (rF 2 1 1) (rG 2 1 1) (rL 2 1 1) (fun _ => 0) 0 (fun _ => 0) (-1) 1 0 (cyE (((2 : Nat) : Int) ^ 1) 1 (2 ^ 1) 1 (rF 2 1 1) (rG 2 1 1) (paE 2 1 1).1 0 1).1 (cyE (((2 : Nat) : Int) ^ 1) 1 (2 ^ 1) 1 (rF 2 1 1) (rG 2 1 1) (paE 2 1 1).1 0 1).2.1 (cyE (((2 : Nat) : Int) ^ 1) 1 (2 ^ 1) 1 (rF 2 1 1) (rG 2 1 1) (paE 2 1 1).1 0 1).2.2 none [] F' A') := by
  refine QE.mk (by decide +kernel) (Nat.le_of_ble_eq_true rfl) ?_
  refine q_aload_n dX11_init_0 rfl ?_
  refine q_obj dX11_init_1 ob_X11_1 (by decide) (Nat.le_of_ble_eq_true rfl) ?_
  refine q_aload_n dX11_init_4 rfl ?_
  refine q_new dX11_init_5 nw_X11_7 (by decide) (by decide) ?_
  refine q_dup dX11_init_8 rfl ?_
  refine q_callN [] dX11_init_9 mf_X2_init lk_X11_9 (ev_n2 rfl) nt_PIT (by decide) (by decide) (by decide) (Nat.le_of_ble_eq_true rfl) (st := _) rfl (fun v9 F9 A9 al9 h9 => ?_)
  obtain ⟨e9, rfl, rfl, rfl⟩ := h9
  obtain rfl := Sum.inl.inj e9
  refine q_putF dX11_init_12 pf_X11_10 rfl (by first | exact hk | rfl) (by decide) (FT_a (Or.inl ⟨_, rfl⟩)) ?_
  refine q_aload_n dX11_init_15 rfl ?_
  refine q_bipush dX11_init_16 (by decide +kernel) ?_
  refine q_newa_I (N := 8) dX11_init_18 (by decide) (by decide) (by decide) ?_
  refine q_putF dX11_init_20 pf_X11_16 rfl (by first | exact hk | rfl) (by decide) (FT_a (Or.inr ⟨_, rfl⟩)) ?_
  refine q_aload_n dX11_init_23 rfl ?_
  refine q_sipush dX11_init_24 (by decide +kernel) ?_
  refine q_newa_I (N := 4096) dX11_init_27 (by decide) (by decide) (by decide) ?_
  refine q_putF dX11_init_29 pf_X11_20 rfl (by first | exact hk | rfl) (by decide) (FT_a (Or.inr ⟨_, rfl⟩)) ?_
  refine q_aload_n dX11_init_32 rfl ?_
  refine q_new dX11_init_33 nw_X11_23 (by decide) (by decide) ?_
  refine q_dup dX11_init_36 rfl ?_
  refine q_callN [] dX11_init_37 mf_X8_init lk_X11_25 (ev_n19 rfl) nt_PIT (by decide) (by decide) (by decide) (Nat.le_of_ble_eq_true rfl) (st := _) rfl (fun v9 F9 A9 al9 h9 => ?_)
  obtain ⟨e9, rfl, rfl, rfl⟩ := h9
  obtain rfl := Sum.inl.inj e9
  refine q_putF dX11_init_40 pf_X11_26 rfl (by first | exact hk | rfl) (by decide) (FT_a (Or.inl ⟨_, rfl⟩)) ?_
  refine q_aload_n dX11_init_43 rfl ?_
  refine q_new dX11_init_44 nw_X11_30 (by decide) (by decide) ?_
  refine q_dup dX11_init_47 rfl ?_
  refine q_callN [] dX11_init_48 mf_X6_init lk_X11_32 (ev_n21 rfl) nt_PIT (by decide) (by decide) (by decide) (Nat.le_of_ble_eq_true rfl) (st := _) rfl (fun v9 F9 A9 al9 h9 => ?_)
  obtain ⟨e9, rfl, rfl, rfl⟩ := h9
  obtain rfl := Sum.inl.inj e9
  refine q_putF dX11_init_51 pf_X11_33 rfl (by first | exact hk | rfl) (by decide) (FT_a (Or.inl ⟨_, rfl⟩)) ?_
  refine q_aload_n dX11_init_54 rfl ?_
  refine q_new dX11_init_55 nw_X11_37 (by decide) (by decide) ?_
  refine q_dup dX11_init_58 rfl ?_
  refine q_callN [] dX11_init_59 mf_X4_init lk_X11_39 (ev_n24 rfl) nt_PIT (by decide) (by decide) (by decide) (Nat.le_of_ble_eq_true rfl) (st := _) rfl (fun v9 F9 A9 al9 h9 => ?_)
  obtain ⟨e9, rfl, rfl, rfl⟩ := h9
  obtain rfl := Sum.inl.inj e9
  refine q_putF dX11_init_62 pf_X11_40 rfl (by first | exact hk | rfl) (by decide) (FT_a (Or.inl ⟨_, rfl⟩)) ?_
  refine q_aload_n dX11_init_65 rfl ?_
  refine q_new dX11_init_66 nw_X11_44 (by decide) (by decide) ?_
  refine q_dup dX11_init_69 rfl ?_
  refine q_aload_n dX11_init_70 rfl ?_
  refine q_getfield (v := vA 2) dX11_init_71 gf_X11_10 (by first | exact hk | rfl) (by decide) rfl ?_
  refine q_aload_n dX11_init_74 rfl ?_
  refine q_getfield (v := vA 17) dX11_init_75 gf_X11_16 (by first | exact hk | rfl) (by decide) rfl ?_
  refine q_aload_n dX11_init_78 rfl ?_
  refine q_getfield (v := vA 19) dX11_init_79 gf_X11_26 (by first | exact hk | rfl) (by decide) rfl ?_
  refine q_callI [vA 2, vA 17, vA 19] dX11_init_82 mf_X5_init lk_X11_46 (ev_n26 rfl) nt_PIT (by decide) (by decide) (by decide) (Nat.le_of_ble_eq_true rfl) (st := _) rfl (fun v9 F9 A9 al9 h9 => ?_)
  obtain ⟨e9, rfl, rfl, rfl⟩ := h9
  obtain rfl := Sum.inl.inj e9
  refine q_putF dX11_init_85 pf_X11_49 rfl (by first | exact hk | rfl) (by decide) (FT_a (Or.inl ⟨_, rfl⟩)) ?_
  refine q_aload_n dX11_init_88 rfl ?_
  refine q_new dX11_init_89 nw_X11_53 (by decide) (by decide) ?_
  refine q_dup dX11_init_92 rfl ?_
  refine q_aload_n dX11_init_93 rfl ?_
  refine q_getfield (v := vA 2) dX11_init_94 gf_X11_10 (by first | exact hk | rfl) (by decide) rfl ?_
  refine q_callI [vA 2] dX11_init_97 mf_X1_init lk_X11_55 (ev_n27 rfl) nt_PIT (by decide) (by decide) (by decide) (Nat.le_of_ble_eq_true rfl) (st := _) rfl (fun v9 F9 A9 al9 h9 => ?_)
  obtain ⟨e9, rfl, rfl, rfl⟩ := h9
  obtain rfl := Sum.inl.inj e9
  refine q_putF dX11_init_100 pf_X11_58 rfl (by first | exact hk | rfl) (by decide) (FT_a (Or.inl ⟨_, rfl⟩)) ?_
  refine q_aload_n dX11_init_103 rfl ?_
  refine q_new dX11_init_104 nw_X11_62 (by decide) (by decide) ?_
  refine q_dup dX11_init_107 rfl ?_
  refine q_aload_n dX11_init_108 rfl ?_
  refine q_getfield (v := vA 27) dX11_init_109 gf_X11_58 (by first | exact hk | rfl) (by decide) rfl ?_
  refine q_callI [vA 27] dX11_init_112 mf_X10_init lk_X11_64 (ev_n30 rfl) nt_PIT (by decide) (by decide) (by decide) (Nat.le_of_ble_eq_true rfl) (st := _) rfl (fun v9 F9 A9 al9 h9 => ?_)
  obtain ⟨e9, rfl, rfl, rfl⟩ := h9
  obtain rfl := Sum.inl.inj e9
  refine q_putF dX11_init_115 pf_X11_67 rfl (by first | exact hk | rfl) (by decide) (FT_a (Or.inl ⟨_, rfl⟩)) ?_
  refine q_aload_n dX11_init_118 rfl ?_
  refine q_new dX11_init_119 nw_X11_71 (by decide) (by decide) ?_
  refine q_dup dX11_init_122 rfl ?_
  refine q_aload_n dX11_init_123 rfl ?_
  refine q_getfield (v := vA 27) dX11_init_124 gf_X11_58 (by first | exact hk | rfl) (by decide) rfl ?_
  refine q_callI [vA 27] dX11_init_127 mf_X3_init lk_X11_73 (ev_n36 rfl) nt_PIT (by decide) (by decide) (by decide) (Nat.le_of_ble_eq_true rfl) (st := _) rfl (fun v9 F9 A9 al9 h9 => ?_)
  obtain ⟨e9, rfl, rfl, rfl⟩ := h9
  obtain rfl := Sum.inl.inj e9
  refine q_putF dX11_init_130 pf_X11_74 rfl (by first | exact hk | rfl) (by decide) (FT_a (Or.inl ⟨_, rfl⟩)) ?_
  change QW _ _ _ _ _ _ _ _ _ _ (iF_x11 F) (iA_x11 A) (iK_x11 (K, 2))
  have hX := xf_x11 F
  have hK := kx_x11 K hk
  have e26 : ∀ k, k ∈ [0, 1, 2, 6, 7, 8, 9, 10] → iF_x11 F 26 k = vI ((fun k => if k = 1 then -1 else if k = 7 then 257 else 0 : Nat → Int) k) := List.forall_mem_cons.mpr ⟨rfl, List.forall_mem_cons.mpr ⟨rfl, List.forall_mem_cons.mpr ⟨rfl, List.forall_mem_cons.mpr ⟨rfl, List.forall_mem_cons.mpr ⟨rfl, List.forall_mem_cons.mpr ⟨rfl, List.forall_mem_cons.mpr ⟨rfl, List.forall_mem_cons.mpr ⟨rfl, fun _ h => absurd h List.not_mem_nil⟩⟩⟩⟩⟩⟩⟩⟩
  have e19 : iF_x11 F 19 0 = vI 0 := rfl
  have e21 : iF_x11 F 21 0 = vI 0 := rfl
  have a20 : iA_x11 A 20 = fun _ => 0 := rfl
  have a39 : iA_x11 A 39 = fun _ => 0 := rfl
  have a0 : iA_x11 A 0 = A 0 := rfl
  generalize iF_x11 F = F1 at hX e26 e19 e21 ⊢
  generalize iA_x11 A = A1 at a20 a39 a0 ⊢
  generalize iK_x11 (K, 2) = al1 at hK ⊢
  refine q_aload_n dX11_init_133 rfl ?_
  refine q_getfield dX11_init_134 gf_X11_10 (hK _ (by decide) (by decide)) (by decide) (xf_1_0 (by first | exact hX8 | exact hX9 | exact hX)) ?_
  refine q_iconst dX11_init_137 ?_
  refine q_iconst dX11_init_138 ?_
  refine q_iconst dX11_init_139 ?_
  refine q_callV [vI 2, vI 1, vI 1] (M1 := mX2_become) dX11_init_140 mf_X2_become lk_X11_78 (hK _ (by decide) (by decide)) (become_yes (p := 2) (e := 1) (r := 1) hK hX (by decide) (by decide) hR.1) nt_PB (by decide) (by decide) (by decide) (Nat.le_of_ble_eq_true rfl) (st := []) rfl (fun v9 F9 A9 al9 h9 => ?_)
  obtain ⟨e9, rfl, f9, o9, hX9, hGX, htop⟩ := h9
  obtain rfl := Sum.inl.inj e9
  have hp9 : F9 2 0 = vI (2 : Nat) := hGX.2.1
  refine q_pop dX11_init_143 rfl ?_
  refine q_aload_n dX11_init_144 rfl ?_
  refine q_callV [] (M1 := mX11_clear) dX11_init_145 mf_X11_clear lk_X11_82 (hK _ (by decide) (by decide)) (ev_clear hK hX9 hGX hp9 (by decide)) (by intro E F A al h; cases h.1) (by decide) (by decide) (by decide) (Nat.le_of_ble_eq_true rfl) (st := []) rfl (fun v9_ F9_ A9_ al9_ h9 => ?_)
  obtain ⟨e8, rfl, f8, o8, z8, x8, y8, w8⟩ := h9
  obtain rfl := Sum.inl.inj e8
  have hX8 := hX9.foff f8 (by decide)
  refine q_retV dX11_init_148 rfl (by decide) (by decide) ?_
  have f2 : FOff ([(2, 0), (2, 1), (2, 2), (2, 3), (2, 4), (2, 5), (2, 6), (24, 0), (24, 1), (27, 1), (27, 2), (27, 3), (27, 4), (30, 0), (36, 0)]) F1 F9_ := (f9.mono (by decide)).trans (f8.mono (by decide))
  have o2 : Off [3, 4, 5, 7, 8, 9, 10, 11, 12, 13, 14, 15, 16, 17, 25, 28, 29] A1 A9_ := (o9.mono (by simp)).trans (o8.mono (by simp))
  refine ⟨rfl, rfl, by rw [o2 0 (by decide)]; exact a0, ?_⟩
  refine ⟨⟨hX8, (hGX.off o8 (by decide) (by decide) (by decide) (fun j hj => by simp; omega)).row (f8.row 2 (by decide)), ?_, hR.2.2⟩, fun j hj => ⟨z8 j hj, el_zero (by decide)⟩, ⟨?_, by decide, fun j hj => ?_⟩, ⟨(fun k => if k = 1 then -1 else if k = 7 then 257 else 0), fun k hk => ?_, rfl, by decide, by decide⟩, x8, Or.inl y8, ⟨⟨fun _ => 0, fun j hj => ⟨?_, by decide, by decide⟩⟩, w8⟩, ⟨⟨?_, fun j hj => absurd hj (by show ¬ j < 0; omega)⟩, by decide⟩⟩
  · rw [o8 3 (by decide)]; exact htop.trans hR.2.1
  · rw [f2 19 0 (by decide)]; exact e19
  · rw [o2 20 (by decide), a20]; exact ⟨rfl, by decide, by decide⟩
  · rw [f2 26 k (by simp)]; exact e26 k hk
  · rw [o2 39 (by decide), a39]
  · rw [f2 21 0 (by decide)]; exact e21
