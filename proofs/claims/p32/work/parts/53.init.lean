/-! constructors -/
theorem nw_X11_7 : NW RX11 7 1 RX2 15 := ⟨⟨_, rfl⟩, tb_i (List.mem_of_getElem? (i := 43) (by decide +kernel)) (by decide +kernel), tb_i (List.mem_of_getElem? (i := 44) (by decide +kernel)) (by decide +kernel), tb_i (List.mem_of_getElem? (i := 18) (by decide +kernel)) (by decide +kernel), by decide +kernel, by decide⟩
theorem nw_X11_23 : NW RX11 23 6 RX8 2 := ⟨⟨_, rfl⟩, tb_i (List.mem_of_getElem? (i := 109) (by decide +kernel)) (by decide +kernel), tb_i (List.mem_of_getElem? (i := 110) (by decide +kernel)) (by decide +kernel), tb_i (List.mem_of_getElem? (i := 19) (by decide +kernel)) (by decide +kernel), by decide +kernel, by decide⟩
theorem nw_X11_30 : NW RX11 30 5 RX6 3 := ⟨⟨_, rfl⟩, tb_i (List.mem_of_getElem? (i := 123) (by decide +kernel)) (by decide +kernel), tb_i (List.mem_of_getElem? (i := 124) (by decide +kernel)) (by decide +kernel), tb_i (List.mem_of_getElem? (i := 20) (by decide +kernel)) (by decide +kernel), by decide +kernel, by decide⟩
theorem nw_X11_37 : NW RX11 37 3 RX4 3 := ⟨⟨_, rfl⟩, tb_i (List.mem_of_getElem? (i := 139) (by decide +kernel)) (by decide +kernel), tb_i (List.mem_of_getElem? (i := 140) (by decide +kernel)) (by decide +kernel), tb_i (List.mem_of_getElem? (i := 21) (by decide +kernel)) (by decide +kernel), by decide +kernel, by decide⟩
theorem nw_X11_44 : NW RX11 44 4 RX5 11 := ⟨⟨_, rfl⟩, tb_i (List.mem_of_getElem? (i := 157) (by decide +kernel)) (by decide +kernel), tb_i (List.mem_of_getElem? (i := 158) (by decide +kernel)) (by decide +kernel), tb_i (List.mem_of_getElem? (i := 22) (by decide +kernel)) (by decide +kernel), by decide +kernel, by decide⟩
theorem nw_X11_53 : NW RX11 53 0 RX1 7 := ⟨⟨_, rfl⟩, tb_i (List.mem_of_getElem? (i := 197) (by decide +kernel)) (by decide +kernel), tb_i (List.mem_of_getElem? (i := 198) (by decide +kernel)) (by decide +kernel), tb_i (List.mem_of_getElem? (i := 23) (by decide +kernel)) (by decide +kernel), by decide +kernel, by decide⟩
theorem nw_X11_62 : NW RX11 62 8 RX10 5 := ⟨⟨_, rfl⟩, tb_i (List.mem_of_getElem? (i := 230) (by decide +kernel)) (by decide +kernel), tb_i (List.mem_of_getElem? (i := 231) (by decide +kernel)) (by decide +kernel), tb_i (List.mem_of_getElem? (i := 24) (by decide +kernel)) (by decide +kernel), by decide +kernel, by decide⟩
theorem nw_X10_26 : NW RX10 26 7 RX9 3 := ⟨⟨_, rfl⟩, tb_i (List.mem_of_getElem? (i := 236) (by decide +kernel)) (by decide +kernel), tb_i (List.mem_of_getElem? (i := 237) (by decide +kernel)) (by decide +kernel), tb_i (List.mem_of_getElem? (i := 25) (by decide +kernel)) (by decide +kernel), by decide +kernel, by decide⟩
theorem nw_X11_71 : NW RX11 71 2 RX3 13 := ⟨⟨_, rfl⟩, tb_i (List.mem_of_getElem? (i := 269) (by decide +kernel)) (by decide +kernel), tb_i (List.mem_of_getElem? (i := 270) (by decide +kernel)) (by decide +kernel), tb_i (List.mem_of_getElem? (i := 26) (by decide +kernel)) (by decide +kernel), by decide +kernel, by decide⟩
theorem nw_X3_51 : NW RX3 51 7 RX9 3 := ⟨⟨_, rfl⟩, tb_i (List.mem_of_getElem? (i := 275) (by decide +kernel)) (by decide +kernel), tb_i (List.mem_of_getElem? (i := 237) (by decide +kernel)) (by decide +kernel), tb_i (List.mem_of_getElem? (i := 25) (by decide +kernel)) (by decide +kernel), by decide +kernel, by decide⟩
theorem ob_X11_1 : Cond.methodLink RX11 1 Lib.objectInit ∈ TBg := tb_i (List.mem_of_getElem? (i := 40) (by decide +kernel)) (by decide +kernel)
theorem ob_X2_3 : Cond.methodLink RX2 3 Lib.objectInit ∈ TBg := tb_i (List.mem_of_getElem? (i := 48) (by decide +kernel)) (by decide +kernel)
theorem ob_X8_3 : Cond.methodLink RX8 3 Lib.objectInit ∈ TBg := tb_i (List.mem_of_getElem? (i := 114) (by decide +kernel)) (by decide +kernel)
theorem ob_X6_3 : Cond.methodLink RX6 3 Lib.objectInit ∈ TBg := tb_i (List.mem_of_getElem? (i := 128) (by decide +kernel)) (by decide +kernel)
theorem ob_X4_3 : Cond.methodLink RX4 3 Lib.objectInit ∈ TBg := tb_i (List.mem_of_getElem? (i := 144) (by decide +kernel)) (by decide +kernel)
theorem ob_X5_3 : Cond.methodLink RX5 3 Lib.objectInit ∈ TBg := tb_i (List.mem_of_getElem? (i := 162) (by decide +kernel)) (by decide +kernel)
theorem ob_X1_3 : Cond.methodLink RX1 3 Lib.objectInit ∈ TBg := tb_i (List.mem_of_getElem? (i := 202) (by decide +kernel)) (by decide +kernel)
theorem ob_X10_3 : Cond.methodLink RX10 3 Lib.objectInit ∈ TBg := tb_i (List.mem_of_getElem? (i := 235) (by decide +kernel)) (by decide +kernel)
theorem ob_X9_3 : Cond.methodLink RX9 3 Lib.objectInit ∈ TBg := tb_i (List.mem_of_getElem? (i := 241) (by decide +kernel)) (by decide +kernel)
theorem ob_X3_3 : Cond.methodLink RX3 3 Lib.objectInit ∈ TBg := tb_i (List.mem_of_getElem? (i := 274) (by decide +kernel)) (by decide +kernel)
def PIT (F1 : HF) (A1 : HA) (al1 : AL) : PO := fun o F' A' al' => o = .inl none ∧ F' = F1 ∧ A' = A1 ∧ al' = al1
theorem nt_PIT {F1 : HF} {A1 : HA} {al1 : AL} : NT (PIT F1 A1 al1) := by intro E F A al h; cases h.1
def iF_n2 (F : HF) : HF := (up2 (up2 (up2 (up2 (up2 (mF (up2 (up2 (up2 (up2 (up2 (up2 (up2 (up2 (up2 (up2 F 2 0 (vI (2))) 2 1 (vI (1))) 2 2 (vI (1))) 2 3 (vI (2))) 2 4 (vI (2))) 2 5 (vI (2))) 2 6 (vI (1))) 2 7 (vA 3)) 2 8 (vA 4)) 2 9 (vA 5)) 6) 2 10 (vA 6)) 2 11 (vA 13)) 2 12 (vA 14)) 2 13 (vA 15)) 2 14 (vA 16))
def iA_n2 (A : HA) : HA := (nA (nA (nA (nA (mA (nA (nA (nA A 3) 4) 5) 6) 13) 14) 15) 16)
def iK_n2 (al : AL) : AL := (kU (kU (kU (kU (mU (kU (kU (kU al (0, 7)) (0, 3125)) (0, 3125))) (0, 6)) (0, 6)) (0, 12)) (0, 7))
set_option maxRecDepth 20000 in
theorem ev_n2 {F : HF} {A : HA} {K : Nat → Nat × Nat} (hk : K 2 = (11, 15)) : QE 1 14 6330 mX2_init [vA 2] F A (K, 3) (PIT (iF_n2 F) (iA_n2 A) (iK_n2 (K, 3))) := by
  refine QE.mk (by decide +kernel) (Nat.le_of_ble_eq_true rfl) ?_
  refine q_aload_n eX2_init_0 rfl ?_
  refine q_obj eX2_init_1 ob_X2_3 (by decide) (Nat.le_of_ble_eq_true rfl) ?_
  refine q_aload_n eX2_init_4 rfl ?_
  refine q_iconst eX2_init_5 ?_
  refine q_putfield eX2_init_6 pf_X2_9 (by first | exact hk | rfl) (by decide) (FT_i rfl) ?_
  refine q_aload_n eX2_init_9 rfl ?_
  refine q_iconst eX2_init_10 ?_
  refine q_putfield eX2_init_11 pf_X2_15 (by first | exact hk | rfl) (by decide) (FT_i rfl) ?_
  refine q_aload_n eX2_init_14 rfl ?_
  refine q_iconst eX2_init_15 ?_
  refine q_putfield eX2_init_16 pf_X2_18 (by first | exact hk | rfl) (by decide) (FT_i rfl) ?_
  refine q_aload_n eX2_init_19 rfl ?_
  refine q_iconst eX2_init_20 ?_
  refine q_putfield eX2_init_21 pf_X2_21 (by first | exact hk | rfl) (by decide) (FT_i rfl) ?_
  refine q_aload_n eX2_init_24 rfl ?_
  refine q_iconst eX2_init_25 ?_
  refine q_putfield eX2_init_26 pf_X2_24 (by first | exact hk | rfl) (by decide) (FT_i rfl) ?_
  refine q_aload_n eX2_init_29 rfl ?_
  refine q_iconst eX2_init_30 ?_
  refine q_putfield eX2_init_31 pf_X2_27 (by first | exact hk | rfl) (by decide) (FT_i rfl) ?_
  refine q_aload_n eX2_init_34 rfl ?_
  refine q_iconst eX2_init_35 ?_
  refine q_putfield eX2_init_36 pf_X2_30 (by first | exact hk | rfl) (by decide) (FT_i rfl) ?_
  refine q_aload_n eX2_init_39 rfl ?_
  refine q_bipush eX2_init_40 (by decide +kernel) ?_
  refine q_newa_I (N := 7) eX2_init_42 (by decide) (by decide) (by decide) ?_
  refine q_putF eX2_init_44 pf_X2_33 rfl (by first | exact hk | rfl) (by decide) (FT_a (Or.inr ⟨_, rfl⟩)) ?_
  refine q_aload_n eX2_init_47 rfl ?_
  refine q_sipush eX2_init_48 (by decide +kernel) ?_
  refine q_newa_I (N := 3125) eX2_init_51 (by decide) (by decide) (by decide) ?_
  refine q_putF eX2_init_53 pf_X2_37 rfl (by first | exact hk | rfl) (by decide) (FT_a (Or.inr ⟨_, rfl⟩)) ?_
  refine q_aload_n eX2_init_56 rfl ?_
  refine q_sipush eX2_init_57 (by decide +kernel) ?_
  refine q_newa_I (N := 3125) eX2_init_60 (by decide) (by decide) (by decide) ?_
  refine q_putF eX2_init_62 pf_X2_40 rfl (by first | exact hk | rfl) (by decide) (FT_a (Or.inr ⟨_, rfl⟩)) ?_
  refine q_aload_n eX2_init_65 rfl ?_
  refine q_bipush eX2_init_66 (by decide +kernel) ?_
  refine q_bipush eX2_init_68 (by decide +kernel) ?_
  refine q_mna rfl eX2_init_70 (by decide) (by decide) ?_
  refine q_putF eX2_init_74 pf_X2_45 rfl (by first | exact hk | rfl) (by decide) (FT_a (Or.inr ⟨_, rfl⟩)) ?_
  refine q_aload_n eX2_init_77 rfl ?_
  refine q_bipush eX2_init_78 (by decide +kernel) ?_
  refine q_newa_I (N := 6) eX2_init_80 (by decide) (by decide) (by decide) ?_
  refine q_putF eX2_init_82 pf_X2_48 rfl (by first | exact hk | rfl) (by decide) (FT_a (Or.inr ⟨_, rfl⟩)) ?_
  refine q_aload_n eX2_init_85 rfl ?_
  refine q_bipush eX2_init_86 (by decide +kernel) ?_
  refine q_newa_I (N := 6) eX2_init_88 (by decide) (by decide) (by decide) ?_
  refine q_putF eX2_init_90 pf_X2_51 rfl (by first | exact hk | rfl) (by decide) (FT_a (Or.inr ⟨_, rfl⟩)) ?_
  refine q_aload_n eX2_init_93 rfl ?_
  refine q_bipush eX2_init_94 (by decide +kernel) ?_
  refine q_newa_I (N := 12) eX2_init_96 (by decide) (by decide) (by decide) ?_
  refine q_putF eX2_init_98 pf_X2_54 rfl (by first | exact hk | rfl) (by decide) (FT_a (Or.inr ⟨_, rfl⟩)) ?_
  refine q_aload_n eX2_init_101 rfl ?_
  refine q_bipush eX2_init_102 (by decide +kernel) ?_
  refine q_newa_I (N := 7) eX2_init_104 (by decide) (by decide) (by decide) ?_
  refine q_putF eX2_init_106 pf_X2_57 rfl (by first | exact hk | rfl) (by decide) (FT_a (Or.inr ⟨_, rfl⟩)) ?_
  refine q_retV eX2_init_109 rfl (by decide) (by decide) ?_
  exact ⟨rfl, rfl, rfl, rfl⟩
def iF_n19 (F : HF) : HF := (up2 (up2 F 19 0 (vI (0))) 19 1 (vA 20))
def iA_n19 (A : HA) : HA := (nA A 20)
def iK_n19 (al : AL) : AL := (kU al (0, 200))
set_option maxRecDepth 20000 in
theorem ev_n19 {F : HF} {A : HA} {K : Nat → Nat × Nat} (hk : K 19 = (16, 2)) : QE 1 1 200 mX8_init [vA 19] F A (K, 20) (PIT (iF_n19 F) (iA_n19 A) (iK_n19 (K, 20))) := by
  refine QE.mk (by decide +kernel) (Nat.le_of_ble_eq_true rfl) ?_
  refine q_aload_n eX8_init_0 rfl ?_
  refine q_obj eX8_init_1 ob_X8_3 (by decide) (Nat.le_of_ble_eq_true rfl) ?_
  refine q_aload_n eX8_init_4 rfl ?_
  refine q_iconst eX8_init_5 ?_
  refine q_putfield eX8_init_6 pf_X8_9 (by first | exact hk | rfl) (by decide) (FT_i rfl) ?_
  refine q_aload_n eX8_init_9 rfl ?_
  refine q_sipush eX8_init_10 (by decide +kernel) ?_
  refine q_newa_I (N := 200) eX8_init_13 (by decide) (by decide) (by decide) ?_
  refine q_putF eX8_init_15 pf_X8_15 rfl (by first | exact hk | rfl) (by decide) (FT_a (Or.inr ⟨_, rfl⟩)) ?_
  refine q_retV eX8_init_18 rfl (by decide) (by decide) ?_
  exact ⟨rfl, rfl, rfl, rfl⟩
def iF_n21 (F : HF) : HF := (up2 (up2 (up2 F 21 0 (vI (0))) 21 1 (vA 22)) 21 2 (vA 23))
def iA_n21 (A : HA) : HA := (nA (nA A 22) 23)
def iK_n21 (al : AL) : AL := (kU (kU al (0, 200)) (0, 6))
set_option maxRecDepth 20000 in
theorem ev_n21 {F : HF} {A : HA} {K : Nat → Nat × Nat} (hk : K 21 = (15, 3)) : QE 1 2 206 mX6_init [vA 21] F A (K, 22) (PIT (iF_n21 F) (iA_n21 A) (iK_n21 (K, 22))) := by
  refine QE.mk (by decide +kernel) (Nat.le_of_ble_eq_true rfl) ?_
  refine q_aload_n eX6_init_0 rfl ?_
  refine q_obj eX6_init_1 ob_X6_3 (by decide) (Nat.le_of_ble_eq_true rfl) ?_
  refine q_aload_n eX6_init_4 rfl ?_
  refine q_iconst eX6_init_5 ?_
  refine q_putfield eX6_init_6 pf_X6_9 (by first | exact hk | rfl) (by decide) (FT_i rfl) ?_
  refine q_aload_n eX6_init_9 rfl ?_
  refine q_sipush eX6_init_10 (by decide +kernel) ?_
  refine q_newa_I (N := 200) eX6_init_13 (by decide) (by decide) (by decide) ?_
  refine q_putF eX6_init_15 pf_X6_15 rfl (by first | exact hk | rfl) (by decide) (FT_a (Or.inr ⟨_, rfl⟩)) ?_
  refine q_aload_n eX6_init_18 rfl ?_
  refine q_bipush eX6_init_19 (by decide +kernel) ?_
  refine q_newa_I (N := 6) eX6_init_21 (by decide) (by decide) (by decide) ?_
  refine q_putF eX6_init_23 pf_X6_19 rfl (by first | exact hk | rfl) (by decide) (FT_a (Or.inr ⟨_, rfl⟩)) ?_
  refine q_retV eX6_init_26 rfl (by decide) (by decide) ?_
  exact ⟨rfl, rfl, rfl, rfl⟩
def iF_n24 (F : HF) : HF := (up2 (up2 (up2 F 24 0 (vI (1))) 24 1 (vI (1))) 24 2 (vA 25))
def iA_n24 (A : HA) : HA := (nA A 25)
def iK_n24 (al : AL) : AL := (kU al (0, 63))
set_option maxRecDepth 20000 in
theorem ev_n24 {F : HF} {A : HA} {K : Nat → Nat × Nat} (hk : K 24 = (13, 3)) : QE 1 1 63 mX4_init [vA 24] F A (K, 25) (PIT (iF_n24 F) (iA_n24 A) (iK_n24 (K, 25))) := by
  refine QE.mk (by decide +kernel) (Nat.le_of_ble_eq_true rfl) ?_
  refine q_aload_n eX4_init_0 rfl ?_
  refine q_obj eX4_init_1 ob_X4_3 (by decide) (Nat.le_of_ble_eq_true rfl) ?_
  refine q_aload_n eX4_init_4 rfl ?_
  refine q_iconst eX4_init_5 ?_
  refine q_putfield eX4_init_6 pf_X4_9 (by first | exact hk | rfl) (by decide) (FT_i rfl) ?_
  refine q_aload_n eX4_init_9 rfl ?_
  refine q_iconst eX4_init_10 ?_
  refine q_putfield eX4_init_11 pf_X4_15 (by first | exact hk | rfl) (by decide) (FT_i rfl) ?_
  refine q_aload_n eX4_init_14 rfl ?_
  refine q_bipush eX4_init_15 (by decide +kernel) ?_
  refine q_newa_I (N := 63) eX4_init_17 (by decide) (by decide) (by decide) ?_
  refine q_putF eX4_init_19 pf_X4_18 rfl (by first | exact hk | rfl) (by decide) (FT_a (Or.inr ⟨_, rfl⟩)) ?_
  refine q_retV eX4_init_22 rfl (by decide) (by decide) ?_
  exact ⟨rfl, rfl, rfl, rfl⟩
def iF_n26 (F : HF) : HF := (up2 (up2 (up2 (up2 (up2 (up2 (up2 (up2 (up2 (up2 (up2 F 26 0 (vI (0))) 26 1 (vI (-1))) 26 2 (vI (0))) 26 6 (vI (0))) 26 7 (vI (257))) 26 8 (vI (0))) 26 9 (vI (0))) 26 10 (vI (0))) 26 3 (vA 2)) 26 4 (vA 17)) 26 5 (vA 19))
def iA_n26 (A : HA) : HA := A
def iK_n26 (al : AL) : AL := al
set_option maxRecDepth 20000 in
theorem ev_n26 {F : HF} {A : HA} {K : Nat → Nat × Nat} (hk : K 26 = (14, 11)) : QE 1 0 0 mX5_init [vA 26, vA 2, vA 17, vA 19] F A (K, 27) (PIT (iF_n26 F) (iA_n26 A) (iK_n26 (K, 27))) := by
  refine QE.mk (by decide +kernel) (Nat.le_of_ble_eq_true rfl) ?_
  refine q_aload_n eX5_init_0 rfl ?_
  refine q_obj eX5_init_1 ob_X5_3 (by decide) (Nat.le_of_ble_eq_true rfl) ?_
  refine q_aload_n eX5_init_4 rfl ?_
  refine q_iconst eX5_init_5 ?_
  refine q_putfield eX5_init_6 pf_X5_9 (by first | exact hk | rfl) (by decide) (FT_i rfl) ?_
  refine q_aload_n eX5_init_9 rfl ?_
  refine q_iconst eX5_init_10 ?_
  refine q_putfield eX5_init_11 pf_X5_15 (by first | exact hk | rfl) (by decide) (FT_i rfl) ?_
  refine q_aload_n eX5_init_14 rfl ?_
  refine q_iconst eX5_init_15 ?_
  refine q_putfield eX5_init_16 pf_X5_18 (by first | exact hk | rfl) (by decide) (FT_z rfl (Or.inl rfl)) ?_
  refine q_aload_n eX5_init_19 rfl ?_
  refine q_iconst eX5_init_20 ?_
  refine q_putfield eX5_init_21 pf_X5_22 (by first | exact hk | rfl) (by decide) (FT_i rfl) ?_
  refine q_aload_n eX5_init_24 rfl ?_
  refine q_sipush eX5_init_25 (by decide +kernel) ?_
  refine q_putfield eX5_init_28 pf_X5_25 (by first | exact hk | rfl) (by decide) (FT_i rfl) ?_
  refine q_aload_n eX5_init_31 rfl ?_
  refine q_iconst eX5_init_32 ?_
  refine q_putfield eX5_init_33 pf_X5_28 (by first | exact hk | rfl) (by decide) (FT_i rfl) ?_
  refine q_aload_n eX5_init_36 rfl ?_
  refine q_iconst eX5_init_37 ?_
  refine q_putfield eX5_init_38 pf_X5_31 (by first | exact hk | rfl) (by decide) (FT_i rfl) ?_
  refine q_aload_n eX5_init_41 rfl ?_
  refine q_iconst eX5_init_42 ?_
  refine q_putfield eX5_init_43 pf_X5_34 (by first | exact hk | rfl) (by decide) (FT_i rfl) ?_
  refine q_aload_n eX5_init_46 rfl ?_
  refine q_aload_n eX5_init_47 rfl ?_
  refine q_putF eX5_init_48 pf_X5_37 rfl (by first | exact hk | rfl) (by decide) (FT_a (Or.inl ⟨_, rfl⟩)) ?_
  refine q_aload_n eX5_init_51 rfl ?_
  refine q_aload_n eX5_init_52 rfl ?_
  refine q_putF eX5_init_53 pf_X5_41 rfl (by first | exact hk | rfl) (by decide) (FT_a (Or.inr ⟨_, rfl⟩)) ?_
  refine q_aload_n eX5_init_56 rfl ?_
  refine q_aload_n eX5_init_57 rfl ?_
  refine q_putF eX5_init_58 pf_X5_45 rfl (by first | exact hk | rfl) (by decide) (FT_a (Or.inl ⟨_, rfl⟩)) ?_
  refine q_retV eX5_init_61 rfl (by decide) (by decide) ?_
  exact ⟨rfl, rfl, rfl, rfl⟩
def iF_n27 (F : HF) : HF := (up2 (up2 (up2 (up2 (up2 (up2 (up2 F 27 1 (vI (1))) 27 2 (vI (0))) 27 3 (vI (1))) 27 4 (vI (2))) 27 5 (vA 28)) 27 6 (vA 29)) 27 0 (vA 2))
def iA_n27 (A : HA) : HA := (nA (nA A 28) 29)
def iK_n27 (al : AL) : AL := (kU (kU al (0, 64)) (0, 64))
set_option maxRecDepth 20000 in
theorem ev_n27 {F : HF} {A : HA} {K : Nat → Nat × Nat} (hk : K 27 = (10, 7)) : QE 1 2 128 mX1_init [vA 27, vA 2] F A (K, 28) (PIT (iF_n27 F) (iA_n27 A) (iK_n27 (K, 28))) := by
  refine QE.mk (by decide +kernel) (Nat.le_of_ble_eq_true rfl) ?_
  refine q_aload_n eX1_init_0 rfl ?_
  refine q_obj eX1_init_1 ob_X1_3 (by decide) (Nat.le_of_ble_eq_true rfl) ?_
  refine q_aload_n eX1_init_4 rfl ?_
  refine q_iconst eX1_init_5 ?_
  refine q_putfield eX1_init_6 pf_X1_9 (by first | exact hk | rfl) (by decide) (FT_i rfl) ?_
  refine q_aload_n eX1_init_9 rfl ?_
  refine q_iconst eX1_init_10 ?_
  refine q_putfield eX1_init_11 pf_X1_15 (by first | exact hk | rfl) (by decide) (FT_i rfl) ?_
  refine q_aload_n eX1_init_14 rfl ?_
  refine q_iconst eX1_init_15 ?_
  refine q_putfield eX1_init_16 pf_X1_18 (by first | exact hk | rfl) (by decide) (FT_i rfl) ?_
  refine q_aload_n eX1_init_19 rfl ?_
  refine q_iconst eX1_init_20 ?_
  refine q_putfield eX1_init_21 pf_X1_21 (by first | exact hk | rfl) (by decide) (FT_i rfl) ?_
  refine q_aload_n eX1_init_24 rfl ?_
  refine q_bipush eX1_init_25 (by decide +kernel) ?_
  refine q_newa_I (N := 64) eX1_init_27 (by decide) (by decide) (by decide) ?_
  refine q_putF eX1_init_29 pf_X1_24 rfl (by first | exact hk | rfl) (by decide) (FT_a (Or.inr ⟨_, rfl⟩)) ?_
  refine q_aload_n eX1_init_32 rfl ?_
  refine q_bipush eX1_init_33 (by decide +kernel) ?_
  refine q_newa_I (N := 64) eX1_init_35 (by decide) (by decide) (by decide) ?_
  refine q_putF eX1_init_37 pf_X1_28 rfl (by first | exact hk | rfl) (by decide) (FT_a (Or.inr ⟨_, rfl⟩)) ?_
  refine q_aload_n eX1_init_40 rfl ?_
  refine q_aload_n eX1_init_41 rfl ?_
  refine q_putF eX1_init_42 pf_X1_31 rfl (by first | exact hk | rfl) (by decide) (FT_a (Or.inl ⟨_, rfl⟩)) ?_
  refine q_retV eX1_init_45 rfl (by decide) (by decide) ?_
  exact ⟨rfl, rfl, rfl, rfl⟩
def iF_n33 (F : HF) : HF := (up2 (up2 (up2 F 33 0 (vA 34)) 33 1 (vA 35)) 33 2 (vA 27))
def iA_n33 (A : HA) : HA := (nA (nA A 34) 35)
def iK_n33 (al : AL) : AL := (kU (kU al (0, 63)) (0, 63))
set_option maxRecDepth 20000 in
theorem ev_n33 {F : HF} {A : HA} {K : Nat → Nat × Nat} (hk : K 33 = (17, 3)) : QE 1 2 126 mX9_init [vA 33, vA 27] F A (K, 34) (PIT (iF_n33 F) (iA_n33 A) (iK_n33 (K, 34))) := by
  refine QE.mk (by decide +kernel) (Nat.le_of_ble_eq_true rfl) ?_
  refine q_aload_n eX9_init_0 rfl ?_
  refine q_obj eX9_init_1 ob_X9_3 (by decide) (Nat.le_of_ble_eq_true rfl) ?_
  refine q_aload_n eX9_init_4 rfl ?_
  refine q_bipush eX9_init_5 (by decide +kernel) ?_
  refine q_newa_I (N := 63) eX9_init_7 (by decide) (by decide) (by decide) ?_
  refine q_putF eX9_init_9 pf_X9_9 rfl (by first | exact hk | rfl) (by decide) (FT_a (Or.inr ⟨_, rfl⟩)) ?_
  refine q_aload_n eX9_init_12 rfl ?_
  refine q_bipush eX9_init_13 (by decide +kernel) ?_
  refine q_newa_I (N := 63) eX9_init_15 (by decide) (by decide) (by decide) ?_
  refine q_putF eX9_init_17 pf_X9_15 rfl (by first | exact hk | rfl) (by decide) (FT_a (Or.inr ⟨_, rfl⟩)) ?_
  refine q_aload_n eX9_init_20 rfl ?_
  refine q_aload_n eX9_init_21 rfl ?_
  refine q_putF eX9_init_22 pf_X9_18 rfl (by first | exact hk | rfl) (by decide) (FT_a (Or.inl ⟨_, rfl⟩)) ?_
  refine q_retV eX9_init_25 rfl (by decide) (by decide) ?_
  exact ⟨rfl, rfl, rfl, rfl⟩
def iF_n30 (F : HF) : HF := (up2 (iF_n33 (nF (up2 (up2 (up2 (up2 F 30 0 (vI (0))) 30 1 (vA 31)) 30 2 (vA 32)) 30 3 (vA 27)) 33 (dfF 7))) 30 4 (vA 33))
def iA_n30 (A : HA) : HA := (iA_n33 (nA (nA A 31) 32))
def iK_n30 (al : AL) : AL := (iK_n33 (kU (kU (kU al (0, 64)) (0, 7201)) (17, 3)))
set_option maxRecDepth 20000 in
theorem ev_n30 {F : HF} {A : HA} {K : Nat → Nat × Nat} (hk : K 30 = (18, 5)) : QE 2 5 7394 mX10_init [vA 30, vA 27] F A (K, 31) (PIT (iF_n30 F) (iA_n30 A) (iK_n30 (K, 31))) := by
  refine QE.mk (by decide +kernel) (Nat.le_of_ble_eq_true rfl) ?_
  refine q_aload_n eX10_init_0 rfl ?_
  refine q_obj eX10_init_1 ob_X10_3 (by decide) (Nat.le_of_ble_eq_true rfl) ?_
  refine q_aload_n eX10_init_4 rfl ?_
  refine q_iconst eX10_init_5 ?_
  refine q_putfield eX10_init_6 pf_X10_9 (by first | exact hk | rfl) (by decide) (FT_z rfl (Or.inl rfl)) ?_
  refine q_aload_n eX10_init_9 rfl ?_
  refine q_bipush eX10_init_10 (by decide +kernel) ?_
  refine q_newa_I (N := 64) eX10_init_12 (by decide) (by decide) (by decide) ?_
  refine q_putF eX10_init_14 pf_X10_15 rfl (by first | exact hk | rfl) (by decide) (FT_a (Or.inr ⟨_, rfl⟩)) ?_
  refine q_aload_n eX10_init_17 rfl ?_
  refine q_sipush eX10_init_18 (by decide +kernel) ?_
  refine q_newa_I (N := 7201) eX10_init_21 (by decide) (by decide) (by decide) ?_
  refine q_putF eX10_init_23 pf_X10_19 rfl (by first | exact hk | rfl) (by decide) (FT_a (Or.inr ⟨_, rfl⟩)) ?_
  refine q_aload_n eX10_init_26 rfl ?_
  refine q_aload_n eX10_init_27 rfl ?_
  refine q_putF eX10_init_28 pf_X10_22 rfl (by first | exact hk | rfl) (by decide) (FT_a (Or.inl ⟨_, rfl⟩)) ?_
  refine q_aload_n eX10_init_31 rfl ?_
  refine q_new eX10_init_32 nw_X10_26 (by decide) (by decide) ?_
  refine q_dup eX10_init_35 rfl ?_
  refine q_aload_n eX10_init_36 rfl ?_
  refine q_callI [vA 27] eX10_init_37 mf_X9_init lk_X10_28 (ev_n33 rfl) nt_PIT (by decide) (by decide) (by decide) (Nat.le_of_ble_eq_true rfl) (st := _) rfl (fun v9 F9 A9 al9 h9 => ?_)
  obtain ⟨e9, rfl, rfl, rfl⟩ := h9
  obtain rfl := Sum.inl.inj e9
  refine q_putF eX10_init_40 pf_X10_31 rfl (by first | exact hk | rfl) (by decide) (FT_a (Or.inl ⟨_, rfl⟩)) ?_
  refine q_retV eX10_init_43 rfl (by decide) (by decide) ?_
  exact ⟨rfl, rfl, rfl, rfl⟩
def iF_n41 (F : HF) : HF := (up2 (up2 (up2 F 41 0 (vA 42)) 41 1 (vA 43)) 41 2 (vA 27))
def iA_n41 (A : HA) : HA := (nA (nA A 42) 43)
def iK_n41 (al : AL) : AL := (kU (kU al (0, 63)) (0, 63))
set_option maxRecDepth 20000 in
theorem ev_n41 {F : HF} {A : HA} {K : Nat → Nat × Nat} (hk : K 41 = (17, 3)) : QE 1 2 126 mX9_init [vA 41, vA 27] F A (K, 42) (PIT (iF_n41 F) (iA_n41 A) (iK_n41 (K, 42))) := by
  refine QE.mk (by decide +kernel) (Nat.le_of_ble_eq_true rfl) ?_
  refine q_aload_n eX9_init_0 rfl ?_
  refine q_obj eX9_init_1 ob_X9_3 (by decide) (Nat.le_of_ble_eq_true rfl) ?_
  refine q_aload_n eX9_init_4 rfl ?_
  refine q_bipush eX9_init_5 (by decide +kernel) ?_
  refine q_newa_I (N := 63) eX9_init_7 (by decide) (by decide) (by decide) ?_
  refine q_putF eX9_init_9 pf_X9_9 rfl (by first | exact hk | rfl) (by decide) (FT_a (Or.inr ⟨_, rfl⟩)) ?_
  refine q_aload_n eX9_init_12 rfl ?_
  refine q_bipush eX9_init_13 (by decide +kernel) ?_
  refine q_newa_I (N := 63) eX9_init_15 (by decide) (by decide) (by decide) ?_
  refine q_putF eX9_init_17 pf_X9_15 rfl (by first | exact hk | rfl) (by decide) (FT_a (Or.inr ⟨_, rfl⟩)) ?_
  refine q_aload_n eX9_init_20 rfl ?_
  refine q_aload_n eX9_init_21 rfl ?_
  refine q_putF eX9_init_22 pf_X9_18 rfl (by first | exact hk | rfl) (by decide) (FT_a (Or.inl ⟨_, rfl⟩)) ?_
  refine q_retV eX9_init_25 rfl (by decide) (by decide) ?_
  exact ⟨rfl, rfl, rfl, rfl⟩
def iF_n36 (F : HF) : HF := (up2 (iF_n41 (nF (up2 (up2 (up2 (up2 (up2 (up2 (up2 (up2 (up2 (up2 (up2 (up2 F 36 0 (vI (0))) 36 1 (vI (0))) 36 2 (vA 37)) 36 3 (vA 38)) 36 4 (vI (0))) 36 5 (vI (-1))) 36 6 (vI (-1))) 36 7 (vI (0))) 36 8 (vA 39)) 36 9 (vI (0))) 36 10 (vA 40)) 36 11 (vA 27)) 41 (dfF 7))) 36 12 (vA 41))
def iA_n36 (A : HA) : HA := (iA_n41 (nA (nA (nA (nA A 37) 38) 39) 40))
def iK_n36 (al : AL) : AL := (iK_n41 (kU (kU (kU (kU (kU al (0, 63)) (0, 63)) (0, 63)) (0, 63)) (17, 3)))
set_option maxRecDepth 20000 in
theorem ev_n36 {F : HF} {A : HA} {K : Nat → Nat × Nat} (hk : K 36 = (12, 13)) : QE 2 7 381 mX3_init [vA 36, vA 27] F A (K, 37) (PIT (iF_n36 F) (iA_n36 A) (iK_n36 (K, 37))) := by
  refine QE.mk (by decide +kernel) (Nat.le_of_ble_eq_true rfl) ?_
  refine q_aload_n eX3_init_0 rfl ?_
  refine q_obj eX3_init_1 ob_X3_3 (by decide) (Nat.le_of_ble_eq_true rfl) ?_
  refine q_aload_n eX3_init_4 rfl ?_
  refine q_iconst eX3_init_5 ?_
  refine q_putfield eX3_init_6 pf_X3_9 (by first | exact hk | rfl) (by decide) (FT_z rfl (Or.inl rfl)) ?_
  refine q_aload_n eX3_init_9 rfl ?_
  refine q_iconst eX3_init_10 ?_
  refine q_putfield eX3_init_11 pf_X3_15 (by first | exact hk | rfl) (by decide) (FT_z rfl (Or.inl rfl)) ?_
  refine q_aload_n eX3_init_14 rfl ?_
  refine q_bipush eX3_init_15 (by decide +kernel) ?_
  refine q_newa_I (N := 63) eX3_init_17 (by decide) (by decide) (by decide) ?_
  refine q_putF eX3_init_19 pf_X3_18 rfl (by first | exact hk | rfl) (by decide) (FT_a (Or.inr ⟨_, rfl⟩)) ?_
  refine q_aload_n eX3_init_22 rfl ?_
  refine q_bipush eX3_init_23 (by decide +kernel) ?_
  refine q_newa_I (N := 63) eX3_init_25 (by decide) (by decide) (by decide) ?_
  refine q_putF eX3_init_27 pf_X3_22 rfl (by first | exact hk | rfl) (by decide) (FT_a (Or.inr ⟨_, rfl⟩)) ?_
  refine q_aload_n eX3_init_30 rfl ?_
  refine q_iconst eX3_init_31 ?_
  refine q_putfield eX3_init_32 pf_X3_25 (by first | exact hk | rfl) (by decide) (FT_i rfl) ?_
  refine q_aload_n eX3_init_35 rfl ?_
  refine q_iconst eX3_init_36 ?_
  refine q_putfield eX3_init_37 pf_X3_29 (by first | exact hk | rfl) (by decide) (FT_i rfl) ?_
  refine q_aload_n eX3_init_40 rfl ?_
  refine q_iconst eX3_init_41 ?_
  refine q_putfield eX3_init_42 pf_X3_32 (by first | exact hk | rfl) (by decide) (FT_i rfl) ?_
  refine q_aload_n eX3_init_45 rfl ?_
  refine q_iconst eX3_init_46 ?_
  refine q_putfield eX3_init_47 pf_X3_35 (by first | exact hk | rfl) (by decide) (FT_i rfl) ?_
  refine q_aload_n eX3_init_50 rfl ?_
  refine q_bipush eX3_init_51 (by decide +kernel) ?_
  refine q_newa_I (N := 63) eX3_init_53 (by decide) (by decide) (by decide) ?_
  refine q_putF eX3_init_55 pf_X3_38 rfl (by first | exact hk | rfl) (by decide) (FT_a (Or.inr ⟨_, rfl⟩)) ?_
  refine q_aload_n eX3_init_58 rfl ?_
  refine q_iconst eX3_init_59 ?_
  refine q_putfield eX3_init_60 pf_X3_41 (by first | exact hk | rfl) (by decide) (FT_z rfl (Or.inl rfl)) ?_
  refine q_aload_n eX3_init_63 rfl ?_
  refine q_bipush eX3_init_64 (by decide +kernel) ?_
  refine q_newa_I (N := 63) eX3_init_66 (by decide) (by decide) (by decide) ?_
  refine q_putF eX3_init_68 pf_X3_44 rfl (by first | exact hk | rfl) (by decide) (FT_a (Or.inr ⟨_, rfl⟩)) ?_
  refine q_aload_n eX3_init_71 rfl ?_
  refine q_aload_n eX3_init_72 rfl ?_
  refine q_putF eX3_init_73 pf_X3_47 rfl (by first | exact hk | rfl) (by decide) (FT_a (Or.inl ⟨_, rfl⟩)) ?_
  refine q_aload_n eX3_init_76 rfl ?_
  refine q_new eX3_init_77 nw_X3_51 (by decide) (by decide) ?_
  refine q_dup eX3_init_80 rfl ?_
  refine q_aload_n eX3_init_81 rfl ?_
  refine q_callI [vA 27] eX3_init_82 mf_X9_init lk_X3_53 (ev_n41 rfl) nt_PIT (by decide) (by decide) (by decide) (Nat.le_of_ble_eq_true rfl) (st := _) rfl (fun v9 F9 A9 al9 h9 => ?_)
  obtain ⟨e9, rfl, rfl, rfl⟩ := h9
  obtain rfl := Sum.inl.inj e9
  refine q_putF eX3_init_85 pf_X3_56 rfl (by first | exact hk | rfl) (by decide) (FT_a (Or.inl ⟨_, rfl⟩)) ?_
  refine q_retV eX3_init_88 rfl (by decide) (by decide) ?_
  exact ⟨rfl, rfl, rfl, rfl⟩
theorem q_cut {M : MT} {d mc ms nc ns pc : Nat} {Post : PO} {L : List (Option LV)} {st : List LV} {F : HF} {A : HA} {al : AL} (n : Nat) (hn : al.2 = n)
    (k : ∀ (F1 : HF) (A1 : HA) (K1 : Nat → Nat × Nat), F1 = F → A1 = A → (∀ a, K1 a = al.1 a) → QW M d mc ms Post nc ns pc L st F1 A1 (K1, n)) : QW M d mc ms Post nc ns pc L st F A al := by
  subst hn
  exact k F A al.1 rfl rfl (fun _ => rfl)
set_option maxRecDepth 20000 in
set_option maxHeartbeats 4000000 in
theorem ev_x11 {F : HF} {A : HA} {K : Nat → Nat × Nat} (hk : K 1 = (19, 10)) (hR : RH 2 1 1) : QE 8 42 18865 mX11_init [vA 1] F A (K, 2) (fun o F' A' al' => o = .inl none ∧ al'.2 = 44 ∧ KX al' ∧ A' 0 = A 0 ∧ al'.1 0 = K 0 ∧ XI 2 1 1 (2 ^ 1) (2 ^ (1 * 1)) (((2 : Nat) : Int) ^ 1) (rF 2 1 1) (rG 2 1 1) (rL 2 1 1) (fun _ => 0) 0 (fun _ => 0) (-1) 1 0 (cyE (((2 : Nat) : Int) ^ 1) 1 (2 ^ 1) 1 (rF 2 1 1) (rG 2 1 1) (paE 2 1 1).1 0 1).1 (cyE (((2 : Nat) : Int) ^ 1) 1 (2 ^ 1) 1 (rF 2 1 1) (rG 2 1 1) (paE 2 1 1).1 0 1).2.1 (cyE (((2 : Nat) : Int) ^ 1) 1 (2 ^ 1) 1 (rF 2 1 1) (rG 2 1 1) (paE 2 1 1).1 0 1).2.2 none [] F' A') := by
  refine QE.mk (by decide +kernel) (Nat.le_of_ble_eq_true rfl) ?_
  refine q_aload_n eX11_init_0 rfl ?_
  refine q_obj eX11_init_1 ob_X11_1 (by decide) (Nat.le_of_ble_eq_true rfl) ?_
  refine q_aload_n eX11_init_4 rfl ?_
  refine q_new eX11_init_5 nw_X11_7 (by decide) (by decide) ?_
  refine q_dup eX11_init_8 rfl ?_
  refine q_callN [] eX11_init_9 mf_X2_init lk_X11_9 (ev_n2 rfl) nt_PIT (by decide) (by decide) (by decide) (Nat.le_of_ble_eq_true rfl) (st := _) rfl (fun v9 F9 A9 al9 h9 => ?_)
  obtain ⟨e9, rfl, rfl, rfl⟩ := h9
  obtain rfl := Sum.inl.inj e9
  clear e9
  refine q_putF eX11_init_12 pf_X11_10 rfl hk (by decide) (FT_a (Or.inl ⟨_, rfl⟩)) ?_
  refine q_cut 17 rfl (fun F1 A1 K1 hF1 hA1 hK1 => ?_)
  have f1_1_0 : F1 1 0 = vA 2 := (congrFun (congrFun hF1 1) 0).trans rfl
  have f1_2_7 : F1 2 7 = vA 3 := (congrFun (congrFun hF1 2) 7).trans rfl
  have f1_2_8 : F1 2 8 = vA 4 := (congrFun (congrFun hF1 2) 8).trans rfl
  have f1_2_9 : F1 2 9 = vA 5 := (congrFun (congrFun hF1 2) 9).trans rfl
  have f1_2_10 : F1 2 10 = vA 6 := (congrFun (congrFun hF1 2) 10).trans rfl
  have f1_2_11 : F1 2 11 = vA 13 := (congrFun (congrFun hF1 2) 11).trans rfl
  have f1_2_12 : F1 2 12 = vA 14 := (congrFun (congrFun hF1 2) 12).trans rfl
  have f1_2_13 : F1 2 13 = vA 15 := (congrFun (congrFun hF1 2) 13).trans rfl
  have f1_2_14 : F1 2 14 = vA 16 := (congrFun (congrFun hF1 2) 14).trans rfl
  have f1_6_0 : F1 6 0 = vA 7 := (congrFun (congrFun hF1 6) 0).trans rfl
  have f1_6_1 : F1 6 1 = vA 8 := (congrFun (congrFun hF1 6) 1).trans rfl
  have f1_6_2 : F1 6 2 = vA 9 := (congrFun (congrFun hF1 6) 2).trans rfl
  have f1_6_3 : F1 6 3 = vA 10 := (congrFun (congrFun hF1 6) 3).trans rfl
  have f1_6_4 : F1 6 4 = vA 11 := (congrFun (congrFun hF1 6) 4).trans rfl
  have f1_6_5 : F1 6 5 = vA 12 := (congrFun (congrFun hF1 6) 5).trans rfl
  have k1_1 : K1 1 = (19, 10) := (hK1 1).trans hk
  have k1_2 : K1 2 = (11, 15) := (hK1 2).trans rfl
  have k1_3 : K1 3 = (0, 7) := (hK1 3).trans rfl
  have k1_4 : K1 4 = (0, 3125) := (hK1 4).trans rfl
  have k1_5 : K1 5 = (0, 3125) := (hK1 5).trans rfl
  have k1_6 : K1 6 = (3, 6) := (hK1 6).trans rfl
  have k1_7 : K1 7 = (0, 6) := (hK1 7).trans rfl
  have k1_8 : K1 8 = (0, 6) := (hK1 8).trans rfl
  have k1_9 : K1 9 = (0, 6) := (hK1 9).trans rfl
  have k1_10 : K1 10 = (0, 6) := (hK1 10).trans rfl
  have k1_11 : K1 11 = (0, 6) := (hK1 11).trans rfl
  have k1_12 : K1 12 = (0, 6) := (hK1 12).trans rfl
  have k1_13 : K1 13 = (0, 6) := (hK1 13).trans rfl
  have k1_14 : K1 14 = (0, 6) := (hK1 14).trans rfl
  have k1_15 : K1 15 = (0, 12) := (hK1 15).trans rfl
  have k1_16 : K1 16 = (0, 7) := (hK1 16).trans rfl
  have kk1_0 : K1 0 = K 0 := (hK1 0).trans rfl
  have a1_0 : A1 0 = A 0 := (congrFun hA1 0).trans rfl
  clear hF1 hA1 hK1
  refine q_aload_n eX11_init_15 rfl ?_
  refine q_bipush eX11_init_16 (by decide +kernel) ?_
  refine q_newa_I (N := 8) eX11_init_18 (by decide) (by decide) (by decide) ?_
  refine q_putF eX11_init_20 pf_X11_16 rfl k1_1 (by decide) (FT_a (Or.inr ⟨_, rfl⟩)) ?_
  refine q_cut 18 rfl (fun F2 A2 K2 hF2 hA2 hK2 => ?_)
  have f2_1_0 : F2 1 0 = vA 2 := (congrFun (congrFun hF2 1) 0).trans f1_1_0
  have f2_1_1 : F2 1 1 = vA 17 := (congrFun (congrFun hF2 1) 1).trans rfl
  have f2_2_7 : F2 2 7 = vA 3 := (congrFun (congrFun hF2 2) 7).trans f1_2_7
  have f2_2_8 : F2 2 8 = vA 4 := (congrFun (congrFun hF2 2) 8).trans f1_2_8
  have f2_2_9 : F2 2 9 = vA 5 := (congrFun (congrFun hF2 2) 9).trans f1_2_9
  have f2_2_10 : F2 2 10 = vA 6 := (congrFun (congrFun hF2 2) 10).trans f1_2_10
  have f2_2_11 : F2 2 11 = vA 13 := (congrFun (congrFun hF2 2) 11).trans f1_2_11
  have f2_2_12 : F2 2 12 = vA 14 := (congrFun (congrFun hF2 2) 12).trans f1_2_12
  have f2_2_13 : F2 2 13 = vA 15 := (congrFun (congrFun hF2 2) 13).trans f1_2_13
  have f2_2_14 : F2 2 14 = vA 16 := (congrFun (congrFun hF2 2) 14).trans f1_2_14
  have f2_6_0 : F2 6 0 = vA 7 := (congrFun (congrFun hF2 6) 0).trans f1_6_0
  have f2_6_1 : F2 6 1 = vA 8 := (congrFun (congrFun hF2 6) 1).trans f1_6_1
  have f2_6_2 : F2 6 2 = vA 9 := (congrFun (congrFun hF2 6) 2).trans f1_6_2
  have f2_6_3 : F2 6 3 = vA 10 := (congrFun (congrFun hF2 6) 3).trans f1_6_3
  have f2_6_4 : F2 6 4 = vA 11 := (congrFun (congrFun hF2 6) 4).trans f1_6_4
  have f2_6_5 : F2 6 5 = vA 12 := (congrFun (congrFun hF2 6) 5).trans f1_6_5
  have k2_1 : K2 1 = (19, 10) := (hK2 1).trans k1_1
  have k2_2 : K2 2 = (11, 15) := (hK2 2).trans k1_2
  have k2_3 : K2 3 = (0, 7) := (hK2 3).trans k1_3
  have k2_4 : K2 4 = (0, 3125) := (hK2 4).trans k1_4
  have k2_5 : K2 5 = (0, 3125) := (hK2 5).trans k1_5
  have k2_6 : K2 6 = (3, 6) := (hK2 6).trans k1_6
  have k2_7 : K2 7 = (0, 6) := (hK2 7).trans k1_7
  have k2_8 : K2 8 = (0, 6) := (hK2 8).trans k1_8
  have k2_9 : K2 9 = (0, 6) := (hK2 9).trans k1_9
  have k2_10 : K2 10 = (0, 6) := (hK2 10).trans k1_10
  have k2_11 : K2 11 = (0, 6) := (hK2 11).trans k1_11
  have k2_12 : K2 12 = (0, 6) := (hK2 12).trans k1_12
  have k2_13 : K2 13 = (0, 6) := (hK2 13).trans k1_13
  have k2_14 : K2 14 = (0, 6) := (hK2 14).trans k1_14
  have k2_15 : K2 15 = (0, 12) := (hK2 15).trans k1_15
  have k2_16 : K2 16 = (0, 7) := (hK2 16).trans k1_16
  have k2_17 : K2 17 = (0, 8) := (hK2 17).trans rfl
  have kk2_0 : K2 0 = K 0 := (hK2 0).trans kk1_0
  have a2_0 : A2 0 = A 0 := (congrFun hA2 0).trans a1_0
  clear hF2 hA2 hK2
  refine q_aload_n eX11_init_23 rfl ?_
  refine q_sipush eX11_init_24 (by decide +kernel) ?_
  refine q_newa_I (N := 4096) eX11_init_27 (by decide) (by decide) (by decide) ?_
  refine q_putF eX11_init_29 pf_X11_20 rfl k2_1 (by decide) (FT_a (Or.inr ⟨_, rfl⟩)) ?_
  refine q_cut 19 rfl (fun F3 A3 K3 hF3 hA3 hK3 => ?_)
  have f3_1_0 : F3 1 0 = vA 2 := (congrFun (congrFun hF3 1) 0).trans f2_1_0
  have f3_1_1 : F3 1 1 = vA 17 := (congrFun (congrFun hF3 1) 1).trans f2_1_1
  have f3_1_2 : F3 1 2 = vA 18 := (congrFun (congrFun hF3 1) 2).trans rfl
  have f3_2_7 : F3 2 7 = vA 3 := (congrFun (congrFun hF3 2) 7).trans f2_2_7
  have f3_2_8 : F3 2 8 = vA 4 := (congrFun (congrFun hF3 2) 8).trans f2_2_8
  have f3_2_9 : F3 2 9 = vA 5 := (congrFun (congrFun hF3 2) 9).trans f2_2_9
  have f3_2_10 : F3 2 10 = vA 6 := (congrFun (congrFun hF3 2) 10).trans f2_2_10
  have f3_2_11 : F3 2 11 = vA 13 := (congrFun (congrFun hF3 2) 11).trans f2_2_11
  have f3_2_12 : F3 2 12 = vA 14 := (congrFun (congrFun hF3 2) 12).trans f2_2_12
  have f3_2_13 : F3 2 13 = vA 15 := (congrFun (congrFun hF3 2) 13).trans f2_2_13
  have f3_2_14 : F3 2 14 = vA 16 := (congrFun (congrFun hF3 2) 14).trans f2_2_14
  have f3_6_0 : F3 6 0 = vA 7 := (congrFun (congrFun hF3 6) 0).trans f2_6_0
  have f3_6_1 : F3 6 1 = vA 8 := (congrFun (congrFun hF3 6) 1).trans f2_6_1
  have f3_6_2 : F3 6 2 = vA 9 := (congrFun (congrFun hF3 6) 2).trans f2_6_2
  have f3_6_3 : F3 6 3 = vA 10 := (congrFun (congrFun hF3 6) 3).trans f2_6_3
  have f3_6_4 : F3 6 4 = vA 11 := (congrFun (congrFun hF3 6) 4).trans f2_6_4
  have f3_6_5 : F3 6 5 = vA 12 := (congrFun (congrFun hF3 6) 5).trans f2_6_5
  have k3_1 : K3 1 = (19, 10) := (hK3 1).trans k2_1
  have k3_2 : K3 2 = (11, 15) := (hK3 2).trans k2_2
  have k3_3 : K3 3 = (0, 7) := (hK3 3).trans k2_3
  have k3_4 : K3 4 = (0, 3125) := (hK3 4).trans k2_4
  have k3_5 : K3 5 = (0, 3125) := (hK3 5).trans k2_5
  have k3_6 : K3 6 = (3, 6) := (hK3 6).trans k2_6
  have k3_7 : K3 7 = (0, 6) := (hK3 7).trans k2_7
  have k3_8 : K3 8 = (0, 6) := (hK3 8).trans k2_8
  have k3_9 : K3 9 = (0, 6) := (hK3 9).trans k2_9
  have k3_10 : K3 10 = (0, 6) := (hK3 10).trans k2_10
  have k3_11 : K3 11 = (0, 6) := (hK3 11).trans k2_11
  have k3_12 : K3 12 = (0, 6) := (hK3 12).trans k2_12
  have k3_13 : K3 13 = (0, 6) := (hK3 13).trans k2_13
  have k3_14 : K3 14 = (0, 6) := (hK3 14).trans k2_14
  have k3_15 : K3 15 = (0, 12) := (hK3 15).trans k2_15
  have k3_16 : K3 16 = (0, 7) := (hK3 16).trans k2_16
  have k3_17 : K3 17 = (0, 8) := (hK3 17).trans k2_17
  have k3_18 : K3 18 = (0, 4096) := (hK3 18).trans rfl
  have kk3_0 : K3 0 = K 0 := (hK3 0).trans kk2_0
  have a3_0 : A3 0 = A 0 := (congrFun hA3 0).trans a2_0
  clear hF3 hA3 hK3
  refine q_aload_n eX11_init_32 rfl ?_
  refine q_new eX11_init_33 nw_X11_23 (by decide) (by decide) ?_
  refine q_dup eX11_init_36 rfl ?_
  refine q_callN [] eX11_init_37 mf_X8_init lk_X11_25 (ev_n19 rfl) nt_PIT (by decide) (by decide) (by decide) (Nat.le_of_ble_eq_true rfl) (st := _) rfl (fun v9 F9 A9 al9 h9 => ?_)
  obtain ⟨e9, rfl, rfl, rfl⟩ := h9
  obtain rfl := Sum.inl.inj e9
  clear e9
  refine q_putF eX11_init_40 pf_X11_26 rfl k3_1 (by decide) (FT_a (Or.inl ⟨_, rfl⟩)) ?_
  refine q_cut 21 rfl (fun F4 A4 K4 hF4 hA4 hK4 => ?_)
  have f4_1_0 : F4 1 0 = vA 2 := (congrFun (congrFun hF4 1) 0).trans f3_1_0
  have f4_1_1 : F4 1 1 = vA 17 := (congrFun (congrFun hF4 1) 1).trans f3_1_1
  have f4_1_2 : F4 1 2 = vA 18 := (congrFun (congrFun hF4 1) 2).trans f3_1_2
  have f4_1_3 : F4 1 3 = vA 19 := (congrFun (congrFun hF4 1) 3).trans rfl
  have f4_2_7 : F4 2 7 = vA 3 := (congrFun (congrFun hF4 2) 7).trans f3_2_7
  have f4_2_8 : F4 2 8 = vA 4 := (congrFun (congrFun hF4 2) 8).trans f3_2_8
  have f4_2_9 : F4 2 9 = vA 5 := (congrFun (congrFun hF4 2) 9).trans f3_2_9
  have f4_2_10 : F4 2 10 = vA 6 := (congrFun (congrFun hF4 2) 10).trans f3_2_10
  have f4_2_11 : F4 2 11 = vA 13 := (congrFun (congrFun hF4 2) 11).trans f3_2_11
  have f4_2_12 : F4 2 12 = vA 14 := (congrFun (congrFun hF4 2) 12).trans f3_2_12
  have f4_2_13 : F4 2 13 = vA 15 := (congrFun (congrFun hF4 2) 13).trans f3_2_13
  have f4_2_14 : F4 2 14 = vA 16 := (congrFun (congrFun hF4 2) 14).trans f3_2_14
  have f4_6_0 : F4 6 0 = vA 7 := (congrFun (congrFun hF4 6) 0).trans f3_6_0
  have f4_6_1 : F4 6 1 = vA 8 := (congrFun (congrFun hF4 6) 1).trans f3_6_1
  have f4_6_2 : F4 6 2 = vA 9 := (congrFun (congrFun hF4 6) 2).trans f3_6_2
  have f4_6_3 : F4 6 3 = vA 10 := (congrFun (congrFun hF4 6) 3).trans f3_6_3
  have f4_6_4 : F4 6 4 = vA 11 := (congrFun (congrFun hF4 6) 4).trans f3_6_4
  have f4_6_5 : F4 6 5 = vA 12 := (congrFun (congrFun hF4 6) 5).trans f3_6_5
  have f4_19_0 : F4 19 0 = vI (0) := (congrFun (congrFun hF4 19) 0).trans rfl
  have f4_19_1 : F4 19 1 = vA 20 := (congrFun (congrFun hF4 19) 1).trans rfl
  have k4_1 : K4 1 = (19, 10) := (hK4 1).trans k3_1
  have k4_2 : K4 2 = (11, 15) := (hK4 2).trans k3_2
  have k4_3 : K4 3 = (0, 7) := (hK4 3).trans k3_3
  have k4_4 : K4 4 = (0, 3125) := (hK4 4).trans k3_4
  have k4_5 : K4 5 = (0, 3125) := (hK4 5).trans k3_5
  have k4_6 : K4 6 = (3, 6) := (hK4 6).trans k3_6
  have k4_7 : K4 7 = (0, 6) := (hK4 7).trans k3_7
  have k4_8 : K4 8 = (0, 6) := (hK4 8).trans k3_8
  have k4_9 : K4 9 = (0, 6) := (hK4 9).trans k3_9
  have k4_10 : K4 10 = (0, 6) := (hK4 10).trans k3_10
  have k4_11 : K4 11 = (0, 6) := (hK4 11).trans k3_11
  have k4_12 : K4 12 = (0, 6) := (hK4 12).trans k3_12
  have k4_13 : K4 13 = (0, 6) := (hK4 13).trans k3_13
  have k4_14 : K4 14 = (0, 6) := (hK4 14).trans k3_14
  have k4_15 : K4 15 = (0, 12) := (hK4 15).trans k3_15
  have k4_16 : K4 16 = (0, 7) := (hK4 16).trans k3_16
  have k4_17 : K4 17 = (0, 8) := (hK4 17).trans k3_17
  have k4_18 : K4 18 = (0, 4096) := (hK4 18).trans k3_18
  have k4_19 : K4 19 = (16, 2) := (hK4 19).trans rfl
  have k4_20 : K4 20 = (0, 200) := (hK4 20).trans rfl
  have kk4_0 : K4 0 = K 0 := (hK4 0).trans kk3_0
  have a4_0 : A4 0 = A 0 := (congrFun hA4 0).trans a3_0
  have a4_20 : A4 20 = fun _ => 0 := (congrFun hA4 20).trans rfl
  clear hF4 hA4 hK4
  refine q_aload_n eX11_init_43 rfl ?_
  refine q_new eX11_init_44 nw_X11_30 (by decide) (by decide) ?_
  refine q_dup eX11_init_47 rfl ?_
  refine q_callN [] eX11_init_48 mf_X6_init lk_X11_32 (ev_n21 rfl) nt_PIT (by decide) (by decide) (by decide) (Nat.le_of_ble_eq_true rfl) (st := _) rfl (fun v9 F9 A9 al9 h9 => ?_)
  obtain ⟨e9, rfl, rfl, rfl⟩ := h9
  obtain rfl := Sum.inl.inj e9
  clear e9
  refine q_putF eX11_init_51 pf_X11_33 rfl k4_1 (by decide) (FT_a (Or.inl ⟨_, rfl⟩)) ?_
  refine q_cut 24 rfl (fun F5 A5 K5 hF5 hA5 hK5 => ?_)
  have f5_1_0 : F5 1 0 = vA 2 := (congrFun (congrFun hF5 1) 0).trans f4_1_0
  have f5_1_1 : F5 1 1 = vA 17 := (congrFun (congrFun hF5 1) 1).trans f4_1_1
  have f5_1_2 : F5 1 2 = vA 18 := (congrFun (congrFun hF5 1) 2).trans f4_1_2
  have f5_1_3 : F5 1 3 = vA 19 := (congrFun (congrFun hF5 1) 3).trans f4_1_3
  have f5_1_5 : F5 1 5 = vA 21 := (congrFun (congrFun hF5 1) 5).trans rfl
  have f5_2_7 : F5 2 7 = vA 3 := (congrFun (congrFun hF5 2) 7).trans f4_2_7
  have f5_2_8 : F5 2 8 = vA 4 := (congrFun (congrFun hF5 2) 8).trans f4_2_8
  have f5_2_9 : F5 2 9 = vA 5 := (congrFun (congrFun hF5 2) 9).trans f4_2_9
  have f5_2_10 : F5 2 10 = vA 6 := (congrFun (congrFun hF5 2) 10).trans f4_2_10
  have f5_2_11 : F5 2 11 = vA 13 := (congrFun (congrFun hF5 2) 11).trans f4_2_11
  have f5_2_12 : F5 2 12 = vA 14 := (congrFun (congrFun hF5 2) 12).trans f4_2_12
  have f5_2_13 : F5 2 13 = vA 15 := (congrFun (congrFun hF5 2) 13).trans f4_2_13
  have f5_2_14 : F5 2 14 = vA 16 := (congrFun (congrFun hF5 2) 14).trans f4_2_14
  have f5_6_0 : F5 6 0 = vA 7 := (congrFun (congrFun hF5 6) 0).trans f4_6_0
  have f5_6_1 : F5 6 1 = vA 8 := (congrFun (congrFun hF5 6) 1).trans f4_6_1
  have f5_6_2 : F5 6 2 = vA 9 := (congrFun (congrFun hF5 6) 2).trans f4_6_2
  have f5_6_3 : F5 6 3 = vA 10 := (congrFun (congrFun hF5 6) 3).trans f4_6_3
  have f5_6_4 : F5 6 4 = vA 11 := (congrFun (congrFun hF5 6) 4).trans f4_6_4
  have f5_6_5 : F5 6 5 = vA 12 := (congrFun (congrFun hF5 6) 5).trans f4_6_5
  have f5_19_0 : F5 19 0 = vI (0) := (congrFun (congrFun hF5 19) 0).trans f4_19_0
  have f5_19_1 : F5 19 1 = vA 20 := (congrFun (congrFun hF5 19) 1).trans f4_19_1
  have f5_21_0 : F5 21 0 = vI (0) := (congrFun (congrFun hF5 21) 0).trans rfl
  have f5_21_1 : F5 21 1 = vA 22 := (congrFun (congrFun hF5 21) 1).trans rfl
  have f5_21_2 : F5 21 2 = vA 23 := (congrFun (congrFun hF5 21) 2).trans rfl
  have k5_1 : K5 1 = (19, 10) := (hK5 1).trans k4_1
  have k5_2 : K5 2 = (11, 15) := (hK5 2).trans k4_2
  have k5_3 : K5 3 = (0, 7) := (hK5 3).trans k4_3
  have k5_4 : K5 4 = (0, 3125) := (hK5 4).trans k4_4
  have k5_5 : K5 5 = (0, 3125) := (hK5 5).trans k4_5
  have k5_6 : K5 6 = (3, 6) := (hK5 6).trans k4_6
  have k5_7 : K5 7 = (0, 6) := (hK5 7).trans k4_7
  have k5_8 : K5 8 = (0, 6) := (hK5 8).trans k4_8
  have k5_9 : K5 9 = (0, 6) := (hK5 9).trans k4_9
  have k5_10 : K5 10 = (0, 6) := (hK5 10).trans k4_10
  have k5_11 : K5 11 = (0, 6) := (hK5 11).trans k4_11
  have k5_12 : K5 12 = (0, 6) := (hK5 12).trans k4_12
  have k5_13 : K5 13 = (0, 6) := (hK5 13).trans k4_13
  have k5_14 : K5 14 = (0, 6) := (hK5 14).trans k4_14
  have k5_15 : K5 15 = (0, 12) := (hK5 15).trans k4_15
  have k5_16 : K5 16 = (0, 7) := (hK5 16).trans k4_16
  have k5_17 : K5 17 = (0, 8) := (hK5 17).trans k4_17
  have k5_18 : K5 18 = (0, 4096) := (hK5 18).trans k4_18
  have k5_19 : K5 19 = (16, 2) := (hK5 19).trans k4_19
  have k5_20 : K5 20 = (0, 200) := (hK5 20).trans k4_20
  have k5_21 : K5 21 = (15, 3) := (hK5 21).trans rfl
  have k5_22 : K5 22 = (0, 200) := (hK5 22).trans rfl
  have k5_23 : K5 23 = (0, 6) := (hK5 23).trans rfl
  have kk5_0 : K5 0 = K 0 := (hK5 0).trans kk4_0
  have a5_0 : A5 0 = A 0 := (congrFun hA5 0).trans a4_0
  have a5_20 : A5 20 = fun _ => 0 := (congrFun hA5 20).trans a4_20
  clear hF5 hA5 hK5
  refine q_aload_n eX11_init_54 rfl ?_
  refine q_new eX11_init_55 nw_X11_37 (by decide) (by decide) ?_
  refine q_dup eX11_init_58 rfl ?_
  refine q_callN [] eX11_init_59 mf_X4_init lk_X11_39 (ev_n24 rfl) nt_PIT (by decide) (by decide) (by decide) (Nat.le_of_ble_eq_true rfl) (st := _) rfl (fun v9 F9 A9 al9 h9 => ?_)
  obtain ⟨e9, rfl, rfl, rfl⟩ := h9
  obtain rfl := Sum.inl.inj e9
  clear e9
  refine q_putF eX11_init_62 pf_X11_40 rfl k5_1 (by decide) (FT_a (Or.inl ⟨_, rfl⟩)) ?_
  refine q_cut 26 rfl (fun F6 A6 K6 hF6 hA6 hK6 => ?_)
  have f6_1_0 : F6 1 0 = vA 2 := (congrFun (congrFun hF6 1) 0).trans f5_1_0
  have f6_1_1 : F6 1 1 = vA 17 := (congrFun (congrFun hF6 1) 1).trans f5_1_1
  have f6_1_2 : F6 1 2 = vA 18 := (congrFun (congrFun hF6 1) 2).trans f5_1_2
  have f6_1_3 : F6 1 3 = vA 19 := (congrFun (congrFun hF6 1) 3).trans f5_1_3
  have f6_1_5 : F6 1 5 = vA 21 := (congrFun (congrFun hF6 1) 5).trans f5_1_5
  have f6_1_6 : F6 1 6 = vA 24 := (congrFun (congrFun hF6 1) 6).trans rfl
  have f6_2_7 : F6 2 7 = vA 3 := (congrFun (congrFun hF6 2) 7).trans f5_2_7
  have f6_2_8 : F6 2 8 = vA 4 := (congrFun (congrFun hF6 2) 8).trans f5_2_8
  have f6_2_9 : F6 2 9 = vA 5 := (congrFun (congrFun hF6 2) 9).trans f5_2_9
  have f6_2_10 : F6 2 10 = vA 6 := (congrFun (congrFun hF6 2) 10).trans f5_2_10
  have f6_2_11 : F6 2 11 = vA 13 := (congrFun (congrFun hF6 2) 11).trans f5_2_11
  have f6_2_12 : F6 2 12 = vA 14 := (congrFun (congrFun hF6 2) 12).trans f5_2_12
  have f6_2_13 : F6 2 13 = vA 15 := (congrFun (congrFun hF6 2) 13).trans f5_2_13
  have f6_2_14 : F6 2 14 = vA 16 := (congrFun (congrFun hF6 2) 14).trans f5_2_14
  have f6_6_0 : F6 6 0 = vA 7 := (congrFun (congrFun hF6 6) 0).trans f5_6_0
  have f6_6_1 : F6 6 1 = vA 8 := (congrFun (congrFun hF6 6) 1).trans f5_6_1
  have f6_6_2 : F6 6 2 = vA 9 := (congrFun (congrFun hF6 6) 2).trans f5_6_2
  have f6_6_3 : F6 6 3 = vA 10 := (congrFun (congrFun hF6 6) 3).trans f5_6_3
  have f6_6_4 : F6 6 4 = vA 11 := (congrFun (congrFun hF6 6) 4).trans f5_6_4
  have f6_6_5 : F6 6 5 = vA 12 := (congrFun (congrFun hF6 6) 5).trans f5_6_5
  have f6_19_0 : F6 19 0 = vI (0) := (congrFun (congrFun hF6 19) 0).trans f5_19_0
  have f6_19_1 : F6 19 1 = vA 20 := (congrFun (congrFun hF6 19) 1).trans f5_19_1
  have f6_21_0 : F6 21 0 = vI (0) := (congrFun (congrFun hF6 21) 0).trans f5_21_0
  have f6_21_1 : F6 21 1 = vA 22 := (congrFun (congrFun hF6 21) 1).trans f5_21_1
  have f6_21_2 : F6 21 2 = vA 23 := (congrFun (congrFun hF6 21) 2).trans f5_21_2
  have f6_24_2 : F6 24 2 = vA 25 := (congrFun (congrFun hF6 24) 2).trans rfl
  have k6_1 : K6 1 = (19, 10) := (hK6 1).trans k5_1
  have k6_2 : K6 2 = (11, 15) := (hK6 2).trans k5_2
  have k6_3 : K6 3 = (0, 7) := (hK6 3).trans k5_3
  have k6_4 : K6 4 = (0, 3125) := (hK6 4).trans k5_4
  have k6_5 : K6 5 = (0, 3125) := (hK6 5).trans k5_5
  have k6_6 : K6 6 = (3, 6) := (hK6 6).trans k5_6
  have k6_7 : K6 7 = (0, 6) := (hK6 7).trans k5_7
  have k6_8 : K6 8 = (0, 6) := (hK6 8).trans k5_8
  have k6_9 : K6 9 = (0, 6) := (hK6 9).trans k5_9
  have k6_10 : K6 10 = (0, 6) := (hK6 10).trans k5_10
  have k6_11 : K6 11 = (0, 6) := (hK6 11).trans k5_11
  have k6_12 : K6 12 = (0, 6) := (hK6 12).trans k5_12
  have k6_13 : K6 13 = (0, 6) := (hK6 13).trans k5_13
  have k6_14 : K6 14 = (0, 6) := (hK6 14).trans k5_14
  have k6_15 : K6 15 = (0, 12) := (hK6 15).trans k5_15
  have k6_16 : K6 16 = (0, 7) := (hK6 16).trans k5_16
  have k6_17 : K6 17 = (0, 8) := (hK6 17).trans k5_17
  have k6_18 : K6 18 = (0, 4096) := (hK6 18).trans k5_18
  have k6_19 : K6 19 = (16, 2) := (hK6 19).trans k5_19
  have k6_20 : K6 20 = (0, 200) := (hK6 20).trans k5_20
  have k6_21 : K6 21 = (15, 3) := (hK6 21).trans k5_21
  have k6_22 : K6 22 = (0, 200) := (hK6 22).trans k5_22
  have k6_23 : K6 23 = (0, 6) := (hK6 23).trans k5_23
  have k6_24 : K6 24 = (13, 3) := (hK6 24).trans rfl
  have k6_25 : K6 25 = (0, 63) := (hK6 25).trans rfl
  have kk6_0 : K6 0 = K 0 := (hK6 0).trans kk5_0
  have a6_0 : A6 0 = A 0 := (congrFun hA6 0).trans a5_0
  have a6_20 : A6 20 = fun _ => 0 := (congrFun hA6 20).trans a5_20
  clear hF6 hA6 hK6
  refine q_aload_n eX11_init_65 rfl ?_
  refine q_new eX11_init_66 nw_X11_44 (by decide) (by decide) ?_
  refine q_dup eX11_init_69 rfl ?_
  refine q_aload_n eX11_init_70 rfl ?_
  refine q_getfield (v := vA 2) eX11_init_71 gf_X11_10 k6_1 (by decide) f6_1_0 ?_
  refine q_aload_n eX11_init_74 rfl ?_
  refine q_getfield (v := vA 17) eX11_init_75 gf_X11_16 k6_1 (by decide) f6_1_1 ?_
  refine q_aload_n eX11_init_78 rfl ?_
  refine q_getfield (v := vA 19) eX11_init_79 gf_X11_26 k6_1 (by decide) f6_1_3 ?_
  refine q_callI [vA 2, vA 17, vA 19] eX11_init_82 mf_X5_init lk_X11_46 (ev_n26 rfl) nt_PIT (by decide) (by decide) (by decide) (Nat.le_of_ble_eq_true rfl) (st := _) rfl (fun v9 F9 A9 al9 h9 => ?_)
  obtain ⟨e9, rfl, rfl, rfl⟩ := h9
  obtain rfl := Sum.inl.inj e9
  clear e9
  refine q_putF eX11_init_85 pf_X11_49 rfl k6_1 (by decide) (FT_a (Or.inl ⟨_, rfl⟩)) ?_
  refine q_cut 27 rfl (fun F7 A7 K7 hF7 hA7 hK7 => ?_)
  have f7_1_0 : F7 1 0 = vA 2 := (congrFun (congrFun hF7 1) 0).trans f6_1_0
  have f7_1_1 : F7 1 1 = vA 17 := (congrFun (congrFun hF7 1) 1).trans f6_1_1
  have f7_1_2 : F7 1 2 = vA 18 := (congrFun (congrFun hF7 1) 2).trans f6_1_2
  have f7_1_3 : F7 1 3 = vA 19 := (congrFun (congrFun hF7 1) 3).trans f6_1_3
  have f7_1_4 : F7 1 4 = vA 26 := (congrFun (congrFun hF7 1) 4).trans rfl
  have f7_1_5 : F7 1 5 = vA 21 := (congrFun (congrFun hF7 1) 5).trans f6_1_5
  have f7_1_6 : F7 1 6 = vA 24 := (congrFun (congrFun hF7 1) 6).trans f6_1_6
  have f7_2_7 : F7 2 7 = vA 3 := (congrFun (congrFun hF7 2) 7).trans f6_2_7
  have f7_2_8 : F7 2 8 = vA 4 := (congrFun (congrFun hF7 2) 8).trans f6_2_8
  have f7_2_9 : F7 2 9 = vA 5 := (congrFun (congrFun hF7 2) 9).trans f6_2_9
  have f7_2_10 : F7 2 10 = vA 6 := (congrFun (congrFun hF7 2) 10).trans f6_2_10
  have f7_2_11 : F7 2 11 = vA 13 := (congrFun (congrFun hF7 2) 11).trans f6_2_11
  have f7_2_12 : F7 2 12 = vA 14 := (congrFun (congrFun hF7 2) 12).trans f6_2_12
  have f7_2_13 : F7 2 13 = vA 15 := (congrFun (congrFun hF7 2) 13).trans f6_2_13
  have f7_2_14 : F7 2 14 = vA 16 := (congrFun (congrFun hF7 2) 14).trans f6_2_14
  have f7_6_0 : F7 6 0 = vA 7 := (congrFun (congrFun hF7 6) 0).trans f6_6_0
  have f7_6_1 : F7 6 1 = vA 8 := (congrFun (congrFun hF7 6) 1).trans f6_6_1
  have f7_6_2 : F7 6 2 = vA 9 := (congrFun (congrFun hF7 6) 2).trans f6_6_2
  have f7_6_3 : F7 6 3 = vA 10 := (congrFun (congrFun hF7 6) 3).trans f6_6_3
  have f7_6_4 : F7 6 4 = vA 11 := (congrFun (congrFun hF7 6) 4).trans f6_6_4
  have f7_6_5 : F7 6 5 = vA 12 := (congrFun (congrFun hF7 6) 5).trans f6_6_5
  have f7_19_0 : F7 19 0 = vI (0) := (congrFun (congrFun hF7 19) 0).trans f6_19_0
  have f7_19_1 : F7 19 1 = vA 20 := (congrFun (congrFun hF7 19) 1).trans f6_19_1
  have f7_21_0 : F7 21 0 = vI (0) := (congrFun (congrFun hF7 21) 0).trans f6_21_0
  have f7_21_1 : F7 21 1 = vA 22 := (congrFun (congrFun hF7 21) 1).trans f6_21_1
  have f7_21_2 : F7 21 2 = vA 23 := (congrFun (congrFun hF7 21) 2).trans f6_21_2
  have f7_24_2 : F7 24 2 = vA 25 := (congrFun (congrFun hF7 24) 2).trans f6_24_2
  have f7_26_0 : F7 26 0 = vI (0) := (congrFun (congrFun hF7 26) 0).trans rfl
  have f7_26_1 : F7 26 1 = vI (-1) := (congrFun (congrFun hF7 26) 1).trans rfl
  have f7_26_2 : F7 26 2 = vI (0) := (congrFun (congrFun hF7 26) 2).trans rfl
  have f7_26_3 : F7 26 3 = vA 2 := (congrFun (congrFun hF7 26) 3).trans rfl
  have f7_26_4 : F7 26 4 = vA 17 := (congrFun (congrFun hF7 26) 4).trans rfl
  have f7_26_5 : F7 26 5 = vA 19 := (congrFun (congrFun hF7 26) 5).trans rfl
  have f7_26_6 : F7 26 6 = vI (0) := (congrFun (congrFun hF7 26) 6).trans rfl
  have f7_26_7 : F7 26 7 = vI (257) := (congrFun (congrFun hF7 26) 7).trans rfl
  have f7_26_8 : F7 26 8 = vI (0) := (congrFun (congrFun hF7 26) 8).trans rfl
  have f7_26_9 : F7 26 9 = vI (0) := (congrFun (congrFun hF7 26) 9).trans rfl
  have f7_26_10 : F7 26 10 = vI (0) := (congrFun (congrFun hF7 26) 10).trans rfl
  have k7_1 : K7 1 = (19, 10) := (hK7 1).trans k6_1
  have k7_2 : K7 2 = (11, 15) := (hK7 2).trans k6_2
  have k7_3 : K7 3 = (0, 7) := (hK7 3).trans k6_3
  have k7_4 : K7 4 = (0, 3125) := (hK7 4).trans k6_4
  have k7_5 : K7 5 = (0, 3125) := (hK7 5).trans k6_5
  have k7_6 : K7 6 = (3, 6) := (hK7 6).trans k6_6
  have k7_7 : K7 7 = (0, 6) := (hK7 7).trans k6_7
  have k7_8 : K7 8 = (0, 6) := (hK7 8).trans k6_8
  have k7_9 : K7 9 = (0, 6) := (hK7 9).trans k6_9
  have k7_10 : K7 10 = (0, 6) := (hK7 10).trans k6_10
  have k7_11 : K7 11 = (0, 6) := (hK7 11).trans k6_11
  have k7_12 : K7 12 = (0, 6) := (hK7 12).trans k6_12
  have k7_13 : K7 13 = (0, 6) := (hK7 13).trans k6_13
  have k7_14 : K7 14 = (0, 6) := (hK7 14).trans k6_14
  have k7_15 : K7 15 = (0, 12) := (hK7 15).trans k6_15
  have k7_16 : K7 16 = (0, 7) := (hK7 16).trans k6_16
  have k7_17 : K7 17 = (0, 8) := (hK7 17).trans k6_17
  have k7_18 : K7 18 = (0, 4096) := (hK7 18).trans k6_18
  have k7_19 : K7 19 = (16, 2) := (hK7 19).trans k6_19
  have k7_20 : K7 20 = (0, 200) := (hK7 20).trans k6_20
  have k7_21 : K7 21 = (15, 3) := (hK7 21).trans k6_21
  have k7_22 : K7 22 = (0, 200) := (hK7 22).trans k6_22
  have k7_23 : K7 23 = (0, 6) := (hK7 23).trans k6_23
  have k7_24 : K7 24 = (13, 3) := (hK7 24).trans k6_24
  have k7_25 : K7 25 = (0, 63) := (hK7 25).trans k6_25
  have k7_26 : K7 26 = (14, 11) := (hK7 26).trans rfl
  have kk7_0 : K7 0 = K 0 := (hK7 0).trans kk6_0
  have a7_0 : A7 0 = A 0 := (congrFun hA7 0).trans a6_0
  have a7_20 : A7 20 = fun _ => 0 := (congrFun hA7 20).trans a6_20
  clear hF7 hA7 hK7
  refine q_aload_n eX11_init_88 rfl ?_
  refine q_new eX11_init_89 nw_X11_53 (by decide) (by decide) ?_
  refine q_dup eX11_init_92 rfl ?_
  refine q_aload_n eX11_init_93 rfl ?_
  refine q_getfield (v := vA 2) eX11_init_94 gf_X11_10 k7_1 (by decide) f7_1_0 ?_
  refine q_callI [vA 2] eX11_init_97 mf_X1_init lk_X11_55 (ev_n27 rfl) nt_PIT (by decide) (by decide) (by decide) (Nat.le_of_ble_eq_true rfl) (st := _) rfl (fun v9 F9 A9 al9 h9 => ?_)
  obtain ⟨e9, rfl, rfl, rfl⟩ := h9
  obtain rfl := Sum.inl.inj e9
  clear e9
  refine q_putF eX11_init_100 pf_X11_58 rfl k7_1 (by decide) (FT_a (Or.inl ⟨_, rfl⟩)) ?_
  refine q_cut 30 rfl (fun F8 A8 K8 hF8 hA8 hK8 => ?_)
  have f8_1_0 : F8 1 0 = vA 2 := (congrFun (congrFun hF8 1) 0).trans f7_1_0
  have f8_1_1 : F8 1 1 = vA 17 := (congrFun (congrFun hF8 1) 1).trans f7_1_1
  have f8_1_2 : F8 1 2 = vA 18 := (congrFun (congrFun hF8 1) 2).trans f7_1_2
  have f8_1_3 : F8 1 3 = vA 19 := (congrFun (congrFun hF8 1) 3).trans f7_1_3
  have f8_1_4 : F8 1 4 = vA 26 := (congrFun (congrFun hF8 1) 4).trans f7_1_4
  have f8_1_5 : F8 1 5 = vA 21 := (congrFun (congrFun hF8 1) 5).trans f7_1_5
  have f8_1_6 : F8 1 6 = vA 24 := (congrFun (congrFun hF8 1) 6).trans f7_1_6
  have f8_1_7 : F8 1 7 = vA 27 := (congrFun (congrFun hF8 1) 7).trans rfl
  have f8_2_7 : F8 2 7 = vA 3 := (congrFun (congrFun hF8 2) 7).trans f7_2_7
  have f8_2_8 : F8 2 8 = vA 4 := (congrFun (congrFun hF8 2) 8).trans f7_2_8
  have f8_2_9 : F8 2 9 = vA 5 := (congrFun (congrFun hF8 2) 9).trans f7_2_9
  have f8_2_10 : F8 2 10 = vA 6 := (congrFun (congrFun hF8 2) 10).trans f7_2_10
  have f8_2_11 : F8 2 11 = vA 13 := (congrFun (congrFun hF8 2) 11).trans f7_2_11
  have f8_2_12 : F8 2 12 = vA 14 := (congrFun (congrFun hF8 2) 12).trans f7_2_12
  have f8_2_13 : F8 2 13 = vA 15 := (congrFun (congrFun hF8 2) 13).trans f7_2_13
  have f8_2_14 : F8 2 14 = vA 16 := (congrFun (congrFun hF8 2) 14).trans f7_2_14
  have f8_6_0 : F8 6 0 = vA 7 := (congrFun (congrFun hF8 6) 0).trans f7_6_0
  have f8_6_1 : F8 6 1 = vA 8 := (congrFun (congrFun hF8 6) 1).trans f7_6_1
  have f8_6_2 : F8 6 2 = vA 9 := (congrFun (congrFun hF8 6) 2).trans f7_6_2
  have f8_6_3 : F8 6 3 = vA 10 := (congrFun (congrFun hF8 6) 3).trans f7_6_3
  have f8_6_4 : F8 6 4 = vA 11 := (congrFun (congrFun hF8 6) 4).trans f7_6_4
  have f8_6_5 : F8 6 5 = vA 12 := (congrFun (congrFun hF8 6) 5).trans f7_6_5
  have f8_19_0 : F8 19 0 = vI (0) := (congrFun (congrFun hF8 19) 0).trans f7_19_0
  have f8_19_1 : F8 19 1 = vA 20 := (congrFun (congrFun hF8 19) 1).trans f7_19_1
  have f8_21_0 : F8 21 0 = vI (0) := (congrFun (congrFun hF8 21) 0).trans f7_21_0
  have f8_21_1 : F8 21 1 = vA 22 := (congrFun (congrFun hF8 21) 1).trans f7_21_1
  have f8_21_2 : F8 21 2 = vA 23 := (congrFun (congrFun hF8 21) 2).trans f7_21_2
  have f8_24_2 : F8 24 2 = vA 25 := (congrFun (congrFun hF8 24) 2).trans f7_24_2
  have f8_26_0 : F8 26 0 = vI (0) := (congrFun (congrFun hF8 26) 0).trans f7_26_0
  have f8_26_1 : F8 26 1 = vI (-1) := (congrFun (congrFun hF8 26) 1).trans f7_26_1
  have f8_26_2 : F8 26 2 = vI (0) := (congrFun (congrFun hF8 26) 2).trans f7_26_2
  have f8_26_3 : F8 26 3 = vA 2 := (congrFun (congrFun hF8 26) 3).trans f7_26_3
  have f8_26_4 : F8 26 4 = vA 17 := (congrFun (congrFun hF8 26) 4).trans f7_26_4
  have f8_26_5 : F8 26 5 = vA 19 := (congrFun (congrFun hF8 26) 5).trans f7_26_5
  have f8_26_6 : F8 26 6 = vI (0) := (congrFun (congrFun hF8 26) 6).trans f7_26_6
  have f8_26_7 : F8 26 7 = vI (257) := (congrFun (congrFun hF8 26) 7).trans f7_26_7
  have f8_26_8 : F8 26 8 = vI (0) := (congrFun (congrFun hF8 26) 8).trans f7_26_8
  have f8_26_9 : F8 26 9 = vI (0) := (congrFun (congrFun hF8 26) 9).trans f7_26_9
  have f8_26_10 : F8 26 10 = vI (0) := (congrFun (congrFun hF8 26) 10).trans f7_26_10
  have f8_27_0 : F8 27 0 = vA 2 := (congrFun (congrFun hF8 27) 0).trans rfl
  have f8_27_5 : F8 27 5 = vA 28 := (congrFun (congrFun hF8 27) 5).trans rfl
  have f8_27_6 : F8 27 6 = vA 29 := (congrFun (congrFun hF8 27) 6).trans rfl
  have k8_1 : K8 1 = (19, 10) := (hK8 1).trans k7_1
  have k8_2 : K8 2 = (11, 15) := (hK8 2).trans k7_2
  have k8_3 : K8 3 = (0, 7) := (hK8 3).trans k7_3
  have k8_4 : K8 4 = (0, 3125) := (hK8 4).trans k7_4
  have k8_5 : K8 5 = (0, 3125) := (hK8 5).trans k7_5
  have k8_6 : K8 6 = (3, 6) := (hK8 6).trans k7_6
  have k8_7 : K8 7 = (0, 6) := (hK8 7).trans k7_7
  have k8_8 : K8 8 = (0, 6) := (hK8 8).trans k7_8
  have k8_9 : K8 9 = (0, 6) := (hK8 9).trans k7_9
  have k8_10 : K8 10 = (0, 6) := (hK8 10).trans k7_10
  have k8_11 : K8 11 = (0, 6) := (hK8 11).trans k7_11
  have k8_12 : K8 12 = (0, 6) := (hK8 12).trans k7_12
  have k8_13 : K8 13 = (0, 6) := (hK8 13).trans k7_13
  have k8_14 : K8 14 = (0, 6) := (hK8 14).trans k7_14
  have k8_15 : K8 15 = (0, 12) := (hK8 15).trans k7_15
  have k8_16 : K8 16 = (0, 7) := (hK8 16).trans k7_16
  have k8_17 : K8 17 = (0, 8) := (hK8 17).trans k7_17
  have k8_18 : K8 18 = (0, 4096) := (hK8 18).trans k7_18
  have k8_19 : K8 19 = (16, 2) := (hK8 19).trans k7_19
  have k8_20 : K8 20 = (0, 200) := (hK8 20).trans k7_20
  have k8_21 : K8 21 = (15, 3) := (hK8 21).trans k7_21
  have k8_22 : K8 22 = (0, 200) := (hK8 22).trans k7_22
  have k8_23 : K8 23 = (0, 6) := (hK8 23).trans k7_23
  have k8_24 : K8 24 = (13, 3) := (hK8 24).trans k7_24
  have k8_25 : K8 25 = (0, 63) := (hK8 25).trans k7_25
  have k8_26 : K8 26 = (14, 11) := (hK8 26).trans k7_26
  have k8_27 : K8 27 = (10, 7) := (hK8 27).trans rfl
  have k8_28 : K8 28 = (0, 64) := (hK8 28).trans rfl
  have k8_29 : K8 29 = (0, 64) := (hK8 29).trans rfl
  have kk8_0 : K8 0 = K 0 := (hK8 0).trans kk7_0
  have a8_0 : A8 0 = A 0 := (congrFun hA8 0).trans a7_0
  have a8_20 : A8 20 = fun _ => 0 := (congrFun hA8 20).trans a7_20
  clear hF8 hA8 hK8
  refine q_aload_n eX11_init_103 rfl ?_
  refine q_new eX11_init_104 nw_X11_62 (by decide) (by decide) ?_
  refine q_dup eX11_init_107 rfl ?_
  refine q_aload_n eX11_init_108 rfl ?_
  refine q_getfield (v := vA 27) eX11_init_109 gf_X11_58 k8_1 (by decide) f8_1_7 ?_
  refine q_callI [vA 27] eX11_init_112 mf_X10_init lk_X11_64 (ev_n30 rfl) nt_PIT (by decide) (by decide) (by decide) (Nat.le_of_ble_eq_true rfl) (st := _) rfl (fun v9 F9 A9 al9 h9 => ?_)
  obtain ⟨e9, rfl, rfl, rfl⟩ := h9
  obtain rfl := Sum.inl.inj e9
  clear e9
  refine q_putF eX11_init_115 pf_X11_67 rfl k8_1 (by decide) (FT_a (Or.inl ⟨_, rfl⟩)) ?_
  refine q_cut 36 rfl (fun F9 A9 K9 hF9 hA9 hK9 => ?_)
  have f9_1_0 : F9 1 0 = vA 2 := (congrFun (congrFun hF9 1) 0).trans f8_1_0
  have f9_1_1 : F9 1 1 = vA 17 := (congrFun (congrFun hF9 1) 1).trans f8_1_1
  have f9_1_2 : F9 1 2 = vA 18 := (congrFun (congrFun hF9 1) 2).trans f8_1_2
  have f9_1_3 : F9 1 3 = vA 19 := (congrFun (congrFun hF9 1) 3).trans f8_1_3
  have f9_1_4 : F9 1 4 = vA 26 := (congrFun (congrFun hF9 1) 4).trans f8_1_4
  have f9_1_5 : F9 1 5 = vA 21 := (congrFun (congrFun hF9 1) 5).trans f8_1_5
  have f9_1_6 : F9 1 6 = vA 24 := (congrFun (congrFun hF9 1) 6).trans f8_1_6
  have f9_1_7 : F9 1 7 = vA 27 := (congrFun (congrFun hF9 1) 7).trans f8_1_7
  have f9_1_8 : F9 1 8 = vA 30 := (congrFun (congrFun hF9 1) 8).trans rfl
  have f9_2_7 : F9 2 7 = vA 3 := (congrFun (congrFun hF9 2) 7).trans f8_2_7
  have f9_2_8 : F9 2 8 = vA 4 := (congrFun (congrFun hF9 2) 8).trans f8_2_8
  have f9_2_9 : F9 2 9 = vA 5 := (congrFun (congrFun hF9 2) 9).trans f8_2_9
  have f9_2_10 : F9 2 10 = vA 6 := (congrFun (congrFun hF9 2) 10).trans f8_2_10
  have f9_2_11 : F9 2 11 = vA 13 := (congrFun (congrFun hF9 2) 11).trans f8_2_11
  have f9_2_12 : F9 2 12 = vA 14 := (congrFun (congrFun hF9 2) 12).trans f8_2_12
  have f9_2_13 : F9 2 13 = vA 15 := (congrFun (congrFun hF9 2) 13).trans f8_2_13
  have f9_2_14 : F9 2 14 = vA 16 := (congrFun (congrFun hF9 2) 14).trans f8_2_14
  have f9_6_0 : F9 6 0 = vA 7 := (congrFun (congrFun hF9 6) 0).trans f8_6_0
  have f9_6_1 : F9 6 1 = vA 8 := (congrFun (congrFun hF9 6) 1).trans f8_6_1
  have f9_6_2 : F9 6 2 = vA 9 := (congrFun (congrFun hF9 6) 2).trans f8_6_2
  have f9_6_3 : F9 6 3 = vA 10 := (congrFun (congrFun hF9 6) 3).trans f8_6_3
  have f9_6_4 : F9 6 4 = vA 11 := (congrFun (congrFun hF9 6) 4).trans f8_6_4
  have f9_6_5 : F9 6 5 = vA 12 := (congrFun (congrFun hF9 6) 5).trans f8_6_5
  have f9_19_0 : F9 19 0 = vI (0) := (congrFun (congrFun hF9 19) 0).trans f8_19_0
  have f9_19_1 : F9 19 1 = vA 20 := (congrFun (congrFun hF9 19) 1).trans f8_19_1
  have f9_21_0 : F9 21 0 = vI (0) := (congrFun (congrFun hF9 21) 0).trans f8_21_0
  have f9_21_1 : F9 21 1 = vA 22 := (congrFun (congrFun hF9 21) 1).trans f8_21_1
  have f9_21_2 : F9 21 2 = vA 23 := (congrFun (congrFun hF9 21) 2).trans f8_21_2
  have f9_24_2 : F9 24 2 = vA 25 := (congrFun (congrFun hF9 24) 2).trans f8_24_2
  have f9_26_0 : F9 26 0 = vI (0) := (congrFun (congrFun hF9 26) 0).trans f8_26_0
  have f9_26_1 : F9 26 1 = vI (-1) := (congrFun (congrFun hF9 26) 1).trans f8_26_1
  have f9_26_2 : F9 26 2 = vI (0) := (congrFun (congrFun hF9 26) 2).trans f8_26_2
  have f9_26_3 : F9 26 3 = vA 2 := (congrFun (congrFun hF9 26) 3).trans f8_26_3
  have f9_26_4 : F9 26 4 = vA 17 := (congrFun (congrFun hF9 26) 4).trans f8_26_4
  have f9_26_5 : F9 26 5 = vA 19 := (congrFun (congrFun hF9 26) 5).trans f8_26_5
  have f9_26_6 : F9 26 6 = vI (0) := (congrFun (congrFun hF9 26) 6).trans f8_26_6
  have f9_26_7 : F9 26 7 = vI (257) := (congrFun (congrFun hF9 26) 7).trans f8_26_7
  have f9_26_8 : F9 26 8 = vI (0) := (congrFun (congrFun hF9 26) 8).trans f8_26_8
  have f9_26_9 : F9 26 9 = vI (0) := (congrFun (congrFun hF9 26) 9).trans f8_26_9
  have f9_26_10 : F9 26 10 = vI (0) := (congrFun (congrFun hF9 26) 10).trans f8_26_10
  have f9_27_0 : F9 27 0 = vA 2 := (congrFun (congrFun hF9 27) 0).trans f8_27_0
  have f9_27_5 : F9 27 5 = vA 28 := (congrFun (congrFun hF9 27) 5).trans f8_27_5
  have f9_27_6 : F9 27 6 = vA 29 := (congrFun (congrFun hF9 27) 6).trans f8_27_6
  have f9_30_1 : F9 30 1 = vA 31 := (congrFun (congrFun hF9 30) 1).trans rfl
  have f9_30_2 : F9 30 2 = vA 32 := (congrFun (congrFun hF9 30) 2).trans rfl
  have f9_30_3 : F9 30 3 = vA 27 := (congrFun (congrFun hF9 30) 3).trans rfl
  have f9_30_4 : F9 30 4 = vA 33 := (congrFun (congrFun hF9 30) 4).trans rfl
  have f9_33_0 : F9 33 0 = vA 34 := (congrFun (congrFun hF9 33) 0).trans rfl
  have f9_33_1 : F9 33 1 = vA 35 := (congrFun (congrFun hF9 33) 1).trans rfl
  have f9_33_2 : F9 33 2 = vA 27 := (congrFun (congrFun hF9 33) 2).trans rfl
  have k9_1 : K9 1 = (19, 10) := (hK9 1).trans k8_1
  have k9_2 : K9 2 = (11, 15) := (hK9 2).trans k8_2
  have k9_3 : K9 3 = (0, 7) := (hK9 3).trans k8_3
  have k9_4 : K9 4 = (0, 3125) := (hK9 4).trans k8_4
  have k9_5 : K9 5 = (0, 3125) := (hK9 5).trans k8_5
  have k9_6 : K9 6 = (3, 6) := (hK9 6).trans k8_6
  have k9_7 : K9 7 = (0, 6) := (hK9 7).trans k8_7
  have k9_8 : K9 8 = (0, 6) := (hK9 8).trans k8_8
  have k9_9 : K9 9 = (0, 6) := (hK9 9).trans k8_9
  have k9_10 : K9 10 = (0, 6) := (hK9 10).trans k8_10
  have k9_11 : K9 11 = (0, 6) := (hK9 11).trans k8_11
  have k9_12 : K9 12 = (0, 6) := (hK9 12).trans k8_12
  have k9_13 : K9 13 = (0, 6) := (hK9 13).trans k8_13
  have k9_14 : K9 14 = (0, 6) := (hK9 14).trans k8_14
  have k9_15 : K9 15 = (0, 12) := (hK9 15).trans k8_15
  have k9_16 : K9 16 = (0, 7) := (hK9 16).trans k8_16
  have k9_17 : K9 17 = (0, 8) := (hK9 17).trans k8_17
  have k9_18 : K9 18 = (0, 4096) := (hK9 18).trans k8_18
  have k9_19 : K9 19 = (16, 2) := (hK9 19).trans k8_19
  have k9_20 : K9 20 = (0, 200) := (hK9 20).trans k8_20
  have k9_21 : K9 21 = (15, 3) := (hK9 21).trans k8_21
  have k9_22 : K9 22 = (0, 200) := (hK9 22).trans k8_22
  have k9_23 : K9 23 = (0, 6) := (hK9 23).trans k8_23
  have k9_24 : K9 24 = (13, 3) := (hK9 24).trans k8_24
  have k9_25 : K9 25 = (0, 63) := (hK9 25).trans k8_25
  have k9_26 : K9 26 = (14, 11) := (hK9 26).trans k8_26
  have k9_27 : K9 27 = (10, 7) := (hK9 27).trans k8_27
  have k9_28 : K9 28 = (0, 64) := (hK9 28).trans k8_28
  have k9_29 : K9 29 = (0, 64) := (hK9 29).trans k8_29
  have k9_30 : K9 30 = (18, 5) := (hK9 30).trans rfl
  have k9_31 : K9 31 = (0, 64) := (hK9 31).trans rfl
  have k9_32 : K9 32 = (0, 7201) := (hK9 32).trans rfl
  have k9_33 : K9 33 = (17, 3) := (hK9 33).trans rfl
  have k9_34 : K9 34 = (0, 63) := (hK9 34).trans rfl
  have k9_35 : K9 35 = (0, 63) := (hK9 35).trans rfl
  have kk9_0 : K9 0 = K 0 := (hK9 0).trans kk8_0
  have a9_0 : A9 0 = A 0 := (congrFun hA9 0).trans a8_0
  have a9_20 : A9 20 = fun _ => 0 := (congrFun hA9 20).trans a8_20
  clear hF9 hA9 hK9
  refine q_aload_n eX11_init_118 rfl ?_
  refine q_new eX11_init_119 nw_X11_71 (by decide) (by decide) ?_
  refine q_dup eX11_init_122 rfl ?_
  refine q_aload_n eX11_init_123 rfl ?_
  refine q_getfield (v := vA 27) eX11_init_124 gf_X11_58 k9_1 (by decide) f9_1_7 ?_
  refine q_callI [vA 27] eX11_init_127 mf_X3_init lk_X11_73 (ev_n36 rfl) nt_PIT (by decide) (by decide) (by decide) (Nat.le_of_ble_eq_true rfl) (st := _) rfl (fun v9 F9 A9 al9 h9 => ?_)
  obtain ⟨e9, rfl, rfl, rfl⟩ := h9
  obtain rfl := Sum.inl.inj e9
  clear e9
  refine q_putF eX11_init_130 pf_X11_74 rfl k9_1 (by decide) (FT_a (Or.inl ⟨_, rfl⟩)) ?_
  refine q_cut 44 rfl (fun F10 A10 K10 hF10 hA10 hK10 => ?_)
  have f10_1_0 : F10 1 0 = vA 2 := (congrFun (congrFun hF10 1) 0).trans f9_1_0
  have f10_1_1 : F10 1 1 = vA 17 := (congrFun (congrFun hF10 1) 1).trans f9_1_1
  have f10_1_2 : F10 1 2 = vA 18 := (congrFun (congrFun hF10 1) 2).trans f9_1_2
  have f10_1_3 : F10 1 3 = vA 19 := (congrFun (congrFun hF10 1) 3).trans f9_1_3
  have f10_1_4 : F10 1 4 = vA 26 := (congrFun (congrFun hF10 1) 4).trans f9_1_4
  have f10_1_5 : F10 1 5 = vA 21 := (congrFun (congrFun hF10 1) 5).trans f9_1_5
  have f10_1_6 : F10 1 6 = vA 24 := (congrFun (congrFun hF10 1) 6).trans f9_1_6
  have f10_1_7 : F10 1 7 = vA 27 := (congrFun (congrFun hF10 1) 7).trans f9_1_7
  have f10_1_8 : F10 1 8 = vA 30 := (congrFun (congrFun hF10 1) 8).trans f9_1_8
  have f10_1_9 : F10 1 9 = vA 36 := (congrFun (congrFun hF10 1) 9).trans rfl
  have f10_2_7 : F10 2 7 = vA 3 := (congrFun (congrFun hF10 2) 7).trans f9_2_7
  have f10_2_8 : F10 2 8 = vA 4 := (congrFun (congrFun hF10 2) 8).trans f9_2_8
  have f10_2_9 : F10 2 9 = vA 5 := (congrFun (congrFun hF10 2) 9).trans f9_2_9
  have f10_2_10 : F10 2 10 = vA 6 := (congrFun (congrFun hF10 2) 10).trans f9_2_10
  have f10_2_11 : F10 2 11 = vA 13 := (congrFun (congrFun hF10 2) 11).trans f9_2_11
  have f10_2_12 : F10 2 12 = vA 14 := (congrFun (congrFun hF10 2) 12).trans f9_2_12
  have f10_2_13 : F10 2 13 = vA 15 := (congrFun (congrFun hF10 2) 13).trans f9_2_13
  have f10_2_14 : F10 2 14 = vA 16 := (congrFun (congrFun hF10 2) 14).trans f9_2_14
  have f10_6_0 : F10 6 0 = vA 7 := (congrFun (congrFun hF10 6) 0).trans f9_6_0
  have f10_6_1 : F10 6 1 = vA 8 := (congrFun (congrFun hF10 6) 1).trans f9_6_1
  have f10_6_2 : F10 6 2 = vA 9 := (congrFun (congrFun hF10 6) 2).trans f9_6_2
  have f10_6_3 : F10 6 3 = vA 10 := (congrFun (congrFun hF10 6) 3).trans f9_6_3
  have f10_6_4 : F10 6 4 = vA 11 := (congrFun (congrFun hF10 6) 4).trans f9_6_4
  have f10_6_5 : F10 6 5 = vA 12 := (congrFun (congrFun hF10 6) 5).trans f9_6_5
  have f10_19_0 : F10 19 0 = vI (0) := (congrFun (congrFun hF10 19) 0).trans f9_19_0
  have f10_19_1 : F10 19 1 = vA 20 := (congrFun (congrFun hF10 19) 1).trans f9_19_1
  have f10_21_0 : F10 21 0 = vI (0) := (congrFun (congrFun hF10 21) 0).trans f9_21_0
  have f10_21_1 : F10 21 1 = vA 22 := (congrFun (congrFun hF10 21) 1).trans f9_21_1
  have f10_21_2 : F10 21 2 = vA 23 := (congrFun (congrFun hF10 21) 2).trans f9_21_2
  have f10_24_2 : F10 24 2 = vA 25 := (congrFun (congrFun hF10 24) 2).trans f9_24_2
  have f10_26_0 : F10 26 0 = vI (0) := (congrFun (congrFun hF10 26) 0).trans f9_26_0
  have f10_26_1 : F10 26 1 = vI (-1) := (congrFun (congrFun hF10 26) 1).trans f9_26_1
  have f10_26_2 : F10 26 2 = vI (0) := (congrFun (congrFun hF10 26) 2).trans f9_26_2
  have f10_26_3 : F10 26 3 = vA 2 := (congrFun (congrFun hF10 26) 3).trans f9_26_3
  have f10_26_4 : F10 26 4 = vA 17 := (congrFun (congrFun hF10 26) 4).trans f9_26_4
  have f10_26_5 : F10 26 5 = vA 19 := (congrFun (congrFun hF10 26) 5).trans f9_26_5
  have f10_26_6 : F10 26 6 = vI (0) := (congrFun (congrFun hF10 26) 6).trans f9_26_6
  have f10_26_7 : F10 26 7 = vI (257) := (congrFun (congrFun hF10 26) 7).trans f9_26_7
  have f10_26_8 : F10 26 8 = vI (0) := (congrFun (congrFun hF10 26) 8).trans f9_26_8
  have f10_26_9 : F10 26 9 = vI (0) := (congrFun (congrFun hF10 26) 9).trans f9_26_9
  have f10_26_10 : F10 26 10 = vI (0) := (congrFun (congrFun hF10 26) 10).trans f9_26_10
  have f10_27_0 : F10 27 0 = vA 2 := (congrFun (congrFun hF10 27) 0).trans f9_27_0
  have f10_27_5 : F10 27 5 = vA 28 := (congrFun (congrFun hF10 27) 5).trans f9_27_5
  have f10_27_6 : F10 27 6 = vA 29 := (congrFun (congrFun hF10 27) 6).trans f9_27_6
  have f10_30_1 : F10 30 1 = vA 31 := (congrFun (congrFun hF10 30) 1).trans f9_30_1
  have f10_30_2 : F10 30 2 = vA 32 := (congrFun (congrFun hF10 30) 2).trans f9_30_2
  have f10_30_3 : F10 30 3 = vA 27 := (congrFun (congrFun hF10 30) 3).trans f9_30_3
  have f10_30_4 : F10 30 4 = vA 33 := (congrFun (congrFun hF10 30) 4).trans f9_30_4
  have f10_33_0 : F10 33 0 = vA 34 := (congrFun (congrFun hF10 33) 0).trans f9_33_0
  have f10_33_1 : F10 33 1 = vA 35 := (congrFun (congrFun hF10 33) 1).trans f9_33_1
  have f10_33_2 : F10 33 2 = vA 27 := (congrFun (congrFun hF10 33) 2).trans f9_33_2
  have f10_36_2 : F10 36 2 = vA 37 := (congrFun (congrFun hF10 36) 2).trans rfl
  have f10_36_3 : F10 36 3 = vA 38 := (congrFun (congrFun hF10 36) 3).trans rfl
  have f10_36_8 : F10 36 8 = vA 39 := (congrFun (congrFun hF10 36) 8).trans rfl
  have f10_36_10 : F10 36 10 = vA 40 := (congrFun (congrFun hF10 36) 10).trans rfl
  have f10_36_11 : F10 36 11 = vA 27 := (congrFun (congrFun hF10 36) 11).trans rfl
  have f10_36_12 : F10 36 12 = vA 41 := (congrFun (congrFun hF10 36) 12).trans rfl
  have f10_41_0 : F10 41 0 = vA 42 := (congrFun (congrFun hF10 41) 0).trans rfl
  have f10_41_1 : F10 41 1 = vA 43 := (congrFun (congrFun hF10 41) 1).trans rfl
  have f10_41_2 : F10 41 2 = vA 27 := (congrFun (congrFun hF10 41) 2).trans rfl
  have k10_1 : K10 1 = (19, 10) := (hK10 1).trans k9_1
  have k10_2 : K10 2 = (11, 15) := (hK10 2).trans k9_2
  have k10_3 : K10 3 = (0, 7) := (hK10 3).trans k9_3
  have k10_4 : K10 4 = (0, 3125) := (hK10 4).trans k9_4
  have k10_5 : K10 5 = (0, 3125) := (hK10 5).trans k9_5
  have k10_6 : K10 6 = (3, 6) := (hK10 6).trans k9_6
  have k10_7 : K10 7 = (0, 6) := (hK10 7).trans k9_7
  have k10_8 : K10 8 = (0, 6) := (hK10 8).trans k9_8
  have k10_9 : K10 9 = (0, 6) := (hK10 9).trans k9_9
  have k10_10 : K10 10 = (0, 6) := (hK10 10).trans k9_10
  have k10_11 : K10 11 = (0, 6) := (hK10 11).trans k9_11
  have k10_12 : K10 12 = (0, 6) := (hK10 12).trans k9_12
  have k10_13 : K10 13 = (0, 6) := (hK10 13).trans k9_13
  have k10_14 : K10 14 = (0, 6) := (hK10 14).trans k9_14
  have k10_15 : K10 15 = (0, 12) := (hK10 15).trans k9_15
  have k10_16 : K10 16 = (0, 7) := (hK10 16).trans k9_16
  have k10_17 : K10 17 = (0, 8) := (hK10 17).trans k9_17
  have k10_18 : K10 18 = (0, 4096) := (hK10 18).trans k9_18
  have k10_19 : K10 19 = (16, 2) := (hK10 19).trans k9_19
  have k10_20 : K10 20 = (0, 200) := (hK10 20).trans k9_20
  have k10_21 : K10 21 = (15, 3) := (hK10 21).trans k9_21
  have k10_22 : K10 22 = (0, 200) := (hK10 22).trans k9_22
  have k10_23 : K10 23 = (0, 6) := (hK10 23).trans k9_23
  have k10_24 : K10 24 = (13, 3) := (hK10 24).trans k9_24
  have k10_25 : K10 25 = (0, 63) := (hK10 25).trans k9_25
  have k10_26 : K10 26 = (14, 11) := (hK10 26).trans k9_26
  have k10_27 : K10 27 = (10, 7) := (hK10 27).trans k9_27
  have k10_28 : K10 28 = (0, 64) := (hK10 28).trans k9_28
  have k10_29 : K10 29 = (0, 64) := (hK10 29).trans k9_29
  have k10_30 : K10 30 = (18, 5) := (hK10 30).trans k9_30
  have k10_31 : K10 31 = (0, 64) := (hK10 31).trans k9_31
  have k10_32 : K10 32 = (0, 7201) := (hK10 32).trans k9_32
  have k10_33 : K10 33 = (17, 3) := (hK10 33).trans k9_33
  have k10_34 : K10 34 = (0, 63) := (hK10 34).trans k9_34
  have k10_35 : K10 35 = (0, 63) := (hK10 35).trans k9_35
  have k10_36 : K10 36 = (12, 13) := (hK10 36).trans rfl
  have k10_37 : K10 37 = (0, 63) := (hK10 37).trans rfl
  have k10_38 : K10 38 = (0, 63) := (hK10 38).trans rfl
  have k10_39 : K10 39 = (0, 63) := (hK10 39).trans rfl
  have k10_40 : K10 40 = (0, 63) := (hK10 40).trans rfl
  have k10_41 : K10 41 = (17, 3) := (hK10 41).trans rfl
  have k10_42 : K10 42 = (0, 63) := (hK10 42).trans rfl
  have k10_43 : K10 43 = (0, 63) := (hK10 43).trans rfl
  have kk10_0 : K10 0 = K 0 := (hK10 0).trans kk9_0
  have a10_0 : A10 0 = A 0 := (congrFun hA10 0).trans a9_0
  have a10_20 : A10 20 = fun _ => 0 := (congrFun hA10 20).trans a9_20
  have a10_39 : A10 39 = fun _ => 0 := (congrFun hA10 39).trans rfl
  clear hF10 hA10 hK10
  have hX : XF F10 := by
    show ∀ q ∈ xrefs, F10 q.1 q.2.1 = vA q.2.2
    unfold xrefs
    exact List.forall_mem_cons.mpr ⟨f10_1_0, List.forall_mem_cons.mpr ⟨f10_1_1, List.forall_mem_cons.mpr ⟨f10_1_2, List.forall_mem_cons.mpr ⟨f10_1_3, List.forall_mem_cons.mpr ⟨f10_1_4, List.forall_mem_cons.mpr ⟨f10_1_5, List.forall_mem_cons.mpr ⟨f10_1_6, List.forall_mem_cons.mpr ⟨f10_1_7, List.forall_mem_cons.mpr ⟨f10_1_8, List.forall_mem_cons.mpr ⟨f10_1_9, List.forall_mem_cons.mpr ⟨f10_2_7, List.forall_mem_cons.mpr ⟨f10_2_8, List.forall_mem_cons.mpr ⟨f10_2_9, List.forall_mem_cons.mpr ⟨f10_2_10, List.forall_mem_cons.mpr ⟨f10_2_11, List.forall_mem_cons.mpr ⟨f10_2_12, List.forall_mem_cons.mpr ⟨f10_2_13, List.forall_mem_cons.mpr ⟨f10_2_14, List.forall_mem_cons.mpr ⟨f10_6_0, List.forall_mem_cons.mpr ⟨f10_6_1, List.forall_mem_cons.mpr ⟨f10_6_2, List.forall_mem_cons.mpr ⟨f10_6_3, List.forall_mem_cons.mpr ⟨f10_6_4, List.forall_mem_cons.mpr ⟨f10_6_5, List.forall_mem_cons.mpr ⟨f10_19_1, List.forall_mem_cons.mpr ⟨f10_21_1, List.forall_mem_cons.mpr ⟨f10_21_2, List.forall_mem_cons.mpr ⟨f10_24_2, List.forall_mem_cons.mpr ⟨f10_26_3, List.forall_mem_cons.mpr ⟨f10_26_4, List.forall_mem_cons.mpr ⟨f10_26_5, List.forall_mem_cons.mpr ⟨f10_27_0, List.forall_mem_cons.mpr ⟨f10_27_5, List.forall_mem_cons.mpr ⟨f10_27_6, List.forall_mem_cons.mpr ⟨f10_30_1, List.forall_mem_cons.mpr ⟨f10_30_2, List.forall_mem_cons.mpr ⟨f10_30_3, List.forall_mem_cons.mpr ⟨f10_30_4, List.forall_mem_cons.mpr ⟨f10_33_0, List.forall_mem_cons.mpr ⟨f10_33_1, List.forall_mem_cons.mpr ⟨f10_33_2, List.forall_mem_cons.mpr ⟨f10_36_2, List.forall_mem_cons.mpr ⟨f10_36_3, List.forall_mem_cons.mpr ⟨f10_36_8, List.forall_mem_cons.mpr ⟨f10_36_10, List.forall_mem_cons.mpr ⟨f10_36_11, List.forall_mem_cons.mpr ⟨f10_36_12, List.forall_mem_cons.mpr ⟨f10_41_0, List.forall_mem_cons.mpr ⟨f10_41_1, List.forall_mem_cons.mpr ⟨f10_41_2, fun _ h => absurd h List.not_mem_nil⟩⟩⟩⟩⟩⟩⟩⟩⟩⟩⟩⟩⟩⟩⟩⟩⟩⟩⟩⟩⟩⟩⟩⟩⟩⟩⟩⟩⟩⟩⟩⟩⟩⟩⟩⟩⟩⟩⟩⟩⟩⟩⟩⟩⟩⟩⟩⟩⟩⟩
  have hK : KX (K10, 44) := by
    intro a h1 h2
    have h : a = 1 ∨ a = 2 ∨ a = 3 ∨ a = 4 ∨ a = 5 ∨ a = 6 ∨ a = 7 ∨ a = 8 ∨ a = 9 ∨ a = 10 ∨ a = 11 ∨ a = 12 ∨ a = 13 ∨ a = 14 ∨ a = 15 ∨ a = 16 ∨ a = 17 ∨ a = 18 ∨ a = 19 ∨ a = 20 ∨ a = 21 ∨ a = 22 ∨ a = 23 ∨ a = 24 ∨ a = 25 ∨ a = 26 ∨ a = 27 ∨ a = 28 ∨ a = 29 ∨ a = 30 ∨ a = 31 ∨ a = 32 ∨ a = 33 ∨ a = 34 ∨ a = 35 ∨ a = 36 ∨ a = 37 ∨ a = 38 ∨ a = 39 ∨ a = 40 ∨ a = 41 ∨ a = 42 ∨ a = 43 := by omega
    rcases h with rfl | rfl | rfl | rfl | rfl | rfl | rfl | rfl | rfl | rfl | rfl | rfl | rfl | rfl | rfl | rfl | rfl | rfl | rfl | rfl | rfl | rfl | rfl | rfl | rfl | rfl | rfl | rfl | rfl | rfl | rfl | rfl | rfl | rfl | rfl | rfl | rfl | rfl | rfl | rfl | rfl | rfl | rfl
    · exact k10_1
    · exact k10_2
    · exact k10_3
    · exact k10_4
    · exact k10_5
    · exact k10_6
    · exact k10_7
    · exact k10_8
    · exact k10_9
    · exact k10_10
    · exact k10_11
    · exact k10_12
    · exact k10_13
    · exact k10_14
    · exact k10_15
    · exact k10_16
    · exact k10_17
    · exact k10_18
    · exact k10_19
    · exact k10_20
    · exact k10_21
    · exact k10_22
    · exact k10_23
    · exact k10_24
    · exact k10_25
    · exact k10_26
    · exact k10_27
    · exact k10_28
    · exact k10_29
    · exact k10_30
    · exact k10_31
    · exact k10_32
    · exact k10_33
    · exact k10_34
    · exact k10_35
    · exact k10_36
    · exact k10_37
    · exact k10_38
    · exact k10_39
    · exact k10_40
    · exact k10_41
    · exact k10_42
    · exact k10_43
  have e26 : ∀ k, k ∈ [0, 1, 2, 6, 7, 8, 9, 10] → F10 26 k = vI ((fun k => if k = 1 then -1 else if k = 7 then 257 else 0 : Nat → Int) k) := List.forall_mem_cons.mpr ⟨f10_26_0, List.forall_mem_cons.mpr ⟨f10_26_1, List.forall_mem_cons.mpr ⟨f10_26_2, List.forall_mem_cons.mpr ⟨f10_26_6, List.forall_mem_cons.mpr ⟨f10_26_7, List.forall_mem_cons.mpr ⟨f10_26_8, List.forall_mem_cons.mpr ⟨f10_26_9, List.forall_mem_cons.mpr ⟨f10_26_10, fun _ h => absurd h List.not_mem_nil⟩⟩⟩⟩⟩⟩⟩⟩
  have e19 : F10 19 0 = vI 0 := f10_19_0
  have e21 : F10 21 0 = vI 0 := f10_21_0
  have a20 : A10 20 = fun _ => 0 := a10_20
  have a39 : A10 39 = fun _ => 0 := a10_39
  have a0 : A10 0 = A 0 := a10_0
  refine q_aload_n eX11_init_133 rfl ?_
  refine q_getfield eX11_init_134 gf_X11_10 (hK _ (by decide) (by decide)) (by decide) (xf_1_0 (by first | exact hX8 | exact hX9 | exact hX)) ?_
  refine q_iconst eX11_init_137 ?_
  refine q_iconst eX11_init_138 ?_
  refine q_iconst eX11_init_139 ?_
  refine q_callV [vI 2, vI 1, vI 1] (M1 := mX2_become) eX11_init_140 mf_X2_become lk_X11_78 (hK _ (by decide) (by decide)) (become_yes (p := 2) (e := 1) (r := 1) hK hX (by decide) (by decide) hR.1) nt_PB (by decide) (by decide) (by decide) (Nat.le_of_ble_eq_true rfl) (st := []) rfl (fun v9 F9 A9 al9 h9 => ?_)
  obtain ⟨e9, rfl, f9, o9, hX9, hGX, htop⟩ := h9
  obtain rfl := Sum.inl.inj e9
  have hp9 : F9 2 0 = vI (2 : Nat) := hGX.2.1
  refine q_pop eX11_init_143 rfl ?_
  refine q_aload_n eX11_init_144 rfl ?_
  refine q_callV [] (M1 := mX11_clear) eX11_init_145 mf_X11_clear lk_X11_82 (hK _ (by decide) (by decide)) (ev_clear hK hX9 hGX hp9 (by decide)) (by intro E F A al h; cases h.1) (by decide) (by decide) (by decide) (Nat.le_of_ble_eq_true rfl) (st := []) rfl (fun v9_ F9_ A9_ al9_ h9 => ?_)
  obtain ⟨e8, rfl, f8, o8, z8, x8, y8, w8⟩ := h9
  obtain rfl := Sum.inl.inj e8
  have hX8 := hX9.foff f8 (by decide)
  refine q_retV eX11_init_148 rfl (by decide) (by decide) ?_
  have f2 : FOff ([(2, 0), (2, 1), (2, 2), (2, 3), (2, 4), (2, 5), (2, 6), (24, 0), (24, 1), (27, 1), (27, 2), (27, 3), (27, 4), (30, 0), (36, 0)]) F10 F9_ := (f9.mono (by decide)).trans (f8.mono (by decide))
  have o2 : Off [3, 4, 5, 7, 8, 9, 10, 11, 12, 13, 14, 15, 16, 17, 25, 28, 29] A10 A9_ := (o9.mono (by simp)).trans (o8.mono (by simp))
  refine ⟨rfl, rfl, hK, by rw [o2 0 (by decide)]; exact a0, kk10_0, ?_⟩
  refine ⟨⟨hX8, (hGX.off o8 (by decide) (by decide) (by decide) (fun j hj => by simp; omega)).row (f8.row 2 (by decide)), ?_, hR.2.2⟩, fun j hj => ⟨z8 j hj, el_zero (by decide)⟩, ⟨?_, by decide, fun j hj => ?_⟩, ⟨(fun k => if k = 1 then -1 else if k = 7 then 257 else 0), fun k hk => ?_, rfl, by decide, by decide⟩, x8, Or.inl y8, ⟨⟨fun _ => 0, fun j hj => ⟨?_, (show -2147483648 ≤ (0 : Int) from by decide), (show (0 : Int) < 2147483648 from by decide)⟩⟩, w8⟩, ⟨⟨?_, fun j hj => absurd hj (by show ¬ j < 0; omega)⟩, by decide⟩⟩
  · rw [o8 3 (by decide)]; exact htop.trans hR.2.1
  · rw [f2 19 0 (by decide)]; exact e19
  · rw [o2 20 (by decide), a20]; exact ⟨rfl, (show (0 : Int) ≤ 0 from by decide), (show (0 : Int) < 256 from by decide)⟩
  · rw [f2 26 k (by simp)]; exact e26 k hk
  · rw [o2 39 (by decide), a39]
  · rw [f2 21 0 (by decide)]; exact e21
