/-! Reader: atom, read -/
def aE (p n : Nat) (tp : Nat → Int) (m : Int) (r : Nat) (g : Int) (pl_ : Nat → Int) (O : (Nat → Int) → Int × (Nat → Int)) (rs : Nat → Int) : Int × (Nat → Int) :=
  if rs 7 = 256 then ((figE n tp 9999 rs).1 % m, (figE n tp 9999 rs).2) else if rs 7 = 116 then (tE m r, nxE n tp rs) else if rs 7 = 103 then (g, nxE n tp rs) else if rs 7 = 112 then ((p : Int) % m, nxE n tp rs)
  else if rs 7 = 35 then (pl_ (figE n tp 7 (nxE n tp rs)).1.toNat, (figE n tp 7 (nxE n tp rs)).2) else if rs 7 = 40 ∨ rs 7 = 45 ∨ rs 7 = 109 ∨ rs 7 = 114 ∨ rs 7 = 105 then O rs else (0, failE rs 1)
theorem a_ok {p e r q N n : Nat} {m : Int} {f : Nat → Int} {g : Int} {lg tp pl_ : Nat → Int} {F : HF} {A : HA} {O : (Nat → Int) → Int × (Nat → Int)} (hC : CX p e r q N n m f g lg tp pl_ F A) (hO : ∀ rs, RI n rs → isOp (rs 7) → El m r (O rs).1 ∧ RI n (O rs).2) : RMok n m r (aE p n tp m r g pl_ O) := by
  obtain ⟨hX, hT, ht, hn, hpl⟩ := hC
  obtain ⟨hG, hp, he, hq, hN, hg, ⟨hp2, hp7, he1, he4, hme, hqe, hq3, hNm, hgE⟩, hP, hL, hI⟩ := hT
  obtain ⟨hm, hr, hf, hm2, hr1, hr6, hN4⟩ := hG
  have hmr := pow_ge (m := m) (by omega) hr1
  have hmod : ∀ x : Int, El m r (x % m) := fun x => ⟨Int.emod_nonneg _ (by omega), by have := Int.emod_lt_of_pos x (show 0 < m by omega); omega⟩
  intro rs hI
  unfold aE
  split
  · exact ⟨hmod _, (fig_ok hI ht hn (by decide)).2⟩
  · split
    · exact ⟨tE_el hm2 hr1, hI.nx ht hn (by omega)⟩
    · split
      · exact ⟨hgE, hI.nx ht hn (by omega)⟩
      · split
        · exact ⟨hmod _, hI.nx ht hn (by omega)⟩
        · split
          · have h1 := fig_ok (most := 7) (hI.nx ht hn (by omega)) ht hn (by decide)
            exact ⟨(hpl _ (by omega)).2, h1.2⟩
          · split
            · next hc => exact hO rs hI hc
            · exact ⟨el_zero (by omega), hI.fail hn ⟨by decide, by decide⟩⟩
set_option maxRecDepth 20000 in
theorem ev_atom {rs : Nat → Int} {D : Nat} {op : Int} {O : (Nat → Int) → Int × (Nat → Int)} {p e r q N n : Nat} {m : Int} {f : Nat → Int} {g : Int} {lg tp pl_ : Nat → Int} {F : HF} {A : HA} {al : AL} (hK : KX al) (hC : CX p e r q N n m f g lg tp pl_ F A) (h : RD rs F) (hI : RI n rs) (hD : 5 ≤ D) (hO : ∀ (rs : Nat → Int) (F : HF) (A : HA), CX p e r q N n m f g lg tp pl_ F A → RD rs F → RI n rs → isOp (rs 7) → QE D 0 0 mX5_opened [vA 26, vI op] F A al (PRQ (O rs) F A al))  : QE (D + 1) 0 0 mX5_atom [vA 26, vI op] F A al (PRQ (aE p n tp m r g pl_ O rs) F A al) := by
  refine QE.mk (by decide +kernel) (Nat.le_of_ble_eq_true rfl) ?_
  obtain ⟨hX, hT, ht, hn, hpl⟩ := id hC
  obtain ⟨i6, i7, i10, i8, i9, i7r, i0, i1, i2⟩ := id hI
  obtain ⟨hG, hp, he, hq, hN, hg, ⟨hp2, hp7, he1, he4, hme, hqe, hq3, hNm, hgE⟩, hP, hL, hIm⟩ := id hT
  obtain ⟨hm, hr, hf, hm2, hr1, hr6, hN4⟩ := id hG
  have hm4 := hG.m4
  have f7 : F 26 7 = vI (rs 7) := h 7 (by decide)
  have hpm : (p : Int) ≤ m := by rw [hme]; exact pow_ge (by omega) he1
  have k96 : rs 7 = 256 → QW mX5_atom (D + 1) 0 0 (PRQ (aE p n tp m r g pl_ O rs) F A al) 0 0 96 [some (vA 26), some (vI op)] [] F A al := by
    intro c0
    refine q_aload_n eX5_atom_96 rfl ?_
    refine q_sipush eX5_atom_97 (by decide +kernel) ?_
    refine q_callVR [vI 9999] (M1 := mX5_figures) eX5_atom_100 mf_X5_figures lk_X5_107 (hK _ (by decide) (by decide)) (ev_figuresR hK hC h hI (by decide) (by decide)) (by omega) (by decide) (by decide) (Nat.le_of_ble_eq_true rfl) rfl (fun F1 A1 o1 f1 r1 => ?_)
    have C1 := hC.pres f1 o1
    obtain ⟨z1, -⟩ := C1.2.1
    have FB := fig_ok (most := 9999) hI ht hn (by decide)
    refine q_aload_n eX5_atom_103 rfl ?_
    refine q_getfield eX5_atom_104 gf_X5_37 (hK _ (by decide) (by decide)) (by decide) (xf_26_3 C1.1) ?_
    refine q_getfield eX5_atom_107 gf_X5_113 (hK _ (by decide) (by decide)) (by decide) z1.1 ?_
    refine q_callSP [vI (figE n tp 9999 rs).1, vI m] (M1 := mX7_remainder) eX5_atom_110 mf_X7_remainder lk_X5_116 (ev_remP (by omega) (by omega) (by omega) (by omega)) (by omega) (by decide) (by decide) (Nat.le_of_ble_eq_true rfl) rfl ?_
    refine q_retI eX5_atom_113 rfl (by decide) (by decide) ?_
    rw [show aE p n tp m r g pl_ O rs = ((figE n tp 9999 rs).1 % m, (figE n tp 9999 rs).2) from if_pos c0]
    exact ⟨rfl, rfl, o1, f1, r1⟩
  have k114 : rs 7 = 116 → QW mX5_atom (D + 1) 0 0 (PRQ (aE p n tp m r g pl_ O rs) F A al) 0 0 114 [some (vA 26), some (vI op)] [] F A al := by
    intro c0
    refine q_aload_n eX5_atom_114 rfl ?_
    refine q_callVU [] (M1 := mX5_next) eX5_atom_115 mf_X5_next lk_X5_49 (hK _ (by decide) (by decide)) (ev_next hK hX ht hn i6 h (Int.toNat_of_nonneg i10.1).symm (by omega)) (by omega) (by decide) (by decide) (Nat.le_of_ble_eq_true rfl) rfl (fun F2 f2 r2 => ?_)
    have C2 := hC.pres f2 Off.rfl'
    have I2 := hI.nx ht hn (show rs 7 ≠ 257 by omega)
    have hX2 := C2.1
    obtain ⟨z1, z2, z3, z4, z5, z6, -⟩ := C2.2.1
    obtain ⟨zm, -⟩ := id z1
    refine q_aload_n eX5_atom_118 rfl ?_
    refine q_getfield eX5_atom_119 gf_X5_37 (hK _ (by decide) (by decide)) (by decide) (xf_26_3 (by first | exact hX | exact hX2)) ?_
    refine q_callVP [] (M1 := mX2_t) eX5_atom_122 mf_X2_t lk_X5_119 (hK _ (by decide) (by decide)) (ev_t hK hX2 z1) (by omega) (by decide) (by decide) (Nat.le_of_ble_eq_true rfl) rfl ?_
    rw [tE_cast]
    refine q_retI eX5_atom_125 rfl (by decide) (by decide) ?_
    rw [show aE p n tp m r g pl_ O rs = (tE m r, nxE n tp rs) from (if_neg (show ¬ rs 7 = 256 by omega)).trans (if_pos c0)]
    exact ⟨rfl, rfl, Off.rfl', f2, r2⟩
  have k126 : rs 7 = 103 → QW mX5_atom (D + 1) 0 0 (PRQ (aE p n tp m r g pl_ O rs) F A al) 0 0 126 [some (vA 26), some (vI op)] [] F A al := by
    intro c0
    refine q_aload_n eX5_atom_126 rfl ?_
    refine q_callVU [] (M1 := mX5_next) eX5_atom_127 mf_X5_next lk_X5_49 (hK _ (by decide) (by decide)) (ev_next hK hX ht hn i6 h (Int.toNat_of_nonneg i10.1).symm (by omega)) (by omega) (by decide) (by decide) (Nat.le_of_ble_eq_true rfl) rfl (fun F2 f2 r2 => ?_)
    have C2 := hC.pres f2 Off.rfl'
    have I2 := hI.nx ht hn (show rs 7 ≠ 257 by omega)
    have hX2 := C2.1
    obtain ⟨z1, z2, z3, z4, z5, z6, -⟩ := C2.2.1
    obtain ⟨zm, -⟩ := id z1
    refine q_aload_n eX5_atom_130 rfl ?_
    refine q_getfield eX5_atom_131 gf_X5_37 (hK _ (by decide) (by decide)) (by decide) (xf_26_3 hX2) ?_
    refine q_getfield eX5_atom_134 gf_X5_123 (hK _ (by decide) (by decide)) (by decide) z6 ?_
    refine q_retI eX5_atom_137 rfl (by decide) (by decide) ?_
    rw [show aE p n tp m r g pl_ O rs = (g, nxE n tp rs) from (if_neg (show ¬ rs 7 = 256 by omega)).trans ((if_neg (show ¬ rs 7 = 116 by omega)).trans (if_pos c0))]
    exact ⟨rfl, rfl, Off.rfl', f2, r2⟩
  have k138 : rs 7 = 112 → QW mX5_atom (D + 1) 0 0 (PRQ (aE p n tp m r g pl_ O rs) F A al) 0 0 138 [some (vA 26), some (vI op)] [] F A al := by
    intro c0
    refine q_aload_n eX5_atom_138 rfl ?_
    refine q_callVU [] (M1 := mX5_next) eX5_atom_139 mf_X5_next lk_X5_49 (hK _ (by decide) (by decide)) (ev_next hK hX ht hn i6 h (Int.toNat_of_nonneg i10.1).symm (by omega)) (by omega) (by decide) (by decide) (Nat.le_of_ble_eq_true rfl) rfl (fun F2 f2 r2 => ?_)
    have C2 := hC.pres f2 Off.rfl'
    have I2 := hI.nx ht hn (show rs 7 ≠ 257 by omega)
    have hX2 := C2.1
    obtain ⟨z1, z2, z3, z4, z5, z6, -⟩ := C2.2.1
    obtain ⟨zm, -⟩ := id z1
    refine q_aload_n eX5_atom_142 rfl ?_
    refine q_getfield eX5_atom_143 gf_X5_37 (hK _ (by decide) (by decide)) (by decide) (xf_26_3 hX2) ?_
    refine q_getfield eX5_atom_146 gf_X5_126 (hK _ (by decide) (by decide)) (by decide) z2 ?_
    refine q_aload_n eX5_atom_149 rfl ?_
    refine q_getfield eX5_atom_150 gf_X5_37 (hK _ (by decide) (by decide)) (by decide) (xf_26_3 hX2) ?_
    refine q_getfield eX5_atom_153 gf_X5_113 (hK _ (by decide) (by decide)) (by decide) zm ?_
    refine q_callSP [vI p, vI m] (M1 := mX7_remainder) eX5_atom_156 mf_X7_remainder lk_X5_116 (ev_remP (by omega) (by omega) (by omega) (by omega)) (by omega) (by decide) (by decide) (Nat.le_of_ble_eq_true rfl) rfl ?_
    refine q_retI eX5_atom_159 rfl (by decide) (by decide) ?_
    rw [show aE p n tp m r g pl_ O rs = ((p : Int) % m, nxE n tp rs) from (if_neg (show ¬ rs 7 = 256 by omega)).trans ((if_neg (show ¬ rs 7 = 116 by omega)).trans ((if_neg (show ¬ rs 7 = 103 by omega)).trans (if_pos c0)))]
    exact ⟨rfl, rfl, Off.rfl', f2, r2⟩
  have k160 : rs 7 = 35 → QW mX5_atom (D + 1) 0 0 (PRQ (aE p n tp m r g pl_ O rs) F A al) 0 0 160 [some (vA 26), some (vI op)] [] F A al := by
    intro c0
    refine q_aload_n eX5_atom_160 rfl ?_
    refine q_callVU [] (M1 := mX5_next) eX5_atom_161 mf_X5_next lk_X5_49 (hK _ (by decide) (by decide)) (ev_next hK hX ht hn i6 h (Int.toNat_of_nonneg i10.1).symm (by omega)) (by omega) (by decide) (by decide) (Nat.le_of_ble_eq_true rfl) rfl (fun F2 f2 r2 => ?_)
    have C2 := hC.pres f2 Off.rfl'
    have I2 := hI.nx ht hn (show rs 7 ≠ 257 by omega)
    have hX2 := C2.1
    obtain ⟨z1, z2, z3, z4, z5, z6, -⟩ := C2.2.1
    obtain ⟨zm, -⟩ := id z1
    refine q_aload_n eX5_atom_164 rfl ?_
    refine q_getfield eX5_atom_165 gf_X5_41 (hK _ (by decide) (by decide)) (by decide) (xf_26_4 hX2) ?_
    refine q_aload_n eX5_atom_168 rfl ?_
    refine q_bipush eX5_atom_169 (by decide +kernel) ?_
    refine q_callVR [vI 7] (M1 := mX5_figures) eX5_atom_171 mf_X5_figures lk_X5_107 (hK _ (by decide) (by decide)) (ev_figuresR hK C2 r2 I2 (by decide) (by decide)) (by omega) (by decide) (by decide) (Nat.le_of_ble_eq_true rfl) rfl (fun F3 A3 o3 f3 r3 => ?_)
    have C3 := C2.pres f3 o3
    have FB := fig_ok (most := 7) I2 ht hn (by decide)
    rw [← Int.toNat_of_nonneg FB.1.1]
    refine q_callSP [vA 17, vI ((figE n tp 7 (nxE n tp rs)).1.toNat : Nat)] (M1 := mX7_at) eX5_atom_174 mf_X7_at lk_X5_65 (ev_atN (hK _ (by decide) (by decide)) (show (figE n tp 7 (nxE n tp rs)).1.toNat < 8 by omega) (by decide)) (by omega) (by decide) (by decide) (Nat.le_of_ble_eq_true rfl) rfl ?_
    rw [(C3.2.2.2.2 _ (show (figE n tp 7 (nxE n tp rs)).1.toNat < 8 by omega)).1]
    refine q_retI eX5_atom_177 rfl (by decide) (by decide) ?_
    rw [show aE p n tp m r g pl_ O rs = (pl_ (figE n tp 7 (nxE n tp rs)).1.toNat, (figE n tp 7 (nxE n tp rs)).2) from (if_neg (show ¬ rs 7 = 256 by omega)).trans ((if_neg (show ¬ rs 7 = 116 by omega)).trans ((if_neg (show ¬ rs 7 = 103 by omega)).trans ((if_neg (show ¬ rs 7 = 112 by omega)).trans (if_pos c0))))]
    exact ⟨rfl, rfl, o3, f2.trans f3, r3⟩
  have k178 : (rs 7 = 40 ∨ rs 7 = 45 ∨ rs 7 = 109 ∨ rs 7 = 114 ∨ rs 7 = 105) → QW mX5_atom (D + 1) 0 0 (PRQ (aE p n tp m r g pl_ O rs) F A al) 0 0 178 [some (vA 26), some (vI op)] [] F A al := by
    intro c0
    refine q_aload_n eX5_atom_178 rfl ?_
    refine q_iload_n eX5_atom_179 rfl ?_
    refine q_callVR [vI op] (M1 := mX5_opened) eX5_atom_180 mf_X5_opened lk_X5_129 (hK _ (by decide) (by decide)) (hO rs F A hC h hI c0) (by omega) (by decide) (by decide) (Nat.le_of_ble_eq_true rfl) rfl (fun F1 A1 o1 f1 r1 => ?_)
    refine q_retI eX5_atom_183 rfl (by decide) (by decide) ?_
    rw [show aE p n tp m r g pl_ O rs = O rs from (if_neg (show ¬ rs 7 = 256 by omega)).trans ((if_neg (show ¬ rs 7 = 116 by omega)).trans ((if_neg (show ¬ rs 7 = 103 by omega)).trans ((if_neg (show ¬ rs 7 = 112 by omega)).trans ((if_neg (show ¬ rs 7 = 35 by omega)).trans (if_pos c0)))))]
    exact ⟨rfl, rfl, o1, f1, r1⟩
  have k184 : (rs 7 ≠ 256 ∧ rs 7 ≠ 116 ∧ rs 7 ≠ 103 ∧ rs 7 ≠ 112 ∧ rs 7 ≠ 35 ∧ ¬ (rs 7 = 40 ∨ rs 7 = 45 ∨ rs 7 = 109 ∨ rs 7 = 114 ∨ rs 7 = 105)) → QW mX5_atom (D + 1) 0 0 (PRQ (aE p n tp m r g pl_ O rs) F A al) 0 0 184 [some (vA 26), some (vI op)] [] F A al := by
    intro c0
    refine q_aload_n eX5_atom_184 rfl ?_
    refine q_iconst eX5_atom_185 ?_
    refine q_callVU [vI 1] (M1 := mX5_fail) eX5_atom_186 mf_X5_fail lk_X5_56 (hK _ (by decide) (by decide)) (ev_fail hK h ⟨by omega, by omega⟩) (by omega) (by decide) (by decide) (Nat.le_of_ble_eq_true rfl) rfl (fun F2 f2 r2 => ?_)
    refine q_iconst eX5_atom_189 ?_
    refine q_retI eX5_atom_190 rfl (by decide) (by decide) ?_
    rw [show aE p n tp m r g pl_ O rs = (0, failE rs 1) from (if_neg (show ¬ rs 7 = 256 by omega)).trans ((if_neg (show ¬ rs 7 = 116 by omega)).trans ((if_neg (show ¬ rs 7 = 103 by omega)).trans ((if_neg (show ¬ rs 7 = 112 by omega)).trans ((if_neg (show ¬ rs 7 = 35 by omega)).trans (if_neg c0.2.2.2.2.2)))))]
    exact ⟨rfl, rfl, Off.rfl', f2, r2⟩
  refine q_aload_n eX5_atom_0 rfl ?_
  refine q_getfield eX5_atom_1 gf_X5_25 (hK _ (by decide) (by decide)) (by decide) f7 ?_
  by_cases c256 : rs 7 = 256
  · refine q_lookup (off := 92) (tgt := 96) eX5_atom_4 ⟨by omega, by omega⟩ (by decide) (by rw [c256]; decide) (by decide) ?_
    exact k96 (by omega)
  by_cases c116 : rs 7 = 116
  · refine q_lookup (off := 110) (tgt := 114) eX5_atom_4 ⟨by omega, by omega⟩ (by decide) (by rw [c116]; decide) (by decide) ?_
    exact k114 (by omega)
  by_cases c103 : rs 7 = 103
  · refine q_lookup (off := 122) (tgt := 126) eX5_atom_4 ⟨by omega, by omega⟩ (by decide) (by rw [c103]; decide) (by decide) ?_
    exact k126 (by omega)
  by_cases c112 : rs 7 = 112
  · refine q_lookup (off := 134) (tgt := 138) eX5_atom_4 ⟨by omega, by omega⟩ (by decide) (by rw [c112]; decide) (by decide) ?_
    exact k138 (by omega)
  by_cases c35 : rs 7 = 35
  · refine q_lookup (off := 156) (tgt := 160) eX5_atom_4 ⟨by omega, by omega⟩ (by decide) (by rw [c35]; decide) (by decide) ?_
    exact k160 (by omega)
  by_cases c40 : rs 7 = 40
  · refine q_lookup (off := 174) (tgt := 178) eX5_atom_4 ⟨by omega, by omega⟩ (by decide) (by rw [c40]; decide) (by decide) ?_
    exact k178 (by omega)
  by_cases c45 : rs 7 = 45
  · refine q_lookup (off := 174) (tgt := 178) eX5_atom_4 ⟨by omega, by omega⟩ (by decide) (by rw [c45]; decide) (by decide) ?_
    exact k178 (by omega)
  by_cases c109 : rs 7 = 109
  · refine q_lookup (off := 174) (tgt := 178) eX5_atom_4 ⟨by omega, by omega⟩ (by decide) (by rw [c109]; decide) (by decide) ?_
    exact k178 (by omega)
  by_cases c114 : rs 7 = 114
  · refine q_lookup (off := 174) (tgt := 178) eX5_atom_4 ⟨by omega, by omega⟩ (by decide) (by rw [c114]; decide) (by decide) ?_
    exact k178 (by omega)
  by_cases c105 : rs 7 = 105
  · refine q_lookup (off := 174) (tgt := 178) eX5_atom_4 ⟨by omega, by omega⟩ (by decide) (by rw [c105]; decide) (by decide) ?_
    exact k178 (by omega)
  refine q_lookup (off := 180) (tgt := 184) eX5_atom_4 ⟨by omega, by omega⟩ (by decide) (by
      show Op.lookupswitch.offset [(35, 156), (40, 174), (45, 174), (103, 122), (105, 174), (109, 174), (112, 134), (114, 174), (116, 110), (256, 92)] 180 (rs 7) = 180
      rw [Op.lookupswitch.offset_cons, if_neg (fun q => c35 q.symm)]
      rw [Op.lookupswitch.offset_cons, if_neg (fun q => c40 q.symm)]
      rw [Op.lookupswitch.offset_cons, if_neg (fun q => c45 q.symm)]
      rw [Op.lookupswitch.offset_cons, if_neg (fun q => c103 q.symm)]
      rw [Op.lookupswitch.offset_cons, if_neg (fun q => c105 q.symm)]
      rw [Op.lookupswitch.offset_cons, if_neg (fun q => c109 q.symm)]
      rw [Op.lookupswitch.offset_cons, if_neg (fun q => c112 q.symm)]
      rw [Op.lookupswitch.offset_cons, if_neg (fun q => c114 q.symm)]
      rw [Op.lookupswitch.offset_cons, if_neg (fun q => c116 q.symm)]
      rw [Op.lookupswitch.offset_cons, if_neg (fun q => c256 q.symm)]
      rfl) (by decide) ?_
  exact k184 (by omega)
def atE (p e r q n : Nat) (m : Int) (f : Nat → Int) (g : Int) (lg tp pl_ : Nat → Int) : Nat → (Nat → Int) → Int × (Nat → Int)
  | 0 => aE p n tp m r g pl_ op0E
  | l + 1 => aE p n tp m r g pl_ (opSE p e r q n m f g lg tp (atE p e r q n m f g lg tp pl_ l))
theorem at_ok {p e r q N n : Nat} {m : Int} {f : Nat → Int} {g : Int} {lg tp pl_ : Nat → Int} {F : HF} {A : HA} (hC : CX p e r q N n m f g lg tp pl_ F A) : ∀ l, RMok n m r (atE p e r q n m f g lg tp pl_ l)
  | 0 => a_ok hC (fun rs hI _ => ⟨el_zero (by have := hC.2.1.1.2.2.2.1; omega), hI.fail hC.2.2.2.1 ⟨by decide, by decide⟩⟩)
  | l + 1 => a_ok hC (fun rs hI h7 => opS_ok hC.2.1 hC.2.2.1 hC.2.2.2.1 (at_ok hC l) hI (by unfold isOp at h7; omega))
set_option maxRecDepth 20000 in
theorem ev_atE {p e r q N n : Nat} {m : Int} {f : Nat → Int} {g : Int} {lg tp pl_ : Nat → Int} {al : AL} (hK : KX al) : ∀ l, l ≤ 8 → RC (6 + 5 * l) mX5_atom (8 - (l : Int)) al p e r q N n m f g lg tp pl_ (atE p e r q n m f g lg tp pl_ l)
  | 0, _ => fun rs F A hC h hI => ev_atom (D := 5) (O := op0E) hK hC h hI (by decide) (fun rs F A hC h hI _ => ev_opened0 hK hC h hI (by decide))
  | l + 1, hl => by
    have e1 : (8 : Int) - ((l + 1 : Nat) : Int) + 1 = 8 - (l : Int) := by omega
    have e2 : 6 + 5 * (l + 1) = (6 + 5 * l + 4) + 1 := by omega
    rw [e2]
    intro rs F A hC h hI
    exact ev_atom (O := opSE p e r q n m f g lg tp (atE p e r q n m f g lg tp pl_ l)) (D := 6 + 5 * l + 4) hK hC h hI (by omega) (fun rs F A hC h hI h7 =>
      ev_openedS (D := 6 + 5 * l) (op := 8 - ((l + 1 : Nat) : Int)) hK hC h hI (by omega) (at_ok hC l) (by rw [e1]; exact ev_atE hK l (by omega)) (by omega) (by omega) h7)
def rd0 (n : Nat) : Nat → Int := fun k => if k = 1 then -1 else if k = 6 then n else 0
def rsE0 (n : Nat) (rs : Nat → Int) : Nat → Int := upc (upc (upc (upc (upc rs 0 0) 1 (-1)) 2 0) 6 n) 10 0
def reE (p e r q n : Nat) (m : Int) (f : Nat → Int) (g : Int) (lg tp pl_ : Nat → Int) (rs : Nat → Int) : Int × (Nat → Int) := tmsE n tp m r f (atE p e r q n m f g lg tp pl_ 8) (nxE n tp (rsE0 n rs))
def rdE (p e r q n : Nat) (m : Int) (f : Nat → Int) (g : Int) (lg tp pl_ : Nat → Int) (rs : Nat → Int) : Int × (Nat → Int) := if (reE p e r q n m f g lg tp pl_ rs).2 7 = 257 then reE p e r q n m f g lg tp pl_ rs else ((reE p e r q n m f g lg tp pl_ rs).1, failE (reE p e r q n m f g lg tp pl_ rs).2 1)
def PRD (s : Int × (Nat → Int)) (F : HF) (A : HA) (al : AL) : PO := fun o F' A' al' => o = .inl (some s.1) ∧ al' = al ∧ Off [13, 14, 15] A A' ∧ FOff [(26, 0), (26, 1), (26, 2), (26, 6), (26, 7), (26, 8), (26, 9), (26, 10)] F F' ∧ RD s.2 F'
theorem nt_PRD {s : Int × (Nat → Int)} {F : HF} {A : HA} {al : AL} : NT (PRD s F A al) := by intro E F A al h; cases h.1
set_option maxRecDepth 20000 in
theorem ev_read {rs : Nat → Int} {p e r q N n : Nat} {m : Int} {f : Nat → Int} {g : Int} {lg tp pl_ : Nat → Int} {F : HF} {A : HA} {al : AL} (hK : KX al) (hC : CX p e r q N n m f g lg tp pl_ F A) (h : RD rs F) (hr9 : 0 ≤ rs 9 ∧ rs 9 ≤ 10000) : QE 50 0 0 mX5_read [vA 26, vI n] F A al (PRD (rdE p e r q n m f g lg tp pl_ rs) F A al) := by
  refine QE.mk (by decide +kernel) (Nat.le_of_ble_eq_true rfl) ?_
  obtain ⟨hX, hT, ht, hn, hpl⟩ := id hC
  refine q_aload_n eX5_read_0 rfl ?_
  refine q_iconst eX5_read_1 ?_
  refine q_putfield eX5_read_2 pf_X5_9 (hK _ (by decide) (by decide)) (by decide) (FT_i rfl) ?_
  refine q_aload_n eX5_read_5 rfl ?_
  refine q_iconst eX5_read_6 ?_
  refine q_putfield eX5_read_7 pf_X5_15 (hK _ (by decide) (by decide)) (by decide) (FT_i rfl) ?_
  refine q_aload_n eX5_read_10 rfl ?_
  refine q_iconst eX5_read_11 ?_
  refine q_putfield eX5_read_12 pf_X5_18 (hK _ (by decide) (by decide)) (by decide) (FT_z rfl (Or.inl rfl)) ?_
  refine q_aload_n eX5_read_15 rfl ?_
  refine q_iload_n eX5_read_16 rfl ?_
  refine q_putfield eX5_read_17 pf_X5_22 (hK _ (by decide) (by decide)) (by decide) (FT_i rfl) ?_
  refine q_aload_n eX5_read_20 rfl ?_
  refine q_iconst eX5_read_21 ?_
  refine q_putfield eX5_read_22 pf_X5_34 (hK _ (by decide) (by decide)) (by decide) (FT_i rfl) ?_
  have h0 : RD (rsE0 n rs) (up2 (up2 (up2 (up2 (up2 F 26 0 (vI 0)) 26 1 (vI (-1))) 26 2 (vI 0)) 26 6 (vI n)) 26 10 (vI 0)) := h.up.up.up.up.up
  have hX0 : XF (up2 (up2 (up2 (up2 (up2 F 26 0 (vI 0)) 26 1 (vI (-1))) 26 2 (vI 0)) 26 6 (vI n)) 26 10 (vI 0)) := ((((hX.up (by decide)).up (by decide)).up (by decide)).up (by decide)).up (by decide)
  have ho0 : FOff [(26, 0), (26, 1), (26, 2), (26, 6), (26, 7), (26, 8), (26, 9), (26, 10)] F (up2 (up2 (up2 (up2 (up2 F 26 0 (vI 0)) 26 1 (vI (-1))) 26 2 (vI 0)) 26 6 (vI n)) 26 10 (vI 0)) := ((((FOff.up (by decide)).trans (FOff.up (by decide))).trans (FOff.up (by decide))).trans (FOff.up (by decide))).trans (FOff.up (by decide))
  have hC0 : CX p e r q N n m f g lg tp pl_ (up2 (up2 (up2 (up2 (up2 F 26 0 (vI 0)) 26 1 (vI (-1))) 26 2 (vI 0)) 26 6 (vI n)) 26 10 (vI 0)) A := ⟨hX0, hT.row (by rw [up2_row (by decide), up2_row (by decide), up2_row (by decide), up2_row (by decide), up2_row (by decide)]), ht, hn, hpl⟩
  have z1 : (0 : Int) ≤ 0 ∧ (0 : Int) ≤ 201 := ⟨by decide, by decide⟩
  generalize (up2 (up2 (up2 (up2 (up2 F 26 0 (vI 0)) 26 1 (vI (-1))) 26 2 (vI 0)) 26 6 (vI n)) 26 10 (vI 0)) = F1 at h0 hX0 ho0 hC0
  refine q_aload_n eX5_read_25 rfl ?_
  refine q_callVU [] (M1 := mX5_next) eX5_read_26 mf_X5_next lk_X5_49 (hK _ (by decide) (by decide)) (ev_next (b := 0) hK hX0 ht hn rfl h0 rfl (by omega)) (by decide) (by decide) (by decide) (Nat.le_of_ble_eq_true rfl) rfl (fun F2 f2 r2 => ?_)
  have C2 := hC0.pres f2 Off.rfl'
  have I2 : RI n (nxE n tp (rsE0 n rs)) := RI_next0 rfl z1 hr9 (show (0 : Int) ≤ 0 ∧ (0 : Int) ≤ 3 from ⟨by decide, by decide⟩) (show (-1 : Int) ≤ -1 ∧ (-1 : Int) ≤ 200 from ⟨by decide, by decide⟩) (Or.inl rfl) ht hn (show (0 : Int) ≤ n by omega)
  refine q_aload_n eX5_read_29 rfl ?_
  refine q_iconst eX5_read_30 ?_
  refine q_callVR [vI 0] (M1 := mX5_terms) eX5_read_31 mf_X5_terms lk_X5_52 (hK _ (by decide) (by decide)) (ev_terms (D := 46) (op := 0) (T := atE p e r q n m f g lg tp pl_ 8) hK C2 r2 I2 (by decide) (at_ok C2 8) (ev_atE hK 8 (by decide))) (by decide) (by decide) (by decide) (Nat.le_of_ble_eq_true rfl) rfl (fun F3 A3 o3 f3 r3 => ?_)
  have I3 := tms_ok (f := f) (at_ok C2 8) C2.2.1.1.2.2.2.1 C2.2.1.1.2.2.2.2.1 ht hn _ I2
  have hre : tmsE n tp m r f (atE p e r q n m f g lg tp pl_ 8) (nxE n tp (rsE0 n rs)) = reE p e r q n m f g lg tp pl_ rs := rfl
  rw [hre] at I3 r3
  rw [hre]
  obtain ⟨j6, j7, j10, j8, j9, j7r, j0, j1, j2⟩ := id I3.2
  have hst : rdE p e r q n m f g lg tp pl_ rs = if (reE p e r q n m f g lg tp pl_ rs).2 7 = 257 then reE p e r q n m f g lg tp pl_ rs else ((reE p e r q n m f g lg tp pl_ rs).1, failE (reE p e r q n m f g lg tp pl_ rs).2 1) := rfl
  refine q_istore_n eX5_read_34 (by decide) rfl ?_
  refine q_aload_n eX5_read_35 rfl ?_
  refine q_getfield eX5_read_36 gf_X5_25 (hK _ (by decide) (by decide)) (by decide) (r3 7 (by decide)) ?_
  refine q_sipush eX5_read_39 (by decide +kernel) ?_
  refine q_icmp_eq (tgt := 50) eX5_read_42 (by decide) (by first | assumption | exact ⟨by omega, by omega⟩) (by first | assumption | exact ⟨by omega, by omega⟩) (fun c42 => ?_) (fun c42 => ?_)
  · refine q_iload_n eX5_read_50 rfl ?_
    refine q_retI eX5_read_51 rfl (by decide) (by decide) ?_
    have hE3 : InR (reE p e r q n m f g lg tp pl_ rs).1 := I3.1.lt C2.2.1.1.2.2.2.2.2.2 |> fun q => ⟨by omega, by omega⟩
    first
    | (rw [hst, if_pos c42]
       exact ⟨rfl, rfl, o3, (ho0.trans (f2.mono (by decide))).trans (f3.mono (by decide)), r3⟩)
    | (rw [hst, if_neg c42]
       exact ⟨rfl, rfl, o3, ((ho0.trans (f2.mono (by decide))).trans (f3.mono (by decide))).trans (f4.mono (by decide)), r4⟩)
  · refine q_aload_n eX5_read_45 rfl ?_
    refine q_iconst eX5_read_46 ?_
    refine q_callVU [vI 1] (M1 := mX5_fail) eX5_read_47 mf_X5_fail lk_X5_56 (hK _ (by decide) (by decide)) (ev_fail hK r3 ⟨by omega, by omega⟩) (by decide) (by decide) (by decide) (Nat.le_of_ble_eq_true rfl) rfl (fun F4 f4 r4 => ?_)
    refine q_iload_n eX5_read_50 rfl ?_
    refine q_retI eX5_read_51 rfl (by decide) (by decide) ?_
    have hE3 : InR (reE p e r q n m f g lg tp pl_ rs).1 := I3.1.lt C2.2.1.1.2.2.2.2.2.2 |> fun q => ⟨by omega, by omega⟩
    first
    | (rw [hst, if_pos c42]
       exact ⟨rfl, rfl, o3, (ho0.trans (f2.mono (by decide))).trans (f3.mono (by decide)), r3⟩)
    | (rw [hst, if_neg c42]
       exact ⟨rfl, rfl, o3, ((ho0.trans (f2.mono (by decide))).trans (f3.mono (by decide))).trans (f4.mono (by decide)), r4⟩)
