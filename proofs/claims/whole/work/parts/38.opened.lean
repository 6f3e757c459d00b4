/-! Reader: changed, opened, atom -/
def chE (p e r q : Nat) (m : Int) (f : Nat → Int) (g : Int) (lg : Nat → Int) (b v : Int) (rs : Nat → Int) : Int × (Nat → Int) :=
  if b = 45 then (mi m r 0 v, rs) else if b = 109 then (mv p r m f v, rs) else if b = 114 then (ro p r m f g lg v, rs) else if rl p r m lg v = -1 then (0, upc rs 2 1) else (pw m r f v (ivN p e q), rs)
theorem ch_ok {p e r q N n : Nat} {m : Int} {f : Nat → Int} {g : Int} {lg : Nat → Int} {F : HF} {A : HA} {b v : Int} {rs : Nat → Int} (hT : GT p e r q N m f g lg F A) (hI : RI n rs) : El m r (chE p e r q m f g lg b v rs).1 ∧ RI n (chE p e r q m f g lg b v rs).2 := by
  have hm2 := hT.1.2.2.2.1
  have hr1 := hT.1.2.2.2.2.1
  unfold chE
  split
  · exact ⟨mi_el (by omega) _ _, hI⟩
  · split
    · exact ⟨mv_el (by omega), hI⟩
    · split
      · exact ⟨ro_el hT v, hI⟩
      · split
        · obtain ⟨a1, a2, a3, a4, a5, a6, a7, a8, a9⟩ := hI
          exact ⟨el_zero (by omega), a1, a2, a3, a4, a5, a6, a7, a8, Or.inr rfl⟩
        · exact ⟨pw_el hm2 hr1 _ _, hI⟩
set_option maxRecDepth 20000 in
theorem ev_changed {rs : Nat → Int} {b v : Int} {p e r q N n : Nat} {m : Int} {f : Nat → Int} {g : Int} {lg tp pl_ : Nat → Int} {F : HF} {A : HA} {al : AL} (hK : KX al) (hC : CX p e r q N n m f g lg tp pl_ F A) (h : RD rs F) (hI : RI n rs) (hb : InR b) (hv : El m r v) : QE 5 0 0 mX5_changed [vA 26, vI b, vI v] F A al (PRQ (chE p e r q m f g lg b v rs) F A al) := by
  refine QE.mk (by decide +kernel) (Nat.le_of_ble_eq_true rfl) ?_
  obtain ⟨hX, hT, ht, hn, hpl⟩ := id hC
  obtain ⟨i6, i7, i10, i8, i9, i7r, i0, i1, i2⟩ := id hI
  have hm2 := hT.1.2.2.2.1
  have hz : InR (if rl p r m lg v = -1 then 0 else 1) := by split <;> exact ⟨by decide, by decide⟩
  refine q_iload_n eX5_changed_0 rfl ?_
  refine q_bipush eX5_changed_1 (by decide +kernel) ?_
  refine q_icmp_ne (tgt := 16) eX5_changed_3 (by decide) (by first | assumption | exact ⟨by omega, by omega⟩) (by first | assumption | exact ⟨by omega, by omega⟩) (fun c3 => ?_) (fun c3 => ?_)
  · refine q_iload_n eX5_changed_16 rfl ?_
    refine q_bipush eX5_changed_17 (by decide +kernel) ?_
    refine q_icmp_ne (tgt := 31) eX5_changed_19 (by decide) (by first | assumption | exact ⟨by omega, by omega⟩) (by first | assumption | exact ⟨by omega, by omega⟩) (fun c19 => ?_) (fun c19 => ?_)
    · refine q_iload_n eX5_changed_31 rfl ?_
      refine q_bipush eX5_changed_32 (by decide +kernel) ?_
      refine q_icmp_ne (tgt := 46) eX5_changed_34 (by decide) (by first | assumption | exact ⟨by omega, by omega⟩) (by first | assumption | exact ⟨by omega, by omega⟩) (fun c34 => ?_) (fun c34 => ?_)
      · refine q_aload_n eX5_changed_46 rfl ?_
        refine q_getfield eX5_changed_47 gf_X5_37 (hK _ (by decide) (by decide)) (by decide) (xf_26_3 hX) ?_
        refine q_iload_n eX5_changed_50 rfl ?_
        refine q_callVP [vI v] (M1 := mX2_isUnit) eX5_changed_51 mf_X2_isUnit lk_X5_141 (hK _ (by decide) (by decide)) (ev_isUnit hK hX hT hv) (by decide) (by decide) (by decide) (Nat.le_of_ble_eq_true rfl) rfl ?_
        refine q_if_ne (tgt := 64) eX5_changed_54 (by decide) (by first | assumption | exact ⟨by omega, by omega⟩) (fun c54 => ?_) (fun c54 => ?_)
        · refine q_aload_n eX5_changed_64 rfl ?_
          refine q_getfield eX5_changed_65 gf_X5_37 (hK _ (by decide) (by decide)) (by decide) (xf_26_3 hX) ?_
          refine q_iload_n eX5_changed_68 rfl ?_
          refine q_callVQ [vI v] (M1 := mX2_inverse) eX5_changed_69 mf_X2_inverse lk_X5_144 (hK _ (by decide) (by decide)) (ev_inverse hK hX hT hv) (by decide) (by decide) (by decide) (Nat.le_of_ble_eq_true rfl) rfl (fun A2 h2 => ?_)
          refine q_retI eX5_changed_72 rfl (by decide) (by decide) ?_
          first
          | (rw [show chE p e r q m f g lg b v rs = (mi m r 0 v, rs) from if_pos c3]
             exact ⟨rfl, rfl, Off.rfl', FOff.rfl', h⟩)
          | (rw [show chE p e r q m f g lg b v rs = (mv p r m f v, rs) from (if_neg c3).trans (if_pos c19)]
             exact ⟨rfl, rfl, h2, FOff.rfl', h⟩)
          | (rw [show chE p e r q m f g lg b v rs = (ro p r m f g lg v, rs) from (if_neg c3).trans ((if_neg c19).trans (if_pos c34))]
             exact ⟨rfl, rfl, Off.rfl', FOff.rfl', h⟩)
          | (rw [show chE p e r q m f g lg b v rs = (0, upc rs 2 1) from (if_neg c3).trans ((if_neg c19).trans ((if_neg c34).trans (if_pos (Classical.byContradiction fun z => by rw [if_neg z] at c54; exact absurd c54 (by decide)))))]
             exact ⟨rfl, rfl, Off.rfl', FOff.up (by decide), h.up⟩)
          | (rw [show chE p e r q m f g lg b v rs = (pw m r f v (ivN p e q), rs) from (if_neg c3).trans ((if_neg c19).trans ((if_neg c34).trans (if_neg (fun z => by rw [if_pos z] at c54; exact absurd rfl c54))))]
             exact ⟨rfl, rfl, h2, FOff.rfl', h⟩)
        · refine q_aload_n eX5_changed_57 rfl ?_
          refine q_iconst eX5_changed_58 ?_
          refine q_putfield eX5_changed_59 pf_X5_18 (hK _ (by decide) (by decide)) (by decide) (FT_z rfl (Or.inr rfl)) ?_
          refine q_iconst eX5_changed_62 ?_
          refine q_retI eX5_changed_63 rfl (by decide) (by decide) ?_
          first
          | (rw [show chE p e r q m f g lg b v rs = (mi m r 0 v, rs) from if_pos c3]
             exact ⟨rfl, rfl, Off.rfl', FOff.rfl', h⟩)
          | (rw [show chE p e r q m f g lg b v rs = (mv p r m f v, rs) from (if_neg c3).trans (if_pos c19)]
             exact ⟨rfl, rfl, h2, FOff.rfl', h⟩)
          | (rw [show chE p e r q m f g lg b v rs = (ro p r m f g lg v, rs) from (if_neg c3).trans ((if_neg c19).trans (if_pos c34))]
             exact ⟨rfl, rfl, Off.rfl', FOff.rfl', h⟩)
          | (rw [show chE p e r q m f g lg b v rs = (0, upc rs 2 1) from (if_neg c3).trans ((if_neg c19).trans ((if_neg c34).trans (if_pos (Classical.byContradiction fun z => by rw [if_neg z] at c54; exact absurd c54 (by decide)))))]
             exact ⟨rfl, rfl, Off.rfl', FOff.up (by decide), h.up⟩)
          | (rw [show chE p e r q m f g lg b v rs = (pw m r f v (ivN p e q), rs) from (if_neg c3).trans ((if_neg c19).trans ((if_neg c34).trans (if_neg (fun z => by rw [if_pos z] at c54; exact absurd rfl c54))))]
             exact ⟨rfl, rfl, h2, FOff.rfl', h⟩)
      · refine q_aload_n eX5_changed_37 rfl ?_
        refine q_getfield eX5_changed_38 gf_X5_37 (hK _ (by decide) (by decide)) (by decide) (xf_26_3 hX) ?_
        refine q_iload_n eX5_changed_41 rfl ?_
        refine q_callVP [vI v] (M1 := mX2_rootOf) eX5_changed_42 mf_X2_rootOf lk_X5_138 (hK _ (by decide) (by decide)) (ev_rootOf hK hX hT hv) (by decide) (by decide) (by decide) (Nat.le_of_ble_eq_true rfl) rfl ?_
        refine q_retI eX5_changed_45 rfl (by decide) (by decide) ?_
        first
        | (rw [show chE p e r q m f g lg b v rs = (mi m r 0 v, rs) from if_pos c3]
           exact ⟨rfl, rfl, Off.rfl', FOff.rfl', h⟩)
        | (rw [show chE p e r q m f g lg b v rs = (mv p r m f v, rs) from (if_neg c3).trans (if_pos c19)]
           exact ⟨rfl, rfl, h2, FOff.rfl', h⟩)
        | (rw [show chE p e r q m f g lg b v rs = (ro p r m f g lg v, rs) from (if_neg c3).trans ((if_neg c19).trans (if_pos c34))]
           exact ⟨rfl, rfl, Off.rfl', FOff.rfl', h⟩)
        | (rw [show chE p e r q m f g lg b v rs = (0, upc rs 2 1) from (if_neg c3).trans ((if_neg c19).trans ((if_neg c34).trans (if_pos (Classical.byContradiction fun z => by rw [if_neg z] at c54; exact absurd c54 (by decide)))))]
           exact ⟨rfl, rfl, Off.rfl', FOff.up (by decide), h.up⟩)
        | (rw [show chE p e r q m f g lg b v rs = (pw m r f v (ivN p e q), rs) from (if_neg c3).trans ((if_neg c19).trans ((if_neg c34).trans (if_neg (fun z => by rw [if_pos z] at c54; exact absurd rfl c54))))]
           exact ⟨rfl, rfl, h2, FOff.rfl', h⟩)
    · refine q_aload_n eX5_changed_22 rfl ?_
      refine q_getfield eX5_changed_23 gf_X5_37 (hK _ (by decide) (by decide)) (by decide) (xf_26_3 hX) ?_
      refine q_iload_n eX5_changed_26 rfl ?_
      refine q_callVQ [vI v] (M1 := mX2_moved) eX5_changed_27 mf_X2_moved lk_X5_135 (hK _ (by decide) (by decide)) (ev_moved hK hX hT hv) (by decide) (by decide) (by decide) (Nat.le_of_ble_eq_true rfl) rfl (fun A2 h2 => ?_)
      refine q_retI eX5_changed_30 rfl (by decide) (by decide) ?_
      first
      | (rw [show chE p e r q m f g lg b v rs = (mi m r 0 v, rs) from if_pos c3]
         exact ⟨rfl, rfl, Off.rfl', FOff.rfl', h⟩)
      | (rw [show chE p e r q m f g lg b v rs = (mv p r m f v, rs) from (if_neg c3).trans (if_pos c19)]
         exact ⟨rfl, rfl, h2, FOff.rfl', h⟩)
      | (rw [show chE p e r q m f g lg b v rs = (ro p r m f g lg v, rs) from (if_neg c3).trans ((if_neg c19).trans (if_pos c34))]
         exact ⟨rfl, rfl, Off.rfl', FOff.rfl', h⟩)
      | (rw [show chE p e r q m f g lg b v rs = (0, upc rs 2 1) from (if_neg c3).trans ((if_neg c19).trans ((if_neg c34).trans (if_pos (Classical.byContradiction fun z => by rw [if_neg z] at c54; exact absurd c54 (by decide)))))]
         exact ⟨rfl, rfl, Off.rfl', FOff.up (by decide), h.up⟩)
      | (rw [show chE p e r q m f g lg b v rs = (pw m r f v (ivN p e q), rs) from (if_neg c3).trans ((if_neg c19).trans ((if_neg c34).trans (if_neg (fun z => by rw [if_pos z] at c54; exact absurd rfl c54))))]
         exact ⟨rfl, rfl, h2, FOff.rfl', h⟩)
  · refine q_aload_n eX5_changed_6 rfl ?_
    refine q_getfield eX5_changed_7 gf_X5_37 (hK _ (by decide) (by decide)) (by decide) (xf_26_3 hX) ?_
    refine q_iconst eX5_changed_10 ?_
    refine q_iload_n eX5_changed_11 rfl ?_
    refine q_callVP [vI 0, vI v] (M1 := mX2_minus) eX5_changed_12 mf_X2_minus lk_X5_90 (hK _ (by decide) (by decide)) (ev_minus hK hX hT.1 (el_zero (by omega)) hv) (by decide) (by decide) (by decide) (Nat.le_of_ble_eq_true rfl) rfl ?_
    refine q_retI eX5_changed_15 rfl (by decide) (by decide) ?_
    first
    | (rw [show chE p e r q m f g lg b v rs = (mi m r 0 v, rs) from if_pos c3]
       exact ⟨rfl, rfl, Off.rfl', FOff.rfl', h⟩)
    | (rw [show chE p e r q m f g lg b v rs = (mv p r m f v, rs) from (if_neg c3).trans (if_pos c19)]
       exact ⟨rfl, rfl, h2, FOff.rfl', h⟩)
    | (rw [show chE p e r q m f g lg b v rs = (ro p r m f g lg v, rs) from (if_neg c3).trans ((if_neg c19).trans (if_pos c34))]
       exact ⟨rfl, rfl, Off.rfl', FOff.rfl', h⟩)
    | (rw [show chE p e r q m f g lg b v rs = (0, upc rs 2 1) from (if_neg c3).trans ((if_neg c19).trans ((if_neg c34).trans (if_pos (Classical.byContradiction fun z => by rw [if_neg z] at c54; exact absurd c54 (by decide)))))]
       exact ⟨rfl, rfl, Off.rfl', FOff.up (by decide), h.up⟩)
    | (rw [show chE p e r q m f g lg b v rs = (pw m r f v (ivN p e q), rs) from (if_neg c3).trans ((if_neg c19).trans ((if_neg c34).trans (if_neg (fun z => by rw [if_pos z] at c54; exact absurd rfl c54))))]
       exact ⟨rfl, rfl, h2, FOff.rfl', h⟩)
def op0E (rs : Nat → Int) : Int × (Nat → Int) := (0, failE rs 3)
def clE (n : Nat) (tp : Nat → Int) (s : Int × (Nat → Int)) : Int × (Nat → Int) := if s.2 0 = 0 then (if s.2 7 = 41 then (s.1, nxE n tp s.2) else (s.1, failE s.2 1)) else s
def opSE (p e r q n : Nat) (m : Int) (f : Nat → Int) (g : Int) (lg tp : Nat → Int) (T : (Nat → Int) → Int × (Nat → Int)) (rs : Nat → Int) : Int × (Nat → Int) :=
  if rs 7 = 40 then clE n tp (tmsE n tp m r f T (nxE n tp rs)) else chE p e r q m f g lg (rs 7) (T (nxE n tp rs)).1 (T (nxE n tp rs)).2
def isOp (x : Int) : Prop := x = 40 ∨ x = 45 ∨ x = 109 ∨ x = 114 ∨ x = 105
theorem opS_ok {p e r q N n : Nat} {m : Int} {f : Nat → Int} {g : Int} {lg tp : Nat → Int} {F : HF} {A : HA} {T : (Nat → Int) → Int × (Nat → Int)} {rs : Nat → Int} (hT : GT p e r q N m f g lg F A) (ht : TA tp A) (hn : n ≤ 200) (hRT : RMok n m r T) (hI : RI n rs) (h7 : rs 7 ≠ 257) : El m r (opSE p e r q n m f g lg tp T rs).1 ∧ RI n (opSE p e r q n m f g lg tp T rs).2 := by
  have hm2 := hT.1.2.2.2.1
  have hr1 := hT.1.2.2.2.2.1
  have I1 := hI.nx ht hn h7
  unfold opSE
  split
  · obtain ⟨a1, a2⟩ := tms_ok (f := f) hRT hm2 hr1 ht hn _ I1
    unfold clE
    split
    · split
      · next h41 => exact ⟨a1, a2.nx ht hn (by omega)⟩
      · exact ⟨a1, a2.fail hn ⟨by decide, by decide⟩⟩
    · exact ⟨a1, a2⟩
  · obtain ⟨a1, a2⟩ := hRT _ I1
    exact ch_ok hT a2
set_option maxRecDepth 20000 in
theorem ev_opened0 {rs : Nat → Int} {D : Nat} {p e r q N n : Nat} {m : Int} {f : Nat → Int} {g : Int} {lg tp pl_ : Nat → Int} {F : HF} {A : HA} {al : AL} (hK : KX al) (hC : CX p e r q N n m f g lg tp pl_ F A) (h : RD rs F) (hI : RI n rs) (hD : 3 ≤ D)  : QE D 0 0 mX5_opened [vA 26, vI 8] F A al (PRQ (op0E rs) F A al) := by
  refine QE.mk (by decide +kernel) (Nat.le_of_ble_eq_true rfl) ?_
  obtain ⟨hX, hT, ht, hn, hpl⟩ := id hC
  obtain ⟨i6, i7, i10, i8, i9, i7r, i0, i1, i2⟩ := id hI
  refine q_iload_n eX5_opened_0 rfl ?_
  refine q_bipush eX5_opened_1 (by decide +kernel) ?_
  refine q_icmp_lt (tgt := 13) eX5_opened_3 (by decide) (by first | assumption | exact ⟨by omega, by omega⟩) (by first | assumption | exact ⟨by omega, by omega⟩) (fun c3 => ?_) (fun c3 => ?_)
  · exact absurd c3 (by omega)
  · refine q_aload_n eX5_opened_6 rfl ?_
    refine q_iconst eX5_opened_7 ?_
    refine q_callVU [vI 3] (M1 := mX5_fail) eX5_opened_8 mf_X5_fail lk_X5_56 (hK _ (by decide) (by decide)) (ev_fail hK h ⟨by omega, by omega⟩) (by omega) (by decide) (by decide) (Nat.le_of_ble_eq_true rfl) rfl (fun F9 f9 r9 => ?_)
    refine q_iconst eX5_opened_11 ?_
    refine q_retI eX5_opened_12 rfl (by decide) (by decide) ?_
    exact ⟨rfl, rfl, Off.rfl', f9, r9⟩
set_option maxRecDepth 20000 in
theorem ev_openedS {rs : Nat → Int} {D : Nat} {op : Int} {T : (Nat → Int) → Int × (Nat → Int)} {p e r q N n : Nat} {m : Int} {f : Nat → Int} {g : Int} {lg tp pl_ : Nat → Int} {F : HF} {A : HA} {al : AL} (hK : KX al) (hC : CX p e r q N n m f g lg tp pl_ F A) (h : RD rs F) (hI : RI n rs) (hD : 5 ≤ D) (hRT : RMok n m r T) (hRC : RC D mX5_atom (op + 1) al p e r q N n m f g lg tp pl_ T) (hop : 0 ≤ op) (hop8 : op < 8) (h7 : isOp (rs 7)) : QE (D + 4) 0 0 mX5_opened [vA 26, vI op] F A al (PRQ (opSE p e r q n m f g lg tp T rs) F A al) := by
  refine QE.mk (by decide +kernel) (Nat.le_of_ble_eq_true rfl) ?_
  obtain ⟨hX, hT, ht, hn, hpl⟩ := id hC
  obtain ⟨i6, i7, i10, i8, i9, i7r, i0, i1, i2⟩ := id hI
  have hm2 := hT.1.2.2.2.1
  have hr1 := hT.1.2.2.2.2.1
  have f7 : F 26 7 = vI (rs 7) := h 7 (by decide)
  have h257 : rs 7 ≠ 257 := by unfold isOp at h7; omega
  have k57 : ∀ (s : Int × (Nat → Int)) (F2 : HF) (A2 : HA) (H1 : s.2 0 = 0 → s.2 7 = 41), CX p e r q N n m f g lg tp pl_ F2 A2 → RD s.2 F2 → RI n s.2 → Off [13, 14, 15] A A2 → FOff [(26, 0), (26, 1), (26, 2), (26, 7), (26, 8), (26, 9), (26, 10)] F F2 → QW mX5_opened (D + 4) 0 0 (PRQ (if s.2 0 = 0 then (s.1, nxE n tp s.2) else s) F A al) 0 0 57 [some (vA 26), some (vI op), some (vI (rs 7)), some (vI s.1)] [] F2 A2 al := by
    intro s F2 A2 H1 hC2 hr2 hI2 ho2 hF2
    obtain ⟨j6, j7, j10, j8, j9, j7r, j0, j1, j2⟩ := id hI2
    refine q_aload_n eX5_opened_57 rfl ?_
    refine q_getfield eX5_opened_58 gf_X5_9 (hK _ (by decide) (by decide)) (by decide) (hr2 0 (by decide)) ?_
    refine q_if_ne (tgt := 68) eX5_opened_61 (by decide) (by first | assumption | exact ⟨by omega, by omega⟩) (fun c61 => ?_) (fun c61 => ?_)
    · refine q_iload_n eX5_opened_68 rfl ?_
      refine q_retI eX5_opened_69 rfl (by decide) (by decide) ?_
      first
      | (rw [if_neg c61]
         exact ⟨rfl, rfl, ho2, hF2, hr2⟩)
      | (rw [if_pos (by omega)]
         exact ⟨rfl, rfl, ho2, hF2.trans f3, r3⟩)
    · refine q_aload_n eX5_opened_64 rfl ?_
      refine q_callVU [] (M1 := mX5_next) eX5_opened_65 mf_X5_next lk_X5_49 (hK _ (by decide) (by decide)) (ev_next hK hC2.1 hC2.2.2.1 hn j6 hr2 (Int.toNat_of_nonneg j10.1).symm (by have := H1 (by omega); omega)) (by omega) (by decide) (by decide) (Nat.le_of_ble_eq_true rfl) rfl (fun F3 f3 r3 => ?_)
      refine q_iload_n eX5_opened_68 rfl ?_
      refine q_retI eX5_opened_69 rfl (by decide) (by decide) ?_
      first
      | (rw [if_neg c61]
         exact ⟨rfl, rfl, ho2, hF2, hr2⟩)
      | (rw [if_pos (by omega)]
         exact ⟨rfl, rfl, ho2, hF2.trans f3, r3⟩)
  refine q_iload_n eX5_opened_0 rfl ?_
  refine q_bipush eX5_opened_1 (by decide +kernel) ?_
  refine q_icmp_lt (tgt := 13) eX5_opened_3 (by decide) (by first | assumption | exact ⟨by omega, by omega⟩) (by first | assumption | exact ⟨by omega, by omega⟩) (fun c3 => ?_) (fun c3 => ?_)
  · refine q_aload_n eX5_opened_13 rfl ?_
    refine q_getfield eX5_opened_14 gf_X5_25 (hK _ (by decide) (by decide)) (by decide) (by first | exact f7 | exact r3 7 (by decide)) ?_
    refine q_istore_n eX5_opened_17 (by decide) rfl ?_
    refine q_aload_n eX5_opened_18 rfl ?_
    refine q_callVU [] (M1 := mX5_next) eX5_opened_19 mf_X5_next lk_X5_49 (hK _ (by decide) (by decide)) (ev_next hK hX ht hn i6 h (Int.toNat_of_nonneg i10.1).symm (by omega)) (by omega) (by decide) (by decide) (Nat.le_of_ble_eq_true rfl) rfl (fun F2 f2 r2 => ?_)
    have C2 := hC.pres f2 Off.rfl'
    have I2 := hI.nx ht hn (show rs 7 ≠ 257 by unfold isOp at h7; omega)
    have hX2 := C2.1
    refine q_iload_n eX5_opened_22 rfl ?_
    refine q_bipush eX5_opened_23 (by decide +kernel) ?_
    refine q_icmp_ne (tgt := 70) eX5_opened_25 (by decide) (by first | assumption | exact ⟨by omega, by omega⟩) (by first | assumption | exact ⟨by omega, by omega⟩) (fun c25 => ?_) (fun c25 => ?_)
    · refine q_aload_n eX5_opened_70 rfl ?_
      refine q_iload_n eX5_opened_71 rfl ?_
      refine q_aload_n eX5_opened_72 rfl ?_
      refine q_iload_n eX5_opened_73 rfl ?_
      refine q_iconst eX5_opened_74 ?_
      refine q_iadd eX5_opened_75 ?_
      refine q_callVR [vI (op + 1)] (M1 := mX5_atom) eX5_opened_76 mf_X5_atom lk_X5_104 (hK _ (by decide) (by decide)) (hRC _ _ _ C2 r2 I2) (by omega) (by decide) (by decide) (Nat.le_of_ble_eq_true rfl) rfl (fun F3 A3 o3 f3 r3 => ?_)
      have C3 := C2.pres f3 o3
      have I3 := hRT _ I2
      refine q_callVR [vI (rs 7), vI (T (nxE n tp rs)).1] (M1 := mX5_changed) eX5_opened_79 mf_X5_changed lk_X5_132 (hK _ (by decide) (by decide)) (ev_changed hK C3 r3 I3.2 (by exact ⟨by omega, by omega⟩) I3.1) (by omega) (by decide) (by decide) (Nat.le_of_ble_eq_true rfl) rfl (fun F5 A5 o5 f5 r5 => ?_)
      refine q_retI eX5_opened_82 rfl (by decide) (by decide) ?_
      rw [show opSE p e r q n m f g lg tp T rs = chE p e r q m f g lg (rs 7) (T (nxE n tp rs)).1 (T (nxE n tp rs)).2 from if_neg (by omega)]
      exact ⟨rfl, rfl, o3.trans o5, (f2.trans f3).trans f5, r5⟩
    · refine q_aload_n eX5_opened_28 rfl ?_
      refine q_iload_n eX5_opened_29 rfl ?_
      refine q_iconst eX5_opened_30 ?_
      refine q_iadd eX5_opened_31 ?_
      refine q_callVR [vI (op + 1)] (M1 := mX5_terms) eX5_opened_32 mf_X5_terms lk_X5_52 (hK _ (by decide) (by decide)) (ev_terms hK C2 r2 I2 hD hRT hRC) (by omega) (by decide) (by decide) (Nat.le_of_ble_eq_true rfl) rfl (fun F3 A3 o3 f3 r3 => ?_)
      have C3 := C2.pres f3 o3
      have I3 := tms_ok (f := f) hRT hm2 hr1 ht hn _ I2
      obtain ⟨j6, j7, j10, j8, j9, j7r, j0, j1, j2⟩ := id I3.2
      refine q_istore_n eX5_opened_35 (by decide) rfl ?_
      refine q_aload_n eX5_opened_36 rfl ?_
      refine q_getfield eX5_opened_37 gf_X5_9 (hK _ (by decide) (by decide)) (by decide) (r3 0 (by decide)) ?_
      refine q_if_ne (tgt := 57) eX5_opened_40 (by decide) (by first | assumption | exact ⟨by omega, by omega⟩) (fun c40 => ?_) (fun c40 => ?_)
      · rw [show opSE p e r q n m f g lg tp T rs = clE n tp (tmsE n tp m r f T (nxE n tp rs)) from if_pos (by omega)]
        first
        | (have hcl : clE n tp (tmsE n tp m r f T (nxE n tp rs)) = (if (tmsE n tp m r f T (nxE n tp rs)).2 0 = 0 then ((tmsE n tp m r f T (nxE n tp rs)).1, nxE n tp (tmsE n tp m r f T (nxE n tp rs)).2) else tmsE n tp m r f T (nxE n tp rs)) := by
             unfold clE
             rw [if_neg c40, if_neg c40]
           rw [hcl]
           exact k57 (tmsE n tp m r f T (nxE n tp rs)) F3 A3 (fun q => absurd q c40) C3 r3 I3.2 o3 (f2.trans f3))
        | (have hcl : clE n tp (tmsE n tp m r f T (nxE n tp rs)) = (if (tmsE n tp m r f T (nxE n tp rs)).2 0 = 0 then ((tmsE n tp m r f T (nxE n tp rs)).1, nxE n tp (tmsE n tp m r f T (nxE n tp rs)).2) else tmsE n tp m r f T (nxE n tp rs)) := by
             unfold clE
             rw [if_pos (show (tmsE n tp m r f T (nxE n tp rs)).2 0 = 0 by omega), if_pos (show (tmsE n tp m r f T (nxE n tp rs)).2 7 = 41 by omega), if_pos (show (tmsE n tp m r f T (nxE n tp rs)).2 0 = 0 by omega)]
           rw [hcl]
           exact k57 (tmsE n tp m r f T (nxE n tp rs)) F3 A3 (fun q => by omega) C3 r3 I3.2 o3 (f2.trans f3))
        | (have hf : failE (tmsE n tp m r f T (nxE n tp rs)).2 1 0 = 1 := by
             unfold failE
             rw [if_pos (show (tmsE n tp m r f T (nxE n tp rs)).2 0 = 0 by omega)]
             rfl
           have hcl : clE n tp (tmsE n tp m r f T (nxE n tp rs)) = (if failE (tmsE n tp m r f T (nxE n tp rs)).2 1 0 = 0 then ((tmsE n tp m r f T (nxE n tp rs)).1, nxE n tp (failE (tmsE n tp m r f T (nxE n tp rs)).2 1)) else ((tmsE n tp m r f T (nxE n tp rs)).1, failE (tmsE n tp m r f T (nxE n tp rs)).2 1)) := by
             unfold clE
             rw [if_pos (show (tmsE n tp m r f T (nxE n tp rs)).2 0 = 0 by omega), if_neg (show ¬ (tmsE n tp m r f T (nxE n tp rs)).2 7 = 41 by omega), if_neg (by rw [hf]; decide)]
           rw [hcl]
           exact k57 ((tmsE n tp m r f T (nxE n tp rs)).1, failE (tmsE n tp m r f T (nxE n tp rs)).2 1) F4 A3 (fun q => by simp only [hf] at q; exact absurd q (by decide)) C4 r4 (I3.2.fail hn ⟨by decide, by decide⟩) o3 ((f2.trans f3).trans f4))
      · refine q_aload_n eX5_opened_43 rfl ?_
        refine q_getfield eX5_opened_44 gf_X5_25 (hK _ (by decide) (by decide)) (by decide) (by first | exact f7 | exact r3 7 (by decide)) ?_
        refine q_bipush eX5_opened_47 (by decide +kernel) ?_
        refine q_icmp_eq (tgt := 57) eX5_opened_49 (by decide) (by first | assumption | exact ⟨by omega, by omega⟩) (by first | assumption | exact ⟨by omega, by omega⟩) (fun c49 => ?_) (fun c49 => ?_)
        · rw [show opSE p e r q n m f g lg tp T rs = clE n tp (tmsE n tp m r f T (nxE n tp rs)) from if_pos (by omega)]
          first
          | (have hcl : clE n tp (tmsE n tp m r f T (nxE n tp rs)) = (if (tmsE n tp m r f T (nxE n tp rs)).2 0 = 0 then ((tmsE n tp m r f T (nxE n tp rs)).1, nxE n tp (tmsE n tp m r f T (nxE n tp rs)).2) else tmsE n tp m r f T (nxE n tp rs)) := by
               unfold clE
               rw [if_neg c40, if_neg c40]
             rw [hcl]
             exact k57 (tmsE n tp m r f T (nxE n tp rs)) F3 A3 (fun q => absurd q c40) C3 r3 I3.2 o3 (f2.trans f3))
          | (have hcl : clE n tp (tmsE n tp m r f T (nxE n tp rs)) = (if (tmsE n tp m r f T (nxE n tp rs)).2 0 = 0 then ((tmsE n tp m r f T (nxE n tp rs)).1, nxE n tp (tmsE n tp m r f T (nxE n tp rs)).2) else tmsE n tp m r f T (nxE n tp rs)) := by
               unfold clE
               rw [if_pos (show (tmsE n tp m r f T (nxE n tp rs)).2 0 = 0 by omega), if_pos (show (tmsE n tp m r f T (nxE n tp rs)).2 7 = 41 by omega), if_pos (show (tmsE n tp m r f T (nxE n tp rs)).2 0 = 0 by omega)]
             rw [hcl]
             exact k57 (tmsE n tp m r f T (nxE n tp rs)) F3 A3 (fun q => by omega) C3 r3 I3.2 o3 (f2.trans f3))
          | (have hf : failE (tmsE n tp m r f T (nxE n tp rs)).2 1 0 = 1 := by
               unfold failE
               rw [if_pos (show (tmsE n tp m r f T (nxE n tp rs)).2 0 = 0 by omega)]
               rfl
             have hcl : clE n tp (tmsE n tp m r f T (nxE n tp rs)) = (if failE (tmsE n tp m r f T (nxE n tp rs)).2 1 0 = 0 then ((tmsE n tp m r f T (nxE n tp rs)).1, nxE n tp (failE (tmsE n tp m r f T (nxE n tp rs)).2 1)) else ((tmsE n tp m r f T (nxE n tp rs)).1, failE (tmsE n tp m r f T (nxE n tp rs)).2 1)) := by
               unfold clE
               rw [if_pos (show (tmsE n tp m r f T (nxE n tp rs)).2 0 = 0 by omega), if_neg (show ¬ (tmsE n tp m r f T (nxE n tp rs)).2 7 = 41 by omega), if_neg (by rw [hf]; decide)]
             rw [hcl]
             exact k57 ((tmsE n tp m r f T (nxE n tp rs)).1, failE (tmsE n tp m r f T (nxE n tp rs)).2 1) F4 A3 (fun q => by simp only [hf] at q; exact absurd q (by decide)) C4 r4 (I3.2.fail hn ⟨by decide, by decide⟩) o3 ((f2.trans f3).trans f4))
        · refine q_aload_n eX5_opened_52 rfl ?_
          refine q_iconst eX5_opened_53 ?_
          refine q_callVU [vI 1] (M1 := mX5_fail) eX5_opened_54 mf_X5_fail lk_X5_56 (hK _ (by decide) (by decide)) (ev_fail hK r3 ⟨by omega, by omega⟩) (by omega) (by decide) (by decide) (Nat.le_of_ble_eq_true rfl) rfl (fun F4 f4 r4 => ?_)
          have C4 := C3.pres f4 Off.rfl'
          rw [show opSE p e r q n m f g lg tp T rs = clE n tp (tmsE n tp m r f T (nxE n tp rs)) from if_pos (by omega)]
          first
          | (have hcl : clE n tp (tmsE n tp m r f T (nxE n tp rs)) = (if (tmsE n tp m r f T (nxE n tp rs)).2 0 = 0 then ((tmsE n tp m r f T (nxE n tp rs)).1, nxE n tp (tmsE n tp m r f T (nxE n tp rs)).2) else tmsE n tp m r f T (nxE n tp rs)) := by
               unfold clE
               rw [if_neg c40, if_neg c40]
             rw [hcl]
             exact k57 (tmsE n tp m r f T (nxE n tp rs)) F3 A3 (fun q => absurd q c40) C3 r3 I3.2 o3 (f2.trans f3))
          | (have hcl : clE n tp (tmsE n tp m r f T (nxE n tp rs)) = (if (tmsE n tp m r f T (nxE n tp rs)).2 0 = 0 then ((tmsE n tp m r f T (nxE n tp rs)).1, nxE n tp (tmsE n tp m r f T (nxE n tp rs)).2) else tmsE n tp m r f T (nxE n tp rs)) := by
               unfold clE
               rw [if_pos (show (tmsE n tp m r f T (nxE n tp rs)).2 0 = 0 by omega), if_pos (show (tmsE n tp m r f T (nxE n tp rs)).2 7 = 41 by omega), if_pos (show (tmsE n tp m r f T (nxE n tp rs)).2 0 = 0 by omega)]
             rw [hcl]
             exact k57 (tmsE n tp m r f T (nxE n tp rs)) F3 A3 (fun q => by omega) C3 r3 I3.2 o3 (f2.trans f3))
          | (have hf : failE (tmsE n tp m r f T (nxE n tp rs)).2 1 0 = 1 := by
               unfold failE
               rw [if_pos (show (tmsE n tp m r f T (nxE n tp rs)).2 0 = 0 by omega)]
               rfl
             have hcl : clE n tp (tmsE n tp m r f T (nxE n tp rs)) = (if failE (tmsE n tp m r f T (nxE n tp rs)).2 1 0 = 0 then ((tmsE n tp m r f T (nxE n tp rs)).1, nxE n tp (failE (tmsE n tp m r f T (nxE n tp rs)).2 1)) else ((tmsE n tp m r f T (nxE n tp rs)).1, failE (tmsE n tp m r f T (nxE n tp rs)).2 1)) := by
               unfold clE
               rw [if_pos (show (tmsE n tp m r f T (nxE n tp rs)).2 0 = 0 by omega), if_neg (show ¬ (tmsE n tp m r f T (nxE n tp rs)).2 7 = 41 by omega), if_neg (by rw [hf]; decide)]
             rw [hcl]
             exact k57 ((tmsE n tp m r f T (nxE n tp rs)).1, failE (tmsE n tp m r f T (nxE n tp rs)).2 1) F4 A3 (fun q => by simp only [hf] at q; exact absurd q (by decide)) C4 r4 (I3.2.fail hn ⟨by decide, by decide⟩) o3 ((f2.trans f3).trans f4))
  · exact absurd c3 (by omega)
