/-! the model's reading: bytes, tokens -/
def LQ : List (Nat × Nat) := [(44, 21), (44, 22), (44, 23), (44, 24), (44, 25), (44, 26), (44, 27), (44, 29)]
def RDM (rs : Nat → Int) (F : HF) : Prop := ∀ k, k ∈ [20, 21, 22, 23, 24, 25, 26, 27, 28, 29] → F 44 k = vI (rs k)
theorem RDM.up {rs : Nat → Int} {F : HF} {k : Nat} {v : Int} (h : RDM rs F) : RDM (upc rs k v) (up2 F 44 k (vI v)) := by
  intro j hj
  rw [up2_at]
  unfold upc
  split
  · rfl
  · exact h j hj
theorem RDM.same {rs rs2 : Nat → Int} {F : HF} (h : RDM rs F) (e : ∀ k, rs2 k = rs k) : RDM rs2 F := fun k hk => by rw [e k]; exact h k hk
def PRM (rs : Nat → Int) (F : HF) (A : HA) (al : AL) : PO := fun o F' A' al' => o = .inl none ∧ al' = al ∧ A' = A ∧ FOff LQ F F' ∧ RDM rs F'
theorem nt_PRM {rs : Nat → Int} {F : HF} {A : HA} {al : AL} : NT (PRM rs F A al) := by intro E F A al h; cases h.1
def SAQ : List Nat := [50, 51, 52, 53, 54]
def PRN (s : Int × (Nat → Int)) (F : HF) (A : HA) (al : AL) : PO := fun o F' A' al' => o = .inl (some s.1) ∧ al' = al ∧ Off SAQ A A' ∧ FOff LQ F F' ∧ RDM s.2 F'
theorem nt_PRN {s : Int × (Nat → Int)} {F : HF} {A : HA} {al : AL} : NT (PRN s F A al) := by intro E F A al h; cases h.1
def bM (n : Nat) (tp : Nat → Int) (i : Nat) : Int := if i < n then tp i else 0
theorem bM_range {n : Nat} {tp : Nat → Int} {A : HA} (h : TM tp A) (hn : n ≤ 200) (i : Nat) : 0 ≤ bM n tp i ∧ bM n tp i < 256 := by
  unfold bM
  split
  · exact (h i (by omega)).2
  · omega
def sgM (x : Int) : Int := if x = 35 ∨ x = 40 ∨ x = 41 ∨ x = 42 ∨ x = 43 ∨ x = 45 ∨ x = 94 ∨ x = 103 ∨ x = 105 ∨ x = 109 ∨ x = 112 ∨ x = 114 ∨ x = 116 then 1 else 0
set_option maxRecDepth 20000 in
theorem mo_byteAt {n i : Nat} {tp : Nat → Int} {F : HF} {A : HA} {al : AL} (hK : KM al) (hX : MR F) (ht : TM tp A) (h20 : F 44 20 = vI n) (hn : n ≤ 200) (hi : i < 2147483648) : QE 0 0 0 mX12_byteAt [vA 44, vI i] F A al (PI (bM n tp i) F A al) := by
  refine QE.mk (by decide +kernel) (Nat.le_of_ble_eq_true rfl) ?_
  refine q_iload_n eX12_byteAt_0 rfl ?_
  refine q_aload_n eX12_byteAt_1 rfl ?_
  refine q_getfield eX12_byteAt_2 gf_X12_220 (hK _ (by decide) (by decide)) (by decide) (by first | assumption) ?_
  refine q_icmp_ge (tgt := 21) eX12_byteAt_5 (by decide) (by first | assumption | exact ⟨by omega, by omega⟩) (by first | assumption | exact ⟨by omega, by omega⟩) (fun c5 => ?_) (fun c5 => ?_)
  · refine q_iconst eX12_byteAt_21 ?_
    refine q_retI eX12_byteAt_22 rfl (by decide) (by decide) ?_
    refine PI_ok ?_
    unfold bM
    first
    | exact (if_pos (by omega)).symm
    | exact (if_neg (by omega)).symm
  · refine q_aload_n eX12_byteAt_8 rfl ?_
    refine q_getfield eX12_byteAt_9 gf_X12_62 (hK _ (by decide) (by decide)) (by decide) (mr_44_18 hX) ?_
    refine q_iload_n eX12_byteAt_12 rfl ?_
    refine q_bald eX12_byteAt_13 (hK _ (by decide) (by decide)) (by omega) (by omega) ?_
    rw [show A 55 (i : Int).toNat = sb (tp i) from (ht i (by omega)).1]
    refine q_sipush eX12_byteAt_14 (by decide +kernel) ?_
    refine q_iand255 eX12_byteAt_17 ?_
    rw [sb_mod (ht i (by omega)).2.1 (ht i (by omega)).2.2]
    refine q_goto (tgt := 22) eX12_byteAt_18 (by decide) ?_
    refine q_retI eX12_byteAt_22 rfl (by decide) (by decide) ?_
    refine PI_ok ?_
    unfold bM
    first
    | exact (if_pos (by omega)).symm
    | exact (if_neg (by omega)).symm
set_option maxRecDepth 20000 in
theorem mo_isFigure {x : Int} {F : HF} {A : HA} {al : AL} (hx : InR x) : QE 2 0 0 mX12_isFigure [vI x] F A al (PI (if 48 ≤ x ∧ x ≤ 57 then 1 else 0) F A al) := by
  refine QE.mk (by decide +kernel) (Nat.le_of_ble_eq_true rfl) ?_
  have hx1 := hx.1
  have hx2 := hx.2
  refine q_iload_n eX12_isFigure_0 rfl ?_
  refine q_i2l eX12_isFigure_1 (by first | assumption | exact ⟨by omega, by omega⟩) ?_
  refine q_ldc2 eX12_isFigure_2 kc_X12_223 ?_
  refine q_ldc2 eX12_isFigure_5 kc_X12_225 ?_
  refine q_callSP [vJ (x), vJ (48), vJ (57)] (M1 := mX12_isIn) eX12_isFigure_8 mf_X12_isIn lk_X12_206 (mo_isIn (by exact ⟨by omega, by omega⟩) (by exact ⟨by omega, by omega⟩) (by exact ⟨by omega, by omega⟩)) (by decide) (by decide) (by decide) (Nat.le_of_ble_eq_true rfl) rfl ?_
  refine q_retZ eX12_isFigure_11 rfl (by split; exact Or.inr rfl; exact Or.inl rfl) (by decide) (by decide) ?_
  exact PI_ok rfl
set_option maxRecDepth 20000 in
theorem mo_isSign {x : Int} {F : HF} {A : HA} {al : AL} (hx : InR x) : QE 0 0 0 mX12_isSign [vI x] F A al (PI (sgM x) F A al) := by
  refine QE.mk (by decide +kernel) (Nat.le_of_ble_eq_true rfl) ?_
  refine q_iload_n eX12_isSign_0 rfl ?_
  have yes : (x = 35 ∨ x = 40 ∨ x = 41 ∨ x = 42 ∨ x = 43 ∨ x = 45 ∨ x = 94 ∨ x = 103 ∨ x = 105 ∨ x = 109 ∨ x = 112 ∨ x = 114 ∨ x = 116) → QW mX12_isSign 0 0 0 (PI (sgM x) F A al) 0 0 116 [some (vI x)] [] F A al := fun h => by
    refine q_iconst eX12_isSign_116 ?_
    refine q_retZ eX12_isSign_117 rfl (Or.inr rfl) (by decide) (by decide) ?_
    exact PI_ok (if_pos h).symm
  by_cases c35 : x = 35
  · refine q_lookup (off := 115) (tgt := 116) eX12_isSign_1 hx (by decide) ?_ (by decide) ?_
    · rw [c35]; rfl
    · exact yes (by omega)
  · skip
    by_cases c40 : x = 40
    · refine q_lookup (off := 115) (tgt := 116) eX12_isSign_1 hx (by decide) ?_ (by decide) ?_
      · rw [c40]; rfl
      · exact yes (by omega)
    · skip
      by_cases c41 : x = 41
      · refine q_lookup (off := 115) (tgt := 116) eX12_isSign_1 hx (by decide) ?_ (by decide) ?_
        · rw [c41]; rfl
        · exact yes (by omega)
      · skip
        by_cases c42 : x = 42
        · refine q_lookup (off := 115) (tgt := 116) eX12_isSign_1 hx (by decide) ?_ (by decide) ?_
          · rw [c42]; rfl
          · exact yes (by omega)
        · skip
          by_cases c43 : x = 43
          · refine q_lookup (off := 115) (tgt := 116) eX12_isSign_1 hx (by decide) ?_ (by decide) ?_
            · rw [c43]; rfl
            · exact yes (by omega)
          · skip
            by_cases c45 : x = 45
            · refine q_lookup (off := 115) (tgt := 116) eX12_isSign_1 hx (by decide) ?_ (by decide) ?_
              · rw [c45]; rfl
              · exact yes (by omega)
            · skip
              by_cases c94 : x = 94
              · refine q_lookup (off := 115) (tgt := 116) eX12_isSign_1 hx (by decide) ?_ (by decide) ?_
                · rw [c94]; rfl
                · exact yes (by omega)
              · skip
                by_cases c103 : x = 103
                · refine q_lookup (off := 115) (tgt := 116) eX12_isSign_1 hx (by decide) ?_ (by decide) ?_
                  · rw [c103]; rfl
                  · exact yes (by omega)
                · skip
                  by_cases c105 : x = 105
                  · refine q_lookup (off := 115) (tgt := 116) eX12_isSign_1 hx (by decide) ?_ (by decide) ?_
                    · rw [c105]; rfl
                    · exact yes (by omega)
                  · skip
                    by_cases c109 : x = 109
                    · refine q_lookup (off := 115) (tgt := 116) eX12_isSign_1 hx (by decide) ?_ (by decide) ?_
                      · rw [c109]; rfl
                      · exact yes (by omega)
                    · skip
                      by_cases c112 : x = 112
                      · refine q_lookup (off := 115) (tgt := 116) eX12_isSign_1 hx (by decide) ?_ (by decide) ?_
                        · rw [c112]; rfl
                        · exact yes (by omega)
                      · skip
                        by_cases c114 : x = 114
                        · refine q_lookup (off := 115) (tgt := 116) eX12_isSign_1 hx (by decide) ?_ (by decide) ?_
                          · rw [c114]; rfl
                          · exact yes (by omega)
                        · skip
                          by_cases c116 : x = 116
                          · refine q_lookup (off := 115) (tgt := 116) eX12_isSign_1 hx (by decide) ?_ (by decide) ?_
                            · rw [c116]; rfl
                            · exact yes (by omega)
                          · skip
                            refine q_lookup (off := 117) (tgt := 118) eX12_isSign_1 hx (by decide) ?_ (by decide) ?_
                            · show Op.lookupswitch.offset [(35, 115), (40, 115), (41, 115), (42, 115), (43, 115), (45, 115), (94, 115), (103, 115), (105, 115), (109, 115), (112, 115), (114, 115), (116, 115)] 117 x = 117
                              rw [Op.lookupswitch.offset_cons, if_neg (fun q => c35 q.symm)]
                              rw [Op.lookupswitch.offset_cons, if_neg (fun q => c40 q.symm)]
                              rw [Op.lookupswitch.offset_cons, if_neg (fun q => c41 q.symm)]
                              rw [Op.lookupswitch.offset_cons, if_neg (fun q => c42 q.symm)]
                              rw [Op.lookupswitch.offset_cons, if_neg (fun q => c43 q.symm)]
                              rw [Op.lookupswitch.offset_cons, if_neg (fun q => c45 q.symm)]
                              rw [Op.lookupswitch.offset_cons, if_neg (fun q => c94 q.symm)]
                              rw [Op.lookupswitch.offset_cons, if_neg (fun q => c103 q.symm)]
                              rw [Op.lookupswitch.offset_cons, if_neg (fun q => c105 q.symm)]
                              rw [Op.lookupswitch.offset_cons, if_neg (fun q => c109 q.symm)]
                              rw [Op.lookupswitch.offset_cons, if_neg (fun q => c112 q.symm)]
                              rw [Op.lookupswitch.offset_cons, if_neg (fun q => c114 q.symm)]
                              rw [Op.lookupswitch.offset_cons, if_neg (fun q => c116 q.symm)]
                              rfl
                            · refine q_iconst eX12_isSign_118 ?_
                              refine q_retZ eX12_isSign_119 rfl (Or.inl rfl) (by decide) (by decide) ?_
                              exact PI_ok (if_neg (by omega)).symm

set_option maxRecDepth 20000 in
theorem mo_fine {rs : Nat → Int} {F : HF} {A : HA} {al : AL} (hK : KM al) (h : RDM rs F) (hr : InR (rs 26)) : QE 0 0 0 mX12_fine [vA 44] F A al (PI (if rs 26 = 0 then 1 else 0) F A al) := by
  refine QE.mk (by decide +kernel) (Nat.le_of_ble_eq_true rfl) ?_
  refine q_aload_n eX12_fine_0 rfl ?_
  refine q_getfield eX12_fine_1 gf_X12_252 (hK _ (by decide) (by decide)) (by decide) (h 26 (by decide)) ?_
  refine q_if_ne (tgt := 11) eX12_fine_4 (by decide) hr (fun c4 => ?_) (fun c4 => ?_)
  · refine q_iconst eX12_fine_11 ?_
    refine q_retZ eX12_fine_12 rfl (by first | exact Or.inl rfl | exact Or.inr rfl | assumption) (by decide) (by decide) ?_
    refine PI_ok ?_
    first
    | exact (if_pos (by omega)).symm
    | exact (if_neg (by omega)).symm
  · refine q_iconst eX12_fine_7 ?_
    refine q_goto (tgt := 12) eX12_fine_8 (by decide) ?_
    refine q_retZ eX12_fine_12 rfl (by first | exact Or.inl rfl | exact Or.inr rfl | assumption) (by decide) (by decide) ?_
    refine PI_ok ?_
    first
    | exact (if_pos (by omega)).symm
    | exact (if_neg (by omega)).symm
def chM (b w : Int) (rs : Nat → Int) : Nat → Int := if rs 26 = 0 ∧ b = 0 then upc (upc rs 26 w) 27 (rs 22) else rs
set_option maxRecDepth 20000 in
theorem mo_check {b w : Int} {rs : Nat → Int} {F : HF} {A : HA} {al : AL} (hK : KM al) (h : RDM rs F) (hr : InR (rs 26)) (hb : InR b) (hw : InR w) : QE 1 0 0 mX12_check [vA 44, vI b, vI w] F A al (fun o F' A' al' => o = .inl (some (if (chM b w rs) 26 = 0 then 1 else 0)) ∧ al' = al ∧ A' = A ∧ FOff LQ F F' ∧ RDM (chM b w rs) F') := by
  refine QE.mk (by decide +kernel) (Nat.le_of_ble_eq_true rfl) ?_
  refine q_aload_n eX12_check_0 rfl ?_
  refine q_callVP [] (M1 := mX12_fine) eX12_check_1 mf_X12_fine lk_X12_255 (hK _ (by decide) (by decide)) (mo_fine hK h hr) (by decide) (by decide) (by decide) (Nat.le_of_ble_eq_true rfl) rfl ?_
  refine q_if_eq (tgt := 24) eX12_check_4 (by decide) ir_ite (fun c4 => ?_) (fun c4 => ?_)
  · refine q_aload_n eX12_check_24 rfl ?_
    refine q_callVP [] (M1 := mX12_fine) eX12_check_25 mf_X12_fine lk_X12_255 (hK _ (by decide) (by decide)) ((by first | exact mo_fine hK h hr | exact mo_fine (rs := upc (upc rs 26 w) 27 (rs 22)) hK h.up.up hw)) (by decide) (by decide) (by decide) (Nat.le_of_ble_eq_true rfl) rfl ?_
    refine q_retZ eX12_check_28 rfl (by split; exact Or.inr rfl; exact Or.inl rfl) (by decide) (by decide) ?_
    first
    | (rw [show chM b w rs = rs from if_neg (fun q => i0 c4 q.1)]
       exact ⟨rfl, rfl, rfl, FOff.rfl', h⟩)
    | (rw [show chM b w rs = rs from if_neg (fun q => c8 q.2)]
       exact ⟨rfl, rfl, rfl, FOff.rfl', h⟩)
    | (rw [show chM b w rs = upc (upc rs 26 w) 27 (rs 22) from if_pos ⟨i1 c4, by omega⟩]
       exact ⟨rfl, rfl, rfl, (FOff.up (by decide)).trans (FOff.up (by decide)), h.up.up⟩)
  · refine q_iload_n eX12_check_7 rfl ?_
    refine q_if_ne (tgt := 24) eX12_check_8 (by decide) hb (fun c8 => ?_) (fun c8 => ?_)
    · refine q_aload_n eX12_check_24 rfl ?_
      refine q_callVP [] (M1 := mX12_fine) eX12_check_25 mf_X12_fine lk_X12_255 (hK _ (by decide) (by decide)) ((by first | exact mo_fine hK h hr | exact mo_fine (rs := upc (upc rs 26 w) 27 (rs 22)) hK h.up.up hw)) (by decide) (by decide) (by decide) (Nat.le_of_ble_eq_true rfl) rfl ?_
      refine q_retZ eX12_check_28 rfl (by split; exact Or.inr rfl; exact Or.inl rfl) (by decide) (by decide) ?_
      first
      | (rw [show chM b w rs = rs from if_neg (fun q => i0 c4 q.1)]
         exact ⟨rfl, rfl, rfl, FOff.rfl', h⟩)
      | (rw [show chM b w rs = rs from if_neg (fun q => c8 q.2)]
         exact ⟨rfl, rfl, rfl, FOff.rfl', h⟩)
      | (rw [show chM b w rs = upc (upc rs 26 w) 27 (rs 22) from if_pos ⟨i1 c4, by omega⟩]
         exact ⟨rfl, rfl, rfl, (FOff.up (by decide)).trans (FOff.up (by decide)), h.up.up⟩)
    · refine q_aload_n eX12_check_11 rfl ?_
      refine q_iload_n eX12_check_12 rfl ?_
      refine q_putfield eX12_check_13 pf_X12_252 (hK _ (by decide) (by decide)) (by decide) (FT_i rfl) ?_
      refine q_aload_n eX12_check_16 rfl ?_
      refine q_aload_n eX12_check_17 rfl ?_
      refine q_getfield eX12_check_18 gf_X12_233 (hK _ (by decide) (by decide)) (by decide) (Eq.trans (up2_ne (by decide)) (h 22 (by decide))) ?_
      refine q_putfield eX12_check_21 pf_X12_66 (hK _ (by decide) (by decide)) (by decide) (FT_i rfl) ?_
      refine q_aload_n eX12_check_24 rfl ?_
      refine q_callVP [] (M1 := mX12_fine) eX12_check_25 mf_X12_fine lk_X12_255 (hK _ (by decide) (by decide)) ((by first | exact mo_fine hK h hr | exact mo_fine (rs := upc (upc rs 26 w) 27 (rs 22)) hK h.up.up hw)) (by decide) (by decide) (by decide) (Nat.le_of_ble_eq_true rfl) rfl ?_
      refine q_retZ eX12_check_28 rfl (by split; exact Or.inr rfl; exact Or.inl rfl) (by decide) (by decide) ?_
      first
      | (rw [show chM b w rs = rs from if_neg (fun q => i0 c4 q.1)]
         exact ⟨rfl, rfl, rfl, FOff.rfl', h⟩)
      | (rw [show chM b w rs = rs from if_neg (fun q => c8 q.2)]
         exact ⟨rfl, rfl, rfl, FOff.rfl', h⟩)
      | (rw [show chM b w rs = upc (upc rs 26 w) 27 (rs 22) from if_pos ⟨i1 c4, by omega⟩]
         exact ⟨rfl, rfl, rfl, (FOff.up (by decide)).trans (FOff.up (by decide)), h.up.up⟩)
def skM (n : Nat) (tp : Nat → Int) : Nat → Nat → Nat
  | 0, i => i
  | k + 1, i => if bM n tp i = 32 ∨ bM n tp i = 10 then skM n tp k (i + 1) else i
theorem skM_le {n : Nat} {tp : Nat → Int} : ∀ (k i : Nat), i + k = n → i ≤ skM n tp k i ∧ skM n tp k i ≤ n
  | 0, i, h => ⟨Nat.le_refl _, by show i ≤ n; omega⟩
  | k + 1, i, h => by
    unfold skM
    split
    · have := skM_le (n := n) (tp := tp) k (i + 1) (by omega); omega
    · omega
def fgM (n : Nat) (tp : Nat → Int) : Nat → Nat → Int → Nat × Int
  | 0, i, w => (i, w)
  | k + 1, i, w => if 48 ≤ bM n tp i ∧ bM n tp i ≤ 57 then fgM n tp k (i + 1) (min 1000000 (10 * w + bM n tp i - 48)) else (i, w)
theorem fgM_range {n : Nat} {tp : Nat → Int} : ∀ (k i : Nat) (w : Int), i + k = n → 0 ≤ w → w ≤ 1000000 → i ≤ (fgM n tp k i w).1 ∧ (fgM n tp k i w).1 ≤ n ∧ 0 ≤ (fgM n tp k i w).2 ∧ (fgM n tp k i w).2 ≤ 1000000
  | 0, i, w, h, h1, h2 => ⟨Nat.le_refl _, by show i ≤ n; omega, h1, h2⟩
  | k + 1, i, w, h, h1, h2 => by
    unfold fgM
    split
    · next hc =>
      obtain ⟨a1, a2, a3, a4⟩ := fgM_range (n := n) (tp := tp) k (i + 1) (min 1000000 (10 * w + bM n tp i - 48)) (by omega) (by omega) (by omega)
      exact ⟨by omega, a2, a3, a4⟩
    · exact ⟨Nat.le_refl _, by show i ≤ n; omega, h1, h2⟩
/-- the token from f on -/
def g8M (n : Nat) (tp rs : Nat → Int) (f : Nat) : Nat → Int := if f = n then upc (upc (upc rs 21 f) 22 f) 23 1002 else if 48 ≤ bM n tp f ∧ bM n tp f ≤ 57 then upc (upc (upc (upc rs 22 f) 23 1000) 24 (fgM n tp (n - f) f 0).2) 21 (fgM n tp (n - f) f 0).1 else upc (upc (upc rs 22 f) 23 (if sgM (bM n tp f) = 1 then bM n tp f else 1001)) 21 (f + 1 : Nat)
def gxM (n : Nat) (tp rs : Nat → Int) : Nat → Int := g8M n tp rs (skM n tp (n - (rs 21).toNat) (rs 21).toNat)
set_option maxRecDepth 20000 in
theorem lp_mgo2 {n : Nat} {tp rs : Nat → Int} {F0 : HF} {A : HA} {al : AL} (hK : KM al) (hX0 : MR F0) (ht : TM tp A) (hn : n ≤ 200) (hrs : rs 20 = n) {S : Nat × Int} {c : Int} : ∀ (k i : Nat) (w : Int) (F : HF), i + k = n → 0 ≤ w → w ≤ 1000000 → FOff LQ F0 F → RDM (upc (upc rs 24 w) 21 i) F → fgM n tp k i w = S →
    QW mX12_go 3 0 0 (PRM (upc (upc rs 24 S.2) 21 S.1) F0 A al) 0 0 134 [some (vA 44), some (vI c)] [] F A al := by
  intro k
  induction k with
  | zero =>
    intro i w F hi hw hw2 ho h hS
    have hX := hX0.foff ho (by decide)
    have f21 : F 44 21 = vI i := h 21 (by decide)
    have f20 : F 44 20 = vI n := by rw [← hrs]; exact h 20 (by decide)
    have hb0 : bM n tp i = 0 := if_neg (by omega)
    subst hS
    refine q_aload_n eX12_go_134 rfl ?_
    refine q_aload_n eX12_go_135 rfl ?_
    refine q_getfield eX12_go_136 gf_X12_227 (hK _ (by decide) (by decide)) (by decide) f21 ?_
    refine q_callVP [vI i] (M1 := mX12_byteAt) eX12_go_139 mf_X12_byteAt lk_X12_230 (hK _ (by decide) (by decide)) (mo_byteAt hK hX ht f20 hn (by omega)) (by decide) (by decide) (by decide) (Nat.le_of_ble_eq_true rfl) rfl ?_
    refine q_callSP [vI (bM n tp i)] (M1 := mX12_isFigure) eX12_go_142 mf_X12_isFigure lk_X12_239 (mo_isFigure (by rw [hb0]; exact ⟨by decide, by decide⟩)) (by decide) (by decide) (by decide) (Nat.le_of_ble_eq_true rfl) rfl ?_
    refine q_if_eq (tgt := 189) eX12_go_145 (by decide) ir_ite (fun c145 => ?_) (fun c145 => ?_)
    · refine q_retV eX12_go_189 rfl (by decide) (by decide) ?_
      exact ⟨rfl, rfl, rfl, ho, h⟩
    · exact absurd (i1 c145) (by rw [hb0]; decide)
  | succ k ih =>
    intro i w F hi hw hw2 ho h hS
    have hX := hX0.foff ho (by decide)
    have f21 : F 44 21 = vI i := h 21 (by decide)
    have f24 : F 44 24 = vI w := h 24 (by decide)
    have f20 : F 44 20 = vI n := by rw [← hrs]; exact h 20 (by decide)
    have hb := bM_range ht hn i
    have hst : fgM n tp (k + 1) i w = if 48 ≤ bM n tp i ∧ bM n tp i ≤ 57 then fgM n tp k (i + 1) (min 1000000 (10 * w + bM n tp i - 48)) else (i, w) := rfl
    rw [hst] at hS
    refine q_aload_n eX12_go_134 rfl ?_
    refine q_aload_n eX12_go_135 rfl ?_
    refine q_getfield eX12_go_136 gf_X12_227 (hK _ (by decide) (by decide)) (by decide) (by first | exact f21 | exact Eq.trans (up2_ne (by decide)) f21) ?_
    refine q_callVP [vI i] (M1 := mX12_byteAt) eX12_go_139 mf_X12_byteAt lk_X12_230 (hK _ (by decide) (by decide)) (mo_byteAt hK hX ht f20 hn (by omega)) (by decide) (by decide) (by decide) (Nat.le_of_ble_eq_true rfl) rfl ?_
    refine q_callSP [vI (bM n tp i)] (M1 := mX12_isFigure) eX12_go_142 mf_X12_isFigure lk_X12_239 (mo_isFigure (by exact ⟨by omega, by omega⟩)) (by decide) (by decide) (by decide) (Nat.le_of_ble_eq_true rfl) rfl ?_
    refine q_if_eq (tgt := 189) eX12_go_145 (by decide) ir_ite (fun c145 => ?_) (fun c145 => ?_)
    · refine q_retV eX12_go_189 rfl (by decide) (by decide) ?_
      rw [if_neg (i0 c145)] at hS
      subst hS
      exact ⟨rfl, rfl, rfl, ho, h⟩
    · refine q_aload_n eX12_go_148 rfl ?_
      refine q_ldc eX12_go_149 kc_X12_248 ?_
      refine q_bipush eX12_go_151 (by decide +kernel) ?_
      refine q_aload_n eX12_go_153 rfl ?_
      refine q_getfield eX12_go_154 gf_X12_245 (hK _ (by decide) (by decide)) (by decide) f24 ?_
      refine q_imul eX12_go_157 ?_
      refine q_aload_n eX12_go_158 rfl ?_
      refine q_aload_n eX12_go_159 rfl ?_
      refine q_getfield eX12_go_160 gf_X12_227 (hK _ (by decide) (by decide)) (by decide) (by first | exact f21 | exact Eq.trans (up2_ne (by decide)) f21) ?_
      refine q_callVP [vI i] (M1 := mX12_byteAt) eX12_go_163 mf_X12_byteAt lk_X12_230 (hK _ (by decide) (by decide)) (mo_byteAt hK hX ht f20 hn (by omega)) (by decide) (by decide) (by decide) (Nat.le_of_ble_eq_true rfl) rfl ?_
      refine q_iadd eX12_go_166 ?_
      refine q_bipush eX12_go_167 (by decide +kernel) ?_
      refine q_isub eX12_go_169 ?_
      refine q_callSP [vI 1000000, vI (10 * w + bM n tp i - 48)] (M1 := mJ9_min_7cf53) eX12_go_170 mf_J9_min_7cf53 lk_X12_249 (ev_min (by exact ⟨by decide, by decide⟩) (by exact ⟨by omega, by omega⟩)) (by decide) (by decide) (by decide) (Nat.le_of_ble_eq_true rfl) rfl ?_
      refine q_putfield eX12_go_173 pf_X12_245 (hK _ (by decide) (by decide)) (by decide) (FT_i rfl) ?_
      refine q_aload_n eX12_go_176 rfl ?_
      refine q_dup eX12_go_177 rfl ?_
      refine q_getfield eX12_go_178 gf_X12_227 (hK _ (by decide) (by decide)) (by decide) (by first | exact f21 | exact Eq.trans (up2_ne (by decide)) f21) ?_
      refine q_iconst eX12_go_181 ?_
      refine q_iadd eX12_go_182 ?_
      refine q_putfield eX12_go_183 pf_X12_227 (hK _ (by decide) (by decide)) (by decide) (FT_i rfl) ?_
      refine q_goto (tgt := 134) eX12_go_186 (by decide) ?_
      have hf := i1 c145
      rw [if_pos hf] at hS
      refine ih (i + 1) _ _ (by omega) (by omega) (by omega) ((ho.trans (FOff.up (by decide))).trans (FOff.up (by decide))) ?_ hS
      refine RDM.same (h.up.up) (fun j => ?_)
      unfold upc
      by_cases e10 : j = 21
      · rw [if_pos e10, if_pos e10]; rfl
      · rw [if_neg e10, if_neg e10]
        by_cases e9 : j = 24
        · rw [if_pos e9, if_pos e9]
        · rw [if_neg e9, if_neg e9, if_neg e10, if_neg e9]
set_option maxRecDepth 20000 in
theorem lp_mgo1 {n : Nat} {tp rs : Nat → Int} {F0 : HF} {A : HA} {al : AL} (hK : KM al) (hX0 : MR F0) (ht : TM tp A) (hn : n ≤ 200) (hrs : rs 20 = n) {f : Nat} (hf : f ≤ n) {F : HF} (ho : FOff LQ F0 F) (h : RDM (upc rs 21 f) F) : QW mX12_go 3 0 0 (PRM (g8M n tp rs f) F0 A al) 0 0 50 [some (vA 44), none] [] F A al := by
  have hX := hX0.foff ho (by decide)
  have f21 : F 44 21 = vI f := h 21 (by decide)
  have f20 : F 44 20 = vI n := by rw [← hrs]; exact h 20 (by decide)
  have hb := bM_range ht hn f
  have ho22 : FOff LQ F0 (up2 F 44 22 (vI f)) := ho.trans (FOff.up (by decide))
  have h22 : RDM (upc (upc rs 21 f) 22 f) (up2 F 44 22 (vI f)) := h.up
  have g21 : (up2 F 44 22 (vI f)) 44 21 = vI f := (up2_ne (by decide)).trans f21
  have g20 : (up2 F 44 22 (vI f)) 44 20 = vI n := (up2_ne (by decide)).trans f20
  have hX22 := hX0.foff ho22 (by decide)
  have sgr : InR (sgM (bM n tp f)) := by
    unfold sgM
    split <;> exact ⟨by decide, by decide⟩
  have hsg : sgM (bM n tp f) = 0 ∨ sgM (bM n tp f) = 1 := by
    unfold sgM
    split
    · exact Or.inr rfl
    · exact Or.inl rfl
  refine q_aload_n eX12_go_50 rfl ?_
  refine q_aload_n eX12_go_51 rfl ?_
  refine q_getfield eX12_go_52 gf_X12_227 (hK _ (by decide) (by decide)) (by decide) (by first | exact f21 | exact g21 | exact Eq.trans (up2_ne (by decide)) g21) ?_
  refine q_putfield eX12_go_55 pf_X12_233 (hK _ (by decide) (by decide)) (by decide) (FT_i rfl) ?_
  refine q_aload_n eX12_go_58 rfl ?_
  refine q_getfield eX12_go_59 gf_X12_227 (hK _ (by decide) (by decide)) (by decide) (by first | exact f21 | exact g21 | exact Eq.trans (up2_ne (by decide)) g21) ?_
  refine q_aload_n eX12_go_62 rfl ?_
  refine q_getfield eX12_go_63 gf_X12_220 (hK _ (by decide) (by decide)) (by decide) (by first | exact f20 | exact g20) ?_
  refine q_icmp_ne (tgt := 77) eX12_go_66 (by decide) (by first | assumption | exact ⟨by omega, by omega⟩) (by first | assumption | exact ⟨by omega, by omega⟩) (fun c66 => ?_) (fun c66 => ?_)
  · refine q_aload_n eX12_go_77 rfl ?_
    refine q_aload_n eX12_go_78 rfl ?_
    refine q_getfield eX12_go_79 gf_X12_227 (hK _ (by decide) (by decide)) (by decide) (by first | exact f21 | exact g21 | exact Eq.trans (up2_ne (by decide)) g21) ?_
    refine q_callVP [vI f] (M1 := mX12_byteAt) eX12_go_82 mf_X12_byteAt lk_X12_230 (hK _ (by decide) (by decide)) (mo_byteAt hK hX22 ht g20 hn (by omega)) (by decide) (by decide) (by decide) (Nat.le_of_ble_eq_true rfl) rfl ?_
    refine q_istore_n eX12_go_85 (by decide) rfl ?_
    refine q_iload_n eX12_go_86 rfl ?_
    refine q_callSP [vI (bM n tp f)] (M1 := mX12_isFigure) eX12_go_87 mf_X12_isFigure lk_X12_239 (mo_isFigure (by exact ⟨by omega, by omega⟩)) (by decide) (by decide) (by decide) (Nat.le_of_ble_eq_true rfl) rfl ?_
    refine q_if_ne (tgt := 122) eX12_go_90 (by decide) ir_ite (fun c90 => ?_) (fun c90 => ?_)
    · refine q_aload_n eX12_go_122 rfl ?_
      refine q_sipush eX12_go_123 (by decide +kernel) ?_
      refine q_putfield eX12_go_126 pf_X12_236 (hK _ (by decide) (by decide)) (by decide) (FT_i rfl) ?_
      refine q_aload_n eX12_go_129 rfl ?_
      refine q_iconst eX12_go_130 ?_
      refine q_putfield eX12_go_131 pf_X12_245 (hK _ (by decide) (by decide)) (by decide) (FT_i rfl) ?_
      rw [show g8M n tp rs f = upc (upc (upc (upc rs 22 f) 23 1000) 24 (fgM n tp (n - f) f 0).2) 21 (fgM n tp (n - f) f 0).1 from (if_neg (by omega)).trans (if_pos (i1 c90))]
      refine lp_mgo2 (rs := upc (upc rs 22 f) 23 1000) hK hX0 ht hn (show upc (upc rs 22 f) 23 1000 20 = n from hrs) (n - f) f 0 _ (by omega) (by decide) (by decide) ((ho22.trans (FOff.up (by decide))).trans (FOff.up (by decide))) ?_ rfl
      refine RDM.same (h22.up.up) (fun j => ?_)
      unfold upc
      by_cases e1 : j = 21
      · rw [if_pos e1, if_neg (by omega), if_neg (by omega), if_neg (by omega), if_pos e1]
      · first | rfl | rw [if_neg e1]
        by_cases e2 : j = 24
        · rw [if_pos e2, if_pos e2]
        · rw [if_neg e2, if_neg e2]
          by_cases e3 : j = 23
          · rw [if_pos e3, if_pos e3]
          · rw [if_neg e3, if_neg e3]
            split
            · rfl
            · first | rfl | rw [if_neg e1]
    · refine q_aload_n eX12_go_93 rfl ?_
      refine q_iload_n eX12_go_94 rfl ?_
      refine q_callSP [vI (bM n tp f)] (M1 := mX12_isSign) eX12_go_95 mf_X12_isSign lk_X12_242 (mo_isSign (by exact ⟨by omega, by omega⟩)) (by decide) (by decide) (by decide) (Nat.le_of_ble_eq_true rfl) rfl ?_
      refine q_if_eq (tgt := 105) eX12_go_98 (by decide) sgr (fun c98 => ?_) (fun c98 => ?_)
      · refine q_sipush eX12_go_105 (by decide +kernel) ?_
        refine q_putfield eX12_go_108 pf_X12_236 (hK _ (by decide) (by decide)) (by decide) (FT_i rfl) ?_
        refine q_aload_n eX12_go_111 rfl ?_
        refine q_dup eX12_go_112 rfl ?_
        refine q_getfield eX12_go_113 gf_X12_227 (hK _ (by decide) (by decide)) (by decide) (by first | exact f21 | exact g21 | exact Eq.trans (up2_ne (by decide)) g21) ?_
        refine q_iconst eX12_go_116 ?_
        refine q_iadd eX12_go_117 ?_
        refine q_putfield eX12_go_118 pf_X12_227 (hK _ (by decide) (by decide)) (by decide) (FT_i rfl) ?_
        refine q_retV eX12_go_121 rfl (by decide) (by decide) ?_
        rw [show g8M n tp rs f = upc (upc (upc rs 22 f) 23 (if sgM (bM n tp f) = 1 then bM n tp f else 1001)) 21 (f + 1 : Nat) from (if_neg (by omega)).trans (if_neg (i0 c90))]
        first
        | rw [if_pos (show sgM (bM n tp f) = 1 by omega)]
        | rw [if_neg (show ¬ sgM (bM n tp f) = 1 by omega)]
        refine ⟨rfl, rfl, rfl, (ho22.trans (FOff.up (by decide))).trans (FOff.up (by decide)), RDM.same (h22.up.up) (fun j => ?_)⟩
        unfold upc
        by_cases e1 : j = 21
        · rw [if_pos e1, if_pos e1]; rfl
        · rw [if_neg e1, if_neg e1]
          split
          · rfl
          · first | rfl | rw [if_neg e1]
      · refine q_iload_n eX12_go_101 rfl ?_
        refine q_goto (tgt := 108) eX12_go_102 (by decide) ?_
        refine q_putfield eX12_go_108 pf_X12_236 (hK _ (by decide) (by decide)) (by decide) (FT_i rfl) ?_
        refine q_aload_n eX12_go_111 rfl ?_
        refine q_dup eX12_go_112 rfl ?_
        refine q_getfield eX12_go_113 gf_X12_227 (hK _ (by decide) (by decide)) (by decide) (by first | exact f21 | exact g21 | exact Eq.trans (up2_ne (by decide)) g21) ?_
        refine q_iconst eX12_go_116 ?_
        refine q_iadd eX12_go_117 ?_
        refine q_putfield eX12_go_118 pf_X12_227 (hK _ (by decide) (by decide)) (by decide) (FT_i rfl) ?_
        refine q_retV eX12_go_121 rfl (by decide) (by decide) ?_
        rw [show g8M n tp rs f = upc (upc (upc rs 22 f) 23 (if sgM (bM n tp f) = 1 then bM n tp f else 1001)) 21 (f + 1 : Nat) from (if_neg (by omega)).trans (if_neg (i0 c90))]
        first
        | rw [if_pos (show sgM (bM n tp f) = 1 by omega)]
        | rw [if_neg (show ¬ sgM (bM n tp f) = 1 by omega)]
        refine ⟨rfl, rfl, rfl, (ho22.trans (FOff.up (by decide))).trans (FOff.up (by decide)), RDM.same (h22.up.up) (fun j => ?_)⟩
        unfold upc
        by_cases e1 : j = 21
        · rw [if_pos e1, if_pos e1]; rfl
        · rw [if_neg e1, if_neg e1]
          split
          · rfl
          · first | rfl | rw [if_neg e1]
  · refine q_aload_n eX12_go_69 rfl ?_
    refine q_sipush eX12_go_70 (by decide +kernel) ?_
    refine q_putfield eX12_go_73 pf_X12_236 (hK _ (by decide) (by decide)) (by decide) (FT_i rfl) ?_
    refine q_retV eX12_go_76 rfl (by decide) (by decide) ?_
    have hfn : f = n := by omega
    rw [show g8M n tp rs f = upc (upc (upc rs 21 f) 22 f) 23 1002 from if_pos hfn]
    exact ⟨rfl, rfl, rfl, ho22.trans (FOff.up (by decide)), h22.up⟩
set_option maxRecDepth 20000 in
theorem lp_mgo0 {n : Nat} {tp rs : Nat → Int} {F0 : HF} {A : HA} {al : AL} (hK : KM al) (hX0 : MR F0) (ht : TM tp A) (hn : n ≤ 200) (hrs : rs 20 = n) : ∀ (k i : Nat) (F : HF), i + k = n → FOff LQ F0 F → RDM (upc rs 21 i) F → ∀ f, skM n tp k i = f →
    QW mX12_go 3 0 0 (PRM (g8M n tp rs f) F0 A al) 0 0 0 [some (vA 44), none] [] F A al := by
  intro k
  induction k with
  | zero =>
    intro i F hi ho h f hS
    have hX := hX0.foff ho (by decide)
    have f21 : F 44 21 = vI i := h 21 (by decide)
    have f20 : F 44 20 = vI n := by rw [← hrs]; exact h 20 (by decide)
    have hS' : i = f := hS
    subst hS'
    refine q_aload_n eX12_go_0 rfl ?_
    refine q_getfield eX12_go_1 gf_X12_227 (hK _ (by decide) (by decide)) (by decide) f21 ?_
    refine q_aload_n eX12_go_4 rfl ?_
    refine q_getfield eX12_go_5 gf_X12_220 (hK _ (by decide) (by decide)) (by decide) f20 ?_
    refine q_icmp_ge (tgt := 50) eX12_go_8 (by decide) (by first | assumption | exact ⟨by omega, by omega⟩) (by first | assumption | exact ⟨by omega, by omega⟩) (fun c8 => ?_) (fun c8 => ?_)
    · exact lp_mgo1 hK hX0 ht hn hrs (by omega) ho h
    · exact absurd c8 (by omega)
  | succ k ih =>
    intro i F hi ho h f hS
    have hX := hX0.foff ho (by decide)
    have f21 : F 44 21 = vI i := h 21 (by decide)
    have f20 : F 44 20 = vI n := by rw [← hrs]; exact h 20 (by decide)
    have hb := bM_range ht hn i
    have hst : skM n tp (k + 1) i = if bM n tp i = 32 ∨ bM n tp i = 10 then skM n tp k (i + 1) else i := rfl
    rw [hst] at hS
    refine q_aload_n eX12_go_0 rfl ?_
    refine q_getfield eX12_go_1 gf_X12_227 (hK _ (by decide) (by decide)) (by decide) f21 ?_
    refine q_aload_n eX12_go_4 rfl ?_
    refine q_getfield eX12_go_5 gf_X12_220 (hK _ (by decide) (by decide)) (by decide) f20 ?_
    refine q_icmp_ge (tgt := 50) eX12_go_8 (by decide) (by first | assumption | exact ⟨by omega, by omega⟩) (by first | assumption | exact ⟨by omega, by omega⟩) (fun c8 => ?_) (fun c8 => ?_)
    · exact absurd c8 (by omega)
    · refine q_aload_n eX12_go_11 rfl ?_
      refine q_aload_n eX12_go_12 rfl ?_
      refine q_getfield eX12_go_13 gf_X12_227 (hK _ (by decide) (by decide)) (by decide) f21 ?_
      refine q_callVP [vI i] (M1 := mX12_byteAt) eX12_go_16 mf_X12_byteAt lk_X12_230 (hK _ (by decide) (by decide)) (mo_byteAt hK hX ht f20 hn (by omega)) (by decide) (by decide) (by decide) (Nat.le_of_ble_eq_true rfl) rfl ?_
      refine q_bipush eX12_go_19 (by decide +kernel) ?_
      refine q_icmp_eq (tgt := 37) eX12_go_21 (by decide) (by first | assumption | exact ⟨by omega, by omega⟩) (by first | assumption | exact ⟨by omega, by omega⟩) (fun c21 => ?_) (fun c21 => ?_)
      · refine q_aload_n eX12_go_37 rfl ?_
        refine q_dup eX12_go_38 rfl ?_
        refine q_getfield eX12_go_39 gf_X12_227 (hK _ (by decide) (by decide)) (by decide) f21 ?_
        refine q_iconst eX12_go_42 ?_
        refine q_iadd eX12_go_43 ?_
        refine q_putfield eX12_go_44 pf_X12_227 (hK _ (by decide) (by decide)) (by decide) (FT_i rfl) ?_
        refine q_goto (tgt := 0) eX12_go_47 (by decide) ?_
        rw [if_pos (by omega)] at hS
        refine ih (i + 1) _ (by omega) (ho.trans (FOff.up (by decide))) ?_ f hS
        refine RDM.same h.up (fun j => ?_)
        unfold upc
        by_cases e1 : j = 21
        · rw [if_pos e1, if_pos e1]; rfl
        · rw [if_neg e1, if_neg e1, if_neg e1]
      · refine q_aload_n eX12_go_24 rfl ?_
        refine q_aload_n eX12_go_25 rfl ?_
        refine q_getfield eX12_go_26 gf_X12_227 (hK _ (by decide) (by decide)) (by decide) f21 ?_
        refine q_callVP [vI i] (M1 := mX12_byteAt) eX12_go_29 mf_X12_byteAt lk_X12_230 (hK _ (by decide) (by decide)) (mo_byteAt hK hX ht f20 hn (by omega)) (by decide) (by decide) (by decide) (Nat.le_of_ble_eq_true rfl) rfl ?_
        refine q_bipush eX12_go_32 (by decide +kernel) ?_
        refine q_icmp_ne (tgt := 50) eX12_go_34 (by decide) (by first | assumption | exact ⟨by omega, by omega⟩) (by first | assumption | exact ⟨by omega, by omega⟩) (fun c34 => ?_) (fun c34 => ?_)
        · rw [if_neg (by omega)] at hS
          subst hS
          exact lp_mgo1 hK hX0 ht hn hrs (by omega) ho h
        · refine q_aload_n eX12_go_37 rfl ?_
          refine q_dup eX12_go_38 rfl ?_
          refine q_getfield eX12_go_39 gf_X12_227 (hK _ (by decide) (by decide)) (by decide) f21 ?_
          refine q_iconst eX12_go_42 ?_
          refine q_iadd eX12_go_43 ?_
          refine q_putfield eX12_go_44 pf_X12_227 (hK _ (by decide) (by decide)) (by decide) (FT_i rfl) ?_
          refine q_goto (tgt := 0) eX12_go_47 (by decide) ?_
          rw [if_pos (by omega)] at hS
          refine ih (i + 1) _ (by omega) (ho.trans (FOff.up (by decide))) ?_ f hS
          refine RDM.same h.up (fun j => ?_)
          unfold upc
          by_cases e1 : j = 21
          · rw [if_pos e1, if_pos e1]; rfl
          · rw [if_neg e1, if_neg e1, if_neg e1]
set_option maxRecDepth 20000 in
theorem mo_go {n i : Nat} {tp rs : Nat → Int} {F : HF} {A : HA} {al : AL} (hK : KM al) (hX : MR F) (ht : TM tp A) (hn : n ≤ 200) (hrs : rs 20 = n) (hi : rs 21 = i) (hin : i ≤ n) (h : RDM rs F) : QE 3 0 0 mX12_go [vA 44] F A al (PRM (gxM n tp rs) F A al) := by
  refine QE.mk (by decide +kernel) (Nat.le_of_ble_eq_true rfl) ?_
  refine lp_mgo0 hK hX ht hn hrs (n - i) i F (by omega) FOff.rfl' (h.same (fun j => ?_)) _ ?_
  · unfold upc
    split
    · next he => rw [he, hi]
    · rfl
  · rw [hi, Int.toNat_natCast]
