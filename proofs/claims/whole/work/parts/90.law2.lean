/-! the law: its wrappers: they tell a throw by 1, an answer by 0 and the row -/
def PW (oo : Nat) (R : Option Int) (F : HF) (A : HA) (al : AL) (Q : HF → HA → Prop) : PO := fun o F' A' al' => o = .inl (some (thE R)) ∧ al' = al ∧ (∀ b k, 44 ≤ b → F' b k = F b k) ∧ (∀ b, b = 0 ∨ (44 ≤ b ∧ b < 67) → A' b = A b) ∧ (∃ A1, Q F' A1 ∧ ∀ b, b < 44 → A' b = A1 b) ∧ ∀ v, R = some v → A' oo 0 = wr v
theorem nt_PW {oo : Nat} {R : Option Int} {F : HF} {A : HA} {al : AL} {Q : HF → HA → Prop} : NT (PW oo R F A al Q) := by intro E F A al h; cases h.1
theorem clL_i : Cond.classLink RL 13 eI ∈ TBg := tb_i (List.mem_of_getElem? (i := 689) (by decide +kernel)) (by decide +kernel)
theorem clL_n : Cond.classLink RL 18 eN ∈ TBg := tb_i (List.mem_of_getElem? (i := 841) (by decide +kernel)) (by decide +kernel)
theorem mfw_tell : MFW mL_tell 4 := ⟨⟨by decide +kernel, by decide +kernel⟩, by decide +kernel, by decide +kernel, List.cons_ne_nil _ _⟩
set_option maxRecDepth 20000 in
theorem lw_tell {x0 x1 : Int} {oo dx cx sx D : Nat} {R : Option Int} {Q : HF → HA → Prop} {F : HF} {A : HA} {al : AL} (hK : KX al) (hko : al.1 oo = (2, 1)) (h67 : 67 ≤ oo) (hdx : dx < D) (ev : QE dx cx sx mX11_tell (vA 1 :: [vI x0, vI x1]) F A al (PXR eI R F A al Q)) : QE D cx sx mL_tell [vA 1, vI x0, vI x1, vA oo] F A al (PW oo R F A al Q) := by
  refine QE.mkH (by decide +kernel) (Nat.le_of_ble_eq_true rfl) ?_
  refine q_aload_n dL_tell_0 rfl ?_
  refine q_iconst dL_tell_1 ?_
  refine q_aload_n dL_tell_2 rfl ?_
  refine q_iload_n dL_tell_3 rfl ?_
  refine q_iload_n dL_tell_4 rfl ?_
  refine q_callVH [vI x0, vI x1] (M1 := mX11_tell) (E := eI) rfl (by decide) (by decide) clL_i (by decide) dL_tell_5 mf_X11_tell lk_L_7 (hK 1 (by decide) (by decide)) ev hdx (Nat.le_of_eq (Nat.zero_add _)) (Nat.le_of_eq (Nat.zero_add _)) (Nat.le_of_ble_eq_true rfl) (st := [vI 0, vA oo]) rfl (fun E' F' A' al' h => ?_) (fun v F' A' al' h => ?_)
  · obtain ⟨e1, rfl, e3, e4, e5⟩ := h
    rcases R with _ | a
    · cases e1
      refine ⟨rfl, fun q => ?_⟩
      refine q_ostore dL_tell_13 (by decide) rfl ?_
      refine q_iconst dL_tell_15 ?_
      refine q_retI dL_tell_16 rfl (Nat.le_of_eq (Nat.zero_add _)) (Nat.le_of_eq (Nat.zero_add _)) ?_
      exact ⟨rfl, rfl, e3, fun b hb => e4 b (hb.imp id (fun h => h.1)), ⟨A', e5, fun _ _ => rfl⟩, fun v hv => by cases hv⟩
    · cases e1
  · obtain ⟨e1, rfl, e3, e4, e5⟩ := h
    rcases R with _ | a
    · cases e1
    · cases e1
      refine q_i2lw dL_tell_8 ?_
      refine q_last dL_tell_9 hko (by decide) (by decide) ?_
      refine q_goto (tgt := 17) dL_tell_10 (by decide) ?_
      refine q_iconst dL_tell_17 ?_
      refine q_retI dL_tell_18 rfl (Nat.le_of_eq (Nat.zero_add _)) (Nat.le_of_eq (Nat.zero_add _)) ?_
      refine ⟨rfl, rfl, e3, fun b hb => ?_, ⟨A', e5, fun b hb => up2_row (by omega)⟩, fun v hv => ?_⟩
      · rw [up2_row (by omega)]; exact e4 b (hb.imp id (fun h => h.1))
      · cases hv; exact up2_eq _ _ _ _
theorem mfw_put : MFW mL_put 4 := ⟨⟨by decide +kernel, by decide +kernel⟩, by decide +kernel, by decide +kernel, List.cons_ne_nil _ _⟩
set_option maxRecDepth 20000 in
theorem lw_put {x0 x1 : Int} {oo dx cx sx D : Nat} {R : Option Int} {Q : HF → HA → Prop} {F : HF} {A : HA} {al : AL} (hK : KX al) (hko : al.1 oo = (2, 1)) (h67 : 67 ≤ oo) (hdx : dx < D) (ev : QE dx cx sx mX11_put (vA 1 :: [vI x0, vI x1]) F A al (PXR eN R F A al Q)) : QE D cx sx mL_put [vA 1, vI x0, vI x1, vA oo] F A al (PW oo R F A al Q) := by
  refine QE.mkH (by decide +kernel) (Nat.le_of_ble_eq_true rfl) ?_
  refine q_aload_n dL_put_0 rfl ?_
  refine q_iconst dL_put_1 ?_
  refine q_aload_n dL_put_2 rfl ?_
  refine q_iload_n dL_put_3 rfl ?_
  refine q_iload_n dL_put_4 rfl ?_
  refine q_callVH [vI x0, vI x1] (M1 := mX11_put) (E := eN) rfl (by decide) (by decide) clL_n (by decide) dL_put_5 mf_X11_put lk_L_15 (hK 1 (by decide) (by decide)) ev hdx (Nat.le_of_eq (Nat.zero_add _)) (Nat.le_of_eq (Nat.zero_add _)) (Nat.le_of_ble_eq_true rfl) (st := [vI 0, vA oo]) rfl (fun E' F' A' al' h => ?_) (fun v F' A' al' h => ?_)
  · obtain ⟨e1, rfl, e3, e4, e5⟩ := h
    rcases R with _ | a
    · cases e1
      refine ⟨rfl, fun q => ?_⟩
      refine q_ostore dL_put_13 (by decide) rfl ?_
      refine q_iconst dL_put_15 ?_
      refine q_retI dL_put_16 rfl (Nat.le_of_eq (Nat.zero_add _)) (Nat.le_of_eq (Nat.zero_add _)) ?_
      exact ⟨rfl, rfl, e3, fun b hb => e4 b (hb.imp id (fun h => h.1)), ⟨A', e5, fun _ _ => rfl⟩, fun v hv => by cases hv⟩
    · cases e1
  · obtain ⟨e1, rfl, e3, e4, e5⟩ := h
    rcases R with _ | a
    · cases e1
    · cases e1
      refine q_i2lw dL_put_8 ?_
      refine q_last dL_put_9 hko (by decide) (by decide) ?_
      refine q_goto (tgt := 17) dL_put_10 (by decide) ?_
      refine q_iconst dL_put_17 ?_
      refine q_retI dL_put_18 rfl (Nat.le_of_eq (Nat.zero_add _)) (Nat.le_of_eq (Nat.zero_add _)) ?_
      refine ⟨rfl, rfl, e3, fun b hb => ?_, ⟨A', e5, fun b hb => up2_row (by omega)⟩, fun v hv => ?_⟩
      · rw [up2_row (by omega)]; exact e4 b (hb.imp id (fun h => h.1))
      · cases hv; exact up2_eq _ _ _ _
theorem mfw_count : MFW mL_count 3 := ⟨⟨by decide +kernel, by decide +kernel⟩, by decide +kernel, by decide +kernel, List.cons_ne_nil _ _⟩
set_option maxRecDepth 20000 in
theorem lw_count {x0 : Int} {oo dx cx sx D : Nat} {R : Option Int} {Q : HF → HA → Prop} {F : HF} {A : HA} {al : AL} (hK : KX al) (hko : al.1 oo = (2, 1)) (h67 : 67 ≤ oo) (hdx : dx < D) (ev : QE dx cx sx mX11_count (vA 1 :: [vI x0]) F A al (PXR eN R F A al Q)) : QE D cx sx mL_count [vA 1, vI x0, vA oo] F A al (PW oo R F A al Q) := by
  refine QE.mkH (by decide +kernel) (Nat.le_of_ble_eq_true rfl) ?_
  refine q_aload_n dL_count_0 rfl ?_
  refine q_iconst dL_count_1 ?_
  refine q_aload_n dL_count_2 rfl ?_
  refine q_iload_n dL_count_3 rfl ?_
  refine q_callVH [vI x0] (M1 := mX11_count) (E := eN) rfl (by decide) (by decide) clL_n (by decide) dL_count_4 mf_X11_count lk_L_20 (hK 1 (by decide) (by decide)) ev hdx (Nat.le_of_eq (Nat.zero_add _)) (Nat.le_of_eq (Nat.zero_add _)) (Nat.le_of_ble_eq_true rfl) (st := [vI 0, vA oo]) rfl (fun E' F' A' al' h => ?_) (fun v F' A' al' h => ?_)
  · obtain ⟨e1, rfl, e3, e4, e5⟩ := h
    rcases R with _ | a
    · cases e1
      refine ⟨rfl, fun q => ?_⟩
      refine q_ostore_n dL_count_12 (by decide) rfl ?_
      refine q_iconst dL_count_13 ?_
      refine q_retI dL_count_14 rfl (Nat.le_of_eq (Nat.zero_add _)) (Nat.le_of_eq (Nat.zero_add _)) ?_
      exact ⟨rfl, rfl, e3, fun b hb => e4 b (hb.imp id (fun h => h.1)), ⟨A', e5, fun _ _ => rfl⟩, fun v hv => by cases hv⟩
    · cases e1
  · obtain ⟨e1, rfl, e3, e4, e5⟩ := h
    rcases R with _ | a
    · cases e1
    · cases e1
      refine q_i2lw dL_count_7 ?_
      refine q_last dL_count_8 hko (by decide) (by decide) ?_
      refine q_goto (tgt := 15) dL_count_9 (by decide) ?_
      refine q_iconst dL_count_15 ?_
      refine q_retI dL_count_16 rfl (Nat.le_of_eq (Nat.zero_add _)) (Nat.le_of_eq (Nat.zero_add _)) ?_
      refine ⟨rfl, rfl, e3, fun b hb => ?_, ⟨A', e5, fun b hb => up2_row (by omega)⟩, fun v hv => ?_⟩
      · rw [up2_row (by omega)]; exact e4 b (hb.imp id (fun h => h.1))
      · cases hv; exact up2_eq _ _ _ _
theorem mfw_modulus : MFW mL_modulus 3 := ⟨⟨by decide +kernel, by decide +kernel⟩, by decide +kernel, by decide +kernel, List.cons_ne_nil _ _⟩
set_option maxRecDepth 20000 in
theorem lw_modulus {x0 : Int} {oo dx cx sx D : Nat} {R : Option Int} {Q : HF → HA → Prop} {F : HF} {A : HA} {al : AL} (hK : KX al) (hko : al.1 oo = (2, 1)) (h67 : 67 ≤ oo) (hdx : dx < D) (ev : QE dx cx sx mX11_modulus (vA 1 :: [vI x0]) F A al (PXR eN R F A al Q)) : QE D cx sx mL_modulus [vA 1, vI x0, vA oo] F A al (PW oo R F A al Q) := by
  refine QE.mkH (by decide +kernel) (Nat.le_of_ble_eq_true rfl) ?_
  refine q_aload_n dL_modulus_0 rfl ?_
  refine q_iconst dL_modulus_1 ?_
  refine q_aload_n dL_modulus_2 rfl ?_
  refine q_iload_n dL_modulus_3 rfl ?_
  refine q_callVH [vI x0] (M1 := mX11_modulus) (E := eN) rfl (by decide) (by decide) clL_n (by decide) dL_modulus_4 mf_X11_modulus lk_L_24 (hK 1 (by decide) (by decide)) ev hdx (Nat.le_of_eq (Nat.zero_add _)) (Nat.le_of_eq (Nat.zero_add _)) (Nat.le_of_ble_eq_true rfl) (st := [vI 0, vA oo]) rfl (fun E' F' A' al' h => ?_) (fun v F' A' al' h => ?_)
  · obtain ⟨e1, rfl, e3, e4, e5⟩ := h
    rcases R with _ | a
    · cases e1
      refine ⟨rfl, fun q => ?_⟩
      refine q_ostore_n dL_modulus_12 (by decide) rfl ?_
      refine q_iconst dL_modulus_13 ?_
      refine q_retI dL_modulus_14 rfl (Nat.le_of_eq (Nat.zero_add _)) (Nat.le_of_eq (Nat.zero_add _)) ?_
      exact ⟨rfl, rfl, e3, fun b hb => e4 b (hb.imp id (fun h => h.1)), ⟨A', e5, fun _ _ => rfl⟩, fun v hv => by cases hv⟩
    · cases e1
  · obtain ⟨e1, rfl, e3, e4, e5⟩ := h
    rcases R with _ | a
    · cases e1
    · cases e1
      refine q_i2lw dL_modulus_7 ?_
      refine q_last dL_modulus_8 hko (by decide) (by decide) ?_
      refine q_goto (tgt := 15) dL_modulus_9 (by decide) ?_
      refine q_iconst dL_modulus_15 ?_
      refine q_retI dL_modulus_16 rfl (Nat.le_of_eq (Nat.zero_add _)) (Nat.le_of_eq (Nat.zero_add _)) ?_
      refine ⟨rfl, rfl, e3, fun b hb => ?_, ⟨A', e5, fun b hb => up2_row (by omega)⟩, fun v hv => ?_⟩
      · rw [up2_row (by omega)]; exact e4 b (hb.imp id (fun h => h.1))
      · cases hv; exact up2_eq _ _ _ _
theorem mfw_element : MFW mL_element 5 := ⟨⟨by decide +kernel, by decide +kernel⟩, by decide +kernel, by decide +kernel, List.cons_ne_nil _ _⟩
set_option maxRecDepth 20000 in
theorem lw_element {x0 x1 x2 : Int} {oo dx cx sx D : Nat} {R : Option Int} {Q : HF → HA → Prop} {F : HF} {A : HA} {al : AL} (hK : KX al) (hko : al.1 oo = (2, 1)) (h67 : 67 ≤ oo) (hdx : dx < D) (ev : QE dx cx sx mX11_element (vA 1 :: [vI x0, vI x1, vI x2]) F A al (PXR eN R F A al Q)) : QE D cx sx mL_element [vA 1, vI x0, vI x1, vI x2, vA oo] F A al (PW oo R F A al Q) := by
  refine QE.mkH (by decide +kernel) (Nat.le_of_ble_eq_true rfl) ?_
  refine q_aload dL_element_0 rfl ?_
  refine q_iconst dL_element_2 ?_
  refine q_aload_n dL_element_3 rfl ?_
  refine q_iload_n dL_element_4 rfl ?_
  refine q_iload_n dL_element_5 rfl ?_
  refine q_iload_n dL_element_6 rfl ?_
  refine q_callVH [vI x0, vI x1, vI x2] (M1 := mX11_element) (E := eN) rfl (by decide) (by decide) clL_n (by decide) dL_element_7 mf_X11_element lk_L_27 (hK 1 (by decide) (by decide)) ev hdx (Nat.le_of_eq (Nat.zero_add _)) (Nat.le_of_eq (Nat.zero_add _)) (Nat.le_of_ble_eq_true rfl) (st := [vI 0, vA oo]) rfl (fun E' F' A' al' h => ?_) (fun v F' A' al' h => ?_)
  · obtain ⟨e1, rfl, e3, e4, e5⟩ := h
    rcases R with _ | a
    · cases e1
      refine ⟨rfl, fun q => ?_⟩
      refine q_ostore dL_element_15 (by decide) rfl ?_
      refine q_iconst dL_element_17 ?_
      refine q_retI dL_element_18 rfl (Nat.le_of_eq (Nat.zero_add _)) (Nat.le_of_eq (Nat.zero_add _)) ?_
      exact ⟨rfl, rfl, e3, fun b hb => e4 b (hb.imp id (fun h => h.1)), ⟨A', e5, fun _ _ => rfl⟩, fun v hv => by cases hv⟩
    · cases e1
  · obtain ⟨e1, rfl, e3, e4, e5⟩ := h
    rcases R with _ | a
    · cases e1
    · cases e1
      refine q_i2lw dL_element_10 ?_
      refine q_last dL_element_11 hko (by decide) (by decide) ?_
      refine q_goto (tgt := 19) dL_element_12 (by decide) ?_
      refine q_iconst dL_element_19 ?_
      refine q_retI dL_element_20 rfl (Nat.le_of_eq (Nat.zero_add _)) (Nat.le_of_eq (Nat.zero_add _)) ?_
      refine ⟨rfl, rfl, e3, fun b hb => ?_, ⟨A', e5, fun b hb => up2_row (by omega)⟩, fun v hv => ?_⟩
      · rw [up2_row (by omega)]; exact e4 b (hb.imp id (fun h => h.1))
      · cases hv; exact up2_eq _ _ _ _
theorem mfw_of : MFW mL_of 4 := ⟨⟨by decide +kernel, by decide +kernel⟩, by decide +kernel, by decide +kernel, List.cons_ne_nil _ _⟩
set_option maxRecDepth 20000 in
theorem lw_of {x0 x1 : Int} {oo dx cx sx D : Nat} {R : Option Int} {Q : HF → HA → Prop} {F : HF} {A : HA} {al : AL} (hK : KX al) (hko : al.1 oo = (2, 1)) (h67 : 67 ≤ oo) (hdx : dx < D) (ev : QE dx cx sx mX11_of (vA 1 :: [vI x0, vI x1]) F A al (PXR eN R F A al Q)) : QE D cx sx mL_of [vA 1, vI x0, vI x1, vA oo] F A al (PW oo R F A al Q) := by
  refine QE.mkH (by decide +kernel) (Nat.le_of_ble_eq_true rfl) ?_
  refine q_aload_n dL_of_0 rfl ?_
  refine q_iconst dL_of_1 ?_
  refine q_aload_n dL_of_2 rfl ?_
  refine q_iload_n dL_of_3 rfl ?_
  refine q_iload_n dL_of_4 rfl ?_
  refine q_callVH [vI x0, vI x1] (M1 := mX11_of) (E := eN) rfl (by decide) (by decide) clL_n (by decide) dL_of_5 mf_X11_of lk_L_31 (hK 1 (by decide) (by decide)) ev hdx (Nat.le_of_eq (Nat.zero_add _)) (Nat.le_of_eq (Nat.zero_add _)) (Nat.le_of_ble_eq_true rfl) (st := [vI 0, vA oo]) rfl (fun E' F' A' al' h => ?_) (fun v F' A' al' h => ?_)
  · obtain ⟨e1, rfl, e3, e4, e5⟩ := h
    rcases R with _ | a
    · cases e1
      refine ⟨rfl, fun q => ?_⟩
      refine q_ostore dL_of_13 (by decide) rfl ?_
      refine q_iconst dL_of_15 ?_
      refine q_retI dL_of_16 rfl (Nat.le_of_eq (Nat.zero_add _)) (Nat.le_of_eq (Nat.zero_add _)) ?_
      exact ⟨rfl, rfl, e3, fun b hb => e4 b (hb.imp id (fun h => h.1)), ⟨A', e5, fun _ _ => rfl⟩, fun v hv => by cases hv⟩
    · cases e1
  · obtain ⟨e1, rfl, e3, e4, e5⟩ := h
    rcases R with _ | a
    · cases e1
    · cases e1
      refine q_i2lw dL_of_8 ?_
      refine q_last dL_of_9 hko (by decide) (by decide) ?_
      refine q_goto (tgt := 17) dL_of_10 (by decide) ?_
      refine q_iconst dL_of_17 ?_
      refine q_retI dL_of_18 rfl (Nat.le_of_eq (Nat.zero_add _)) (Nat.le_of_eq (Nat.zero_add _)) ?_
      refine ⟨rfl, rfl, e3, fun b hb => ?_, ⟨A', e5, fun b hb => up2_row (by omega)⟩, fun v hv => ?_⟩
      · rw [up2_row (by omega)]; exact e4 b (hb.imp id (fun h => h.1))
      · cases hv; exact up2_eq _ _ _ _
theorem mfw_digit : MFW mL_digit 4 := ⟨⟨by decide +kernel, by decide +kernel⟩, by decide +kernel, by decide +kernel, List.cons_ne_nil _ _⟩
set_option maxRecDepth 20000 in
theorem lw_digit {x0 x1 : Int} {oo dx cx sx D : Nat} {R : Option Int} {Q : HF → HA → Prop} {F : HF} {A : HA} {al : AL} (hK : KX al) (hko : al.1 oo = (2, 1)) (h67 : 67 ≤ oo) (hdx : dx < D) (ev : QE dx cx sx mX11_digit (vA 1 :: [vI x0, vI x1]) F A al (PXR eN R F A al Q)) : QE D cx sx mL_digit [vA 1, vI x0, vI x1, vA oo] F A al (PW oo R F A al Q) := by
  refine QE.mkH (by decide +kernel) (Nat.le_of_ble_eq_true rfl) ?_
  refine q_aload_n dL_digit_0 rfl ?_
  refine q_iconst dL_digit_1 ?_
  refine q_aload_n dL_digit_2 rfl ?_
  refine q_iload_n dL_digit_3 rfl ?_
  refine q_iload_n dL_digit_4 rfl ?_
  refine q_callVH [vI x0, vI x1] (M1 := mX11_digit) (E := eN) rfl (by decide) (by decide) clL_n (by decide) dL_digit_5 mf_X11_digit lk_L_34 (hK 1 (by decide) (by decide)) ev hdx (Nat.le_of_eq (Nat.zero_add _)) (Nat.le_of_eq (Nat.zero_add _)) (Nat.le_of_ble_eq_true rfl) (st := [vI 0, vA oo]) rfl (fun E' F' A' al' h => ?_) (fun v F' A' al' h => ?_)
  · obtain ⟨e1, rfl, e3, e4, e5⟩ := h
    rcases R with _ | a
    · cases e1
      refine ⟨rfl, fun q => ?_⟩
      refine q_ostore dL_digit_13 (by decide) rfl ?_
      refine q_iconst dL_digit_15 ?_
      refine q_retI dL_digit_16 rfl (Nat.le_of_eq (Nat.zero_add _)) (Nat.le_of_eq (Nat.zero_add _)) ?_
      exact ⟨rfl, rfl, e3, fun b hb => e4 b (hb.imp id (fun h => h.1)), ⟨A', e5, fun _ _ => rfl⟩, fun v hv => by cases hv⟩
    · cases e1
  · obtain ⟨e1, rfl, e3, e4, e5⟩ := h
    rcases R with _ | a
    · cases e1
    · cases e1
      refine q_i2lw dL_digit_8 ?_
      refine q_last dL_digit_9 hko (by decide) (by decide) ?_
      refine q_goto (tgt := 17) dL_digit_10 (by decide) ?_
      refine q_iconst dL_digit_17 ?_
      refine q_retI dL_digit_18 rfl (Nat.le_of_eq (Nat.zero_add _)) (Nat.le_of_eq (Nat.zero_add _)) ?_
      refine ⟨rfl, rfl, e3, fun b hb => ?_, ⟨A', e5, fun b hb => up2_row (by omega)⟩, fun v hv => ?_⟩
      · rw [up2_row (by omega)]; exact e4 b (hb.imp id (fun h => h.1))
      · cases hv; exact up2_eq _ _ _ _
theorem mfw_whole : MFW mL_whole 6 := ⟨⟨by decide +kernel, by decide +kernel⟩, by decide +kernel, by decide +kernel, List.cons_ne_nil _ _⟩
set_option maxRecDepth 20000 in
theorem lw_whole {x0 x1 x2 x3 : Int} {oo dx cx sx D : Nat} {R : Option Int} {Q : HF → HA → Prop} {F : HF} {A : HA} {al : AL} (hK : KX al) (hko : al.1 oo = (2, 1)) (h67 : 67 ≤ oo) (hdx : dx < D) (ev : QE dx cx sx mX11_whole (vA 1 :: [vI x0, vI x1, vI x2, vI x3]) F A al (PXR eN R F A al Q)) : QE D cx sx mL_whole [vA 1, vI x0, vI x1, vI x2, vI x3, vA oo] F A al (PW oo R F A al Q) := by
  refine QE.mkH (by decide +kernel) (Nat.le_of_ble_eq_true rfl) ?_
  refine q_aload dL_whole_0 rfl ?_
  refine q_iconst dL_whole_2 ?_
  refine q_aload_n dL_whole_3 rfl ?_
  refine q_iload_n dL_whole_4 rfl ?_
  refine q_iload_n dL_whole_5 rfl ?_
  refine q_iload_n dL_whole_6 rfl ?_
  refine q_iload dL_whole_7 rfl ?_
  refine q_callVH [vI x0, vI x1, vI x2, vI x3] (M1 := mX11_whole) (E := eN) rfl (by decide) (by decide) clL_n (by decide) dL_whole_9 mf_X11_whole lk_L_37 (hK 1 (by decide) (by decide)) ev hdx (Nat.le_of_eq (Nat.zero_add _)) (Nat.le_of_eq (Nat.zero_add _)) (Nat.le_of_ble_eq_true rfl) (st := [vI 0, vA oo]) rfl (fun E' F' A' al' h => ?_) (fun v F' A' al' h => ?_)
  · obtain ⟨e1, rfl, e3, e4, e5⟩ := h
    rcases R with _ | a
    · cases e1
      refine ⟨rfl, fun q => ?_⟩
      refine q_ostore dL_whole_17 (by decide) rfl ?_
      refine q_iconst dL_whole_19 ?_
      refine q_retI dL_whole_20 rfl (Nat.le_of_eq (Nat.zero_add _)) (Nat.le_of_eq (Nat.zero_add _)) ?_
      exact ⟨rfl, rfl, e3, fun b hb => e4 b (hb.imp id (fun h => h.1)), ⟨A', e5, fun _ _ => rfl⟩, fun v hv => by cases hv⟩
    · cases e1
  · obtain ⟨e1, rfl, e3, e4, e5⟩ := h
    rcases R with _ | a
    · cases e1
    · cases e1
      refine q_i2lw dL_whole_12 ?_
      refine q_last dL_whole_13 hko (by decide) (by decide) ?_
      refine q_goto (tgt := 21) dL_whole_14 (by decide) ?_
      refine q_iconst dL_whole_21 ?_
      refine q_retI dL_whole_22 rfl (Nat.le_of_eq (Nat.zero_add _)) (Nat.le_of_eq (Nat.zero_add _)) ?_
      refine ⟨rfl, rfl, e3, fun b hb => ?_, ⟨A', e5, fun b hb => up2_row (by omega)⟩, fun v hv => ?_⟩
      · rw [up2_row (by omega)]; exact e4 b (hb.imp id (fun h => h.1))
      · cases hv; exact up2_eq _ _ _ _
theorem mfw_sum : MFW mL_sum 4 := ⟨⟨by decide +kernel, by decide +kernel⟩, by decide +kernel, by decide +kernel, List.cons_ne_nil _ _⟩
set_option maxRecDepth 20000 in
theorem lw_sum {x0 x1 : Int} {oo dx cx sx D : Nat} {R : Option Int} {Q : HF → HA → Prop} {F : HF} {A : HA} {al : AL} (hK : KX al) (hko : al.1 oo = (2, 1)) (h67 : 67 ≤ oo) (hdx : dx < D) (ev : QE dx cx sx mX11_sum (vA 1 :: [vI x0, vI x1]) F A al (PXR eN R F A al Q)) : QE D cx sx mL_sum [vA 1, vI x0, vI x1, vA oo] F A al (PW oo R F A al Q) := by
  refine QE.mkH (by decide +kernel) (Nat.le_of_ble_eq_true rfl) ?_
  refine q_aload_n dL_sum_0 rfl ?_
  refine q_iconst dL_sum_1 ?_
  refine q_aload_n dL_sum_2 rfl ?_
  refine q_iload_n dL_sum_3 rfl ?_
  refine q_iload_n dL_sum_4 rfl ?_
  refine q_callVH [vI x0, vI x1] (M1 := mX11_sum) (E := eN) rfl (by decide) (by decide) clL_n (by decide) dL_sum_5 mf_X11_sum lk_L_41 (hK 1 (by decide) (by decide)) ev hdx (Nat.le_of_eq (Nat.zero_add _)) (Nat.le_of_eq (Nat.zero_add _)) (Nat.le_of_ble_eq_true rfl) (st := [vI 0, vA oo]) rfl (fun E' F' A' al' h => ?_) (fun v F' A' al' h => ?_)
  · obtain ⟨e1, rfl, e3, e4, e5⟩ := h
    rcases R with _ | a
    · cases e1
      refine ⟨rfl, fun q => ?_⟩
      refine q_ostore dL_sum_13 (by decide) rfl ?_
      refine q_iconst dL_sum_15 ?_
      refine q_retI dL_sum_16 rfl (Nat.le_of_eq (Nat.zero_add _)) (Nat.le_of_eq (Nat.zero_add _)) ?_
      exact ⟨rfl, rfl, e3, fun b hb => e4 b (hb.imp id (fun h => h.1)), ⟨A', e5, fun _ _ => rfl⟩, fun v hv => by cases hv⟩
    · cases e1
  · obtain ⟨e1, rfl, e3, e4, e5⟩ := h
    rcases R with _ | a
    · cases e1
    · cases e1
      refine q_i2lw dL_sum_8 ?_
      refine q_last dL_sum_9 hko (by decide) (by decide) ?_
      refine q_goto (tgt := 17) dL_sum_10 (by decide) ?_
      refine q_iconst dL_sum_17 ?_
      refine q_retI dL_sum_18 rfl (Nat.le_of_eq (Nat.zero_add _)) (Nat.le_of_eq (Nat.zero_add _)) ?_
      refine ⟨rfl, rfl, e3, fun b hb => ?_, ⟨A', e5, fun b hb => up2_row (by omega)⟩, fun v hv => ?_⟩
      · rw [up2_row (by omega)]; exact e4 b (hb.imp id (fun h => h.1))
      · cases hv; exact up2_eq _ _ _ _
theorem mfw_roots : MFW mL_roots 5 := ⟨⟨by decide +kernel, by decide +kernel⟩, by decide +kernel, by decide +kernel, List.cons_ne_nil _ _⟩
set_option maxRecDepth 20000 in
theorem lw_roots {x0 x1 x2 : Int} {oo dx cx sx D : Nat} {R : Option Int} {Q : HF → HA → Prop} {F : HF} {A : HA} {al : AL} (hK : KX al) (hko : al.1 oo = (2, 1)) (h67 : 67 ≤ oo) (hdx : dx < D) (ev : QE dx cx sx mX11_roots (vA 1 :: [vI x0, vI x1, vI x2]) F A al (PXR eN R F A al Q)) : QE D cx sx mL_roots [vA 1, vI x0, vI x1, vI x2, vA oo] F A al (PW oo R F A al Q) := by
  refine QE.mkH (by decide +kernel) (Nat.le_of_ble_eq_true rfl) ?_
  refine q_aload dL_roots_0 rfl ?_
  refine q_iconst dL_roots_2 ?_
  refine q_aload_n dL_roots_3 rfl ?_
  refine q_iload_n dL_roots_4 rfl ?_
  refine q_iload_n dL_roots_5 rfl ?_
  refine q_iload_n dL_roots_6 rfl ?_
  refine q_callVH [vI x0, vI x1, vI x2] (M1 := mX11_roots) (E := eN) rfl (by decide) (by decide) clL_n (by decide) dL_roots_7 mf_X11_roots lk_L_44 (hK 1 (by decide) (by decide)) ev hdx (Nat.le_of_eq (Nat.zero_add _)) (Nat.le_of_eq (Nat.zero_add _)) (Nat.le_of_ble_eq_true rfl) (st := [vI 0, vA oo]) rfl (fun E' F' A' al' h => ?_) (fun v F' A' al' h => ?_)
  · obtain ⟨e1, rfl, e3, e4, e5⟩ := h
    rcases R with _ | a
    · cases e1
      refine ⟨rfl, fun q => ?_⟩
      refine q_ostore dL_roots_15 (by decide) rfl ?_
      refine q_iconst dL_roots_17 ?_
      refine q_retI dL_roots_18 rfl (Nat.le_of_eq (Nat.zero_add _)) (Nat.le_of_eq (Nat.zero_add _)) ?_
      exact ⟨rfl, rfl, e3, fun b hb => e4 b (hb.imp id (fun h => h.1)), ⟨A', e5, fun _ _ => rfl⟩, fun v hv => by cases hv⟩
    · cases e1
  · obtain ⟨e1, rfl, e3, e4, e5⟩ := h
    rcases R with _ | a
    · cases e1
    · cases e1
      refine q_i2lw dL_roots_10 ?_
      refine q_last dL_roots_11 hko (by decide) (by decide) ?_
      refine q_goto (tgt := 19) dL_roots_12 (by decide) ?_
      refine q_iconst dL_roots_19 ?_
      refine q_retI dL_roots_20 rfl (Nat.le_of_eq (Nat.zero_add _)) (Nat.le_of_eq (Nat.zero_add _)) ?_
      refine ⟨rfl, rfl, e3, fun b hb => ?_, ⟨A', e5, fun b hb => up2_row (by omega)⟩, fun v hv => ?_⟩
      · rw [up2_row (by omega)]; exact e4 b (hb.imp id (fun h => h.1))
      · cases hv; exact up2_eq _ _ _ _
theorem mfw_zeros : MFW mL_zeros 4 := ⟨⟨by decide +kernel, by decide +kernel⟩, by decide +kernel, by decide +kernel, List.cons_ne_nil _ _⟩
set_option maxRecDepth 20000 in
theorem lw_zeros {x0 x1 : Int} {oo dx cx sx D : Nat} {R : Option Int} {Q : HF → HA → Prop} {F : HF} {A : HA} {al : AL} (hK : KX al) (hko : al.1 oo = (2, 1)) (h67 : 67 ≤ oo) (hdx : dx < D) (ev : QE dx cx sx mX11_zeros (vA 1 :: [vI x0, vI x1]) F A al (PXR eN R F A al Q)) : QE D cx sx mL_zeros [vA 1, vI x0, vI x1, vA oo] F A al (PW oo R F A al Q) := by
  refine QE.mkH (by decide +kernel) (Nat.le_of_ble_eq_true rfl) ?_
  refine q_aload_n dL_zeros_0 rfl ?_
  refine q_iconst dL_zeros_1 ?_
  refine q_aload_n dL_zeros_2 rfl ?_
  refine q_iload_n dL_zeros_3 rfl ?_
  refine q_iload_n dL_zeros_4 rfl ?_
  refine q_callVH [vI x0, vI x1] (M1 := mX11_zeros) (E := eN) rfl (by decide) (by decide) clL_n (by decide) dL_zeros_5 mf_X11_zeros lk_L_47 (hK 1 (by decide) (by decide)) ev hdx (Nat.le_of_eq (Nat.zero_add _)) (Nat.le_of_eq (Nat.zero_add _)) (Nat.le_of_ble_eq_true rfl) (st := [vI 0, vA oo]) rfl (fun E' F' A' al' h => ?_) (fun v F' A' al' h => ?_)
  · obtain ⟨e1, rfl, e3, e4, e5⟩ := h
    rcases R with _ | a
    · cases e1
      refine ⟨rfl, fun q => ?_⟩
      refine q_ostore dL_zeros_13 (by decide) rfl ?_
      refine q_iconst dL_zeros_15 ?_
      refine q_retI dL_zeros_16 rfl (Nat.le_of_eq (Nat.zero_add _)) (Nat.le_of_eq (Nat.zero_add _)) ?_
      exact ⟨rfl, rfl, e3, fun b hb => e4 b (hb.imp id (fun h => h.1)), ⟨A', e5, fun _ _ => rfl⟩, fun v hv => by cases hv⟩
    · cases e1
  · obtain ⟨e1, rfl, e3, e4, e5⟩ := h
    rcases R with _ | a
    · cases e1
    · cases e1
      refine q_i2lw dL_zeros_8 ?_
      refine q_last dL_zeros_9 hko (by decide) (by decide) ?_
      refine q_goto (tgt := 17) dL_zeros_10 (by decide) ?_
      refine q_iconst dL_zeros_17 ?_
      refine q_retI dL_zeros_18 rfl (Nat.le_of_eq (Nat.zero_add _)) (Nat.le_of_eq (Nat.zero_add _)) ?_
      refine ⟨rfl, rfl, e3, fun b hb => ?_, ⟨A', e5, fun b hb => up2_row (by omega)⟩, fun v hv => ?_⟩
      · rw [up2_row (by omega)]; exact e4 b (hb.imp id (fun h => h.1))
      · cases hv; exact up2_eq _ _ _ _
theorem mfw_within : MFW mL_within 4 := ⟨⟨by decide +kernel, by decide +kernel⟩, by decide +kernel, by decide +kernel, List.cons_ne_nil _ _⟩
set_option maxRecDepth 20000 in
theorem lw_within {x0 x1 : Int} {oo dx cx sx D : Nat} {R : Option Int} {Q : HF → HA → Prop} {F : HF} {A : HA} {al : AL} (hK : KX al) (hko : al.1 oo = (2, 1)) (h67 : 67 ≤ oo) (hdx : dx < D) (ev : QE dx cx sx mX11_within (vA 1 :: [vI x0, vI x1]) F A al (PXR eN R F A al Q)) : QE D cx sx mL_within [vA 1, vI x0, vI x1, vA oo] F A al (PW oo R F A al Q) := by
  refine QE.mkH (by decide +kernel) (Nat.le_of_ble_eq_true rfl) ?_
  refine q_aload_n dL_within_0 rfl ?_
  refine q_iconst dL_within_1 ?_
  refine q_aload_n dL_within_2 rfl ?_
  refine q_iload_n dL_within_3 rfl ?_
  refine q_iload_n dL_within_4 rfl ?_
  refine q_callVH [vI x0, vI x1] (M1 := mX11_within) (E := eN) rfl (by decide) (by decide) clL_n (by decide) dL_within_5 mf_X11_within lk_L_50 (hK 1 (by decide) (by decide)) ev hdx (Nat.le_of_eq (Nat.zero_add _)) (Nat.le_of_eq (Nat.zero_add _)) (Nat.le_of_ble_eq_true rfl) (st := [vI 0, vA oo]) rfl (fun E' F' A' al' h => ?_) (fun v F' A' al' h => ?_)
  · obtain ⟨e1, rfl, e3, e4, e5⟩ := h
    rcases R with _ | a
    · cases e1
      refine ⟨rfl, fun q => ?_⟩
      refine q_ostore dL_within_13 (by decide) rfl ?_
      refine q_iconst dL_within_15 ?_
      refine q_retI dL_within_16 rfl (Nat.le_of_eq (Nat.zero_add _)) (Nat.le_of_eq (Nat.zero_add _)) ?_
      exact ⟨rfl, rfl, e3, fun b hb => e4 b (hb.imp id (fun h => h.1)), ⟨A', e5, fun _ _ => rfl⟩, fun v hv => by cases hv⟩
    · cases e1
  · obtain ⟨e1, rfl, e3, e4, e5⟩ := h
    rcases R with _ | a
    · cases e1
    · cases e1
      refine q_i2lw dL_within_8 ?_
      refine q_last dL_within_9 hko (by decide) (by decide) ?_
      refine q_goto (tgt := 17) dL_within_10 (by decide) ?_
      refine q_iconst dL_within_17 ?_
      refine q_retI dL_within_18 rfl (Nat.le_of_eq (Nat.zero_add _)) (Nat.le_of_eq (Nat.zero_add _)) ?_
      refine ⟨rfl, rfl, e3, fun b hb => ?_, ⟨A', e5, fun b hb => up2_row (by omega)⟩, fun v hv => ?_⟩
      · rw [up2_row (by omega)]; exact e4 b (hb.imp id (fun h => h.1))
      · cases hv; exact up2_eq _ _ _ _
theorem mfw_units : MFW mL_units 3 := ⟨⟨by decide +kernel, by decide +kernel⟩, by decide +kernel, by decide +kernel, List.cons_ne_nil _ _⟩
set_option maxRecDepth 20000 in
theorem lw_units {x0 : Int} {oo dx cx sx D : Nat} {R : Option Int} {Q : HF → HA → Prop} {F : HF} {A : HA} {al : AL} (hK : KX al) (hko : al.1 oo = (2, 1)) (h67 : 67 ≤ oo) (hdx : dx < D) (ev : QE dx cx sx mX11_units (vA 1 :: [vI x0]) F A al (PXR eN R F A al Q)) : QE D cx sx mL_units [vA 1, vI x0, vA oo] F A al (PW oo R F A al Q) := by
  refine QE.mkH (by decide +kernel) (Nat.le_of_ble_eq_true rfl) ?_
  refine q_aload_n dL_units_0 rfl ?_
  refine q_iconst dL_units_1 ?_
  refine q_aload_n dL_units_2 rfl ?_
  refine q_iload_n dL_units_3 rfl ?_
  refine q_callVH [vI x0] (M1 := mX11_units) (E := eN) rfl (by decide) (by decide) clL_n (by decide) dL_units_4 mf_X11_units lk_L_53 (hK 1 (by decide) (by decide)) ev hdx (Nat.le_of_eq (Nat.zero_add _)) (Nat.le_of_eq (Nat.zero_add _)) (Nat.le_of_ble_eq_true rfl) (st := [vI 0, vA oo]) rfl (fun E' F' A' al' h => ?_) (fun v F' A' al' h => ?_)
  · obtain ⟨e1, rfl, e3, e4, e5⟩ := h
    rcases R with _ | a
    · cases e1
      refine ⟨rfl, fun q => ?_⟩
      refine q_ostore_n dL_units_12 (by decide) rfl ?_
      refine q_iconst dL_units_13 ?_
      refine q_retI dL_units_14 rfl (Nat.le_of_eq (Nat.zero_add _)) (Nat.le_of_eq (Nat.zero_add _)) ?_
      exact ⟨rfl, rfl, e3, fun b hb => e4 b (hb.imp id (fun h => h.1)), ⟨A', e5, fun _ _ => rfl⟩, fun v hv => by cases hv⟩
    · cases e1
  · obtain ⟨e1, rfl, e3, e4, e5⟩ := h
    rcases R with _ | a
    · cases e1
    · cases e1
      refine q_i2lw dL_units_7 ?_
      refine q_last dL_units_8 hko (by decide) (by decide) ?_
      refine q_goto (tgt := 15) dL_units_9 (by decide) ?_
      refine q_iconst dL_units_15 ?_
      refine q_retI dL_units_16 rfl (Nat.le_of_eq (Nat.zero_add _)) (Nat.le_of_eq (Nat.zero_add _)) ?_
      refine ⟨rfl, rfl, e3, fun b hb => ?_, ⟨A', e5, fun b hb => up2_row (by omega)⟩, fun v hv => ?_⟩
      · rw [up2_row (by omega)]; exact e4 b (hb.imp id (fun h => h.1))
      · cases hv; exact up2_eq _ _ _ _
theorem mfw_many : MFW mL_many 4 := ⟨⟨by decide +kernel, by decide +kernel⟩, by decide +kernel, by decide +kernel, List.cons_ne_nil _ _⟩
set_option maxRecDepth 20000 in
theorem lw_many {x0 x1 : Int} {oo dx cx sx D : Nat} {R : Option Int} {Q : HF → HA → Prop} {F : HF} {A : HA} {al : AL} (hK : KX al) (hko : al.1 oo = (2, 1)) (h67 : 67 ≤ oo) (hdx : dx < D) (ev : QE dx cx sx mX11_many (vA 1 :: [vI x0, vI x1]) F A al (PXR eN R F A al Q)) : QE D cx sx mL_many [vA 1, vI x0, vI x1, vA oo] F A al (PW oo R F A al Q) := by
  refine QE.mkH (by decide +kernel) (Nat.le_of_ble_eq_true rfl) ?_
  refine q_aload_n dL_many_0 rfl ?_
  refine q_iconst dL_many_1 ?_
  refine q_aload_n dL_many_2 rfl ?_
  refine q_iload_n dL_many_3 rfl ?_
  refine q_iload_n dL_many_4 rfl ?_
  refine q_callVH [vI x0, vI x1] (M1 := mX11_many) (E := eN) rfl (by decide) (by decide) clL_n (by decide) dL_many_5 mf_X11_many lk_L_56 (hK 1 (by decide) (by decide)) ev hdx (Nat.le_of_eq (Nat.zero_add _)) (Nat.le_of_eq (Nat.zero_add _)) (Nat.le_of_ble_eq_true rfl) (st := [vI 0, vA oo]) rfl (fun E' F' A' al' h => ?_) (fun v F' A' al' h => ?_)
  · obtain ⟨e1, rfl, e3, e4, e5⟩ := h
    rcases R with _ | a
    · cases e1
      refine ⟨rfl, fun q => ?_⟩
      refine q_ostore dL_many_13 (by decide) rfl ?_
      refine q_iconst dL_many_15 ?_
      refine q_retI dL_many_16 rfl (Nat.le_of_eq (Nat.zero_add _)) (Nat.le_of_eq (Nat.zero_add _)) ?_
      exact ⟨rfl, rfl, e3, fun b hb => e4 b (hb.imp id (fun h => h.1)), ⟨A', e5, fun _ _ => rfl⟩, fun v hv => by cases hv⟩
    · cases e1
  · obtain ⟨e1, rfl, e3, e4, e5⟩ := h
    rcases R with _ | a
    · cases e1
    · cases e1
      refine q_i2lw dL_many_8 ?_
      refine q_last dL_many_9 hko (by decide) (by decide) ?_
      refine q_goto (tgt := 17) dL_many_10 (by decide) ?_
      refine q_iconst dL_many_17 ?_
      refine q_retI dL_many_18 rfl (Nat.le_of_eq (Nat.zero_add _)) (Nat.le_of_eq (Nat.zero_add _)) ?_
      refine ⟨rfl, rfl, e3, fun b hb => ?_, ⟨A', e5, fun b hb => up2_row (by omega)⟩, fun v hv => ?_⟩
      · rw [up2_row (by omega)]; exact e4 b (hb.imp id (fun h => h.1))
      · cases hv; exact up2_eq _ _ _ _
theorem mfw_classes : MFW mL_classes 5 := ⟨⟨by decide +kernel, by decide +kernel⟩, by decide +kernel, by decide +kernel, List.cons_ne_nil _ _⟩
set_option maxRecDepth 20000 in
theorem lw_classes {x0 x1 x2 : Int} {oo dx cx sx D : Nat} {R : Option Int} {Q : HF → HA → Prop} {F : HF} {A : HA} {al : AL} (hK : KX al) (hko : al.1 oo = (2, 1)) (h67 : 67 ≤ oo) (hdx : dx < D) (ev : QE dx cx sx mX11_classes (vA 1 :: [vI x0, vI x1, vI x2]) F A al (PXR eN R F A al Q)) : QE D cx sx mL_classes [vA 1, vI x0, vI x1, vI x2, vA oo] F A al (PW oo R F A al Q) := by
  refine QE.mkH (by decide +kernel) (Nat.le_of_ble_eq_true rfl) ?_
  refine q_aload dL_classes_0 rfl ?_
  refine q_iconst dL_classes_2 ?_
  refine q_aload_n dL_classes_3 rfl ?_
  refine q_iload_n dL_classes_4 rfl ?_
  refine q_iload_n dL_classes_5 rfl ?_
  refine q_iload_n dL_classes_6 rfl ?_
  refine q_callVH [vI x0, vI x1, vI x2] (M1 := mX11_classes) (E := eN) rfl (by decide) (by decide) clL_n (by decide) dL_classes_7 mf_X11_classes lk_L_59 (hK 1 (by decide) (by decide)) ev hdx (Nat.le_of_eq (Nat.zero_add _)) (Nat.le_of_eq (Nat.zero_add _)) (Nat.le_of_ble_eq_true rfl) (st := [vI 0, vA oo]) rfl (fun E' F' A' al' h => ?_) (fun v F' A' al' h => ?_)
  · obtain ⟨e1, rfl, e3, e4, e5⟩ := h
    rcases R with _ | a
    · cases e1
      refine ⟨rfl, fun q => ?_⟩
      refine q_ostore dL_classes_15 (by decide) rfl ?_
      refine q_iconst dL_classes_17 ?_
      refine q_retI dL_classes_18 rfl (Nat.le_of_eq (Nat.zero_add _)) (Nat.le_of_eq (Nat.zero_add _)) ?_
      exact ⟨rfl, rfl, e3, fun b hb => e4 b (hb.imp id (fun h => h.1)), ⟨A', e5, fun _ _ => rfl⟩, fun v hv => by cases hv⟩
    · cases e1
  · obtain ⟨e1, rfl, e3, e4, e5⟩ := h
    rcases R with _ | a
    · cases e1
    · cases e1
      refine q_i2lw dL_classes_10 ?_
      refine q_last dL_classes_11 hko (by decide) (by decide) ?_
      refine q_goto (tgt := 19) dL_classes_12 (by decide) ?_
      refine q_iconst dL_classes_19 ?_
      refine q_retI dL_classes_20 rfl (Nat.le_of_eq (Nat.zero_add _)) (Nat.le_of_eq (Nat.zero_add _)) ?_
      refine ⟨rfl, rfl, e3, fun b hb => ?_, ⟨A', e5, fun b hb => up2_row (by omega)⟩, fun v hv => ?_⟩
      · rw [up2_row (by omega)]; exact e4 b (hb.imp id (fun h => h.1))
      · cases hv; exact up2_eq _ _ _ _
theorem mfw_coefficient : MFW mL_coefficient 4 := ⟨⟨by decide +kernel, by decide +kernel⟩, by decide +kernel, by decide +kernel, List.cons_ne_nil _ _⟩
set_option maxRecDepth 20000 in
theorem lw_coefficient {x0 x1 : Int} {oo dx cx sx D : Nat} {R : Option Int} {Q : HF → HA → Prop} {F : HF} {A : HA} {al : AL} (hK : KX al) (hko : al.1 oo = (2, 1)) (h67 : 67 ≤ oo) (hdx : dx < D) (ev : QE dx cx sx mX11_coefficient (vA 1 :: [vI x0, vI x1]) F A al (PXR eN R F A al Q)) : QE D cx sx mL_coefficient [vA 1, vI x0, vI x1, vA oo] F A al (PW oo R F A al Q) := by
  refine QE.mkH (by decide +kernel) (Nat.le_of_ble_eq_true rfl) ?_
  refine q_aload_n dL_coefficient_0 rfl ?_
  refine q_iconst dL_coefficient_1 ?_
  refine q_aload_n dL_coefficient_2 rfl ?_
  refine q_iload_n dL_coefficient_3 rfl ?_
  refine q_iload_n dL_coefficient_4 rfl ?_
  refine q_callVH [vI x0, vI x1] (M1 := mX11_coefficient) (E := eN) rfl (by decide) (by decide) clL_n (by decide) dL_coefficient_5 mf_X11_coefficient lk_L_62 (hK 1 (by decide) (by decide)) ev hdx (Nat.le_of_eq (Nat.zero_add _)) (Nat.le_of_eq (Nat.zero_add _)) (Nat.le_of_ble_eq_true rfl) (st := [vI 0, vA oo]) rfl (fun E' F' A' al' h => ?_) (fun v F' A' al' h => ?_)
  · obtain ⟨e1, rfl, e3, e4, e5⟩ := h
    rcases R with _ | a
    · cases e1
      refine ⟨rfl, fun q => ?_⟩
      refine q_ostore dL_coefficient_13 (by decide) rfl ?_
      refine q_iconst dL_coefficient_15 ?_
      refine q_retI dL_coefficient_16 rfl (Nat.le_of_eq (Nat.zero_add _)) (Nat.le_of_eq (Nat.zero_add _)) ?_
      exact ⟨rfl, rfl, e3, fun b hb => e4 b (hb.imp id (fun h => h.1)), ⟨A', e5, fun _ _ => rfl⟩, fun v hv => by cases hv⟩
    · cases e1
  · obtain ⟨e1, rfl, e3, e4, e5⟩ := h
    rcases R with _ | a
    · cases e1
    · cases e1
      refine q_i2lw dL_coefficient_8 ?_
      refine q_last dL_coefficient_9 hko (by decide) (by decide) ?_
      refine q_goto (tgt := 17) dL_coefficient_10 (by decide) ?_
      refine q_iconst dL_coefficient_17 ?_
      refine q_retI dL_coefficient_18 rfl (Nat.le_of_eq (Nat.zero_add _)) (Nat.le_of_eq (Nat.zero_add _)) ?_
      refine ⟨rfl, rfl, e3, fun b hb => ?_, ⟨A', e5, fun b hb => up2_row (by omega)⟩, fun v hv => ?_⟩
      · rw [up2_row (by omega)]; exact e4 b (hb.imp id (fun h => h.1))
      · cases hv; exact up2_eq _ _ _ _
theorem mfw_word : MFW mL_word 2 := ⟨⟨by decide +kernel, by decide +kernel⟩, by decide +kernel, by decide +kernel, List.cons_ne_nil _ _⟩
set_option maxRecDepth 20000 in
theorem lw_word {oo dx cx sx D : Nat} {R : Option Int} {Q : HF → HA → Prop} {F : HF} {A : HA} {al : AL} (hK : KX al) (hko : al.1 oo = (2, 1)) (h67 : 67 ≤ oo) (hdx : dx < D) (ev : QE dx cx sx mX11_word (vA 1 :: []) F A al (PXR eI R F A al Q)) : QE D cx sx mL_word [vA 1, vA oo] F A al (PW oo R F A al Q) := by
  refine QE.mkH (by decide +kernel) (Nat.le_of_ble_eq_true rfl) ?_
  refine q_aload_n dL_word_0 rfl ?_
  refine q_iconst dL_word_1 ?_
  refine q_aload_n dL_word_2 rfl ?_
  refine q_callVH [] (M1 := mX11_word) (E := eI) rfl (by decide) (by decide) clL_i (by decide) dL_word_3 mf_X11_word lk_L_65 (hK 1 (by decide) (by decide)) ev hdx (Nat.le_of_eq (Nat.zero_add _)) (Nat.le_of_eq (Nat.zero_add _)) (Nat.le_of_ble_eq_true rfl) (st := [vI 0, vA oo]) rfl (fun E' F' A' al' h => ?_) (fun v F' A' al' h => ?_)
  · obtain ⟨e1, rfl, e3, e4, e5⟩ := h
    rcases R with _ | a
    · cases e1
      refine ⟨rfl, fun q => ?_⟩
      refine q_ostore_n dL_word_11 (by decide) rfl ?_
      refine q_iconst dL_word_12 ?_
      refine q_retI dL_word_13 rfl (Nat.le_of_eq (Nat.zero_add _)) (Nat.le_of_eq (Nat.zero_add _)) ?_
      exact ⟨rfl, rfl, e3, fun b hb => e4 b (hb.imp id (fun h => h.1)), ⟨A', e5, fun _ _ => rfl⟩, fun v hv => by cases hv⟩
    · cases e1
  · obtain ⟨e1, rfl, e3, e4, e5⟩ := h
    rcases R with _ | a
    · cases e1
    · cases e1
      refine q_i2lw dL_word_6 ?_
      refine q_last dL_word_7 hko (by decide) (by decide) ?_
      refine q_goto (tgt := 14) dL_word_8 (by decide) ?_
      refine q_iconst dL_word_14 ?_
      refine q_retI dL_word_15 rfl (Nat.le_of_eq (Nat.zero_add _)) (Nat.le_of_eq (Nat.zero_add _)) ?_
      refine ⟨rfl, rfl, e3, fun b hb => ?_, ⟨A', e5, fun b hb => up2_row (by omega)⟩, fun v hv => ?_⟩
      · rw [up2_row (by omega)]; exact e4 b (hb.imp id (fun h => h.1))
      · cases hv; exact up2_eq _ _ _ _
theorem mfw_number : MFW mL_number 3 := ⟨⟨by decide +kernel, by decide +kernel⟩, by decide +kernel, by decide +kernel, List.cons_ne_nil _ _⟩
set_option maxRecDepth 20000 in
theorem lw_number {x0 : Int} {oo dx cx sx D : Nat} {R : Option Int} {Q : HF → HA → Prop} {F : HF} {A : HA} {al : AL} (hK : KX al) (hko : al.1 oo = (2, 1)) (h67 : 67 ≤ oo) (hdx : dx < D) (ev : QE dx cx sx mX11_number (vA 1 :: [vI x0]) F A al (PXR eN R F A al Q)) : QE D cx sx mL_number [vA 1, vI x0, vA oo] F A al (PW oo R F A al Q) := by
  refine QE.mkH (by decide +kernel) (Nat.le_of_ble_eq_true rfl) ?_
  refine q_aload_n dL_number_0 rfl ?_
  refine q_iconst dL_number_1 ?_
  refine q_aload_n dL_number_2 rfl ?_
  refine q_iload_n dL_number_3 rfl ?_
  refine q_callVH [vI x0] (M1 := mX11_number) (E := eN) rfl (by decide) (by decide) clL_n (by decide) dL_number_4 mf_X11_number lk_L_69 (hK 1 (by decide) (by decide)) ev hdx (Nat.le_of_eq (Nat.zero_add _)) (Nat.le_of_eq (Nat.zero_add _)) (Nat.le_of_ble_eq_true rfl) (st := [vI 0, vA oo]) rfl (fun E' F' A' al' h => ?_) (fun v F' A' al' h => ?_)
  · obtain ⟨e1, rfl, e3, e4, e5⟩ := h
    rcases R with _ | a
    · cases e1
      refine ⟨rfl, fun q => ?_⟩
      refine q_ostore_n dL_number_12 (by decide) rfl ?_
      refine q_iconst dL_number_13 ?_
      refine q_retI dL_number_14 rfl (Nat.le_of_eq (Nat.zero_add _)) (Nat.le_of_eq (Nat.zero_add _)) ?_
      exact ⟨rfl, rfl, e3, fun b hb => e4 b (hb.imp id (fun h => h.1)), ⟨A', e5, fun _ _ => rfl⟩, fun v hv => by cases hv⟩
    · cases e1
  · obtain ⟨e1, rfl, e3, e4, e5⟩ := h
    rcases R with _ | a
    · cases e1
    · cases e1
      refine q_i2lw dL_number_7 ?_
      refine q_last dL_number_8 hko (by decide) (by decide) ?_
      refine q_goto (tgt := 15) dL_number_9 (by decide) ?_
      refine q_iconst dL_number_15 ?_
      refine q_retI dL_number_16 rfl (Nat.le_of_eq (Nat.zero_add _)) (Nat.le_of_eq (Nat.zero_add _)) ?_
      refine ⟨rfl, rfl, e3, fun b hb => ?_, ⟨A', e5, fun b hb => up2_row (by omega)⟩, fun v hv => ?_⟩
      · rw [up2_row (by omega)]; exact e4 b (hb.imp id (fun h => h.1))
      · cases hv; exact up2_eq _ _ _ _
theorem mfw_rest : MFW mL_rest 3 := ⟨⟨by decide +kernel, by decide +kernel⟩, by decide +kernel, by decide +kernel, List.cons_ne_nil _ _⟩
set_option maxRecDepth 20000 in
theorem lw_rest {x0 : Int} {oo dx cx sx D : Nat} {R : Option Int} {Q : HF → HA → Prop} {F : HF} {A : HA} {al : AL} (hK : KX al) (hko : al.1 oo = (2, 1)) (h67 : 67 ≤ oo) (hdx : dx < D) (ev : QE dx cx sx mX11_rest (vA 1 :: [vI x0]) F A al (PXR eN R F A al Q)) : QE D cx sx mL_rest [vA 1, vI x0, vA oo] F A al (PW oo R F A al Q) := by
  refine QE.mkH (by decide +kernel) (Nat.le_of_ble_eq_true rfl) ?_
  refine q_aload_n dL_rest_0 rfl ?_
  refine q_iconst dL_rest_1 ?_
  refine q_aload_n dL_rest_2 rfl ?_
  refine q_iload_n dL_rest_3 rfl ?_
  refine q_callVH [vI x0] (M1 := mX11_rest) (E := eN) rfl (by decide) (by decide) clL_n (by decide) dL_rest_4 mf_X11_rest lk_L_72 (hK 1 (by decide) (by decide)) ev hdx (Nat.le_of_eq (Nat.zero_add _)) (Nat.le_of_eq (Nat.zero_add _)) (Nat.le_of_ble_eq_true rfl) (st := [vI 0, vA oo]) rfl (fun E' F' A' al' h => ?_) (fun v F' A' al' h => ?_)
  · obtain ⟨e1, rfl, e3, e4, e5⟩ := h
    rcases R with _ | a
    · cases e1
      refine ⟨rfl, fun q => ?_⟩
      refine q_ostore_n dL_rest_12 (by decide) rfl ?_
      refine q_iconst dL_rest_13 ?_
      refine q_retI dL_rest_14 rfl (Nat.le_of_eq (Nat.zero_add _)) (Nat.le_of_eq (Nat.zero_add _)) ?_
      exact ⟨rfl, rfl, e3, fun b hb => e4 b (hb.imp id (fun h => h.1)), ⟨A', e5, fun _ _ => rfl⟩, fun v hv => by cases hv⟩
    · cases e1
  · obtain ⟨e1, rfl, e3, e4, e5⟩ := h
    rcases R with _ | a
    · cases e1
    · cases e1
      refine q_i2lw dL_rest_7 ?_
      refine q_last dL_rest_8 hko (by decide) (by decide) ?_
      refine q_goto (tgt := 15) dL_rest_9 (by decide) ?_
      refine q_iconst dL_rest_15 ?_
      refine q_retI dL_rest_16 rfl (Nat.le_of_eq (Nat.zero_add _)) (Nat.le_of_eq (Nat.zero_add _)) ?_
      refine ⟨rfl, rfl, e3, fun b hb => ?_, ⟨A', e5, fun b hb => up2_row (by omega)⟩, fun v hv => ?_⟩
      · rw [up2_row (by omega)]; exact e4 b (hb.imp id (fun h => h.1))
      · cases hv; exact up2_eq _ _ _ _
theorem mfw_mend : MFW mL_mend 3 := ⟨⟨by decide +kernel, by decide +kernel⟩, by decide +kernel, by decide +kernel, List.cons_ne_nil _ _⟩
set_option maxRecDepth 20000 in
theorem lw_mend {x0 : Int} {oo dx cx sx D : Nat} {R : Option Int} {Q : HF → HA → Prop} {F : HF} {A : HA} {al : AL} (hK : KX al) (hko : al.1 oo = (2, 1)) (h67 : 67 ≤ oo) (hdx : dx < D) (ev : QE dx cx sx mX11_mend (vA 1 :: [vI x0]) F A al (PXR eN R F A al Q)) : QE D cx sx mL_mend [vA 1, vI x0, vA oo] F A al (PW oo R F A al Q) := by
  refine QE.mkH (by decide +kernel) (Nat.le_of_ble_eq_true rfl) ?_
  refine q_aload_n dL_mend_0 rfl ?_
  refine q_iconst dL_mend_1 ?_
  refine q_aload_n dL_mend_2 rfl ?_
  refine q_iload_n dL_mend_3 rfl ?_
  refine q_callVH [vI x0] (M1 := mX11_mend) (E := eN) rfl (by decide) (by decide) clL_n (by decide) dL_mend_4 mf_X11_mend lk_L_75 (hK 1 (by decide) (by decide)) ev hdx (Nat.le_of_eq (Nat.zero_add _)) (Nat.le_of_eq (Nat.zero_add _)) (Nat.le_of_ble_eq_true rfl) (st := [vI 0, vA oo]) rfl (fun E' F' A' al' h => ?_) (fun v F' A' al' h => ?_)
  · obtain ⟨e1, rfl, e3, e4, e5⟩ := h
    rcases R with _ | a
    · cases e1
      refine ⟨rfl, fun q => ?_⟩
      refine q_ostore_n dL_mend_12 (by decide) rfl ?_
      refine q_iconst dL_mend_13 ?_
      refine q_retI dL_mend_14 rfl (Nat.le_of_eq (Nat.zero_add _)) (Nat.le_of_eq (Nat.zero_add _)) ?_
      exact ⟨rfl, rfl, e3, fun b hb => e4 b (hb.imp id (fun h => h.1)), ⟨A', e5, fun _ _ => rfl⟩, fun v hv => by cases hv⟩
    · cases e1
  · obtain ⟨e1, rfl, e3, e4, e5⟩ := h
    rcases R with _ | a
    · cases e1
    · cases e1
      refine q_i2lw dL_mend_7 ?_
      refine q_last dL_mend_8 hko (by decide) (by decide) ?_
      refine q_goto (tgt := 15) dL_mend_9 (by decide) ?_
      refine q_iconst dL_mend_15 ?_
      refine q_retI dL_mend_16 rfl (Nat.le_of_eq (Nat.zero_add _)) (Nat.le_of_eq (Nat.zero_add _)) ?_
      refine ⟨rfl, rfl, e3, fun b hb => ?_, ⟨A', e5, fun b hb => up2_row (by omega)⟩, fun v hv => ?_⟩
      · rw [up2_row (by omega)]; exact e4 b (hb.imp id (fun h => h.1))
      · cases hv; exact up2_eq _ _ _ _
theorem mfw_nearest : MFW mL_nearest 3 := ⟨⟨by decide +kernel, by decide +kernel⟩, by decide +kernel, by decide +kernel, List.cons_ne_nil _ _⟩
set_option maxRecDepth 20000 in
theorem lw_nearest {x0 : Int} {oo dx cx sx D : Nat} {R : Option Int} {Q : HF → HA → Prop} {F : HF} {A : HA} {al : AL} (hK : KX al) (hko : al.1 oo = (2, 1)) (h67 : 67 ≤ oo) (hdx : dx < D) (ev : QE dx cx sx mX11_nearest (vA 1 :: [vI x0]) F A al (PXR eN R F A al Q)) : QE D cx sx mL_nearest [vA 1, vI x0, vA oo] F A al (PW oo R F A al Q) := by
  refine QE.mkH (by decide +kernel) (Nat.le_of_ble_eq_true rfl) ?_
  refine q_aload_n dL_nearest_0 rfl ?_
  refine q_iconst dL_nearest_1 ?_
  refine q_aload_n dL_nearest_2 rfl ?_
  refine q_iload_n dL_nearest_3 rfl ?_
  refine q_callVH [vI x0] (M1 := mX11_nearest) (E := eN) rfl (by decide) (by decide) clL_n (by decide) dL_nearest_4 mf_X11_nearest lk_L_78 (hK 1 (by decide) (by decide)) ev hdx (Nat.le_of_eq (Nat.zero_add _)) (Nat.le_of_eq (Nat.zero_add _)) (Nat.le_of_ble_eq_true rfl) (st := [vI 0, vA oo]) rfl (fun E' F' A' al' h => ?_) (fun v F' A' al' h => ?_)
  · obtain ⟨e1, rfl, e3, e4, e5⟩ := h
    rcases R with _ | a
    · cases e1
      refine ⟨rfl, fun q => ?_⟩
      refine q_ostore_n dL_nearest_12 (by decide) rfl ?_
      refine q_iconst dL_nearest_13 ?_
      refine q_retI dL_nearest_14 rfl (Nat.le_of_eq (Nat.zero_add _)) (Nat.le_of_eq (Nat.zero_add _)) ?_
      exact ⟨rfl, rfl, e3, fun b hb => e4 b (hb.imp id (fun h => h.1)), ⟨A', e5, fun _ _ => rfl⟩, fun v hv => by cases hv⟩
    · cases e1
  · obtain ⟨e1, rfl, e3, e4, e5⟩ := h
    rcases R with _ | a
    · cases e1
    · cases e1
      refine q_i2lw dL_nearest_7 ?_
      refine q_last dL_nearest_8 hko (by decide) (by decide) ?_
      refine q_goto (tgt := 15) dL_nearest_9 (by decide) ?_
      refine q_iconst dL_nearest_15 ?_
      refine q_retI dL_nearest_16 rfl (Nat.le_of_eq (Nat.zero_add _)) (Nat.le_of_eq (Nat.zero_add _)) ?_
      refine ⟨rfl, rfl, e3, fun b hb => ?_, ⟨A', e5, fun b hb => up2_row (by omega)⟩, fun v hv => ?_⟩
      · rw [up2_row (by omega)]; exact e4 b (hb.imp id (fun h => h.1))
      · cases hv; exact up2_eq _ _ _ _
theorem mfw_say : MFW mL_say 3 := ⟨⟨by decide +kernel, by decide +kernel⟩, by decide +kernel, by decide +kernel, List.cons_ne_nil _ _⟩
set_option maxRecDepth 20000 in
theorem lw_say {x0 : Int} {oo dx cx sx D : Nat} {R : Option Int} {Q : HF → HA → Prop} {F : HF} {A : HA} {al : AL} (hK : KX al) (hko : al.1 oo = (2, 1)) (h67 : 67 ≤ oo) (hdx : dx < D) (ev : QE dx cx sx mX11_say (vA 1 :: [vI x0]) F A al (PXR eN R F A al Q)) : QE D cx sx mL_say [vA 1, vI x0, vA oo] F A al (PW oo R F A al Q) := by
  refine QE.mkH (by decide +kernel) (Nat.le_of_ble_eq_true rfl) ?_
  refine q_aload_n dL_say_0 rfl ?_
  refine q_iconst dL_say_1 ?_
  refine q_aload_n dL_say_2 rfl ?_
  refine q_iload_n dL_say_3 rfl ?_
  refine q_callVH [vI x0] (M1 := mX11_say) (E := eN) rfl (by decide) (by decide) clL_n (by decide) dL_say_4 mf_X11_say lk_L_81 (hK 1 (by decide) (by decide)) ev hdx (Nat.le_of_eq (Nat.zero_add _)) (Nat.le_of_eq (Nat.zero_add _)) (Nat.le_of_ble_eq_true rfl) (st := [vI 0, vA oo]) rfl (fun E' F' A' al' h => ?_) (fun v F' A' al' h => ?_)
  · obtain ⟨e1, rfl, e3, e4, e5⟩ := h
    rcases R with _ | a
    · cases e1
      refine ⟨rfl, fun q => ?_⟩
      refine q_ostore_n dL_say_12 (by decide) rfl ?_
      refine q_iconst dL_say_13 ?_
      refine q_retI dL_say_14 rfl (Nat.le_of_eq (Nat.zero_add _)) (Nat.le_of_eq (Nat.zero_add _)) ?_
      exact ⟨rfl, rfl, e3, fun b hb => e4 b (hb.imp id (fun h => h.1)), ⟨A', e5, fun _ _ => rfl⟩, fun v hv => by cases hv⟩
    · cases e1
  · obtain ⟨e1, rfl, e3, e4, e5⟩ := h
    rcases R with _ | a
    · cases e1
    · cases e1
      refine q_i2lw dL_say_7 ?_
      refine q_last dL_say_8 hko (by decide) (by decide) ?_
      refine q_goto (tgt := 15) dL_say_9 (by decide) ?_
      refine q_iconst dL_say_15 ?_
      refine q_retI dL_say_16 rfl (Nat.le_of_eq (Nat.zero_add _)) (Nat.le_of_eq (Nat.zero_add _)) ?_
      refine ⟨rfl, rfl, e3, fun b hb => ?_, ⟨A', e5, fun b hb => up2_row (by omega)⟩, fun v hv => ?_⟩
      · rw [up2_row (by omega)]; exact e4 b (hb.imp id (fun h => h.1))
      · cases hv; exact up2_eq _ _ _ _
