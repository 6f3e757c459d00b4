/-! Latest: seek -/
def poE (nb w : Nat → Int) : Nat → Nat := ctn (fun i => decide (w i ≠ nb i))
def ahE (w c : Nat → Int) : Nat → Nat → Bool
  | 0, _ => false
  | k + 1, i => if w i = c i then ahE w c k (i + 1) else decide (w i < c i)
def skE (m : Int) (dg ch : Nat) (mk nb c0 : Nat → Int) : Nat → Int × (Nat → Int)
  | 0 => (64, c0)
  | i + 1 => if ((poE nb (wkE m dg ch mk i).1 63 : Nat) : Int) < (skE m dg ch mk nb c0 i).1 ∨ ((poE nb (wkE m dg ch mk i).1 63 : Nat) : Int) = (skE m dg ch mk nb c0 i).1 ∧ ahE (wkE m dg ch mk i).1 (skE m dg ch mk nb c0 i).2 63 0 = true then (((poE nb (wkE m dg ch mk i).1 63 : Nat) : Int), (wkE m dg ch mk i).1) else skE m dg ch mk nb c0 i
set_option maxRecDepth 20000 in
theorem lp_placesOff {a : Nat} {nb w : Nat → Int} {F : HF} {A : HA} {al : AL} (hK : KX al) (hX : XF F) (hk : al.1 a = (0, 63)) (hnb : ∀ j, j < 63 → A 37 j = nb j ∧ InR (nb j)) (hw : ∀ j, j < 63 → A a j = w j ∧ InR (w j)) : ∀ (k i : Nat), i + k = 63 →
    QW mX3_placesOff 1 0 0 (PI (poE nb w 63 : Nat) F A al) 0 0 4 [some (vA 36), some (vA a), some (vI (poE nb w i : Nat)), some (vI i)] [] F A al := by
  intro k
  induction k with
  | zero =>
    intro i hi
    have ei : i = 63 := by omega
    subst ei
    refine q_iload_n eX3_placesOff_4 rfl ?_
    refine q_bipush eX3_placesOff_5 (by decide +kernel) ?_
    refine q_icmp_ge (tgt := 42) eX3_placesOff_7 (by decide) (by first | assumption | exact ⟨by omega, by omega⟩) (by first | assumption | exact ⟨by omega, by omega⟩) (fun c7 => ?_) (fun c7 => ?_)
    · refine q_iload_n eX3_placesOff_42 rfl ?_
      refine q_retI eX3_placesOff_43 rfl (by decide) (by decide) ?_
      exact PI_ok rfl
    · exact absurd c7 (by omega)
  | succ k ih =>
    intro i hi
    obtain ⟨b1, b2⟩ := hnb i (by omega)
    obtain ⟨w1, w2⟩ := hw i (by omega)
    have ih1 := ih (i + 1) (by omega)
    refine q_iload_n eX3_placesOff_4 rfl ?_
    refine q_bipush eX3_placesOff_5 (by decide +kernel) ?_
    refine q_icmp_ge (tgt := 42) eX3_placesOff_7 (by decide) (by first | assumption | exact ⟨by omega, by omega⟩) (by first | assumption | exact ⟨by omega, by omega⟩) (fun c7 => ?_) (fun c7 => ?_)
    · exact absurd c7 (by omega)
    · refine q_iload_n eX3_placesOff_10 rfl ?_
      refine q_aload_n eX3_placesOff_11 rfl ?_
      refine q_alen eX3_placesOff_12 hk ?_
      refine q_icmp_ge (tgt := 42) eX3_placesOff_13 (by decide) (by first | assumption | exact ⟨by omega, by omega⟩) (by first | assumption | exact ⟨by omega, by omega⟩) (fun c13 => ?_) (fun c13 => ?_)
      · exact absurd c13 (by omega)
      · refine q_iload_n eX3_placesOff_16 rfl ?_
        refine q_aload_n eX3_placesOff_17 rfl ?_
        refine q_iload_n eX3_placesOff_18 rfl ?_
        refine q_iald eX3_placesOff_19 hk (by omega) (by omega) ?_
        rw [show A a (i : Int).toNat = w i from w1]
        refine q_aload_n eX3_placesOff_20 rfl ?_
        refine q_getfield eX3_placesOff_21 gf_X3_18 (hK _ (by decide) (by decide)) (by decide) (xf_36_2 hX) ?_
        refine q_iload_n eX3_placesOff_24 rfl ?_
        refine q_iald eX3_placesOff_25 (hK _ (by decide) (by decide)) (by omega) (by omega) ?_
        rw [show A 37 (i : Int).toNat = nb i from b1]
        refine q_icmp_ne (tgt := 33) eX3_placesOff_26 (by decide) (by first | assumption | exact ⟨by omega, by omega⟩) (by first | assumption | exact ⟨by omega, by omega⟩) (fun c26 => ?_) (fun c26 => ?_)
        · refine q_iconst eX3_placesOff_33 ?_
          refine q_iadd eX3_placesOff_34 ?_
          refine q_istore_n eX3_placesOff_35 (by decide) rfl ?_
          refine q_iinc eX3_placesOff_36 rfl (by decide) rfl ?_
          refine q_goto (tgt := 4) eX3_placesOff_39 (by decide) ?_
          first
          | (rw [show poE nb w (i + 1) = poE nb w i + 1 from ctn_yes (by rw [decide_eq_true_eq]; exact c26)] at ih1
             exact ih1)
          | (rw [show poE nb w (i + 1) = poE nb w i from ctn_no (by rw [decide_eq_true_eq]; exact fun q => q c26)] at ih1
             rw [Int.add_zero]
             exact ih1)
        · refine q_iconst eX3_placesOff_29 ?_
          refine q_goto (tgt := 34) eX3_placesOff_30 (by decide) ?_
          refine q_iadd eX3_placesOff_34 ?_
          refine q_istore_n eX3_placesOff_35 (by decide) rfl ?_
          refine q_iinc eX3_placesOff_36 rfl (by decide) rfl ?_
          refine q_goto (tgt := 4) eX3_placesOff_39 (by decide) ?_
          first
          | (rw [show poE nb w (i + 1) = poE nb w i + 1 from ctn_yes (by rw [decide_eq_true_eq]; exact c26)] at ih1
             exact ih1)
          | (rw [show poE nb w (i + 1) = poE nb w i from ctn_no (by rw [decide_eq_true_eq]; exact fun q => q c26)] at ih1
             rw [Int.add_zero]
             exact ih1)
set_option maxRecDepth 20000 in
theorem ev_placesOff {a : Nat} {nb w : Nat → Int} {F : HF} {A : HA} {al : AL} (hK : KX al) (hX : XF F) (hk : al.1 a = (0, 63)) (hnb : ∀ j, j < 63 → A 37 j = nb j ∧ InR (nb j)) (hw : ∀ j, j < 63 → A a j = w j ∧ InR (w j)) : QE 1 0 0 mX3_placesOff [vA 36, vA a] F A al (PI (poE nb w 63 : Nat) F A al) := by
  refine QE.mk (by decide +kernel) (Nat.le_of_ble_eq_true rfl) ?_
  refine q_iconst eX3_placesOff_0 ?_
  refine q_istore_n eX3_placesOff_1 (by decide) rfl ?_
  refine q_iconst eX3_placesOff_2 ?_
  refine q_istore_n eX3_placesOff_3 (by decide) rfl ?_
  exact lp_placesOff hK hX hk hnb hw 63 0 (by omega)
set_option maxRecDepth 20000 in
theorem lp_isAhead {a : Nat} {c w : Nat → Int} {F : HF} {A : HA} {al : AL} (hK : KX al) (hX : XF F) (hk : al.1 a = (0, 63)) (hc : ∀ j, j < 63 → A 39 j = c j ∧ InR (c j)) (hw : ∀ j, j < 63 → A a j = w j ∧ InR (w j)) : ∀ (k i : Nat), i + k = 63 →
    QW mX3_isAhead 1 0 0 (PI (if ahE w c k i = true then 1 else 0) F A al) 0 0 2 [some (vA 36), some (vA a), some (vI i)] [] F A al := by
  intro k
  induction k with
  | zero =>
    intro i hi
    refine q_iload_n eX3_isAhead_2 rfl ?_
    refine q_bipush eX3_isAhead_3 (by decide +kernel) ?_
    refine q_icmp_ge (tgt := 50) eX3_isAhead_5 (by decide) (by first | assumption | exact ⟨by omega, by omega⟩) (by first | assumption | exact ⟨by omega, by omega⟩) (fun c5 => ?_) (fun c5 => ?_)
    · refine q_iconst eX3_isAhead_50 ?_
      refine q_retZ eX3_isAhead_51 rfl (by first | exact Or.inl rfl | exact Or.inr rfl | assumption) (by decide) (by decide) ?_
      exact PI_ok rfl
    · exact absurd c5 (by omega)
  | succ k ih =>
    intro i hi
    obtain ⟨b1, b2⟩ := hc i (by omega)
    obtain ⟨w1, w2⟩ := hw i (by omega)
    have ih1 := ih (i + 1) (by omega)
    have hst : ahE w c (k + 1) i = if w i = c i then ahE w c k (i + 1) else decide (w i < c i) := rfl
    rw [hst]
    refine q_iload_n eX3_isAhead_2 rfl ?_
    refine q_bipush eX3_isAhead_3 (by decide +kernel) ?_
    refine q_icmp_ge (tgt := 50) eX3_isAhead_5 (by decide) (by first | assumption | exact ⟨by omega, by omega⟩) (by first | assumption | exact ⟨by omega, by omega⟩) (fun c5 => ?_) (fun c5 => ?_)
    · exact absurd c5 (by omega)
    · refine q_iload_n eX3_isAhead_8 rfl ?_
      refine q_aload_n eX3_isAhead_9 rfl ?_
      refine q_alen eX3_isAhead_10 hk ?_
      refine q_icmp_ge (tgt := 50) eX3_isAhead_11 (by decide) (by first | assumption | exact ⟨by omega, by omega⟩) (by first | assumption | exact ⟨by omega, by omega⟩) (fun c11 => ?_) (fun c11 => ?_)
      · exact absurd c11 (by omega)
      · refine q_aload_n eX3_isAhead_14 rfl ?_
        refine q_iload_n eX3_isAhead_15 rfl ?_
        refine q_iald eX3_isAhead_16 hk (by omega) (by omega) ?_
        rw [show A a (i : Int).toNat = w i from w1]
        refine q_aload_n eX3_isAhead_17 rfl ?_
        refine q_getfield eX3_isAhead_18 gf_X3_38 (hK _ (by decide) (by decide)) (by decide) (xf_36_8 hX) ?_
        refine q_iload_n eX3_isAhead_21 rfl ?_
        refine q_iald eX3_isAhead_22 (hK _ (by decide) (by decide)) (by omega) (by omega) ?_
        rw [show A 39 (i : Int).toNat = c i from b1]
        refine q_icmp_eq (tgt := 44) eX3_isAhead_23 (by decide) (by first | assumption | exact ⟨by omega, by omega⟩) (by first | assumption | exact ⟨by omega, by omega⟩) (fun c23 => ?_) (fun c23 => ?_)
        · refine q_iinc eX3_isAhead_44 rfl (by decide) rfl ?_
          refine q_goto (tgt := 2) eX3_isAhead_47 (by decide) ?_
          rw [if_pos c23]
          exact ih1
        · refine q_aload_n eX3_isAhead_26 rfl ?_
          refine q_iload_n eX3_isAhead_27 rfl ?_
          refine q_iald eX3_isAhead_28 hk (by omega) (by omega) ?_
          rw [show A a (i : Int).toNat = w i from w1]
          refine q_aload_n eX3_isAhead_29 rfl ?_
          refine q_getfield eX3_isAhead_30 gf_X3_38 (hK _ (by decide) (by decide)) (by decide) (xf_36_8 hX) ?_
          refine q_iload_n eX3_isAhead_33 rfl ?_
          refine q_iald eX3_isAhead_34 (hK _ (by decide) (by decide)) (by omega) (by omega) ?_
          rw [show A 39 (i : Int).toNat = c i from b1]
          refine q_icmp_ge (tgt := 42) eX3_isAhead_35 (by decide) (by first | assumption | exact ⟨by omega, by omega⟩) (by first | assumption | exact ⟨by omega, by omega⟩) (fun c35 => ?_) (fun c35 => ?_)
          · refine q_iconst eX3_isAhead_42 ?_
            refine q_retZ eX3_isAhead_43 rfl (by first | exact Or.inl rfl | exact Or.inr rfl | assumption) (by decide) (by decide) ?_
            refine PI_ok ?_
            rw [if_neg c23]
            first
            | (rw [if_pos (by rw [decide_eq_true_eq]; omega)])
            | (rw [if_neg (by rw [decide_eq_true_eq]; omega)])
          · refine q_iconst eX3_isAhead_38 ?_
            refine q_goto (tgt := 43) eX3_isAhead_39 (by decide) ?_
            refine q_retZ eX3_isAhead_43 rfl (by first | exact Or.inl rfl | exact Or.inr rfl | assumption) (by decide) (by decide) ?_
            refine PI_ok ?_
            rw [if_neg c23]
            first
            | (rw [if_pos (by rw [decide_eq_true_eq]; omega)])
            | (rw [if_neg (by rw [decide_eq_true_eq]; omega)])
set_option maxRecDepth 20000 in
theorem ev_isAhead {a : Nat} {c w : Nat → Int} {F : HF} {A : HA} {al : AL} (hK : KX al) (hX : XF F) (hk : al.1 a = (0, 63)) (hc : ∀ j, j < 63 → A 39 j = c j ∧ InR (c j)) (hw : ∀ j, j < 63 → A a j = w j ∧ InR (w j)) : QE 1 0 0 mX3_isAhead [vA 36, vA a] F A al (PI (if ahE w c 63 0 = true then 1 else 0) F A al) := by
  refine QE.mk (by decide +kernel) (Nat.le_of_ble_eq_true rfl) ?_
  refine q_iconst eX3_isAhead_0 ?_
  refine q_istore_n eX3_isAhead_1 (by decide) rfl ?_
  exact lp_isAhead hK hX hk hc hw 63 0 (by omega)
set_option maxRecDepth 20000 in
theorem lp_seek {A0 : HA} {dg ch ws : Nat} {m : Int} {mk nb c0 : Nat → Int} {F : HF} {al : AL} (hK : KX al) (hX0 : XF F) (hm : F 2 3 = vI m) (hdg : F 27 2 = vI dg) (hch : F 27 3 = vI ch) (hws : F 27 4 = vI ws) (hws2 : ws < 2147483648) (hm2 : 2 ≤ m) (hm4 : m ≤ 4096) (hd63 : dg ≤ 63) (hch63 : ch ≤ 63) (hmk : ∀ i, i ≤ dg → 0 ≤ mk i ∧ mk i < m) (hA28 : ∀ i, i ≤ dg → A0 28 i = mk i) (hnb : ∀ j, j < 63 → A0 37 j = nb j ∧ InR (nb j)) : ∀ (k i : Nat) (A : HA) (l2 : Option LV), i + k = ws → Off [39, 42, 43] A0 A → (∀ j, j < 63 → A 42 j = (wkE m dg ch mk i).1 j) → (∀ j, j < 63 → A 43 j = (wkE m dg ch mk i).2 j) → (∀ j, j < 63 → A 39 j = (skE m dg ch mk nb c0 i).2 j ∧ InR ((skE m dg ch mk nb c0 i).2 j)) → InR (skE m dg ch mk nb c0 i).1 →
    QW mX3_seek 3 0 0 (fun o F' A' al' => o = .inl none ∧ F' = up2 (up2 F 36 7 (vI (skE m dg ch mk nb c0 ws).1)) 36 9 (vI 1) ∧ al' = al ∧ Off [39, 42, 43] A0 A' ∧ ∀ j, j < 63 → A' 39 j = (skE m dg ch mk nb c0 ws).2 j) 0 0 23 [some (vA 36), some (vI i), l2] [] (up2 F 36 7 (vI (skE m dg ch mk nb c0 i).1)) A al := by
  intro k
  induction k with
  | zero =>
    intro i A l2 hi ho h1 h2 h3 h4
    have ei : i = ws := by omega
    subst ei
    have hX := hX0.up (v := vI (skE m dg ch mk nb c0 i).1) (show plainF xrefs 36 7 = true by decide)
    have hws' : up2 F 36 7 (vI (skE m dg ch mk nb c0 i).1) 27 4 = vI i := by rw [up2_row (by decide)]; exact hws
    refine q_iload_n eX3_seek_23 rfl ?_
    refine q_aload_n eX3_seek_24 rfl ?_
    refine q_getfield eX3_seek_25 gf_X3_47 (hK _ (by decide) (by decide)) (by decide) (xf_36_11 hX) ?_
    refine q_getfield eX3_seek_28 gf_X3_116 (hK _ (by decide) (by decide)) (by decide) (by assumption) ?_
    refine q_icmp_ge (tgt := 112) eX3_seek_31 (by decide) (by first | assumption | exact ⟨by omega, by omega⟩) (by first | assumption | exact ⟨by omega, by omega⟩) (fun c31 => ?_) (fun c31 => ?_)
    · refine q_aload_n eX3_seek_112 rfl ?_
      refine q_iconst eX3_seek_113 ?_
      refine q_putfield eX3_seek_114 pf_X3_41 (hK _ (by decide) (by decide)) (by decide) (FT_z rfl (Or.inr rfl)) ?_
      refine q_retV eX3_seek_117 rfl (by decide) (by decide) ?_
      exact ⟨rfl, rfl, rfl, ho, fun j hj => (h3 j hj).1⟩
    · exact absurd c31 (by omega)
  | succ k ih =>
    intro i A l2 hi ho h1 h2 h3 h4
    obtain ⟨hr1, hr2⟩ := wk_range (m := m) (dg := dg) (ch := ch) (mk := mk) (by omega) i
    have hX := hX0.up (v := vI (skE m dg ch mk nb c0 i).1) (show plainF xrefs 36 7 = true by decide)
    have hws' : up2 F 36 7 (vI (skE m dg ch mk nb c0 i).1) 27 4 = vI ws := by rw [up2_row (by decide)]; exact hws
    have hf7 : up2 F 36 7 (vI (skE m dg ch mk nb c0 i).1) 36 7 = vI (skE m dg ch mk nb c0 i).1 := up2_eq _ _ _ _
    have hpo : poE nb (wkE m dg ch mk i).1 63 ≤ 63 := ctn_le _ 63
    have hb : ∀ j, j < 63 → A 37 j = nb j ∧ InR (nb j) := fun j hj => by rw [ho 37 (by decide)]; exact hnb j hj
    have hw : ∀ j, j < 63 → A 42 j = (wkE m dg ch mk i).1 j ∧ InR ((wkE m dg ch mk i).1 j) := fun j hj => ⟨h1 j hj, by have := hr1 j; exact ⟨by omega, by omega⟩⟩
    have hst : skE m dg ch mk nb c0 (i + 1) = if ((poE nb (wkE m dg ch mk i).1 63 : Nat) : Int) < (skE m dg ch mk nb c0 i).1 ∨ ((poE nb (wkE m dg ch mk i).1 63 : Nat) : Int) = (skE m dg ch mk nb c0 i).1 ∧ ahE (wkE m dg ch mk i).1 (skE m dg ch mk nb c0 i).2 63 0 = true then (((poE nb (wkE m dg ch mk i).1 63 : Nat) : Int), (wkE m dg ch mk i).1) else (skE m dg ch mk nb c0 i) := rfl
    have tail : ∀ (s : Int × (Nat → Int)) (A1 : HA) (l2 : Option LV), skE m dg ch mk nb c0 (i + 1) = s → InR s.1 → Off [39] A A1 → (∀ j, j < 63 → A1 39 j = s.2 j ∧ InR (s.2 j)) → QW mX3_seek 3 0 0 (fun o F' A' al' => o = .inl none ∧ F' = up2 (up2 F 36 7 (vI (skE m dg ch mk nb c0 ws).1)) 36 9 (vI 1) ∧ al' = al ∧ Off [39, 42, 43] A0 A' ∧ ∀ j, j < 63 → A' 39 j = (skE m dg ch mk nb c0 ws).2 j) 0 0 99 [some (vA 36), some (vI i), l2] [] (up2 F 36 7 (vI s.1)) A1 al := by
      intro s A1 l2 hs r1 o1 v1
      have hX := hX0.up (v := vI s.1) (show plainF xrefs 36 7 = true by decide)
      have r0 : ∀ a, a ≠ 36 → up2 F 36 7 (vI s.1) a = F a := fun a ha => up2_row ha
      refine q_aload_n eX3_seek_99 rfl ?_
      refine q_getfield eX3_seek_100 gf_X3_56 (hK _ (by decide) (by decide)) (by decide) (xf_36_12 hX) ?_
      refine q_callVV [] (M1 := mX9_step) eX3_seek_103 mf_X9_step lk_X3_134 (hK _ (by decide) (by decide)) (ev_step (s := wkE m dg ch mk i) hK hX (hK _ (by decide) (by decide)) (hK _ (by decide) (by decide)) (hK _ (by decide) (by decide)) (xf_41_0 hX) (xf_41_1 hX) (xf_41_2 hX) (by decide) (by rw [r0 2 (by decide)]; exact hm) (by rw [r0 27 (by decide)]; exact hdg) hm2 hm4 hd63 hmk (by rw [r0 27 (by decide)]; exact hch) hch63 (fun i hi => by rw [o1 28 (by decide), ho 28 (by decide)]; exact hA28 i hi) hr1 hr2 (fun i hi => by rw [o1 42 (by decide)]; exact h1 i hi) (fun i hi => by rw [o1 43 (by decide)]; exact h2 i hi)) (by decide) (by decide) (by decide) (Nat.le_of_ble_eq_true rfl) rfl (fun A4 h4b => ?_)
      obtain ⟨o4, v4, w4⟩ := h4b
      refine q_iinc eX3_seek_106 rfl (by decide) rfl ?_
      refine q_goto (tgt := 23) eX3_seek_109 (by decide) ?_
      subst hs
      exact ih (i + 1) A4 _ (by omega) ((ho.trans (o1.mono (by simp))).trans (o4.mono (by simp))) v4 w4 (fun j hj => by rw [o4 39 (by decide)]; exact v1 j hj) r1
    have hcp : Off [39] A (cpA A 42 39 63) := fun b hb => if_neg (fun e => hb (by rw [e]; simp))
    have hcv : ∀ j, j < 63 → cpA A 42 39 63 39 j = (wkE m dg ch mk i).1 j ∧ InR ((wkE m dg ch mk i).1 j) := fun j hj => by
      refine ⟨?_, (hw j hj).2⟩
      unfold cpA
      rw [if_pos rfl, if_pos hj]
      exact h1 j hj
    have hra : InR (if ahE (wkE m dg ch mk i).1 (skE m dg ch mk nb c0 i).2 63 0 = true then 1 else 0) := by split <;> exact ⟨by decide, by decide⟩
    obtain ⟨po, hpoE⟩ : ∃ po, po = poE nb (wkE m dg ch mk i).1 63 := ⟨_, rfl⟩
    rw [← hpoE] at hst hpo
    have hpi : InR (po : Int) := ⟨by omega, by omega⟩
    refine q_iload_n eX3_seek_23 rfl ?_
    refine q_aload_n eX3_seek_24 rfl ?_
    refine q_getfield eX3_seek_25 gf_X3_47 (hK _ (by decide) (by decide)) (by decide) (xf_36_11 (by first | exact hX | exact hX.up (by decide))) ?_
    refine q_getfield eX3_seek_28 gf_X3_116 (hK _ (by decide) (by decide)) (by decide) (by assumption) ?_
    refine q_icmp_ge (tgt := 112) eX3_seek_31 (by decide) (by first | assumption | exact ⟨by omega, by omega⟩) (by first | assumption | exact ⟨by omega, by omega⟩) (fun c31 => ?_) (fun c31 => ?_)
    · exact absurd c31 (by omega)
    · refine q_aload_n eX3_seek_34 rfl ?_
      refine q_aload_n eX3_seek_35 rfl ?_
      refine q_getfield eX3_seek_36 gf_X3_56 (hK _ (by decide) (by decide)) (by decide) (xf_36_12 (by first | exact hX | exact hX.up (by decide))) ?_
      refine q_getfield eX3_seek_39 gf_X3_119 (hK _ (by decide) (by decide)) (by decide) (xf_41_0 (by first | exact hX | exact hX.up (by decide))) ?_
      refine q_callVP [vA 42] (M1 := mX3_placesOff) eX3_seek_42 mf_X3_placesOff lk_X3_120 (hK _ (by decide) (by decide)) (ev_placesOff hK hX (hK _ (by decide) (by decide)) hb hw) (by decide) (by decide) (by decide) (Nat.le_of_ble_eq_true rfl) rfl ?_
      rw [← hpoE]
      refine q_istore_n eX3_seek_45 (by decide) rfl ?_
      refine q_iload_n eX3_seek_46 rfl ?_
      refine q_aload_n eX3_seek_47 rfl ?_
      refine q_getfield eX3_seek_48 gf_X3_35 (hK _ (by decide) (by decide)) (by decide) (by assumption) ?_
      refine q_icmp_lt (tgt := 76) eX3_seek_51 (by decide) (by first | assumption | exact ⟨by omega, by omega⟩) (by first | assumption | exact ⟨by omega, by omega⟩) (fun c51 => ?_) (fun c51 => ?_)
      · refine q_aload_n eX3_seek_76 rfl ?_
        refine q_iload_n eX3_seek_77 rfl ?_
        refine q_putfield eX3_seek_78 pf_X3_35 (hK _ (by decide) (by decide)) (by decide) (FT_i rfl) ?_
        refine q_aload_n eX3_seek_81 rfl ?_
        refine q_getfield eX3_seek_82 gf_X3_56 (hK _ (by decide) (by decide)) (by decide) (xf_36_12 (by first | exact hX | exact hX.up (by decide))) ?_
        refine q_getfield eX3_seek_85 gf_X3_119 (hK _ (by decide) (by decide)) (by decide) (xf_41_0 (by first | exact hX | exact hX.up (by decide))) ?_
        refine q_iconst eX3_seek_88 ?_
        refine q_aload_n eX3_seek_89 rfl ?_
        refine q_getfield eX3_seek_90 gf_X3_38 (hK _ (by decide) (by decide)) (by decide) (xf_36_8 (by first | exact hX | exact hX.up (by decide))) ?_
        refine q_iconst eX3_seek_93 ?_
        refine q_bipush eX3_seek_94 (by decide +kernel) ?_
        refine q_arrcopy (n := 63) rfl eX3_seek_96 (hK _ (by decide) (by decide)) (hK _ (by decide) (by decide)) (by decide) (by decide) ?_
        first
        | (rw [up2_up2]
           exact tail ((po : Int), (wkE m dg ch mk i).1) _ _ (by rw [hst, if_pos (Or.inl c51)]) hpi hcp hcv)
        | (rw [up2_up2]
           exact tail ((po : Int), (wkE m dg ch mk i).1) _ _ (by rw [hst, if_pos (Or.inr ⟨c59, Classical.byContradiction fun h => c73 (if_neg h)⟩)]) hpi hcp hcv)
        | exact tail (skE m dg ch mk nb c0 i) _ _ (by rw [hst, if_neg (fun h => by rcases h with h | h; exact c51 h; exact c59 h.1)]) h4 Off.rfl' h3
        | exact tail (skE m dg ch mk nb c0 i) _ _ (by rw [hst, if_neg (fun h => by rcases h with h | h; exact c51 h; rw [if_pos h.2] at c73; exact absurd c73 (by decide))]) h4 Off.rfl' h3
      · refine q_iload_n eX3_seek_54 rfl ?_
        refine q_aload_n eX3_seek_55 rfl ?_
        refine q_getfield eX3_seek_56 gf_X3_35 (hK _ (by decide) (by decide)) (by decide) (by assumption) ?_
        refine q_icmp_ne (tgt := 99) eX3_seek_59 (by decide) (by first | assumption | exact ⟨by omega, by omega⟩) (by first | assumption | exact ⟨by omega, by omega⟩) (fun c59 => ?_) (fun c59 => ?_)
        · first
          | (rw [up2_up2]
             exact tail ((po : Int), (wkE m dg ch mk i).1) _ _ (by rw [hst, if_pos (Or.inl c51)]) hpi hcp hcv)
          | (rw [up2_up2]
             exact tail ((po : Int), (wkE m dg ch mk i).1) _ _ (by rw [hst, if_pos (Or.inr ⟨c59, Classical.byContradiction fun h => c73 (if_neg h)⟩)]) hpi hcp hcv)
          | exact tail (skE m dg ch mk nb c0 i) _ _ (by rw [hst, if_neg (fun h => by rcases h with h | h; exact c51 h; exact c59 h.1)]) h4 Off.rfl' h3
          | exact tail (skE m dg ch mk nb c0 i) _ _ (by rw [hst, if_neg (fun h => by rcases h with h | h; exact c51 h; rw [if_pos h.2] at c73; exact absurd c73 (by decide))]) h4 Off.rfl' h3
        · refine q_aload_n eX3_seek_62 rfl ?_
          refine q_aload_n eX3_seek_63 rfl ?_
          refine q_getfield eX3_seek_64 gf_X3_56 (hK _ (by decide) (by decide)) (by decide) (xf_36_12 (by first | exact hX | exact hX.up (by decide))) ?_
          refine q_getfield eX3_seek_67 gf_X3_119 (hK _ (by decide) (by decide)) (by decide) (xf_41_0 (by first | exact hX | exact hX.up (by decide))) ?_
          refine q_callVP [vA 42] (M1 := mX3_isAhead) eX3_seek_70 mf_X3_isAhead lk_X3_124 (hK _ (by decide) (by decide)) (ev_isAhead hK hX (hK _ (by decide) (by decide)) h3 hw) (by decide) (by decide) (by decide) (Nat.le_of_ble_eq_true rfl) rfl ?_
          refine q_if_eq (tgt := 99) eX3_seek_73 (by decide) (by first | assumption | exact ⟨by omega, by omega⟩) (fun c73 => ?_) (fun c73 => ?_)
          · first
            | (rw [up2_up2]
               exact tail ((po : Int), (wkE m dg ch mk i).1) _ _ (by rw [hst, if_pos (Or.inl c51)]) hpi hcp hcv)
            | (rw [up2_up2]
               exact tail ((po : Int), (wkE m dg ch mk i).1) _ _ (by rw [hst, if_pos (Or.inr ⟨c59, Classical.byContradiction fun h => c73 (if_neg h)⟩)]) hpi hcp hcv)
            | exact tail (skE m dg ch mk nb c0 i) _ _ (by rw [hst, if_neg (fun h => by rcases h with h | h; exact c51 h; exact c59 h.1)]) h4 Off.rfl' h3
            | exact tail (skE m dg ch mk nb c0 i) _ _ (by rw [hst, if_neg (fun h => by rcases h with h | h; exact c51 h; rw [if_pos h.2] at c73; exact absurd c73 (by decide))]) h4 Off.rfl' h3
          · refine q_aload_n eX3_seek_76 rfl ?_
            refine q_iload_n eX3_seek_77 rfl ?_
            refine q_putfield eX3_seek_78 pf_X3_35 (hK _ (by decide) (by decide)) (by decide) (FT_i rfl) ?_
            refine q_aload_n eX3_seek_81 rfl ?_
            refine q_getfield eX3_seek_82 gf_X3_56 (hK _ (by decide) (by decide)) (by decide) (xf_36_12 (by first | exact hX | exact hX.up (by decide))) ?_
            refine q_getfield eX3_seek_85 gf_X3_119 (hK _ (by decide) (by decide)) (by decide) (xf_41_0 (by first | exact hX | exact hX.up (by decide))) ?_
            refine q_iconst eX3_seek_88 ?_
            refine q_aload_n eX3_seek_89 rfl ?_
            refine q_getfield eX3_seek_90 gf_X3_38 (hK _ (by decide) (by decide)) (by decide) (xf_36_8 (by first | exact hX | exact hX.up (by decide))) ?_
            refine q_iconst eX3_seek_93 ?_
            refine q_bipush eX3_seek_94 (by decide +kernel) ?_
            refine q_arrcopy (n := 63) rfl eX3_seek_96 (hK _ (by decide) (by decide)) (hK _ (by decide) (by decide)) (by decide) (by decide) ?_
            first
            | (rw [up2_up2]
               exact tail ((po : Int), (wkE m dg ch mk i).1) _ _ (by rw [hst, if_pos (Or.inl c51)]) hpi hcp hcv)
            | (rw [up2_up2]
               exact tail ((po : Int), (wkE m dg ch mk i).1) _ _ (by rw [hst, if_pos (Or.inr ⟨c59, Classical.byContradiction fun h => c73 (if_neg h)⟩)]) hpi hcp hcv)
            | exact tail (skE m dg ch mk nb c0 i) _ _ (by rw [hst, if_neg (fun h => by rcases h with h | h; exact c51 h; exact c59 h.1)]) h4 Off.rfl' h3
            | exact tail (skE m dg ch mk nb c0 i) _ _ (by rw [hst, if_neg (fun h => by rcases h with h | h; exact c51 h; rw [if_pos h.2] at c73; exact absurd c73 (by decide))]) h4 Off.rfl' h3
set_option maxRecDepth 20000 in
theorem ev_seek {dg ch ws : Nat} {m : Int} {mk nb c0 : Nat → Int} {F : HF} {A : HA} {al : AL} (hK : KX al) (hX : XF F) (hsk : F 36 9 = vI 0) (hm : F 2 3 = vI m) (hdg : F 27 2 = vI dg) (hch : F 27 3 = vI ch) (hws : F 27 4 = vI ws) (hws2 : ws < 2147483648) (hm2 : 2 ≤ m) (hm4 : m ≤ 4096) (hd63 : dg ≤ 63) (hch63 : ch ≤ 63) (hmk : ∀ i, i ≤ dg → 0 ≤ mk i ∧ mk i < m) (hA28 : ∀ i, i ≤ dg → A 28 i = mk i) (hnb : ∀ j, j < 63 → A 37 j = nb j ∧ InR (nb j)) (hc0 : ∀ j, j < 63 → A 39 j = c0 j ∧ InR (c0 j)) : QE 3 0 0 mX3_seek [vA 36] F A al ((fun o F' A' al' => o = .inl none ∧ F' = up2 (up2 F 36 7 (vI (skE m dg ch mk nb c0 ws).1)) 36 9 (vI 1) ∧ al' = al ∧ Off [39, 42, 43] A A' ∧ ∀ j, j < 63 → A' 39 j = (skE m dg ch mk nb c0 ws).2 j)) := by
  refine QE.mk (by decide +kernel) (Nat.le_of_ble_eq_true rfl) ?_
  refine q_aload_n eX3_seek_0 rfl ?_
  refine q_getfield eX3_seek_1 gf_X3_41 (hK _ (by decide) (by decide)) (by decide) hsk ?_
  refine q_if_eq (tgt := 8) eX3_seek_4 (by decide) (by first | assumption | exact ⟨by omega, by omega⟩) (fun c4 => ?_) (fun c4 => ?_)
  · refine q_aload_n eX3_seek_8 rfl ?_
    refine q_bipush eX3_seek_9 (by decide +kernel) ?_
    refine q_putfield eX3_seek_11 pf_X3_35 (hK _ (by decide) (by decide)) (by decide) (FT_i rfl) ?_
    refine q_aload_n eX3_seek_14 rfl ?_
    refine q_getfield eX3_seek_15 gf_X3_56 (hK _ (by decide) (by decide)) (by decide) (xf_36_12 (by first | exact hX | exact hX.up (by decide))) ?_
    refine q_callVV [] (M1 := mX9_start) eX3_seek_18 mf_X9_start lk_X3_113 (hK _ (by decide) (by decide)) (ev_start (hK _ (by decide) (by decide)) (hK _ (by decide) (by decide)) (hK _ (by decide) (by decide)) (xf_41_0 (hX.up (show plainF xrefs 36 7 = true by decide))) (xf_41_1 (hX.up (show plainF xrefs 36 7 = true by decide))) (by decide)) (by decide) (by decide) (by decide) (Nat.le_of_ble_eq_true rfl) rfl (fun A3 h3 => ?_)
    obtain ⟨o3, v3, w3⟩ := h3
    refine q_iconst eX3_seek_21 ?_
    refine q_istore_n eX3_seek_22 (by decide) rfl ?_
    exact lp_seek (A0 := A) (c0 := c0) hK hX hm hdg hch hws hws2 hm2 hm4 hd63 hch63 hmk hA28 hnb ws 0 A3 _ (by omega) (o3.mono (by simp)) v3 w3 (fun j hj => by rw [o3 39 (by decide)]; exact hc0 j hj) (show InR 64 from ⟨by decide, by decide⟩)
  · exact absurd rfl c4
set_option maxRecDepth 20000 in
theorem ev_sought {F : HF} {A : HA} {al : AL} (hK : KX al) (hsk : F 36 9 = vI 1) : QE 3 0 0 mX3_seek [vA 36] F A al (PV F al (fun A2 => Off [] A A2)) := by
  refine QE.mk (by decide +kernel) (Nat.le_of_ble_eq_true rfl) ?_
  refine q_aload_n eX3_seek_0 rfl ?_
  refine q_getfield eX3_seek_1 gf_X3_41 (hK _ (by decide) (by decide)) (by decide) hsk ?_
  refine q_if_eq (tgt := 8) eX3_seek_4 (by decide) (by first | assumption | exact ⟨by omega, by omega⟩) (fun c4 => ?_) (fun c4 => ?_)
  · exact absurd c4 (by decide)
  · refine q_retV eX3_seek_7 rfl (by decide) (by decide) ?_
    exact ⟨rfl, rfl, rfl, Off.rfl'⟩
