/-! Weights -/
theorem XF.foff {l : List (Nat × Nat)} {F F2 : HF} (h : XF F) (ho : FOff l F F2) (hl : (l.all fun b => plainF xrefs b.1 b.2) = true) : XF F2 := by
  intro q hq
  rw [ho q.1 q.2.1]
  · exact h q hq
  · intro hm
    have h1 := List.all_eq_true.mp hl _ hm
    have h2 := List.all_eq_true.mp h1 q hq
    simp at h2
theorem FOff.row {l : List (Nat × Nat)} {F F2 : HF} (ho : FOff l F F2) (a : Nat) (h : (l.all fun b => b.1 != a) = true) : F2 a = F a := by
  funext k
  refine ho a k fun hm => ?_
  have h1 := List.all_eq_true.mp h _ hm
  simp at h1
def wtE (nu : Nat → Int) (k : Nat) : Nat := ctn (fun i => decide (0 < nu i)) k
def leE (m : Int) (nu : Nat → Int) : Nat → Int
  | 0 => 0
  | k + 1 => leE m nu k + (if 0 < nu k then (if nu k < m - nu k then nu k else m - nu k) else 0)
theorem le_range {m : Int} {nu : Nat → Int} (hm : m ≤ 4096) (h : ∀ j, 0 ≤ nu j ∧ nu j < m) : ∀ k, 0 ≤ leE m nu k ∧ leE m nu k ≤ 4096 * k
  | 0 => ⟨Int.le_refl _, Int.le_refl _⟩
  | k + 1 => by
    have h1 := le_range hm h k
    have h2 := h k
    unfold leE
    split
    · split <;> omega
    · omega
set_option maxRecDepth 20000 in
theorem lp_weighOne {nu : Nat} {m : Int} {nv : Nat → Int} {F : HF} {A : HA} {al : AL} (hK : KX al) (hX : XF F) (hkn : al.1 nu = (0, 63)) (hm : F 2 3 = vI m) (hm4 : m ≤ 4096) (hnv : ∀ j, 0 ≤ nv j ∧ nv j < m) (hA : ∀ j, j < 63 → A nu j = nv j) : ∀ (k i : Nat) (l6 : Option LV), i + k = 63 →
    QW mX10_weighOne 1 0 0 (PV F al (fun A2 => Off [31, 32] A A2 ∧ (∀ j, j < 64 → A2 31 j = A 31 j + (if wtE nv 63 = j then 1 else 0)) ∧ ∀ j : Nat, j < 7201 → A2 32 j = A 32 j + (if leE m nv 63 = j then 1 else 0))) 0 0 19 [some (vA 30), some (vA nu), some (vI m), some (vI (wtE nv i : Nat)), some (vI (leE m nv i)), some (vI i), l6] [] F A al := by
  intro k
  induction k with
  | zero =>
    intro i l6 hi
    have ei : i = 63 := by omega
    subst ei
    have hwt : wtE nv 63 ≤ 63 := ctn_le _ 63
    have hle := le_range hm4 hnv 63
    refine q_iload eX10_weighOne_19 rfl ?_
    refine q_aload_n eX10_weighOne_21 rfl ?_
    refine q_alen eX10_weighOne_22 hkn ?_
    refine q_icmp_ge (tgt := 69) eX10_weighOne_23 (by decide) (by first | assumption | exact ⟨by omega, by omega⟩) (by first | assumption | exact ⟨by omega, by omega⟩) (fun c23 => ?_) (fun c23 => ?_)
    · refine q_aload_n eX10_weighOne_69 rfl ?_
      refine q_getfield eX10_weighOne_70 gf_X10_15 (hK _ (by decide) (by decide)) (by decide) (xf_30_1 hX) ?_
      refine q_iload_n eX10_weighOne_73 rfl ?_
      refine q_iconst eX10_weighOne_74 ?_
      refine q_callSV [vA 31, vI (wtE nv 63 : Nat), vI 1] (M1 := mX7_add) eX10_weighOne_75 mf_X7_add lk_X10_69 (ev_addN (hK _ (by decide) (by decide)) (show wtE nv 63 < 64 by omega) (by decide)) (by decide) (by decide) (by decide) (Nat.le_of_ble_eq_true rfl) rfl (fun A3 h3 => ?_)
      subst h3
      refine q_aload_n eX10_weighOne_78 rfl ?_
      refine q_getfield eX10_weighOne_79 gf_X10_19 (hK _ (by decide) (by decide)) (by decide) (xf_30_2 hX) ?_
      refine q_iload eX10_weighOne_82 rfl ?_
      refine q_iconst eX10_weighOne_84 ?_
      refine q_callSV [vA 32, vI (leE m nv 63), vI 1] (M1 := mX7_add) eX10_weighOne_85 mf_X7_add lk_X10_69 (ev_add (hK _ (by decide) (by decide)) ⟨by omega, by omega⟩ (by decide)) (by decide) (by decide) (by decide) (Nat.le_of_ble_eq_true rfl) rfl (fun A4 h4 => ?_)
      refine q_retV eX10_weighOne_88 rfl (by decide) (by decide) ?_
      refine ⟨rfl, rfl, rfl, ?_, fun j hj => ?_, fun j hj => ?_⟩
      · rw [h4]
        split
        · exact (Off.up (by simp)).trans (Off.up (by simp))
        · exact Off.up (by simp)
      · have e1 : A4 31 = up2 A 31 (wtE nv 63) (A 31 (wtE nv 63) + 1) 31 := by
          rw [h4]
          split
          · exact up2_row (by decide)
          · rfl
        rw [e1, up2_at]
        by_cases he : j = wtE nv 63
        · rw [if_pos he, if_pos he.symm, he]
        · rw [if_neg he, if_neg (fun h => he h.symm), Int.add_zero]
      · rw [h4]
        split
        · next hc =>
          rw [up2_at, up2_row (by decide)]
          by_cases he : j = (leE m nv 63).toNat
          · rw [if_pos he, if_pos (by omega), he]
          · rw [if_neg he, if_neg (by omega), Int.add_zero]
        · next hc =>
          rw [up2_row (by decide), if_neg (by omega), Int.add_zero]
    · exact absurd c23 (by omega)
  | succ k ih =>
    intro i l6 hi
    have hni := hnv i
    have hAi := hA i (by omega)
    have hwt : wtE nv i ≤ i := ctn_le _ i
    have hle := le_range hm4 hnv i
    have h0 : 0 < nv i → wtE nv (i + 1) = wtE nv i + 1 := fun h => ctn_yes (by rw [decide_eq_true_eq]; exact h)
    have h1 : ¬ 0 < nv i → wtE nv (i + 1) = wtE nv i := fun h => ctn_no (by rw [decide_eq_true_eq]; exact h)
    have hst : leE m nv (i + 1) = leE m nv i + (if 0 < nv i then (if nv i < m - nv i then nv i else m - nv i) else 0) := rfl
    refine q_iload eX10_weighOne_19 rfl ?_
    refine q_aload_n eX10_weighOne_21 rfl ?_
    refine q_alen eX10_weighOne_22 hkn ?_
    refine q_icmp_ge (tgt := 69) eX10_weighOne_23 (by decide) (by first | assumption | exact ⟨by omega, by omega⟩) (by first | assumption | exact ⟨by omega, by omega⟩) (fun c23 => ?_) (fun c23 => ?_)
    · exact absurd c23 (by omega)
    · refine q_aload_n eX10_weighOne_26 rfl ?_
      refine q_iload eX10_weighOne_27 rfl ?_
      refine q_iald eX10_weighOne_29 hkn (by omega) (by omega) ?_
      rw [show A nu (i : Int).toNat = nv i from hAi]
      refine q_istore eX10_weighOne_30 (by decide) rfl ?_
      refine q_iload eX10_weighOne_32 rfl ?_
      refine q_if_le (tgt := 63) eX10_weighOne_34 (by decide) (by first | assumption | exact ⟨by omega, by omega⟩) (fun c34 => ?_) (fun c34 => ?_)
      · refine q_iinc eX10_weighOne_63 rfl (by decide) rfl ?_
        refine q_goto (tgt := 19) eX10_weighOne_66 (by decide) ?_
        have ih1 := ih (i + 1)
        first
        | (rw [h1 (by omega), hst, if_neg (by omega), Int.add_zero] at ih1
           exact ih1 _ (by omega))
        | (rw [h0 (by omega), hst, if_pos (by omega), if_pos (by omega)] at ih1
           exact ih1 _ (by omega))
        | (rw [h0 (by omega), hst, if_pos (by omega), if_neg (by omega)] at ih1
           exact ih1 _ (by omega))
      · refine q_iinc eX10_weighOne_37 rfl (by decide) rfl ?_
        refine q_iload eX10_weighOne_40 rfl ?_
        refine q_iload eX10_weighOne_42 rfl ?_
        refine q_iload_n eX10_weighOne_44 rfl ?_
        refine q_iload eX10_weighOne_45 rfl ?_
        refine q_isub eX10_weighOne_47 ?_
        refine q_icmp_ge (tgt := 56) eX10_weighOne_48 (by decide) (by first | assumption | exact ⟨by omega, by omega⟩) (by first | assumption | exact ⟨by omega, by omega⟩) (fun c48 => ?_) (fun c48 => ?_)
        · refine q_iload_n eX10_weighOne_56 rfl ?_
          refine q_iload eX10_weighOne_57 rfl ?_
          refine q_isub eX10_weighOne_59 ?_
          refine q_iadd eX10_weighOne_60 ?_
          refine q_istore eX10_weighOne_61 (by decide) rfl ?_
          refine q_iinc eX10_weighOne_63 rfl (by decide) rfl ?_
          refine q_goto (tgt := 19) eX10_weighOne_66 (by decide) ?_
          have ih1 := ih (i + 1)
          first
          | (rw [h1 (by omega), hst, if_neg (by omega), Int.add_zero] at ih1
             exact ih1 _ (by omega))
          | (rw [h0 (by omega), hst, if_pos (by omega), if_pos (by omega)] at ih1
             exact ih1 _ (by omega))
          | (rw [h0 (by omega), hst, if_pos (by omega), if_neg (by omega)] at ih1
             exact ih1 _ (by omega))
        · refine q_iload eX10_weighOne_51 rfl ?_
          refine q_goto (tgt := 60) eX10_weighOne_53 (by decide) ?_
          refine q_iadd eX10_weighOne_60 ?_
          refine q_istore eX10_weighOne_61 (by decide) rfl ?_
          refine q_iinc eX10_weighOne_63 rfl (by decide) rfl ?_
          refine q_goto (tgt := 19) eX10_weighOne_66 (by decide) ?_
          have ih1 := ih (i + 1)
          first
          | (rw [h1 (by omega), hst, if_neg (by omega), Int.add_zero] at ih1
             exact ih1 _ (by omega))
          | (rw [h0 (by omega), hst, if_pos (by omega), if_pos (by omega)] at ih1
             exact ih1 _ (by omega))
          | (rw [h0 (by omega), hst, if_pos (by omega), if_neg (by omega)] at ih1
             exact ih1 _ (by omega))
set_option maxRecDepth 20000 in
theorem ev_weighOne {nu : Nat} {m : Int} {nv : Nat → Int} {F : HF} {A : HA} {al : AL} (hK : KX al) (hX : XF F) (hkn : al.1 nu = (0, 63)) (hm : F 2 3 = vI m) (hm4 : m ≤ 4096) (hnv : ∀ j, 0 ≤ nv j ∧ nv j < m) (hA : ∀ j, j < 63 → A nu j = nv j) : QE 1 0 0 mX10_weighOne [vA 30, vA nu] F A al (PV F al (fun A2 => Off [31, 32] A A2 ∧ (∀ j, j < 64 → A2 31 j = A 31 j + (if wtE nv 63 = j then 1 else 0)) ∧ ∀ j : Nat, j < 7201 → A2 32 j = A 32 j + (if leE m nv 63 = j then 1 else 0))) := by
  refine QE.mk (by decide +kernel) (Nat.le_of_ble_eq_true rfl) ?_
  refine q_aload_n eX10_weighOne_0 rfl ?_
  refine q_getfield eX10_weighOne_1 gf_X10_22 (hK _ (by decide) (by decide)) (by decide) (xf_30_3 hX) ?_
  refine q_getfield eX10_weighOne_4 gf_X10_60 (hK _ (by decide) (by decide)) (by decide) (xf_27_0 hX) ?_
  refine q_getfield eX10_weighOne_7 gf_X10_64 (hK _ (by decide) (by decide)) (by decide) (by assumption) ?_
  refine q_istore_n eX10_weighOne_10 (by decide) rfl ?_
  refine q_iconst eX10_weighOne_11 ?_
  refine q_istore_n eX10_weighOne_12 (by decide) rfl ?_
  refine q_iconst eX10_weighOne_13 ?_
  refine q_istore eX10_weighOne_14 (by decide) rfl ?_
  refine q_iconst eX10_weighOne_16 ?_
  refine q_istore eX10_weighOne_17 (by decide) rfl ?_
  exact lp_weighOne hK hX hkn hm hm4 hnv hA 63 0 _ (by omega)
set_option maxRecDepth 20000 in
theorem lp_weigh {A0 : HA} {dg ch : Nat} {m : Int} {mk : Nat → Int} {ws : Nat} {F : HF} {al : AL} (hK : KX al) (hX : XF F) (hm : F 2 3 = vI m) (hdg : F 27 2 = vI dg) (hch : F 27 3 = vI ch) (hm2 : 2 ≤ m) (hm4 : m ≤ 4096) (hd63 : dg ≤ 63) (hch63 : ch ≤ 63) (hmk : ∀ i, i ≤ dg → 0 ≤ mk i ∧ mk i < m) (hws : F 27 4 = vI ws) (hws2 : ws < 2147483648) (hA28 : ∀ i, i ≤ dg → A0 28 i = mk i) : ∀ (k i : Nat) (A : HA), i + k = ws → Off [31, 32, 34, 35] A0 A → (∀ j, j < 63 → A 34 j = (wkE m dg ch mk i).1 j) → (∀ j, j < 63 → A 35 j = (wkE m dg ch mk i).2 j) → (∀ j, j < 64 → A 31 j = (ctn (fun t => decide (wtE (wkE m dg ch mk t).1 63 = j)) i : Nat)) → (∀ j : Nat, j < 7201 → A 32 j = (ctn (fun t => decide (leE m (wkE m dg ch mk t).1 63 = j)) i : Nat)) →
    QW mX10_weigh 3 0 0 (fun o F' A' al' => o = .inl none ∧ F' = up2 F 30 0 (vI 1) ∧ al' = al ∧ (fun A2 => Off [31, 32, 34, 35] A0 A2 ∧ (∀ j, j < 64 → A2 31 j = (ctn (fun t => decide (wtE (wkE m dg ch mk t).1 63 = j)) ws : Nat)) ∧ ∀ j : Nat, j < 7201 → A2 32 j = (ctn (fun t => decide (leE m (wkE m dg ch mk t).1 63 = j)) ws : Nat)) A') 0 0 33 [some (vA 30), some (vI i)] [] F A al := by
  intro k
  induction k with
  | zero =>
    intro i A hi ho h1 h2 h3 h4
    have ei : i = ws := by omega
    subst ei
    refine q_iload_n eX10_weigh_33 rfl ?_
    refine q_aload_n eX10_weigh_34 rfl ?_
    refine q_getfield eX10_weigh_35 gf_X10_22 (hK _ (by decide) (by decide)) (by decide) (xf_30_3 hX) ?_
    refine q_getfield eX10_weigh_38 gf_X10_44 (hK _ (by decide) (by decide)) (by decide) (by assumption) ?_
    refine q_icmp_ge (tgt := 68) eX10_weigh_41 (by decide) (by first | assumption | exact ⟨by omega, by omega⟩) (by first | assumption | exact ⟨by omega, by omega⟩) (fun c41 => ?_) (fun c41 => ?_)
    · refine q_aload_n eX10_weigh_68 rfl ?_
      refine q_iconst eX10_weigh_69 ?_
      refine q_putfield eX10_weigh_70 pf_X10_9 (hK _ (by decide) (by decide)) (by decide) (FT_z rfl (Or.inr rfl)) ?_
      refine q_retV eX10_weigh_73 rfl (by decide) (by decide) ?_
      exact ⟨rfl, rfl, rfl, ho, h3, h4⟩
    · exact absurd c41 (by omega)
  | succ k ih =>
    intro i A hi ho h1 h2 h3 h4
    obtain ⟨hr1, hr2⟩ := wk_range (m := m) (dg := dg) (ch := ch) (mk := mk) (by omega) i
    refine q_iload_n eX10_weigh_33 rfl ?_
    refine q_aload_n eX10_weigh_34 rfl ?_
    refine q_getfield eX10_weigh_35 gf_X10_22 (hK _ (by decide) (by decide)) (by decide) (xf_30_3 hX) ?_
    refine q_getfield eX10_weigh_38 gf_X10_44 (hK _ (by decide) (by decide)) (by decide) (by assumption) ?_
    refine q_icmp_ge (tgt := 68) eX10_weigh_41 (by decide) (by first | assumption | exact ⟨by omega, by omega⟩) (by first | assumption | exact ⟨by omega, by omega⟩) (fun c41 => ?_) (fun c41 => ?_)
    · exact absurd c41 (by omega)
    · refine q_aload_n eX10_weigh_44 rfl ?_
      refine q_aload_n eX10_weigh_45 rfl ?_
      refine q_getfield eX10_weigh_46 gf_X10_31 (hK _ (by decide) (by decide)) (by decide) (xf_30_4 hX) ?_
      refine q_getfield eX10_weigh_49 gf_X10_50 (hK _ (by decide) (by decide)) (by decide) (xf_33_0 hX) ?_
      refine q_callVV [vA 34] (M1 := mX10_weighOne) eX10_weigh_52 mf_X10_weighOne lk_X10_53 (hK _ (by decide) (by decide)) (ev_weighOne hK hX (hK _ (by decide) (by decide)) hm hm4 hr1 h1) (by decide) (by decide) (by decide) (Nat.le_of_ble_eq_true rfl) rfl (fun A3 h3b => ?_)
      obtain ⟨o3, v3, w3⟩ := h3b
      refine q_aload_n eX10_weigh_55 rfl ?_
      refine q_getfield eX10_weigh_56 gf_X10_31 (hK _ (by decide) (by decide)) (by decide) (xf_30_4 hX) ?_
      refine q_callVV [] (M1 := mX9_step) eX10_weigh_59 mf_X9_step lk_X10_57 (hK _ (by decide) (by decide)) (ev_step (s := wkE m dg ch mk i) hK hX (hK _ (by decide) (by decide)) (hK _ (by decide) (by decide)) (hK _ (by decide) (by decide)) (xf_33_0 hX) (xf_33_1 hX) (xf_33_2 hX) (by decide) hm hdg hm2 hm4 hd63 hmk hch hch63 (fun i hi => by rw [o3 28 (by decide), ho 28 (by decide)]; exact hA28 i hi) hr1 hr2 (fun i hi => by rw [o3 34 (by decide)]; exact h1 i hi) (fun i hi => by rw [o3 35 (by decide)]; exact h2 i hi)) (by decide) (by decide) (by decide) (Nat.le_of_ble_eq_true rfl) rfl (fun A4 h4b => ?_)
      obtain ⟨o4, v4, w4⟩ := h4b
      refine q_iinc eX10_weigh_62 rfl (by decide) rfl ?_
      refine q_goto (tgt := 33) eX10_weigh_65 (by decide) ?_
      refine ih (i + 1) A4 (by omega) ((ho.trans (o3.mono (by simp))).trans (o4.mono (by simp))) v4 w4 (fun j hj => ?_) (fun j hj => ?_)
      · rw [o4 31 (by decide), v3 j hj, h3 j hj]
        by_cases he : wtE (wkE m dg ch mk i).1 63 = j
        · rw [if_pos he, ctn_yes (by rw [decide_eq_true_eq]; exact he)]; rfl
        · rw [if_neg he, ctn_no (by rw [decide_eq_true_eq]; exact he), Int.add_zero]
      · rw [o4 32 (by decide), w3 j hj, h4 j hj]
        by_cases he : leE m (wkE m dg ch mk i).1 63 = j
        · rw [if_pos he, ctn_yes (by rw [decide_eq_true_eq]; exact he)]; rfl
        · rw [if_neg he, ctn_no (by rw [decide_eq_true_eq]; exact he), Int.add_zero]
set_option maxRecDepth 20000 in
theorem ev_weigh {dg ch : Nat} {m : Int} {mk : Nat → Int} {ws : Nat} {F : HF} {A : HA} {al : AL} (hK : KX al) (hX : XF F) (hkn0 : F 30 0 = vI 0) (hm : F 2 3 = vI m) (hdg : F 27 2 = vI dg) (hch : F 27 3 = vI ch) (hm2 : 2 ≤ m) (hm4 : m ≤ 4096) (hd63 : dg ≤ 63) (hch63 : ch ≤ 63) (hmk : ∀ i, i ≤ dg → 0 ≤ mk i ∧ mk i < m) (hws : F 27 4 = vI ws) (hws2 : ws < 2147483648) (hA28 : ∀ i, i ≤ dg → A 28 i = mk i) : QE 3 0 0 mX10_weigh [vA 30] F A al ((fun o F' A' al' => o = .inl none ∧ F' = up2 F 30 0 (vI 1) ∧ al' = al ∧ (fun A2 => Off [31, 32, 34, 35] A A2 ∧ (∀ j, j < 64 → A2 31 j = (ctn (fun t => decide (wtE (wkE m dg ch mk t).1 63 = j)) ws : Nat)) ∧ ∀ j : Nat, j < 7201 → A2 32 j = (ctn (fun t => decide (leE m (wkE m dg ch mk t).1 63 = j)) ws : Nat)) A')) := by
  refine QE.mk (by decide +kernel) (Nat.le_of_ble_eq_true rfl) ?_
  refine q_aload_n eX10_weigh_0 rfl ?_
  refine q_getfield eX10_weigh_1 gf_X10_9 (hK _ (by decide) (by decide)) (by decide) hkn0 ?_
  refine q_if_eq (tgt := 8) eX10_weigh_4 (by decide) (by first | assumption | exact ⟨by omega, by omega⟩) (fun c4 => ?_) (fun c4 => ?_)
  · refine q_aload_n eX10_weigh_8 rfl ?_
    refine q_getfield eX10_weigh_9 gf_X10_15 (hK _ (by decide) (by decide)) (by decide) (xf_30_1 hX) ?_
    refine q_iconst eX10_weigh_12 ?_
    refine q_callSV [vA 31, vI 0] (M1 := mJ7_fill_53178) eX10_weigh_13 mf_J7_fill_53178 lk_X10_35 (ev_fill (hK _ (by decide) (by decide)) (by decide)) (by decide) (by decide) (by decide) (Nat.le_of_ble_eq_true rfl) rfl (fun A1 h1 => ?_)
    obtain ⟨o1, v1⟩ := h1
    refine q_aload_n eX10_weigh_16 rfl ?_
    refine q_getfield eX10_weigh_17 gf_X10_19 (hK _ (by decide) (by decide)) (by decide) (xf_30_2 hX) ?_
    refine q_iconst eX10_weigh_20 ?_
    refine q_callSV [vA 32, vI 0] (M1 := mJ7_fill_53178) eX10_weigh_21 mf_J7_fill_53178 lk_X10_35 (ev_fill (hK _ (by decide) (by decide)) (by decide)) (by decide) (by decide) (by decide) (Nat.le_of_ble_eq_true rfl) rfl (fun A2 h2 => ?_)
    obtain ⟨o2, v2⟩ := h2
    refine q_aload_n eX10_weigh_24 rfl ?_
    refine q_getfield eX10_weigh_25 gf_X10_31 (hK _ (by decide) (by decide)) (by decide) (xf_30_4 hX) ?_
    refine q_callVV [] (M1 := mX9_start) eX10_weigh_28 mf_X9_start lk_X10_41 (hK _ (by decide) (by decide)) (ev_start (hK _ (by decide) (by decide)) (hK _ (by decide) (by decide)) (hK _ (by decide) (by decide)) (xf_33_0 hX) (xf_33_1 hX) (by decide)) (by decide) (by decide) (by decide) (Nat.le_of_ble_eq_true rfl) rfl (fun A3 h3 => ?_)
    obtain ⟨o3, v3, w3⟩ := h3
    refine q_iconst eX10_weigh_31 ?_
    refine q_istore_n eX10_weigh_32 (by decide) rfl ?_
    exact lp_weigh (A0 := A) hK hX hm hdg hch hm2 hm4 hd63 hch63 hmk hws hws2 hA28 ws 0 A3 (by omega) (((o1.mono (by simp)).trans (o2.mono (by simp))).trans (o3.mono (by simp))) v3 w3 (fun j hj => by rw [o3 31 (by decide), o2 31 (by decide)]; exact v1 j hj) (fun j hj => by rw [o3 32 (by decide)]; exact v2 j hj)
  · exact absurd rfl c4
set_option maxRecDepth 20000 in
theorem ev_weighed {F : HF} {A : HA} {al : AL} (hK : KX al) (hkn1 : F 30 0 = vI 1) : QE 3 0 0 mX10_weigh [vA 30] F A al (PV F al (fun A2 => Off [] A A2)) := by
  refine QE.mk (by decide +kernel) (Nat.le_of_ble_eq_true rfl) ?_
  refine q_aload_n eX10_weigh_0 rfl ?_
  refine q_getfield eX10_weigh_1 gf_X10_9 (hK _ (by decide) (by decide)) (by decide) hkn1 ?_
  refine q_if_eq (tgt := 8) eX10_weigh_4 (by decide) (by first | assumption | exact ⟨by omega, by omega⟩) (fun c4 => ?_) (fun c4 => ?_)
  · exact absurd c4 (by decide)
  · refine q_retV eX10_weigh_7 rfl (by decide) (by decide) ?_
    exact ⟨rfl, rfl, rfl, Off.rfl'⟩
/-- the first w from i on (k to try) that c counts -/
def lsE (c : Nat → Int) : Nat → Nat → Int
  | 0, _ => -1
  | k + 1, w => if 0 < c w then w else lsE c k (w + 1)
set_option maxRecDepth 20000 in
theorem lp_least {a n : Nat} {F : HF} {A : HA} {al : AL} (hk : al.1 a = (0, n)) (hn : n < 2147483648) (hA : ∀ j, j < n → InR (A a j)) : ∀ (k w : Nat), w + k = n →
    QW mX10_least 0 0 0 (PI (lsE (A a) k w) F A al) 0 0 2 [some (vA a), some (vI w)] [] F A al := by
  intro k
  induction k with
  | zero =>
    intro w hw
    refine q_iload_n eX10_least_2 rfl ?_
    refine q_aload_n eX10_least_3 rfl ?_
    refine q_alen eX10_least_4 hk ?_
    refine q_icmp_ge (tgt := 22) eX10_least_5 (by decide) (by first | assumption | exact ⟨by omega, by omega⟩) (by first | assumption | exact ⟨by omega, by omega⟩) (fun c5 => ?_) (fun c5 => ?_)
    · refine q_iconst eX10_least_22 ?_
      refine q_retI eX10_least_23 rfl (by decide) (by decide) ?_
      exact PI_ok rfl
    · exact absurd c5 (by omega)
  | succ k ih =>
    intro w hw
    have hr := hA w (by omega)
    have hr' : InR (A a (w : Int).toNat) := hr
    have hst : lsE (A a) (k + 1) w = if 0 < A a w then (w : Int) else lsE (A a) k (w + 1) := rfl
    rw [hst]
    refine q_iload_n eX10_least_2 rfl ?_
    refine q_aload_n eX10_least_3 rfl ?_
    refine q_alen eX10_least_4 hk ?_
    refine q_icmp_ge (tgt := 22) eX10_least_5 (by decide) (by first | assumption | exact ⟨by omega, by omega⟩) (by first | assumption | exact ⟨by omega, by omega⟩) (fun c5 => ?_) (fun c5 => ?_)
    · exact absurd c5 (by omega)
    · refine q_aload_n eX10_least_8 rfl ?_
      refine q_iload_n eX10_least_9 rfl ?_
      refine q_iald eX10_least_10 hk (by omega) (by omega) ?_
      refine q_if_le (tgt := 16) eX10_least_11 (by decide) (by first | assumption | exact ⟨by omega, by omega⟩) (fun c11 => ?_) (fun c11 => ?_)
      · refine q_iinc eX10_least_16 rfl (by decide) rfl ?_
        refine q_goto (tgt := 2) eX10_least_19 (by decide) ?_
        rw [if_neg (show ¬ 0 < A a w by have c := c11; simp only [Int.toNat_natCast] at c; omega)]
        exact ih (w + 1) (by omega)
      · refine q_iload_n eX10_least_14 rfl ?_
        refine q_retI eX10_least_15 rfl (by decide) (by decide) ?_
        exact PI_ok (if_pos (show 0 < A a w by have c := c11; simp only [Int.toNat_natCast] at c; omega)).symm
set_option maxRecDepth 20000 in
theorem ev_least {a n : Nat} {F : HF} {A : HA} {al : AL} (hk : al.1 a = (0, n)) (hn : n < 2147483648) (hn1 : 1 ≤ n) (hA : ∀ j, j < n → InR (A a j)) : QE 0 0 0 mX10_least [vA a] F A al (PI (lsE (A a) (n - 1) 1) F A al) := by
  refine QE.mk (by decide +kernel) (Nat.le_of_ble_eq_true rfl) ?_
  refine q_iconst eX10_least_0 ?_
  refine q_istore_n eX10_least_1 (by decide) rfl ?_
  exact lp_least hk hn hA (n - 1) 1 (by omega)
