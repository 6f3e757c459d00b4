/-! Latest: take, mends -/
def lmE (m : Int) (dg : Nat) (mk : Nat → Int) (top : Nat) (row : Nat → Int) : Nat → Int := fun j => if top - dg ≤ j ∧ j ≤ top then (row j + (m - row top) * mk (j - (top - dg))) % m else row j
theorem lm_range {m : Int} {dg top : Nat} {mk row : Nat → Int} (hm : 0 < m) (h : ∀ j, 0 ≤ row j ∧ row j < m) (j : Nat) : 0 ≤ lmE m dg mk top row j ∧ lmE m dg mk top row j < m := by
  unfold lmE
  split
  · exact ⟨Int.emod_nonneg _ (by omega), Int.emod_lt_of_pos _ hm⟩
  · exact h j
set_option maxRecDepth 20000 in
theorem lp_lessMaker {a dg top : Nat} {m : Int} {mk row : Nat → Int} {F : HF} {A0 : HA} {al : AL} (hK : KX al) (hX : XF F) (hk : al.1 a = (0, 63)) (ha : a ≠ 28) (hm : F 2 3 = vI m) (hdg : F 27 2 = vI dg) (hm2 : 2 ≤ m) (hm4 : m ≤ 4096) (hmk : ∀ i, i ≤ dg → 0 ≤ mk i ∧ mk i < m) (hA28 : ∀ i, i ≤ dg → A0 28 i = mk i) (hrow : ∀ j, 0 ≤ row j ∧ row j < m) (htop : dg ≤ top) (ht63 : top < 63) : ∀ (k i : Nat) (A : HA) (l6 : Option LV), i + k = dg + 1 → Off [a] A0 A → (∀ j, j < 63 → A a j = if j < top - dg + i then lmE m dg mk top row j else row j) →
    QW mX3_lessMaker 1 0 0 (PV F al (fun A2 => Off [a] A0 A2 ∧ ∀ j, j < 63 → A2 a j = lmE m dg mk top row j)) 0 0 23 [some (vA 36), some (vA a), some (vI top), some (vI m), some (vI (m - row top)), some (vI i), l6] [] F A al := by
  intro k
  induction k with
  | zero =>
    intro i A l6 hi ho h1
    refine q_iload eX3_lessMaker_23 rfl ?_
    refine q_aload_n eX3_lessMaker_25 rfl ?_
    refine q_getfield eX3_lessMaker_26 gf_X3_47 (hK _ (by decide) (by decide)) (by decide) (xf_36_11 hX) ?_
    refine q_getfield eX3_lessMaker_29 gf_X3_71 (hK _ (by decide) (by decide)) (by decide) (by assumption) ?_
    refine q_icmp_gt (tgt := 87) eX3_lessMaker_32 (by decide) (by first | assumption | exact ⟨by omega, by omega⟩) (by first | assumption | exact ⟨by omega, by omega⟩) (fun c32 => ?_) (fun c32 => ?_)
    · refine q_retV eX3_lessMaker_87 rfl (by decide) (by decide) ?_
      refine ⟨rfl, rfl, rfl, ho, fun j hj => ?_⟩
      rw [h1 j hj]
      split
      · rfl
      · exact (if_neg (by omega)).symm
    · exact absurd c32 (by omega)
  | succ k ih =>
    intro i A l6 hi ho h1
    have e1 : (top : Int) - dg + i = ((top - dg + i : Nat) : Int) := by omega
    have hmi := hmk i (by omega)
    have hrt := hrow top
    have hri := hrow (top - dg + i)
    have e2 : A a (top - dg + i) = row (top - dg + i) := by rw [h1 _ (by omega), if_neg (by omega)]
    have e3 : A 28 i = mk i := by rw [ho 28 (by simp; omega)]; exact hA28 i (by omega)
    have e4 := sq_le (a := m - row top) (b := mk i) (m := m) (by omega) (by omega) (by omega) (by omega) hm4
    have e5 : lmE m dg mk top row (top - dg + i) = (row (top - dg + i) + (m - row top) * mk i) % m := by
      unfold lmE
      rw [if_pos ⟨by omega, by omega⟩, show top - dg + i - (top - dg) = i by omega]
    refine q_iload eX3_lessMaker_23 rfl ?_
    refine q_aload_n eX3_lessMaker_25 rfl ?_
    refine q_getfield eX3_lessMaker_26 gf_X3_47 (hK _ (by decide) (by decide)) (by decide) (xf_36_11 hX) ?_
    refine q_getfield eX3_lessMaker_29 gf_X3_71 (hK _ (by decide) (by decide)) (by decide) (by assumption) ?_
    refine q_icmp_gt (tgt := 87) eX3_lessMaker_32 (by decide) (by first | assumption | exact ⟨by omega, by omega⟩) (by first | assumption | exact ⟨by omega, by omega⟩) (fun c32 => ?_) (fun c32 => ?_)
    · exact absurd c32 (by omega)
    · refine q_iload_n eX3_lessMaker_35 rfl ?_
      refine q_aload_n eX3_lessMaker_36 rfl ?_
      refine q_getfield eX3_lessMaker_37 gf_X3_47 (hK _ (by decide) (by decide)) (by decide) (xf_36_11 hX) ?_
      refine q_getfield eX3_lessMaker_40 gf_X3_71 (hK _ (by decide) (by decide)) (by decide) (by assumption) ?_
      refine q_isub eX3_lessMaker_43 ?_
      refine q_iload eX3_lessMaker_44 rfl ?_
      refine q_iadd eX3_lessMaker_46 ?_
      rw [e1]
      refine q_istore eX3_lessMaker_47 (by decide) rfl ?_
      refine q_aload_n eX3_lessMaker_49 rfl ?_
      refine q_iload eX3_lessMaker_50 rfl ?_
      refine q_aload_n eX3_lessMaker_52 rfl ?_
      refine q_iload eX3_lessMaker_53 rfl ?_
      refine q_callSP [vA a, vI (top - dg + i : Nat)] (M1 := mX7_at) eX3_lessMaker_55 mf_X7_at lk_X3_65 (ev_atN hk (show top - dg + i < 63 by omega) (by decide)) (by decide) (by decide) (by decide) (Nat.le_of_ble_eq_true rfl) rfl ?_
      rw [e2]
      refine q_iload eX3_lessMaker_58 rfl ?_
      refine q_aload_n eX3_lessMaker_60 rfl ?_
      refine q_getfield eX3_lessMaker_61 gf_X3_47 (hK _ (by decide) (by decide)) (by decide) (xf_36_11 hX) ?_
      refine q_getfield eX3_lessMaker_64 gf_X3_90 (hK _ (by decide) (by decide)) (by decide) (xf_27_5 hX) ?_
      refine q_iload eX3_lessMaker_67 rfl ?_
      refine q_callSP [vA 28, vI i] (M1 := mX7_at) eX3_lessMaker_69 mf_X7_at lk_X3_65 (ev_atN (hK _ (by decide) (by decide)) (show i < 64 by omega) (by decide)) (by decide) (by decide) (by decide) (Nat.le_of_ble_eq_true rfl) rfl ?_
      rw [e3]
      refine q_imul eX3_lessMaker_72 ?_
      refine q_iadd eX3_lessMaker_73 ?_
      refine q_iload_n eX3_lessMaker_74 rfl ?_
      refine q_callSP [vI (row (top - dg + i) + (m - row top) * mk i), vI m] (M1 := mX7_remainder) eX3_lessMaker_75 mf_X7_remainder lk_X3_93 (ev_remP (by omega) (by omega) (by omega) (by omega)) (by decide) (by decide) (by decide) (Nat.le_of_ble_eq_true rfl) rfl ?_
      rw [← e5]
      refine q_callSV [vA a, vI (top - dg + i : Nat), vI (lmE m dg mk top row (top - dg + i))] (M1 := mX7_set) eX3_lessMaker_78 mf_X7_set lk_X3_97 (ev_setN hk (show top - dg + i < 63 by omega) (by decide)) (by decide) (by decide) (by decide) (Nat.le_of_ble_eq_true rfl) rfl (fun A3 h3 => ?_)
      subst h3
      refine q_iinc eX3_lessMaker_81 rfl (by decide) rfl ?_
      refine q_goto (tgt := 23) eX3_lessMaker_84 (by decide) ?_
      refine ih (i + 1) _ _ (by omega) (ho.trans (Off.up (by simp))) (fun j hj => ?_)
      rw [up2_at]
      by_cases he : j = top - dg + i
      · rw [if_pos he, if_pos (by omega), he]
      · rw [if_neg he, h1 j hj]
        by_cases h5 : j < top - dg + i
        · rw [if_pos h5, if_pos (by omega)]
        · rw [if_neg h5, if_neg (by omega)]
set_option maxRecDepth 20000 in
theorem ev_lessMaker {a top : Nat} {row : Nat → Int} {dg : Nat} {m : Int} {mk : Nat → Int} {F : HF} {A : HA} {al : AL} (hK : KX al) (hX : XF F) (hm : F 2 3 = vI m) (hdg : F 27 2 = vI dg) (hm2 : 2 ≤ m) (hm4 : m ≤ 4096) (hmk : ∀ i, i ≤ dg → 0 ≤ mk i ∧ mk i < m) (hk : al.1 a = (0, 63)) (ha : a ≠ 28) (hA28 : ∀ i, i ≤ dg → A 28 i = mk i) (hrow : ∀ j, 0 ≤ row j ∧ row j < m) (htop : dg ≤ top) (ht63 : top < 63) (hA : ∀ j, j < 63 → A a j = row j) : QE 1 0 0 mX3_lessMaker [vA 36, vA a, vI top] F A al (PV F al (fun A2 => Off [a] A A2 ∧ ∀ j, j < 63 → A2 a j = lmE m dg mk top row j)) := by
  refine QE.mk (by decide +kernel) (Nat.le_of_ble_eq_true rfl) ?_
  refine q_aload_n eX3_lessMaker_0 rfl ?_
  refine q_getfield eX3_lessMaker_1 gf_X3_47 (hK _ (by decide) (by decide)) (by decide) (xf_36_11 hX) ?_
  refine q_getfield eX3_lessMaker_4 gf_X3_81 (hK _ (by decide) (by decide)) (by decide) (xf_27_0 hX) ?_
  refine q_getfield eX3_lessMaker_7 gf_X3_85 (hK _ (by decide) (by decide)) (by decide) (by assumption) ?_
  refine q_istore_n eX3_lessMaker_10 (by decide) rfl ?_
  refine q_iload_n eX3_lessMaker_11 rfl ?_
  refine q_aload_n eX3_lessMaker_12 rfl ?_
  refine q_iload_n eX3_lessMaker_13 rfl ?_
  refine q_callSP [vA a, vI top] (M1 := mX7_at) eX3_lessMaker_14 mf_X7_at lk_X3_65 (ev_atN hk (show top < 63 by omega) (by decide)) (by decide) (by decide) (by decide) (Nat.le_of_ble_eq_true rfl) rfl ?_
  rw [hA top ht63]
  refine q_isub eX3_lessMaker_17 ?_
  refine q_istore eX3_lessMaker_18 (by decide) rfl ?_
  refine q_iconst eX3_lessMaker_20 ?_
  refine q_istore eX3_lessMaker_21 (by decide) rfl ?_
  exact lp_lessMaker hK hX hk ha hm hdg hm2 hm4 hmk hA28 hrow htop ht63 (dg + 1) 0 A _ (by omega) Off.rfl' (fun j hj => by rw [hA j hj]; split <;> first | exact (if_neg (by omega)).symm | rfl)
abbrev mdE (m : Int) (dg : Nat) (lf sf : Nat → Int) (v : Int) : Prop := ∀ i, i < dg → (lf i + v * sf i) % m = 0
set_option maxRecDepth 20000 in
theorem lp_isMended {dg v : Nat} {m : Int} {lf sf : Nat → Int} {F : HF} {A : HA} {al : AL} (hK : KX al) (hX : XF F) (hm : F 2 3 = vI m) (hdg : F 27 2 = vI dg) (hm2 : 2 ≤ m) (hm4 : m ≤ 4096) (hd63 : dg ≤ 63) (hv : (v : Int) < m) (hlf : ∀ j, j < 63 → A 38 j = lf j) (hsf : ∀ j, j < 63 → A 40 j = sf j) (rlf : ∀ j, 0 ≤ lf j ∧ lf j < m) (rsf : ∀ j, 0 ≤ sf j ∧ sf j < m) : ∀ (k i : Nat), i + k = dg → (∀ j, j < i → (lf j + v * sf j) % m = 0) →
    QW mX3_isMendedBy 1 0 0 (PI (if mdE m dg lf sf v then 1 else 0) F A al) 0 0 13 [some (vA 36), some (vI v), some (vI m), some (vI i)] [] F A al := by
  intro k
  induction k with
  | zero =>
    intro i hi h1
    have ei : i = dg := by omega
    subst ei
    refine q_iload_n eX3_isMendedBy_13 rfl ?_
    refine q_aload_n eX3_isMendedBy_14 rfl ?_
    refine q_getfield eX3_isMendedBy_15 gf_X3_47 (hK _ (by decide) (by decide)) (by decide) (xf_36_11 hX) ?_
    refine q_getfield eX3_isMendedBy_18 gf_X3_71 (hK _ (by decide) (by decide)) (by decide) (by assumption) ?_
    refine q_icmp_ge (tgt := 58) eX3_isMendedBy_21 (by decide) (by first | assumption | exact ⟨by omega, by omega⟩) (by first | assumption | exact ⟨by omega, by omega⟩) (fun c21 => ?_) (fun c21 => ?_)
    · refine q_iconst eX3_isMendedBy_58 ?_
      refine q_retZ eX3_isMendedBy_59 rfl (by first | exact Or.inl rfl | exact Or.inr rfl | assumption) (by decide) (by decide) ?_
      exact PI_ok (if_pos h1).symm
    · exact absurd c21 (by omega)
  | succ k ih =>
    intro i hi h1
    have r1 := rlf i
    have r2 := rsf i
    have e4 := sq_le (a := (v : Int)) (b := sf i) (m := m) (by omega) (by omega) (by omega) (by omega) hm4
    have r3 := Int.emod_nonneg (lf i + v * sf i) (b := m) (by omega)
    have r4 := Int.emod_lt_of_pos (lf i + v * sf i) (b := m) (by omega)
    refine q_iload_n eX3_isMendedBy_13 rfl ?_
    refine q_aload_n eX3_isMendedBy_14 rfl ?_
    refine q_getfield eX3_isMendedBy_15 gf_X3_47 (hK _ (by decide) (by decide)) (by decide) (xf_36_11 hX) ?_
    refine q_getfield eX3_isMendedBy_18 gf_X3_71 (hK _ (by decide) (by decide)) (by decide) (by assumption) ?_
    refine q_icmp_ge (tgt := 58) eX3_isMendedBy_21 (by decide) (by first | assumption | exact ⟨by omega, by omega⟩) (by first | assumption | exact ⟨by omega, by omega⟩) (fun c21 => ?_) (fun c21 => ?_)
    · exact absurd c21 (by omega)
    · refine q_aload_n eX3_isMendedBy_24 rfl ?_
      refine q_getfield eX3_isMendedBy_25 gf_X3_22 (hK _ (by decide) (by decide)) (by decide) (xf_36_3 hX) ?_
      refine q_iload_n eX3_isMendedBy_28 rfl ?_
      refine q_callSP [vA 38, vI i] (M1 := mX7_at) eX3_isMendedBy_29 mf_X7_at lk_X3_65 (ev_atN (hK _ (by decide) (by decide)) (show i < 63 by omega) (by decide)) (by decide) (by decide) (by decide) (Nat.le_of_ble_eq_true rfl) rfl ?_
      rw [hlf i (by omega)]
      refine q_iload_n eX3_isMendedBy_32 rfl ?_
      refine q_aload_n eX3_isMendedBy_33 rfl ?_
      refine q_getfield eX3_isMendedBy_34 gf_X3_44 (hK _ (by decide) (by decide)) (by decide) (xf_36_10 hX) ?_
      refine q_iload_n eX3_isMendedBy_37 rfl ?_
      refine q_callSP [vA 40, vI i] (M1 := mX7_at) eX3_isMendedBy_38 mf_X7_at lk_X3_65 (ev_atN (hK _ (by decide) (by decide)) (show i < 63 by omega) (by decide)) (by decide) (by decide) (by decide) (Nat.le_of_ble_eq_true rfl) rfl ?_
      rw [hsf i (by omega)]
      refine q_imul eX3_isMendedBy_41 ?_
      refine q_iadd eX3_isMendedBy_42 ?_
      refine q_iload_n eX3_isMendedBy_43 rfl ?_
      refine q_callSP [vI (lf i + v * sf i), vI m] (M1 := mX7_remainder) eX3_isMendedBy_44 mf_X7_remainder lk_X3_93 (ev_remP (by omega) (by omega) (by omega) (by omega)) (by decide) (by decide) (by decide) (Nat.le_of_ble_eq_true rfl) rfl ?_
      refine q_if_eq (tgt := 52) eX3_isMendedBy_47 (by decide) (by first | assumption | exact ⟨by omega, by omega⟩) (fun c47 => ?_) (fun c47 => ?_)
      · refine q_iinc eX3_isMendedBy_52 rfl (by decide) rfl ?_
        refine q_goto (tgt := 13) eX3_isMendedBy_55 (by decide) ?_
        refine ih (i + 1) (by omega) (fun j hj => ?_)
        by_cases he : j = i
        · rw [he]; exact c47
        · exact h1 j (by omega)
      · refine q_iconst eX3_isMendedBy_50 ?_
        refine q_retZ eX3_isMendedBy_51 rfl (by first | exact Or.inl rfl | exact Or.inr rfl | assumption) (by decide) (by decide) ?_
        exact PI_ok (if_neg (fun h => c47 (h i (by omega)))).symm
set_option maxRecDepth 20000 in
theorem ev_isMended {dg v : Nat} {m : Int} {lf sf : Nat → Int} {F : HF} {A : HA} {al : AL} (hK : KX al) (hX : XF F) (hm : F 2 3 = vI m) (hdg : F 27 2 = vI dg) (hm2 : 2 ≤ m) (hm4 : m ≤ 4096) (hd63 : dg ≤ 63) (hv : (v : Int) < m) (hlf : ∀ j, j < 63 → A 38 j = lf j) (hsf : ∀ j, j < 63 → A 40 j = sf j) (rlf : ∀ j, 0 ≤ lf j ∧ lf j < m) (rsf : ∀ j, 0 ≤ sf j ∧ sf j < m) : QE 1 0 0 mX3_isMendedBy [vA 36, vI v] F A al (PI (if mdE m dg lf sf v then 1 else 0) F A al) := by
  refine QE.mk (by decide +kernel) (Nat.le_of_ble_eq_true rfl) ?_
  refine q_aload_n eX3_isMendedBy_0 rfl ?_
  refine q_getfield eX3_isMendedBy_1 gf_X3_47 (hK _ (by decide) (by decide)) (by decide) (xf_36_11 hX) ?_
  refine q_getfield eX3_isMendedBy_4 gf_X3_81 (hK _ (by decide) (by decide)) (by decide) (xf_27_0 hX) ?_
  refine q_getfield eX3_isMendedBy_7 gf_X3_85 (hK _ (by decide) (by decide)) (by decide) (by assumption) ?_
  refine q_istore_n eX3_isMendedBy_10 (by decide) rfl ?_
  refine q_iconst eX3_isMendedBy_11 ?_
  refine q_istore_n eX3_isMendedBy_12 (by decide) rfl ?_
  exact lp_isMended hK hX hm hdg hm2 hm4 hd63 hv hlf hsf rlf rsf dg 0 (by omega) (fun j hj => absurd hj (by omega))
def sfE (m : Int) (dg : Nat) (mk sf : Nat → Int) : Nat → Int := fun i => if i < dg then ((if i = 0 then 0 else sf (i - 1)) + (m - sf (dg - 1)) * mk i) % m else sf i
theorem sf_range {m : Int} {dg : Nat} {mk sf : Nat → Int} (hm : 0 < m) (h : ∀ j, 0 ≤ sf j ∧ sf j < m) (j : Nat) : 0 ≤ sfE m dg mk sf j ∧ sfE m dg mk sf j < m := by
  unfold sfE
  split
  · exact ⟨Int.emod_nonneg _ (by omega), Int.emod_lt_of_pos _ hm⟩
  · exact h j
set_option maxRecDepth 20000 in
theorem lp_shift {dg : Nat} {m : Int} {mk sf : Nat → Int} {F : HF} {A0 : HA} {al : AL} (hK : KX al) (hX : XF F) (hm2 : 2 ≤ m) (hm4 : m ≤ 4096) (hd63 : dg ≤ 63) (hd1 : 1 ≤ dg) (hmk : ∀ i, i ≤ dg → 0 ≤ mk i ∧ mk i < m) (hA28 : ∀ i, i ≤ dg → A0 28 i = mk i) (rsf : ∀ j, 0 ≤ sf j ∧ sf j < m) : ∀ (k : Nat) (A : HA) (l4 : Option LV), k ≤ dg → Off [40] A0 A → (∀ j, j < 63 → A 40 j = if k ≤ j then sfE m dg mk sf j else sf j) →
    QW mX3_shift 1 0 0 (PV F al (fun A2 => Off [40] A0 A2 ∧ ∀ j, j < 63 → A2 40 j = sfE m dg mk sf j)) 0 0 40 [some (vA 36), some (vI m), some (vI (m - sf (dg - 1))), some (vI ((k : Int) - 1)), l4] [] F A al := by
  intro k
  induction k with
  | zero =>
    intro A l4 hk ho h1
    refine q_iload_n eX3_shift_40 rfl ?_
    refine q_if_lt (tgt := 90) eX3_shift_41 (by decide) (by first | assumption | exact ⟨by omega, by omega⟩) (fun c41 => ?_) (fun c41 => ?_)
    · refine q_retV eX3_shift_90 rfl (by decide) (by decide) ?_
      exact ⟨rfl, rfl, rfl, ho, fun j hj => by rw [h1 j hj, if_pos (by omega)]⟩
    · exact absurd c41 (by omega)
  | succ k ih =>
    intro A l4 hk ho h1
    have e0 : ((k + 1 : Nat) : Int) - 1 = (k : Int) := by omega
    rw [e0]
    have hmi := hmk k (by omega)
    have r1 := rsf (dg - 1)
    have r2 := rsf (k - 1)
    have e3 : A 28 k = mk k := by rw [ho 28 (by decide)]; exact hA28 k (by omega)
    have e4 := sq_le (a := m - sf (dg - 1)) (b := mk k) (m := m) (by omega) (by omega) (by omega) (by omega) hm4
    have hlow : atS A 40 63 ((k : Int) - 1) = if k = 0 then 0 else sf (k - 1) := by
      split
      · next h => subst h; rfl
      · next h =>
        rw [show (k : Int) - 1 = ((k - 1 : Nat) : Int) by omega, atS_nat (by omega), h1 (k - 1) (by omega), if_neg (by omega)]
    have r5 : 0 ≤ (if k = 0 then 0 else sf (k - 1)) ∧ (if k = 0 then 0 else sf (k - 1)) < m := by split; exact ⟨by omega, by omega⟩; exact r2
    have e5 : sfE m dg mk sf k = ((if k = 0 then 0 else sf (k - 1)) + (m - sf (dg - 1)) * mk k) % m := if_pos (by omega)
    refine q_iload_n eX3_shift_40 rfl ?_
    refine q_if_lt (tgt := 90) eX3_shift_41 (by decide) (by first | assumption | exact ⟨by omega, by omega⟩) (fun c41 => ?_) (fun c41 => ?_)
    · exact absurd c41 (by omega)
    · refine q_aload_n eX3_shift_44 rfl ?_
      refine q_getfield eX3_shift_45 gf_X3_44 (hK _ (by decide) (by decide)) (by decide) (xf_36_10 hX) ?_
      refine q_iload_n eX3_shift_48 rfl ?_
      refine q_iconst eX3_shift_49 ?_
      refine q_isub eX3_shift_50 ?_
      refine q_callSP [vA 40, vI ((k : Int) - 1)] (M1 := mX7_at) eX3_shift_51 mf_X7_at lk_X3_65 (ev_at (hK _ (by decide) (by decide)) ⟨by omega, by omega⟩ (by decide)) (by decide) (by decide) (by decide) (Nat.le_of_ble_eq_true rfl) rfl ?_
      rw [hlow]
      refine q_istore eX3_shift_54 (by decide) rfl ?_
      refine q_aload_n eX3_shift_56 rfl ?_
      refine q_getfield eX3_shift_57 gf_X3_44 (hK _ (by decide) (by decide)) (by decide) (xf_36_10 hX) ?_
      refine q_iload_n eX3_shift_60 rfl ?_
      refine q_iload eX3_shift_61 rfl ?_
      refine q_iload_n eX3_shift_63 rfl ?_
      refine q_aload_n eX3_shift_64 rfl ?_
      refine q_getfield eX3_shift_65 gf_X3_47 (hK _ (by decide) (by decide)) (by decide) (xf_36_11 hX) ?_
      refine q_getfield eX3_shift_68 gf_X3_90 (hK _ (by decide) (by decide)) (by decide) (xf_27_5 hX) ?_
      refine q_iload_n eX3_shift_71 rfl ?_
      refine q_callSP [vA 28, vI k] (M1 := mX7_at) eX3_shift_72 mf_X7_at lk_X3_65 (ev_atN (hK _ (by decide) (by decide)) (show k < 64 by omega) (by decide)) (by decide) (by decide) (by decide) (Nat.le_of_ble_eq_true rfl) rfl ?_
      rw [e3]
      refine q_imul eX3_shift_75 ?_
      refine q_iadd eX3_shift_76 ?_
      refine q_iload_n eX3_shift_77 rfl ?_
      refine q_callSP [vI ((if k = 0 then 0 else sf (k - 1)) + (m - sf (dg - 1)) * mk k), vI m] (M1 := mX7_remainder) eX3_shift_78 mf_X7_remainder lk_X3_93 (ev_remP (by omega) (by omega) (by omega) (by omega)) (by decide) (by decide) (by decide) (Nat.le_of_ble_eq_true rfl) rfl ?_
      rw [← e5]
      refine q_callSV [vA 40, vI k, vI (sfE m dg mk sf k)] (M1 := mX7_set) eX3_shift_81 mf_X7_set lk_X3_97 (ev_setN (hK _ (by decide) (by decide)) (show k < 63 by omega) (by decide)) (by decide) (by decide) (by decide) (Nat.le_of_ble_eq_true rfl) rfl (fun A3 h3 => ?_)
      subst h3
      refine q_iinc eX3_shift_84 rfl (by decide) rfl ?_
      refine q_goto (tgt := 40) eX3_shift_87 (by decide) ?_
      rw [show (k : Int) + -1 = (k : Int) - 1 by omega]
      refine ih _ _ (by omega) (ho.trans (Off.up (by simp))) (fun j hj => ?_)
      rw [up2_at]
      by_cases he : j = k
      · rw [if_pos he, if_pos (by omega), he]
      · rw [if_neg he, h1 j hj]
        by_cases h5 : k + 1 ≤ j
        · rw [if_pos h5, if_pos (by omega)]
        · rw [if_neg h5, if_neg (by omega)]
set_option maxRecDepth 20000 in
theorem ev_shift {sf : Nat → Int} {dg : Nat} {m : Int} {mk : Nat → Int} {F : HF} {A : HA} {al : AL} (hK : KX al) (hX : XF F) (hm : F 2 3 = vI m) (hdg : F 27 2 = vI dg) (hm2 : 2 ≤ m) (hm4 : m ≤ 4096) (hmk : ∀ i, i ≤ dg → 0 ≤ mk i ∧ mk i < m) (hd63 : dg ≤ 63) (hd1 : 1 ≤ dg) (hA28 : ∀ i, i ≤ dg → A 28 i = mk i) (rsf : ∀ j, 0 ≤ sf j ∧ sf j < m) (hsf : ∀ j, j < 63 → A 40 j = sf j) : QE 1 0 0 mX3_shift [vA 36] F A al (PV F al (fun A2 => Off [40] A A2 ∧ ∀ j, j < 63 → A2 40 j = sfE m dg mk sf j)) := by
  refine QE.mk (by decide +kernel) (Nat.le_of_ble_eq_true rfl) ?_
  refine q_aload_n eX3_shift_0 rfl ?_
  refine q_getfield eX3_shift_1 gf_X3_47 (hK _ (by decide) (by decide)) (by decide) (xf_36_11 hX) ?_
  refine q_getfield eX3_shift_4 gf_X3_81 (hK _ (by decide) (by decide)) (by decide) (xf_27_0 hX) ?_
  refine q_getfield eX3_shift_7 gf_X3_85 (hK _ (by decide) (by decide)) (by decide) (by assumption) ?_
  refine q_istore_n eX3_shift_10 (by decide) rfl ?_
  refine q_iload_n eX3_shift_11 rfl ?_
  refine q_aload_n eX3_shift_12 rfl ?_
  refine q_getfield eX3_shift_13 gf_X3_44 (hK _ (by decide) (by decide)) (by decide) (xf_36_10 hX) ?_
  refine q_aload_n eX3_shift_16 rfl ?_
  refine q_getfield eX3_shift_17 gf_X3_47 (hK _ (by decide) (by decide)) (by decide) (xf_36_11 hX) ?_
  refine q_getfield eX3_shift_20 gf_X3_71 (hK _ (by decide) (by decide)) (by decide) (by assumption) ?_
  refine q_iconst eX3_shift_23 ?_
  refine q_isub eX3_shift_24 ?_
  rw [show (dg : Int) - 1 = ((dg - 1 : Nat) : Int) by omega]
  refine q_callSP [vA 40, vI (dg - 1 : Nat)] (M1 := mX7_at) eX3_shift_25 mf_X7_at lk_X3_65 (ev_atN (hK _ (by decide) (by decide)) (show dg - 1 < 63 by omega) (by decide)) (by decide) (by decide) (by decide) (Nat.le_of_ble_eq_true rfl) rfl ?_
  rw [hsf (dg - 1) (by omega)]
  refine q_isub eX3_shift_28 ?_
  refine q_istore_n eX3_shift_29 (by decide) rfl ?_
  refine q_aload_n eX3_shift_30 rfl ?_
  refine q_getfield eX3_shift_31 gf_X3_47 (hK _ (by decide) (by decide)) (by decide) (xf_36_11 hX) ?_
  refine q_getfield eX3_shift_34 gf_X3_71 (hK _ (by decide) (by decide)) (by decide) (by assumption) ?_
  refine q_iconst eX3_shift_37 ?_
  refine q_isub eX3_shift_38 ?_
  refine q_istore_n eX3_shift_39 (by decide) rfl ?_
  exact lp_shift hK hX hm2 hm4 hd63 hd1 hmk hA28 rsf dg A _ (Nat.le_refl _) Off.rfl' (fun j hj => by rw [hsf j hj]; split <;> first | exact (if_neg (by omega)).symm | rfl)
