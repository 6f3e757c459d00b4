/-! Walk, Weights -/
/-- the maker added from sh on -/
def amE (m : Int) (dg : Nat) (mk : Nat → Int) (sh : Nat) (nu : Nat → Int) : Nat → Int := fun j => if sh ≤ j ∧ j ≤ sh + dg ∧ j < 63 then (nu j + mk (j - sh)) % m else nu j
/-- a step of the walk, k factors to come -/
def wsE (m : Int) (dg : Nat) (mk : Nat → Int) : Nat → Nat → (Nat → Int) × (Nat → Int) → (Nat → Int) × (Nat → Int)
  | 0, _, s => s
  | k + 1, j, s => if s.2 j + 1 < m then (amE m dg mk j s.1, upc s.2 j (s.2 j + 1)) else wsE m dg mk k (j + 1) (amE m dg mk j s.1, upc s.2 j 0)
def wkE (m : Int) (dg ch : Nat) (mk : Nat → Int) : Nat → (Nat → Int) × (Nat → Int)
  | 0 => (fun _ => 0, fun _ => 0)
  | i + 1 => wsE m dg mk ch 0 (wkE m dg ch mk i)
theorem am_range {m : Int} {dg sh : Nat} {mk nu : Nat → Int} (hm : 0 < m) (h : ∀ j, 0 ≤ nu j ∧ nu j < m) (j : Nat) : 0 ≤ amE m dg mk sh nu j ∧ amE m dg mk sh nu j < m := by
  unfold amE
  split
  · exact ⟨Int.emod_nonneg _ (by omega), Int.emod_lt_of_pos _ hm⟩
  · exact h j
theorem ws_range {m : Int} {dg : Nat} {mk : Nat → Int} (hm : 0 < m) : ∀ (k j : Nat) (s : (Nat → Int) × (Nat → Int)), (∀ j, 0 ≤ s.1 j ∧ s.1 j < m) → (∀ j, 0 ≤ s.2 j ∧ s.2 j < m) → (∀ i, 0 ≤ (wsE m dg mk k j s).1 i ∧ (wsE m dg mk k j s).1 i < m) ∧ ∀ i, 0 ≤ (wsE m dg mk k j s).2 i ∧ (wsE m dg mk k j s).2 i < m
  | 0, _, _, h1, h2 => ⟨h1, h2⟩
  | k + 1, j, s, h1, h2 => by
    unfold wsE
    split
    · next hc =>
      refine ⟨am_range hm h1, fun i => ?_⟩
      show 0 ≤ upc s.2 j (s.2 j + 1) i ∧ upc s.2 j (s.2 j + 1) i < m
      unfold upc
      split
      · have := h2 j; omega
      · exact h2 i
    · refine ws_range hm k (j + 1) _ (am_range hm h1) (fun i => ?_)
      show 0 ≤ upc s.2 j 0 i ∧ upc s.2 j 0 i < m
      unfold upc
      split
      · omega
      · exact h2 i
theorem wk_range {m : Int} {dg ch : Nat} {mk : Nat → Int} (hm : 0 < m) : ∀ i, (∀ j, 0 ≤ (wkE m dg ch mk i).1 j ∧ (wkE m dg ch mk i).1 j < m) ∧ ∀ j, 0 ≤ (wkE m dg ch mk i).2 j ∧ (wkE m dg ch mk i).2 j < m
  | 0 => ⟨fun _ => ⟨Int.le_refl _, hm⟩, fun _ => ⟨Int.le_refl _, hm⟩⟩
  | i + 1 => ws_range hm ch 0 _ (wk_range hm i).1 (wk_range hm i).2
theorem emod_once {x m : Int} (h0 : 0 ≤ x) (h : x < 2 * m) : x % m = if x < m then x else x - m := by
  split
  · exact Int.emod_eq_of_lt h0 (by omega)
  · rw [show x = (x - m) + m * 1 by omega, Int.add_mul_emod_self_left, Int.emod_eq_of_lt (by omega) (by omega)]
    omega
set_option maxRecDepth 20000 in
theorem lp_addMaker {A0 : HA} {w nu fa dg : Nat} {m : Int} {mk : Nat → Int} {sh : Nat} {nv : Nat → Int} {F : HF} {al : AL} (hK : KX al) (hX : XF F) (hkw : al.1 w = (17, 3)) (hkn : al.1 nu = (0, 63)) (hkf : al.1 fa = (0, 63)) (hwn : F w 0 = vA nu) (hwf : F w 1 = vA fa) (hwc : F w 2 = vA 27) (hnf : nu ≠ fa ∧ nu ≠ 28 ∧ fa ≠ 28) (hm : F 2 3 = vI m) (hdg : F 27 2 = vI dg) (hm2 : 2 ≤ m) (hm4 : m ≤ 4096) (hd63 : dg ≤ 63) (hmk : ∀ i, i ≤ dg → 0 ≤ mk i ∧ mk i < m) (hA28 : ∀ i, i ≤ dg → A0 28 i = mk i) (hnv : ∀ j, 0 ≤ nv j ∧ nv j < m) (hsh : sh < 63) : ∀ (k i : Nat) (A : HA) (l4 : Option LV), i + k = dg + 1 → Off [nu] A0 A → (∀ j, j < 63 → A nu j = if sh ≤ j ∧ j < sh + i then amE m dg mk sh nv j else nv j) →
    QW mX9_addMaker 1 0 0 (PV F al (fun A2 => Off [nu] A0 A2 ∧ ∀ j, j < 63 → A2 nu j = amE m dg mk sh nv j)) 0 0 13 [some (vA w), some (vI sh), some (vI m), some (vI i), l4] [] F A al := by
  intro k
  have hout : ∀ (A : HA) (i : Nat), (dg + 1 ≤ i ∨ 63 ≤ sh + i) → (∀ j, j < 63 → A nu j = if sh ≤ j ∧ j < sh + i then amE m dg mk sh nv j else nv j) → ∀ j, j < 63 → A nu j = amE m dg mk sh nv j := by
    intro A i hi h1 j hj
    rw [h1 j hj]
    split
    · rfl
    · exact (if_neg (by omega)).symm
  induction k with
  | zero =>
    intro i A l4 hi ho h1
    refine q_iload_n eX9_addMaker_13 rfl ?_
    refine q_aload_n eX9_addMaker_14 rfl ?_
    refine q_getfield eX9_addMaker_15 gf_X9_18 hkw (by decide) (by assumption) ?_
    refine q_getfield eX9_addMaker_18 gf_X9_47 (hK _ (by decide) (by decide)) (by decide) (by assumption) ?_
    refine q_icmp_gt (tgt := 86) eX9_addMaker_21 (by decide) (by first | assumption | exact ⟨by omega, by omega⟩) (by first | assumption | exact ⟨by omega, by omega⟩) (fun c21 => ?_) (fun c21 => ?_)
    · refine q_retV eX9_addMaker_86 rfl (by decide) (by decide) ?_
      exact ⟨rfl, rfl, rfl, ho, hout A i (by omega) h1⟩
    · exact absurd c21 (by omega)
  | succ k ih =>
    intro i A l4 hi ho h1
    have hmi := hmk i (by omega)
    have hni := hnv (sh + i)
    have e1 : (sh : Int) + i = ((sh + i : Nat) : Int) := by omega
    have e2 : ∀ h : sh + i < 63, A nu (sh + i) = nv (sh + i) := fun h => by rw [h1 (sh + i) h, if_neg (by omega)]
    have e3 : ∀ h : sh + i < 63, amE m dg mk sh nv (sh + i) = (nv (sh + i) + mk i) % m := fun h => by
      unfold amE
      rw [if_pos ⟨by omega, by omega, h⟩, show sh + i - sh = i by omega]
    have e4 := emod_once (x := nv (sh + i) + mk i) (m := m) (by omega) (by omega)
    have e5 : A 28 i = mk i := by rw [ho 28 (by simp; omega)]; exact hA28 i (by omega)
    have tail : ∀ (v : Int) (h : sh + i < 63), v = amE m dg mk sh nv (sh + i) → QW mX9_addMaker 1 0 0 (PV F al (fun A2 => Off [nu] A0 A2 ∧ ∀ j, j < 63 → A2 nu j = amE m dg mk sh nv j)) 0 0 13 [some (vA w), some (vI sh), some (vI m), some (vI ((i : Int) + 1)), some (vI (nv (sh + i) + mk i))] [] F (up2 A nu (sh + i) v) al := by
      intro v h hv
      refine ih (i + 1) _ _ (by omega) (ho.trans (Off.up (by simp))) (fun j hj => ?_)
      rw [up2_at]
      by_cases he : j = sh + i
      · rw [if_pos he, if_pos ⟨by omega, by omega⟩, hv, he]
      · rw [if_neg he, h1 j hj]
        by_cases h5 : sh ≤ j ∧ j < sh + i
        · rw [if_pos h5, if_pos ⟨by omega, by omega⟩]
        · rw [if_neg h5, if_neg (by omega)]
    refine q_iload_n eX9_addMaker_13 rfl ?_
    refine q_aload_n eX9_addMaker_14 rfl ?_
    refine q_getfield eX9_addMaker_15 gf_X9_18 hkw (by decide) (by assumption) ?_
    refine q_getfield eX9_addMaker_18 gf_X9_47 (hK _ (by decide) (by decide)) (by decide) (by assumption) ?_
    refine q_icmp_gt (tgt := 86) eX9_addMaker_21 (by decide) (by first | assumption | exact ⟨by omega, by omega⟩) (by first | assumption | exact ⟨by omega, by omega⟩) (fun c21 => ?_) (fun c21 => ?_)
    · exact absurd c21 (by omega)
    · refine q_iload_n eX9_addMaker_24 rfl ?_
      refine q_iload_n eX9_addMaker_25 rfl ?_
      refine q_iadd eX9_addMaker_26 ?_
      refine q_aload_n eX9_addMaker_27 rfl ?_
      refine q_getfield eX9_addMaker_28 gf_X9_9 hkw (by decide) (by assumption) ?_
      refine q_alen eX9_addMaker_31 hkn ?_
      rw [e1]
      refine q_icmp_ge (tgt := 86) eX9_addMaker_32 (by decide) (by first | assumption | exact ⟨by omega, by omega⟩) (by first | assumption | exact ⟨by omega, by omega⟩) (fun c32 => ?_) (fun c32 => ?_)
      · refine q_retV eX9_addMaker_86 rfl (by decide) (by decide) ?_
        exact ⟨rfl, rfl, rfl, ho, hout A i (by omega) h1⟩
      · refine q_aload_n eX9_addMaker_35 rfl ?_
        refine q_getfield eX9_addMaker_36 gf_X9_9 hkw (by decide) (by assumption) ?_
        refine q_iload_n eX9_addMaker_39 rfl ?_
        refine q_iload_n eX9_addMaker_40 rfl ?_
        refine q_iadd eX9_addMaker_41 ?_
        rw [e1]
        refine q_iald eX9_addMaker_42 hkn (by omega) (by omega) ?_
        rw [show A nu ((sh + i : Nat) : Int).toNat = nv (sh + i) from e2 (by omega)]
        refine q_aload_n eX9_addMaker_43 rfl ?_
        refine q_getfield eX9_addMaker_44 gf_X9_18 hkw (by decide) (by assumption) ?_
        refine q_getfield eX9_addMaker_47 gf_X9_50 (hK _ (by decide) (by decide)) (by decide) (xf_27_5 hX) ?_
        refine q_iload_n eX9_addMaker_50 rfl ?_
        refine q_callSP [vA 28, vI i] (M1 := mX7_at) eX9_addMaker_51 mf_X7_at lk_X9_53 (ev_atN (hK _ (by decide) (by decide)) (show i < 64 by omega) (by decide)) (by decide) (by decide) (by decide) (Nat.le_of_ble_eq_true rfl) rfl ?_
        rw [e5]
        
        refine q_iadd eX9_addMaker_54 ?_
        refine q_istore eX9_addMaker_55 (by decide) rfl ?_
        refine q_aload_n eX9_addMaker_57 rfl ?_
        refine q_getfield eX9_addMaker_58 gf_X9_9 hkw (by decide) (by assumption) ?_
        refine q_iload_n eX9_addMaker_61 rfl ?_
        refine q_iload_n eX9_addMaker_62 rfl ?_
        refine q_iadd eX9_addMaker_63 ?_
        refine q_iload eX9_addMaker_64 rfl ?_
        refine q_iload_n eX9_addMaker_66 rfl ?_
        refine q_icmp_ge (tgt := 75) eX9_addMaker_67 (by decide) (by first | assumption | exact ⟨by omega, by omega⟩) (by first | assumption | exact ⟨by omega, by omega⟩) (fun c67 => ?_) (fun c67 => ?_)
        · refine q_iload eX9_addMaker_75 rfl ?_
          refine q_iload_n eX9_addMaker_77 rfl ?_
          refine q_isub eX9_addMaker_78 ?_
          rw [e1]
          refine q_iast eX9_addMaker_79 hkn (by omega) (by omega) ?_
          refine q_iinc eX9_addMaker_80 rfl (by decide) rfl ?_
          refine q_goto (tgt := 13) eX9_addMaker_83 (by decide) ?_
          first
          | exact tail (nv (sh + i) + mk i) (by omega) (by rw [e3 (by omega), e4, if_pos (by omega)])
          | exact tail (nv (sh + i) + mk i - m) (by omega) (by rw [e3 (by omega), e4, if_neg (by omega)])
        · refine q_iload eX9_addMaker_70 rfl ?_
          refine q_goto (tgt := 79) eX9_addMaker_72 (by decide) ?_
          rw [e1]
          refine q_iast eX9_addMaker_79 hkn (by omega) (by omega) ?_
          refine q_iinc eX9_addMaker_80 rfl (by decide) rfl ?_
          refine q_goto (tgt := 13) eX9_addMaker_83 (by decide) ?_
          first
          | exact tail (nv (sh + i) + mk i) (by omega) (by rw [e3 (by omega), e4, if_pos (by omega)])
          | exact tail (nv (sh + i) + mk i - m) (by omega) (by rw [e3 (by omega), e4, if_neg (by omega)])
set_option maxRecDepth 20000 in
theorem ev_addMaker {w nu fa dg : Nat} {m : Int} {mk : Nat → Int} {sh : Nat} {nv : Nat → Int} {F : HF} {A : HA} {al : AL} (hK : KX al) (hX : XF F) (hkw : al.1 w = (17, 3)) (hkn : al.1 nu = (0, 63)) (hkf : al.1 fa = (0, 63)) (hwn : F w 0 = vA nu) (hwf : F w 1 = vA fa) (hwc : F w 2 = vA 27) (hnf : nu ≠ fa ∧ nu ≠ 28 ∧ fa ≠ 28) (hm : F 2 3 = vI m) (hdg : F 27 2 = vI dg) (hm2 : 2 ≤ m) (hm4 : m ≤ 4096) (hd63 : dg ≤ 63) (hmk : ∀ i, i ≤ dg → 0 ≤ mk i ∧ mk i < m) (hA28 : ∀ i, i ≤ dg → A 28 i = mk i) (hnv : ∀ j, 0 ≤ nv j ∧ nv j < m) (hsh : sh < 63) (hA : ∀ j, j < 63 → A nu j = nv j) : QE 1 0 0 mX9_addMaker [vA w, vI sh] F A al (PV F al (fun A2 => Off [nu] A A2 ∧ ∀ j, j < 63 → A2 nu j = amE m dg mk sh nv j)) := by
  refine QE.mk (by decide +kernel) (Nat.le_of_ble_eq_true rfl) ?_
  refine q_aload_n eX9_addMaker_0 rfl ?_
  refine q_getfield eX9_addMaker_1 gf_X9_18 hkw (by decide) (by assumption) ?_
  refine q_getfield eX9_addMaker_4 gf_X9_38 (hK _ (by decide) (by decide)) (by decide) (xf_27_0 hX) ?_
  refine q_getfield eX9_addMaker_7 gf_X9_42 (hK _ (by decide) (by decide)) (by decide) (by assumption) ?_
  refine q_istore_n eX9_addMaker_10 (by decide) rfl ?_
  refine q_iconst eX9_addMaker_11 ?_
  refine q_istore_n eX9_addMaker_12 (by decide) rfl ?_
  exact lp_addMaker hK hX hkw hkn hkf hwn hwf hwc hnf hm hdg hm2 hm4 hd63 hmk hA28 hnv hsh (dg + 1) 0 A _ (by omega) Off.rfl' (fun j hj => by rw [if_neg (by omega)]; exact hA j hj)
set_option maxRecDepth 20000 in
theorem lp_step {A0 : HA} {w nu fa dg : Nat} {m : Int} {mk : Nat → Int} {ch : Nat} {F : HF} {al : AL} (hK : KX al) (hX : XF F) (hkw : al.1 w = (17, 3)) (hkn : al.1 nu = (0, 63)) (hkf : al.1 fa = (0, 63)) (hwn : F w 0 = vA nu) (hwf : F w 1 = vA fa) (hwc : F w 2 = vA 27) (hnf : nu ≠ fa ∧ nu ≠ 28 ∧ fa ≠ 28) (hm : F 2 3 = vI m) (hdg : F 27 2 = vI dg) (hm2 : 2 ≤ m) (hm4 : m ≤ 4096) (hd63 : dg ≤ 63) (hmk : ∀ i, i ≤ dg → 0 ≤ mk i ∧ mk i < m) (hch : F 27 3 = vI ch) (hch63 : ch ≤ 63) (hA28 : ∀ i, i ≤ dg → A0 28 i = mk i) {S : (Nat → Int) × (Nat → Int)} : ∀ (k j : Nat) (A : HA) (s : (Nat → Int) × (Nat → Int)), j + k = ch → Off [nu, fa] A0 A → (∀ i, 0 ≤ s.1 i ∧ s.1 i < m) → (∀ i, 0 ≤ s.2 i ∧ s.2 i < m) → (∀ i, i < 63 → A nu i = s.1 i) → (∀ i, i < 63 → A fa i = s.2 i) → wsE m dg mk k j s = S →
    QW mX9_step 2 0 0 (PV F al (fun A2 => Off [nu, fa] A0 A2 ∧ (∀ i, i < 63 → A2 nu i = S.1 i) ∧ ∀ i, i < 63 → A2 fa i = S.2 i)) 0 0 2 [some (vA w), some (vI j)] [] F A al := by
  intro k
  induction k with
  | zero =>
    intro j A s hj ho hs1 hs2 h1 h2 hS
    refine q_iload_n eX9_step_2 rfl ?_
    refine q_aload_n eX9_step_3 rfl ?_
    refine q_getfield eX9_step_4 gf_X9_18 hkw (by decide) (by assumption) ?_
    refine q_getfield eX9_step_7 gf_X9_28 (hK _ (by decide) (by decide)) (by decide) (by assumption) ?_
    refine q_icmp_ge (tgt := 70) eX9_step_10 (by decide) (by first | assumption | exact ⟨by omega, by omega⟩) (by first | assumption | exact ⟨by omega, by omega⟩) (fun c10 => ?_) (fun c10 => ?_)
    · refine q_retV eX9_step_70 rfl (by decide) (by decide) ?_
      exact ⟨rfl, rfl, rfl, ho, fun i hi => by rw [h1 i hi, ← hS]; rfl, fun i hi => by rw [h2 i hi, ← hS]; rfl⟩
    · exact absurd c10 (by omega)
  | succ k ih =>
    intro j A s hj ho hs1 hs2 h1 h2 hS
    have hsj := hs2 j
    have hst : wsE m dg mk (k + 1) j s = if s.2 j + 1 < m then (amE m dg mk j s.1, upc s.2 j (s.2 j + 1)) else wsE m dg mk k (j + 1) (amE m dg mk j s.1, upc s.2 j 0) := rfl
    rw [hst] at hS
    refine q_iload_n eX9_step_2 rfl ?_
    refine q_aload_n eX9_step_3 rfl ?_
    refine q_getfield eX9_step_4 gf_X9_18 hkw (by decide) (by assumption) ?_
    refine q_getfield eX9_step_7 gf_X9_28 (hK _ (by decide) (by decide)) (by decide) (by assumption) ?_
    refine q_icmp_ge (tgt := 70) eX9_step_10 (by decide) (by first | assumption | exact ⟨by omega, by omega⟩) (by first | assumption | exact ⟨by omega, by omega⟩) (fun c10 => ?_) (fun c10 => ?_)
    · exact absurd c10 (by omega)
    · refine q_iload_n eX9_step_13 rfl ?_
      refine q_aload_n eX9_step_14 rfl ?_
      refine q_getfield eX9_step_15 gf_X9_15 hkw (by decide) (by assumption) ?_
      refine q_alen eX9_step_18 hkf ?_
      refine q_icmp_ge (tgt := 70) eX9_step_19 (by decide) (by first | assumption | exact ⟨by omega, by omega⟩) (by first | assumption | exact ⟨by omega, by omega⟩) (fun c19 => ?_) (fun c19 => ?_)
      · exact absurd c19 (by omega)
      · refine q_aload_n eX9_step_22 rfl ?_
        refine q_iload_n eX9_step_23 rfl ?_
        refine q_callVV [vI j] (M1 := mX9_addMaker) eX9_step_24 mf_X9_addMaker lk_X9_34 hkw (ev_addMaker hK hX hkw hkn hkf hwn hwf hwc hnf hm hdg hm2 hm4 hd63 hmk (fun i hi => by rw [ho 28 (by simp; omega)]; exact hA28 i hi) hs1 (by omega) h1) (by decide) (by decide) (by decide) (Nat.le_of_ble_eq_true rfl) rfl (fun A3 h3 => ?_)
        obtain ⟨o3, v3⟩ := h3
        have e3 : A3 fa (j : Int).toNat = s.2 j := by rw [o3 fa (by simp; omega)]; exact h2 j (by omega)
        refine q_aload_n eX9_step_27 rfl ?_
        refine q_getfield eX9_step_28 gf_X9_15 hkw (by decide) (by assumption) ?_
        refine q_iload_n eX9_step_31 rfl ?_
        refine q_dup2 eX9_step_32 rfl rfl ?_
        refine q_iald eX9_step_33 hkf (by omega) (by omega) ?_
        rw [e3]
        refine q_iconst eX9_step_34 ?_
        refine q_iadd eX9_step_35 ?_
        refine q_iast eX9_step_36 hkf (by omega) (by omega) ?_
        refine q_aload_n eX9_step_37 rfl ?_
        refine q_getfield eX9_step_38 gf_X9_15 hkw (by decide) (by assumption) ?_
        refine q_iload_n eX9_step_41 rfl ?_
        refine q_iald eX9_step_42 hkf (by omega) (by omega) ?_
        rw [show up2 A3 fa (j : Int).toNat (s.2 j + 1) fa (j : Int).toNat = s.2 j + 1 from up2_eq _ _ _ _]
        refine q_aload_n eX9_step_43 rfl ?_
        refine q_getfield eX9_step_44 gf_X9_18 hkw (by decide) (by assumption) ?_
        refine q_getfield eX9_step_47 gf_X9_38 (hK _ (by decide) (by decide)) (by decide) (xf_27_0 hX) ?_
        refine q_getfield eX9_step_50 gf_X9_42 (hK _ (by decide) (by decide)) (by decide) (by assumption) ?_
        refine q_icmp_ge (tgt := 57) eX9_step_53 (by decide) (by first | assumption | exact ⟨by omega, by omega⟩) (by first | assumption | exact ⟨by omega, by omega⟩) (fun c53 => ?_) (fun c53 => ?_)
        · refine q_aload_n eX9_step_57 rfl ?_
          refine q_getfield eX9_step_58 gf_X9_15 hkw (by decide) (by assumption) ?_
          refine q_iload_n eX9_step_61 rfl ?_
          refine q_iconst eX9_step_62 ?_
          refine q_iast eX9_step_63 hkf (by omega) (by omega) ?_
          refine q_iinc eX9_step_64 rfl (by decide) rfl ?_
          refine q_goto (tgt := 2) eX9_step_67 (by decide) ?_
          rw [if_neg (by omega)] at hS
          rw [up2_up2]
          refine ih (j + 1) _ (amE m dg mk j s.1, upc s.2 j 0) (by omega) ((ho.trans (o3.mono (by simp))).trans (Off.up (by simp))) (am_range (by omega) hs1) (fun i => ?_) (fun i hi => ?_) (fun i hi => ?_) hS
          · show 0 ≤ upc s.2 j 0 i ∧ upc s.2 j 0 i < m
            unfold upc
            split
            · omega
            · exact hs2 i
          · rw [up2_row hnf.1]; exact v3 i hi
          · rw [up2_at, o3 fa (by simp; omega), h2 i hi]
            rfl
        · refine q_retV eX9_step_56 rfl (by decide) (by decide) ?_
          rw [if_pos (by omega)] at hS
          refine ⟨rfl, rfl, rfl, (ho.trans (o3.mono (by simp))).trans (Off.up (by simp)), fun i hi => ?_, fun i hi => ?_⟩
          · rw [up2_row hnf.1, v3 i hi, ← hS]
          · rw [up2_at, o3 fa (by simp; omega), h2 i hi, ← hS]
            rfl
set_option maxRecDepth 20000 in
theorem ev_step {w nu fa dg : Nat} {m : Int} {mk : Nat → Int} {ch : Nat} {s : (Nat → Int) × (Nat → Int)} {F : HF} {A : HA} {al : AL} (hK : KX al) (hX : XF F) (hkw : al.1 w = (17, 3)) (hkn : al.1 nu = (0, 63)) (hkf : al.1 fa = (0, 63)) (hwn : F w 0 = vA nu) (hwf : F w 1 = vA fa) (hwc : F w 2 = vA 27) (hnf : nu ≠ fa ∧ nu ≠ 28 ∧ fa ≠ 28) (hm : F 2 3 = vI m) (hdg : F 27 2 = vI dg) (hm2 : 2 ≤ m) (hm4 : m ≤ 4096) (hd63 : dg ≤ 63) (hmk : ∀ i, i ≤ dg → 0 ≤ mk i ∧ mk i < m) (hch : F 27 3 = vI ch) (hch63 : ch ≤ 63) (hA28 : ∀ i, i ≤ dg → A 28 i = mk i) (hs1 : ∀ i, 0 ≤ s.1 i ∧ s.1 i < m) (hs2 : ∀ i, 0 ≤ s.2 i ∧ s.2 i < m) (h1 : ∀ i, i < 63 → A nu i = s.1 i) (h2 : ∀ i, i < 63 → A fa i = s.2 i) : QE 2 0 0 mX9_step [vA w] F A al (PV F al (fun A2 => Off [nu, fa] A A2 ∧ (∀ i, i < 63 → A2 nu i = (wsE m dg mk ch 0 s).1 i) ∧ ∀ i, i < 63 → A2 fa i = (wsE m dg mk ch 0 s).2 i)) := by
  refine QE.mk (by decide +kernel) (Nat.le_of_ble_eq_true rfl) ?_
  refine q_iconst eX9_step_0 ?_
  refine q_istore_n eX9_step_1 (by decide) rfl ?_
  exact lp_step hK hX hkw hkn hkf hwn hwf hwc hnf hm hdg hm2 hm4 hd63 hmk hch hch63 hA28 ch 0 A s (by omega) Off.rfl' hs1 hs2 h1 h2 rfl
set_option maxRecDepth 20000 in
theorem ev_start {w nu fa : Nat} {F : HF} {A : HA} {al : AL} (hkw : al.1 w = (17, 3)) (hkn : al.1 nu = (0, 63)) (hkf : al.1 fa = (0, 63)) (hwn : F w 0 = vA nu) (hwf : F w 1 = vA fa) (hnf : nu ≠ fa) : QE 1 0 0 mX9_start [vA w] F A al (PV F al (fun A2 => Off [nu, fa] A A2 ∧ (∀ i, i < 63 → A2 nu i = 0) ∧ ∀ i, i < 63 → A2 fa i = 0)) := by
  refine QE.mk (by decide +kernel) (Nat.le_of_ble_eq_true rfl) ?_
  refine q_aload_n eX9_start_0 rfl ?_
  refine q_getfield eX9_start_1 gf_X9_9 hkw (by decide) (by assumption) ?_
  refine q_iconst eX9_start_4 ?_
  refine q_callSV [vA nu, vI 0] (M1 := mJ7_fill_53178) eX9_start_5 mf_J7_fill_53178 lk_X9_22 (ev_fill hkn (by decide)) (by decide) (by decide) (by decide) (Nat.le_of_ble_eq_true rfl) rfl (fun A1 h1 => ?_)
  obtain ⟨o1, v1⟩ := h1
  refine q_aload_n eX9_start_8 rfl ?_
  refine q_getfield eX9_start_9 gf_X9_15 hkw (by decide) (by assumption) ?_
  refine q_iconst eX9_start_12 ?_
  refine q_callSV [vA fa, vI 0] (M1 := mJ7_fill_53178) eX9_start_13 mf_J7_fill_53178 lk_X9_22 (ev_fill hkf (by decide)) (by decide) (by decide) (by decide) (Nat.le_of_ble_eq_true rfl) rfl (fun A2 h2 => ?_)
  obtain ⟨o2, v2⟩ := h2
  refine q_retV eX9_start_16 rfl (by decide) (by decide) ?_
  exact ⟨rfl, rfl, rfl, (o1.mono (by simp)).trans (o2.mono (by simp)), fun i hi => by rw [o2 nu (by simp; exact hnf)]; exact v1 i hi, v2⟩
