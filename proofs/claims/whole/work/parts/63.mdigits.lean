/-! the model: digits, what is moved, traces, norms, orders -/
def dlM (p r : Nat) (m : Int) (rt : Nat → Int) (x : Int) : Nat → Int
  | 0 => x
  | i + 1 => bp p r m (mi m r (dlM p r m rt x i) (rt (low p r m (dlM p r m rt x i))))
theorem dlM_el {p r : Nat} {m : Int} {rt : Nat → Int} {x : Int} (hm : 0 < m) (hx : El m r x) : ∀ i, El m r (dlM p r m rt x i)
  | 0 => hx
  | _ + 1 => bp_el hm
def ddM (p r : Nat) (m : Int) (rt lg : Nat → Int) (x : Int) (i : Nat) : Int := lg (low p r m (dlM p r m rt x i))
/-- the sum so far of digits d, each root to the b -/
def jnM (p r q : Nat) (m : Int) (f : Nat → Int) (g : Int) (d : Nat → Int) (b : Nat) : Nat → Int
  | 0 => 0
  | i + 1 => if d i = -1 then jnM p r q m f g d b i else pl m r (jnM p r q m f g d b i) (tm m r f ((p : Int) ^ i) (pw m r f g (d i * b % ((q : Int) - 1)).toNat))
theorem jnM_el {p r q : Nat} {m : Int} {f : Nat → Int} {g : Int} {d : Nat → Int} {b : Nat} (hm : 0 < m) : ∀ i, El m r (jnM p r q m f g d b i)
  | 0 => el_zero hm
  | i + 1 => by
    unfold jnM
    split
    · exact jnM_el hm i
    · exact pl_el hm _ _
theorem pl_un {m : Int} {r : Nat} {x y : Int} : un m r (fun i => dg m i x + 1 * dg m i y) = pl m r x y := by
  unfold pl
  exact un_congr fun i _ => by rw [Int.one_mul]
theorem mi_un {m : Int} {r : Nat} {x y : Int} : un m r (fun i => dg m i x + -1 * dg m i y) = mi m r x y := by
  unfold mi
  exact un_congr fun i _ => by rw [Int.neg_mul, Int.one_mul]; rfl
theorem mo_plus {x y : Int} {m : Int} {r : Nat} {f : Nat → Int} {F : HF} {A : HA} {al : AL} (hK : KM al) (hX : MR F) (hG : GM m r f F A) (hx : El m r x) (hy : El m r y) : QE 1 0 0 mX12_added [vA 44, vI x, vI y, vI 1] F A al (PQ (pl m r x y) F al (fun A2 => Off [51, 52] A A2)) := by
  have h := mo_added (b := 1) hK hX hG (Or.inl rfl) hx hy
  rw [pl_un] at h
  exact h
theorem mo_minus {x y : Int} {m : Int} {r : Nat} {f : Nat → Int} {F : HF} {A : HA} {al : AL} (hK : KM al) (hX : MR F) (hG : GM m r f F A) (hx : El m r x) (hy : El m r y) : QE 1 0 0 mX12_added [vA 44, vI x, vI y, vI (-1)] F A al (PQ (mi m r x y) F al (fun A2 => Off [51, 52] A A2)) := by
  have h := mo_added (b := -1) hK hX hG (Or.inr rfl) hx hy
  rw [mi_un] at h
  exact h
set_option maxRecDepth 20000 in
theorem lp_laysDigits {x : Int} {p e r q N : Nat} {m : Int} {f : Nat → Int} {g : Int} {rt lg : Nat → Int} {F : HF} {A0 : HA} {al : AL} (hK : KM al) (hX : MR F) (hT0 : GY p e r q N m f g rt lg F A0) (hx : El m r x) : ∀ (k i : Nat) (A : HA), i + k = e → Off [51, 52, 54] A0 A → (∀ j, j < i → A 54 j = ddM p r m rt lg x j) →
    QW mX12_laysDigits 2 0 0 (PV F al (fun A2 => Off [51, 52, 54] A0 A2 ∧ (∀ i, i < e → A2 54 i = ddM p r m rt lg x i))) 0 0 4 [some (vA 44), some (vI x), some (vI (dlM p r m rt x i)), some (vI i)] [] F A al := by
  obtain ⟨hG, hp, he, hq, hN, hg, ⟨hp2, hp7, he1, he4, hme, hqe, hq3, hNm, hgE⟩, hP, hL, hR⟩ := id hT0
  obtain ⟨hm, hr, hf, hm2, hr1, hr6, hN4⟩ := id hG
  have hm4 := hG.m4
  have hq2 := hT0.q2
  have hN9 : (N : Int) ≤ 4096 := by rw [hNm]; exact hN4
  intro k
  induction k with
  | zero =>
    intro i A hi ho h1
    have ei : i = e := by omega
    subst ei
    refine q_iload_n eX12_laysDigits_4 rfl ?_
    refine q_aload_n eX12_laysDigits_5 rfl ?_
    refine q_getfield eX12_laysDigits_6 gf_X12_16 (hK _ (by decide) (by decide)) (by decide) (by first | assumption) ?_
    refine q_icmp_ge (tgt := 50) eX12_laysDigits_9 (by decide) (by first | assumption | exact ⟨by omega, by omega⟩) (by first | assumption | exact ⟨by omega, by omega⟩) (fun c9 => ?_) (fun c9 => ?_)
    · refine q_retV eX12_laysDigits_50 rfl (by decide) (by decide) ?_
      exact ⟨rfl, rfl, rfl, ho, h1⟩
    · exact absurd c9 (by omega)
  | succ k ih =>
    intro i A hi ho h1
    have hx1 := dlM_el (p := p) (rt := rt) (show 0 < m by omega) hx i
    have hlt : low p r m (dlM p r m rt x i) < q := by rw [hqe]; exact low_lt (show 0 < p by omega)
    have hT1 : GY p e r q N m f g rt lg F A := hT0.off ho (by decide) (by decide) (by decide) (by decide)
    have hl1 : A 47 (low p r m (dlM p r m rt x i)) = ddM p r m rt lg x i := by rw [ho 47 (by decide)]; exact (hL _ hlt).1
    have hT2 : GY p e r q N m f g rt lg F (up2 A 54 i (ddM p r m rt lg x i)) := hT1.off (Off.up (l := [54]) (by simp)) (by decide) (by decide) (by decide) (by decide)
    refine q_iload_n eX12_laysDigits_4 rfl ?_
    refine q_aload_n eX12_laysDigits_5 rfl ?_
    refine q_getfield eX12_laysDigits_6 gf_X12_16 (hK _ (by decide) (by decide)) (by decide) (by first | assumption) ?_
    refine q_icmp_ge (tgt := 50) eX12_laysDigits_9 (by decide) (by first | assumption | exact ⟨by omega, by omega⟩) (by first | assumption | exact ⟨by omega, by omega⟩) (fun c9 => ?_) (fun c9 => ?_)
    · exact absurd c9 (by omega)
    · refine q_aload_n eX12_laysDigits_12 rfl ?_
      refine q_getfield eX12_laysDigits_13 gf_X12_59 (hK _ (by decide) (by decide)) (by decide) (mr_44_17 hX) ?_
      refine q_iload_n eX12_laysDigits_16 rfl ?_
      refine q_aload_n eX12_laysDigits_17 rfl ?_
      refine q_getfield eX12_laysDigits_18 gf_X12_38 (hK _ (by decide) (by decide)) (by decide) (mr_44_9 hX) ?_
      refine q_aload_n eX12_laysDigits_21 rfl ?_
      refine q_iload_n eX12_laysDigits_22 rfl ?_
      refine q_callVP [vI (dlM p r m rt x i)] (M1 := mX12_lowOf) eX12_laysDigits_23 mf_X12_lowOf lk_X12_139 (hK _ (by decide) (by decide)) (mo_lowOf hK hm hr hp hp2 hp7 hm2 (by omega) hx1.1 (hx1.lt hN4 |> fun q => by omega) hr6) (by decide) (by decide) (by decide) (Nat.le_of_ble_eq_true rfl) rfl ?_
      refine q_iald eX12_laysDigits_26 (hK _ (by decide) (by decide)) (by omega) (by omega) ?_
      rw [show A 47 ((low p r m (dlM p r m rt x i) : Nat) : Int).toNat = ddM p r m rt lg x i from hl1]
      refine q_iast eX12_laysDigits_27 (hK _ (by decide) (by decide)) (by omega) (by omega) ?_
      refine q_aload_n eX12_laysDigits_28 rfl ?_
      refine q_aload_n eX12_laysDigits_29 rfl ?_
      refine q_iload_n eX12_laysDigits_30 rfl ?_
      refine q_aload_n eX12_laysDigits_31 rfl ?_
      refine q_iload_n eX12_laysDigits_32 rfl ?_
      refine q_callVP [vI (dlM p r m rt x i)] (M1 := mX12_rootOf) eX12_laysDigits_33 mf_X12_rootOf lk_X12_185 (hK _ (by decide) (by decide)) (mo_rootOf hK hX hT2 hx1) (by decide) (by decide) (by decide) (Nat.le_of_ble_eq_true rfl) rfl ?_
      refine q_iconst eX12_laysDigits_36 ?_
      refine q_callVQ [vI (dlM p r m rt x i), vI (rt (low p r m (dlM p r m rt x i))), vI (-1)] (M1 := mX12_added) eX12_laysDigits_37 mf_X12_added lk_X12_175 (hK _ (by decide) (by decide)) (mo_minus hK hX hT2.1 hx1 (hR _ hlt).2) (by decide) (by decide) (by decide) (Nat.le_of_ble_eq_true rfl) rfl (fun A3 h3 => ?_)
      refine q_callVQ [vI (mi m r (dlM p r m rt x i) (rt (low p r m (dlM p r m rt x i))))] (M1 := mX12_byP) eX12_laysDigits_40 mf_X12_byP lk_X12_188 (hK _ (by decide) (by decide)) (mo_byP hK hX (hT2.off h3 (by decide) (by decide) (by decide) (by decide)) (mi_el (by omega) _ _)) (by decide) (by decide) (by decide) (Nat.le_of_ble_eq_true rfl) rfl (fun A4 h4 => ?_)
      refine q_istore_n eX12_laysDigits_43 (by decide) rfl ?_
      refine q_iinc eX12_laysDigits_44 rfl (by decide) rfl ?_
      refine q_goto (tgt := 4) eX12_laysDigits_47 (by decide) ?_
      have o4 : Off [51, 52, 54] (up2 A 54 i (ddM p r m rt lg x i)) A4 := (h3.mono (by simp)).trans (h4.mono (by simp))
      refine ih (i + 1) A4 (by omega) ((ho.trans (Off.up (by simp))).trans o4) (fun j hj => ?_)
      rw [h4 54 (by decide), h3 54 (by decide), up2_at]
      split
      · next he => rw [show j = i from he]
      · next hne => exact h1 j (by have : j ≠ i := hne; omega)
set_option maxRecDepth 20000 in
theorem mo_laysDigits {x : Int} {p e r q N : Nat} {m : Int} {f : Nat → Int} {g : Int} {rt lg : Nat → Int} {F : HF} {A : HA} {al : AL} (hK : KM al) (hX : MR F) (hT : GY p e r q N m f g rt lg F A) (hx : El m r x) : QE 2 0 0 mX12_laysDigits [vA 44, vI x] F A al (PV F al (fun A2 => Off [51, 52, 54] A A2 ∧ (∀ i, i < e → A2 54 i = ddM p r m rt lg x i))) := by
  refine QE.mk (by decide +kernel) (Nat.le_of_ble_eq_true rfl) ?_
  refine q_iload_n eX12_laysDigits_0 rfl ?_
  refine q_istore_n eX12_laysDigits_1 (by decide) rfl ?_
  refine q_iconst eX12_laysDigits_2 ?_
  refine q_istore_n eX12_laysDigits_3 (by decide) rfl ?_
  exact lp_laysDigits hK hX hT hx e 0 A (by omega) Off.rfl' (fun j hj => by omega)
set_option maxRecDepth 20000 in
theorem lp_joined {d : Nat → Int} {b : Nat} {p e r q N : Nat} {m : Int} {f : Nat → Int} {g : Int} {rt lg : Nat → Int} {F : HF} {A0 : HA} {al : AL} (hK : KM al) (hX : MR F) (hT0 : GY p e r q N m f g rt lg F A0) (hb : b ≤ 7) (hd : ∀ i, i < e → A0 54 i = d i ∧ (d i = -1 ∨ 0 ≤ d i ∧ d i < (q : Int) - 1)) : ∀ (k i : Nat) (A : HA), i + k = e → Off [51, 52, 53] A0 A →
    QW mX12_joined 3 0 0 (PQ (jnM p r q m f g d b e) F al (fun A2 => Off [51, 52, 53] A0 A2)) 0 0 7 [some (vA 44), some (vI b), some (vI (jnM p r q m f g d b i)), some (vI ((p : Int) ^ i)), some (vI i)] [] F A al := by
  obtain ⟨hG, hp, he, hq, hN, hg, ⟨hp2, hp7, he1, he4, hme, hqe, hq3, hNm, hgE⟩, hP, hL, hR⟩ := id hT0
  obtain ⟨hm, hr, hf, hm2, hr1, hr6, hN4⟩ := id hG
  have hm4 := hG.m4
  have hq2 := hT0.q2
  have hN9 : (N : Int) ≤ 4096 := by rw [hNm]; exact hN4
  intro k
  induction k with
  | zero =>
    intro i A hi ho
    have ei : i = e := by omega
    subst ei
    refine q_iload eX12_joined_7 rfl ?_
    refine q_aload_n eX12_joined_9 rfl ?_
    refine q_getfield eX12_joined_10 gf_X12_16 (hK _ (by decide) (by decide)) (by decide) (by first | assumption) ?_
    refine q_icmp_ge (tgt := 73) eX12_joined_13 (by decide) (by first | assumption | exact ⟨by omega, by omega⟩) (by first | assumption | exact ⟨by omega, by omega⟩) (fun c13 => ?_) (fun c13 => ?_)
    · refine q_iload_n eX12_joined_73 rfl ?_
      refine q_retI eX12_joined_74 rfl (by decide) (by decide) ?_
      exact ⟨rfl, rfl, rfl, ho⟩
    · exact absurd c13 (by omega)
  | succ k ih =>
    intro i A hi ho
    have hT1 : GY p e r q N m f g rt lg F A := hT0.off ho (by decide) (by decide) (by decide) (by decide)
    obtain ⟨hd1, hd2⟩ := hd i (by omega)
    have hd3 : A 54 i = d i := by rw [ho 54 (by decide)]; exact hd1
    have hj1 := jnM_el (p := p) (q := q) (f := f) (g := g) (d := d) (b := b) (r := r) (show 0 < m by omega) i
    have hlv : El m r ((p : Int) ^ i) := by
      refine ⟨Int.pow_nonneg (by omega), ?_⟩
      have h1 : (p : Int) ^ (i + 1) ≤ (p : Int) ^ e := ipow_mono (by omega) (by omega)
      have h2 := pow_ge (m := m) (by omega) hr1
      have h3 : (p : Int) ^ i * 2 ≤ (p : Int) ^ i * p := Int.mul_le_mul_of_nonneg_left (by omega) (Int.pow_nonneg (by omega))
      have h4 : 0 < (p : Int) ^ i := Int.pow_pos (by omega)
      rw [Int.pow_succ, ← hme] at h1
      omega
    have hb1 := ih (i + 1)
    have hmul : 0 ≤ d i → 0 ≤ d i * b ∧ d i * b < 2147483648 := fun h0 => by
      have h1 : d i * b ≤ 3125 * 7 := Int.mul_le_mul (by omega) (by omega) (by omega) (by omega)
      exact ⟨Int.mul_nonneg h0 (by omega), by omega⟩
    have hmo1 := Int.emod_nonneg (d i * b) (b := (q : Int) - 1) (by omega)
    have hmo2 := Int.emod_lt_of_pos (d i * b) (b := (q : Int) - 1) (by omega)
    refine q_iload eX12_joined_7 rfl ?_
    refine q_aload_n eX12_joined_9 rfl ?_
    refine q_getfield eX12_joined_10 gf_X12_16 (hK _ (by decide) (by decide)) (by decide) (by first | assumption) ?_
    refine q_icmp_ge (tgt := 73) eX12_joined_13 (by decide) (by first | assumption | exact ⟨by omega, by omega⟩) (by first | assumption | exact ⟨by omega, by omega⟩) (fun c13 => ?_) (fun c13 => ?_)
    · exact absurd c13 (by omega)
    · refine q_aload_n eX12_joined_16 rfl ?_
      refine q_getfield eX12_joined_17 gf_X12_59 (hK _ (by decide) (by decide)) (by decide) (mr_44_17 hX) ?_
      refine q_iload eX12_joined_20 rfl ?_
      refine q_iald eX12_joined_22 (hK _ (by decide) (by decide)) (by omega) (by omega) ?_
      rw [show A 54 (i : Int).toNat = d i from hd3]
      refine q_iconst eX12_joined_23 ?_
      refine q_icmp_eq (tgt := 60) eX12_joined_24 (by decide) (by first | assumption | exact ⟨by omega, by omega⟩) (by first | assumption | exact ⟨by omega, by omega⟩) (fun c24 => ?_) (fun c24 => ?_)
      · refine q_iload_n eX12_joined_60 rfl ?_
        refine q_aload_n eX12_joined_61 rfl ?_
        refine q_getfield eX12_joined_62 gf_X12_13 (hK _ (by decide) (by decide)) (by decide) (by first | assumption) ?_
        refine q_imul eX12_joined_65 ?_
        refine q_istore_n eX12_joined_66 (by decide) rfl ?_
        refine q_iinc eX12_joined_67 rfl (by decide) rfl ?_
        refine q_goto (tgt := 7) eX12_joined_70 (by decide) ?_
        rw [← Int.pow_succ]
        first
        | (rw [show jnM p r q m f g d b (i + 1) = jnM p r q m f g d b i from if_pos c24] at hb1
           exact hb1 A (by omega) ho)
        | (rw [show jnM p r q m f g d b (i + 1) = pl m r (jnM p r q m f g d b i) (tm m r f ((p : Int) ^ i) (pw m r f g (d i * b % ((q : Int) - 1)).toNat)) from if_neg c24] at hb1
           exact hb1 A4 (by omega) ((ho.trans h3).trans (h4.mono (by simp))))
      · refine q_aload_n eX12_joined_27 rfl ?_
        refine q_iload_n eX12_joined_28 rfl ?_
        refine q_aload_n eX12_joined_29 rfl ?_
        refine q_iload_n eX12_joined_30 rfl ?_
        refine q_aload_n eX12_joined_31 rfl ?_
        refine q_getfield eX12_joined_32 gf_X12_41 (hK _ (by decide) (by decide)) (by decide) (mr_44_10 hX) ?_
        refine q_aload_n eX12_joined_35 rfl ?_
        refine q_getfield eX12_joined_36 gf_X12_59 (hK _ (by decide) (by decide)) (by decide) (mr_44_17 hX) ?_
        refine q_iload eX12_joined_39 rfl ?_
        refine q_iald eX12_joined_41 (hK _ (by decide) (by decide)) (by omega) (by omega) ?_
        rw [show A 54 (i : Int).toNat = d i from hd3]
        refine q_iload_n eX12_joined_42 rfl ?_
        refine q_imul eX12_joined_43 ?_
        refine q_aload_n eX12_joined_44 rfl ?_
        refine q_getfield eX12_joined_45 gf_X12_25 (hK _ (by decide) (by decide)) (by decide) (by first | assumption) ?_
        refine q_iconst eX12_joined_48 ?_
        refine q_isub eX12_joined_49 ?_
        refine q_irem eX12_joined_50 (hmul (by omega)).1 (hmul (by omega)).2 (by omega) (by omega) ?_
        refine q_iald eX12_joined_51 (hK _ (by decide) (by decide)) (by omega) (by omega) ?_
        have hpk : A 48 (d i * b % ((q : Int) - 1)).toNat = pw m r f g (d i * b % ((q : Int) - 1)).toNat := by rw [ho 48 (by decide)]; exact hP _ (by omega)
        rw [hpk]
        refine q_callVQ [vI ((p : Int) ^ i), vI (pw m r f g (d i * b % ((q : Int) - 1)).toNat)] (M1 := mX12_times) eX12_joined_52 mf_X12_times lk_X12_132 (hK _ (by decide) (by decide)) (mo_times hK hX hT1.1 hlv (pw_el hm2 hr1 g _)) (by decide) (by decide) (by decide) (Nat.le_of_ble_eq_true rfl) rfl (fun A3 h3 => ?_)
        refine q_iconst eX12_joined_55 ?_
        refine q_callVQ [vI (jnM p r q m f g d b i), vI (tm m r f ((p : Int) ^ i) (pw m r f g (d i * b % ((q : Int) - 1)).toNat)), vI 1] (M1 := mX12_added) eX12_joined_56 mf_X12_added lk_X12_175 (hK _ (by decide) (by decide)) (mo_plus hK hX (hT1.1.off h3 (by decide)) hj1 (tm_el (by omega) _ _)) (by decide) (by decide) (by decide) (Nat.le_of_ble_eq_true rfl) rfl (fun A4 h4 => ?_)
        refine q_istore_n eX12_joined_59 (by decide) rfl ?_
        refine q_iload_n eX12_joined_60 rfl ?_
        refine q_aload_n eX12_joined_61 rfl ?_
        refine q_getfield eX12_joined_62 gf_X12_13 (hK _ (by decide) (by decide)) (by decide) (by first | assumption) ?_
        refine q_imul eX12_joined_65 ?_
        refine q_istore_n eX12_joined_66 (by decide) rfl ?_
        refine q_iinc eX12_joined_67 rfl (by decide) rfl ?_
        refine q_goto (tgt := 7) eX12_joined_70 (by decide) ?_
        rw [← Int.pow_succ]
        first
        | (rw [show jnM p r q m f g d b (i + 1) = jnM p r q m f g d b i from if_pos c24] at hb1
           exact hb1 A (by omega) ho)
        | (rw [show jnM p r q m f g d b (i + 1) = pl m r (jnM p r q m f g d b i) (tm m r f ((p : Int) ^ i) (pw m r f g (d i * b % ((q : Int) - 1)).toNat)) from if_neg c24] at hb1
           exact hb1 A4 (by omega) ((ho.trans h3).trans (h4.mono (by simp))))
set_option maxRecDepth 20000 in
theorem mo_joined {d : Nat → Int} {b : Nat} {p e r q N : Nat} {m : Int} {f : Nat → Int} {g : Int} {rt lg : Nat → Int} {F : HF} {A : HA} {al : AL} (hK : KM al) (hX : MR F) (hT : GY p e r q N m f g rt lg F A) (hb : b ≤ 7) (hd : ∀ i, i < e → A 54 i = d i ∧ (d i = -1 ∨ 0 ≤ d i ∧ d i < (q : Int) - 1)) : QE 3 0 0 mX12_joined [vA 44, vI b] F A al (PQ (jnM p r q m f g d b e) F al (fun A2 => Off [51, 52, 53] A A2)) := by
  refine QE.mk (by decide +kernel) (Nat.le_of_ble_eq_true rfl) ?_
  refine q_iconst eX12_joined_0 ?_
  refine q_istore_n eX12_joined_1 (by decide) rfl ?_
  refine q_iconst eX12_joined_2 ?_
  refine q_istore_n eX12_joined_3 (by decide) rfl ?_
  refine q_iconst eX12_joined_4 ?_
  refine q_istore eX12_joined_5 (by decide) rfl ?_
  have h := lp_joined hK hX hT hb hd e 0 A (by omega) Off.rfl'
  exact h
def mvM (p e r q : Nat) (m : Int) (f : Nat → Int) (g : Int) (rt lg : Nat → Int) (x : Int) : Int := jnM p r q m f g (ddM p r m rt lg x) p e
theorem mvM_el {p e r q : Nat} {m : Int} {f : Nat → Int} {g : Int} {rt lg : Nat → Int} {x : Int} (hm : 0 < m) : El m r (mvM p e r q m f g rt lg x) := jnM_el hm e
set_option maxRecDepth 20000 in
theorem mo_moved {x : Int} {p e r q N : Nat} {m : Int} {f : Nat → Int} {g : Int} {rt lg : Nat → Int} {F : HF} {A : HA} {al : AL} (hK : KM al) (hX : MR F) (hT : GY p e r q N m f g rt lg F A) (hx : El m r x) : QE 4 0 0 mX12_moved [vA 44, vI x] F A al (PQ (mvM p e r q m f g rt lg x) F al (fun A2 => Off [51, 52, 53, 54] A A2)) := by
  refine QE.mk (by decide +kernel) (Nat.le_of_ble_eq_true rfl) ?_
  obtain ⟨hG, hp, he, hq, hN, hg, ⟨hp2, hp7, he1, he4, hme, hqe, hq3, hNm, hgE⟩, hP, hL, hR⟩ := id hT
  obtain ⟨hm, hr, hf, hm2, hr1, hr6, hN4⟩ := id hG
  have hm4 := hG.m4
  have hq2 := hT.q2
  have hN9 : (N : Int) ≤ 4096 := by rw [hNm]; exact hN4
  refine q_aload_n eX12_moved_0 rfl ?_
  refine q_iload_n eX12_moved_1 rfl ?_
  refine q_callVV [vI x] (M1 := mX12_laysDigits) eX12_moved_2 mf_X12_laysDigits lk_X12_191 (hK _ (by decide) (by decide)) (mo_laysDigits hK hX hT hx) (by decide) (by decide) (by decide) (Nat.le_of_ble_eq_true rfl) rfl (fun A3 h3 => ?_)
  obtain ⟨o3, v3⟩ := h3
  have hT3 := hT.off o3 (by decide) (by decide) (by decide) (by decide)
  refine q_aload_n eX12_moved_5 rfl ?_
  refine q_aload_n eX12_moved_6 rfl ?_
  refine q_getfield eX12_moved_7 gf_X12_13 (hK _ (by decide) (by decide)) (by decide) (by first | assumption) ?_
  refine q_callVQ [vI p] (M1 := mX12_joined) eX12_moved_10 mf_X12_joined lk_X12_195 (hK _ (by decide) (by decide)) (mo_joined (d := ddM p r m rt lg x) hK hX hT3 hp7 (fun i hi => ⟨v3 i hi, (hL _ (by rw [hqe]; exact low_lt (show 0 < p by omega))).2⟩)) (by decide) (by decide) (by decide) (Nat.le_of_ble_eq_true rfl) rfl (fun A4 h4 => ?_)
  refine q_retI eX12_moved_13 rfl (by decide) (by decide) ?_
  exact ⟨rfl, rfl, rfl, (o3.mono (by simp)).trans (h4.mono (by simp))⟩
def mvMn (p e r q : Nat) (m : Int) (f : Nat → Int) (g : Int) (rt lg : Nat → Int) (x : Int) : Nat → Int
  | 0 => x
  | k + 1 => mvM p e r q m f g rt lg (mvMn p e r q m f g rt lg x k)
theorem mvMn_el {p e r q : Nat} {m : Int} {f : Nat → Int} {g : Int} {rt lg : Nat → Int} {x : Int} (hm : 0 < m) (hx : El m r x) : ∀ k, El m r (mvMn p e r q m f g rt lg x k)
  | 0 => hx
  | _ + 1 => mvM_el hm
set_option maxRecDepth 20000 in
theorem lp_movedTimes {x : Int} {n : Nat} {p e r q N : Nat} {m : Int} {f : Nat → Int} {g : Int} {rt lg : Nat → Int} {F : HF} {A0 : HA} {al : AL} (hK : KM al) (hX : MR F) (hT0 : GY p e r q N m f g rt lg F A0) (hx : El m r x) (hn : n < 2147483648) : ∀ (k i : Nat) (A : HA), i + k = n % r → Off [51, 52, 53, 54] A0 A →
    QW mX12_movedTimes 5 0 0 (PQ (mvMn p e r q m f g rt lg x (n % r)) F al (fun A2 => Off [51, 52, 53, 54] A0 A2)) 0 0 5 [some (vA 44), some (vI x), some (vI n), some (vI (mvMn p e r q m f g rt lg x i)), some (vI i)] [] F A al := by
  obtain ⟨hG, hp, he, hq, hN, hg, ⟨hp2, hp7, he1, he4, hme, hqe, hq3, hNm, hgE⟩, hP, hL, hR⟩ := id hT0
  obtain ⟨hm, hr, hf, hm2, hr1, hr6, hN4⟩ := id hG
  have hm4 := hG.m4
  have hq2 := hT0.q2
  have hN9 : (N : Int) ≤ 4096 := by rw [hNm]; exact hN4
  have enr : (n : Int) % (r : Int) = ((n % r : Nat) : Int) := by simp
  have hnr : n % r < r := Nat.mod_lt _ (by omega)
  intro k
  induction k with
  | zero =>
    intro i A hi ho
    have ei : i = n % r := by omega
    subst ei
    refine q_iload eX12_movedTimes_5 rfl ?_
    refine q_iload_n eX12_movedTimes_7 rfl ?_
    refine q_aload_n eX12_movedTimes_8 rfl ?_
    refine q_getfield eX12_movedTimes_9 gf_X12_19 (hK _ (by decide) (by decide)) (by decide) (by first | assumption) ?_
    refine q_irem eX12_movedTimes_12 (by omega) (by omega) (by omega) (by omega) ?_
    rw [enr]
    refine q_icmp_ge (tgt := 28) eX12_movedTimes_13 (by decide) (by first | assumption | exact ⟨by omega, by omega⟩) (by first | assumption | exact ⟨by omega, by omega⟩) (fun c13 => ?_) (fun c13 => ?_)
    · refine q_iload_n eX12_movedTimes_28 rfl ?_
      refine q_retI eX12_movedTimes_29 rfl (by decide) (by decide) ?_
      exact ⟨rfl, rfl, rfl, ho⟩
    · exact absurd c13 (by omega)
  | succ k ih =>
    intro i A hi ho
    have hT1 : GY p e r q N m f g rt lg F A := hT0.off ho (by decide) (by decide) (by decide) (by decide)
    refine q_iload eX12_movedTimes_5 rfl ?_
    refine q_iload_n eX12_movedTimes_7 rfl ?_
    refine q_aload_n eX12_movedTimes_8 rfl ?_
    refine q_getfield eX12_movedTimes_9 gf_X12_19 (hK _ (by decide) (by decide)) (by decide) (by first | assumption) ?_
    refine q_irem eX12_movedTimes_12 (by omega) (by omega) (by omega) (by omega) ?_
    rw [enr]
    refine q_icmp_ge (tgt := 28) eX12_movedTimes_13 (by decide) (by first | assumption | exact ⟨by omega, by omega⟩) (by first | assumption | exact ⟨by omega, by omega⟩) (fun c13 => ?_) (fun c13 => ?_)
    · exact absurd c13 (by omega)
    · refine q_aload_n eX12_movedTimes_16 rfl ?_
      refine q_iload_n eX12_movedTimes_17 rfl ?_
      refine q_callVQ [vI (mvMn p e r q m f g rt lg x i)] (M1 := mX12_moved) eX12_movedTimes_18 mf_X12_moved lk_X12_198 (hK _ (by decide) (by decide)) (mo_moved hK hX hT1 (mvMn_el (by omega) hx i)) (by decide) (by decide) (by decide) (Nat.le_of_ble_eq_true rfl) rfl (fun A3 h3 => ?_)
      refine q_istore_n eX12_movedTimes_21 (by decide) rfl ?_
      refine q_iinc eX12_movedTimes_22 rfl (by decide) rfl ?_
      refine q_goto (tgt := 5) eX12_movedTimes_25 (by decide) ?_
      exact ih (i + 1) A3 (by omega) (ho.trans h3)
set_option maxRecDepth 20000 in
theorem mo_movedTimes {x : Int} {n : Nat} {p e r q N : Nat} {m : Int} {f : Nat → Int} {g : Int} {rt lg : Nat → Int} {F : HF} {A : HA} {al : AL} (hK : KM al) (hX : MR F) (hT : GY p e r q N m f g rt lg F A) (hx : El m r x) (hn : n < 2147483648) : QE 5 0 0 mX12_movedTimes [vA 44, vI x, vI n] F A al (PQ (mvMn p e r q m f g rt lg x (n % r)) F al (fun A2 => Off [51, 52, 53, 54] A A2)) := by
  refine QE.mk (by decide +kernel) (Nat.le_of_ble_eq_true rfl) ?_
  refine q_iload_n eX12_movedTimes_0 rfl ?_
  refine q_istore_n eX12_movedTimes_1 (by decide) rfl ?_
  refine q_iconst eX12_movedTimes_2 ?_
  refine q_istore eX12_movedTimes_3 (by decide) rfl ?_
  exact lp_movedTimes hK hX hT hx hn (n % r) 0 A (by omega) Off.rfl'
def trM (p e r q : Nat) (m : Int) (f : Nat → Int) (g : Int) (rt lg : Nat → Int) (x : Int) : Nat → Int
  | 0 => 0
  | k + 1 => pl m r (trM p e r q m f g rt lg x k) (mvMn p e r q m f g rt lg x k)
theorem trM_el {p e r q : Nat} {m : Int} {f : Nat → Int} {g : Int} {rt lg : Nat → Int} {x : Int} (hm : 0 < m) : ∀ k, El m r (trM p e r q m f g rt lg x k)
  | 0 => el_zero hm
  | _ + 1 => pl_el hm _ _
def nmM (p e r q : Nat) (m : Int) (f : Nat → Int) (g : Int) (rt lg : Nat → Int) (x : Int) : Nat → Int
  | 0 => 1
  | k + 1 => tm m r f (nmM p e r q m f g rt lg x k) (mvMn p e r q m f g rt lg x k)
theorem nmM_el {p e r q : Nat} {m : Int} {f : Nat → Int} {g : Int} {rt lg : Nat → Int} {x : Int} (hm : 2 ≤ m) (hr : 0 < r) : ∀ k, El m r (nmM p e r q m f g rt lg x k)
  | 0 => el_one hm hr
  | _ + 1 => tm_el (by omega) _ _
set_option maxRecDepth 20000 in
theorem lp_traceOf {x : Int} {p e r q N : Nat} {m : Int} {f : Nat → Int} {g : Int} {rt lg : Nat → Int} {F : HF} {A0 : HA} {al : AL} (hK : KM al) (hX : MR F) (hT0 : GY p e r q N m f g rt lg F A0) (hx : El m r x) : ∀ (k i : Nat) (A : HA), i + k = r → Off [51, 52, 53, 54] A0 A →
    QW mX12_traceOf 5 0 0 (PQ (trM p e r q m f g rt lg x r) F al (fun A2 => Off [51, 52, 53, 54] A0 A2)) 0 0 7 [some (vA 44), some (vI x), some (vI (trM p e r q m f g rt lg x i)), some (vI (mvMn p e r q m f g rt lg x i)), some (vI i)] [] F A al := by
  obtain ⟨hG, hp, he, hq, hN, hg, ⟨hp2, hp7, he1, he4, hme, hqe, hq3, hNm, hgE⟩, hP, hL, hR⟩ := id hT0
  obtain ⟨hm, hr, hf, hm2, hr1, hr6, hN4⟩ := id hG
  have hm4 := hG.m4
  have hq2 := hT0.q2
  have hN9 : (N : Int) ≤ 4096 := by rw [hNm]; exact hN4
  intro k
  induction k with
  | zero =>
    intro i A hi ho
    have ei : i = r := by omega
    subst ei
    refine q_iload eX12_traceOf_7 rfl ?_
    refine q_aload_n eX12_traceOf_9 rfl ?_
    refine q_getfield eX12_traceOf_10 gf_X12_19 (hK _ (by decide) (by decide)) (by decide) (by first | assumption) ?_
    refine q_icmp_ge (tgt := 36) eX12_traceOf_13 (by decide) (by first | assumption | exact ⟨by omega, by omega⟩) (by first | assumption | exact ⟨by omega, by omega⟩) (fun c13 => ?_) (fun c13 => ?_)
    · refine q_iload_n eX12_traceOf_36 rfl ?_
      refine q_retI eX12_traceOf_37 rfl (by decide) (by decide) ?_
      exact ⟨rfl, rfl, rfl, ho⟩
    · exact absurd c13 (by omega)
  | succ k ih =>
    intro i A hi ho
    have hT1 : GY p e r q N m f g rt lg F A := hT0.off ho (by decide) (by decide) (by decide) (by decide)
    refine q_iload eX12_traceOf_7 rfl ?_
    refine q_aload_n eX12_traceOf_9 rfl ?_
    refine q_getfield eX12_traceOf_10 gf_X12_19 (hK _ (by decide) (by decide)) (by decide) (by first | assumption) ?_
    refine q_icmp_ge (tgt := 36) eX12_traceOf_13 (by decide) (by first | assumption | exact ⟨by omega, by omega⟩) (by first | assumption | exact ⟨by omega, by omega⟩) (fun c13 => ?_) (fun c13 => ?_)
    · exact absurd c13 (by omega)
    · refine q_aload_n eX12_traceOf_16 rfl ?_
      refine q_iload_n eX12_traceOf_17 rfl ?_
      refine q_iload_n eX12_traceOf_18 rfl ?_
      refine q_iconst eX12_traceOf_19 ?_
      refine q_callVQ [vI (trM p e r q m f g rt lg x i), vI (mvMn p e r q m f g rt lg x i), vI 1] (M1 := mX12_added) eX12_traceOf_20 mf_X12_added lk_X12_175 (hK _ (by decide) (by decide)) (mo_plus hK hX hT1.1 (trM_el (by omega) i) (mvMn_el (by omega) hx i)) (by decide) (by decide) (by decide) (Nat.le_of_ble_eq_true rfl) rfl (fun A3 h3 => ?_)
      refine q_istore_n eX12_traceOf_23 (by decide) rfl ?_
      refine q_aload_n eX12_traceOf_24 rfl ?_
      refine q_iload_n eX12_traceOf_25 rfl ?_
      refine q_callVQ [vI (mvMn p e r q m f g rt lg x i)] (M1 := mX12_moved) eX12_traceOf_26 mf_X12_moved lk_X12_198 (hK _ (by decide) (by decide)) (mo_moved hK hX (hT1.off h3 (by decide) (by decide) (by decide) (by decide)) (mvMn_el (by omega) hx i)) (by decide) (by decide) (by decide) (Nat.le_of_ble_eq_true rfl) rfl (fun A4 h4 => ?_)
      refine q_istore_n eX12_traceOf_29 (by decide) rfl ?_
      refine q_iinc eX12_traceOf_30 rfl (by decide) rfl ?_
      refine q_goto (tgt := 7) eX12_traceOf_33 (by decide) ?_
      exact ih (i + 1) A4 (by omega) ((ho.trans (h3.mono (by simp))).trans h4)
set_option maxRecDepth 20000 in
theorem mo_trace {x : Int} {p e r q N : Nat} {m : Int} {f : Nat → Int} {g : Int} {rt lg : Nat → Int} {F : HF} {A : HA} {al : AL} (hK : KM al) (hX : MR F) (hT : GY p e r q N m f g rt lg F A) (hx : El m r x) : QE 5 0 0 mX12_traceOf [vA 44, vI x] F A al (PQ (trM p e r q m f g rt lg x r) F al (fun A2 => Off [51, 52, 53, 54] A A2)) := by
  refine QE.mk (by decide +kernel) (Nat.le_of_ble_eq_true rfl) ?_
  refine q_iconst eX12_traceOf_0 ?_
  refine q_istore_n eX12_traceOf_1 (by decide) rfl ?_
  refine q_iload_n eX12_traceOf_2 rfl ?_
  refine q_istore_n eX12_traceOf_3 (by decide) rfl ?_
  refine q_iconst eX12_traceOf_4 ?_
  refine q_istore eX12_traceOf_5 (by decide) rfl ?_
  exact lp_traceOf hK hX hT hx r 0 A (by omega) Off.rfl'
set_option maxRecDepth 20000 in
theorem lp_normOf {x : Int} {p e r q N : Nat} {m : Int} {f : Nat → Int} {g : Int} {rt lg : Nat → Int} {F : HF} {A0 : HA} {al : AL} (hK : KM al) (hX : MR F) (hT0 : GY p e r q N m f g rt lg F A0) (hx : El m r x) : ∀ (k i : Nat) (A : HA), i + k = r → Off [51, 52, 53, 54] A0 A →
    QW mX12_normOf 5 0 0 (PQ (nmM p e r q m f g rt lg x r) F al (fun A2 => Off [51, 52, 53, 54] A0 A2)) 0 0 7 [some (vA 44), some (vI x), some (vI (mvMn p e r q m f g rt lg x i)), some (vI (nmM p e r q m f g rt lg x i)), some (vI i)] [] F A al := by
  obtain ⟨hG, hp, he, hq, hN, hg, ⟨hp2, hp7, he1, he4, hme, hqe, hq3, hNm, hgE⟩, hP, hL, hR⟩ := id hT0
  obtain ⟨hm, hr, hf, hm2, hr1, hr6, hN4⟩ := id hG
  have hm4 := hG.m4
  have hq2 := hT0.q2
  have hN9 : (N : Int) ≤ 4096 := by rw [hNm]; exact hN4
  intro k
  induction k with
  | zero =>
    intro i A hi ho
    have ei : i = r := by omega
    subst ei
    refine q_iload eX12_normOf_7 rfl ?_
    refine q_aload_n eX12_normOf_9 rfl ?_
    refine q_getfield eX12_normOf_10 gf_X12_19 (hK _ (by decide) (by decide)) (by decide) (by first | assumption) ?_
    refine q_icmp_ge (tgt := 35) eX12_normOf_13 (by decide) (by first | assumption | exact ⟨by omega, by omega⟩) (by first | assumption | exact ⟨by omega, by omega⟩) (fun c13 => ?_) (fun c13 => ?_)
    · refine q_iload_n eX12_normOf_35 rfl ?_
      refine q_retI eX12_normOf_36 rfl (by decide) (by decide) ?_
      exact ⟨rfl, rfl, rfl, ho⟩
    · exact absurd c13 (by omega)
  | succ k ih =>
    intro i A hi ho
    have hT1 : GY p e r q N m f g rt lg F A := hT0.off ho (by decide) (by decide) (by decide) (by decide)
    refine q_iload eX12_normOf_7 rfl ?_
    refine q_aload_n eX12_normOf_9 rfl ?_
    refine q_getfield eX12_normOf_10 gf_X12_19 (hK _ (by decide) (by decide)) (by decide) (by first | assumption) ?_
    refine q_icmp_ge (tgt := 35) eX12_normOf_13 (by decide) (by first | assumption | exact ⟨by omega, by omega⟩) (by first | assumption | exact ⟨by omega, by omega⟩) (fun c13 => ?_) (fun c13 => ?_)
    · exact absurd c13 (by omega)
    · refine q_aload_n eX12_normOf_16 rfl ?_
      refine q_iload_n eX12_normOf_17 rfl ?_
      refine q_iload_n eX12_normOf_18 rfl ?_
      refine q_callVQ [vI (nmM p e r q m f g rt lg x i), vI (mvMn p e r q m f g rt lg x i)] (M1 := mX12_times) eX12_normOf_19 mf_X12_times lk_X12_132 (hK _ (by decide) (by decide)) (mo_times hK hX hT1.1 (nmM_el hm2 hr1 i) (mvMn_el (by omega) hx i)) (by decide) (by decide) (by decide) (Nat.le_of_ble_eq_true rfl) rfl (fun A3 h3 => ?_)
      refine q_istore_n eX12_normOf_22 (by decide) rfl ?_
      refine q_aload_n eX12_normOf_23 rfl ?_
      refine q_iload_n eX12_normOf_24 rfl ?_
      refine q_callVQ [vI (mvMn p e r q m f g rt lg x i)] (M1 := mX12_moved) eX12_normOf_25 mf_X12_moved lk_X12_198 (hK _ (by decide) (by decide)) (mo_moved hK hX (hT1.off h3 (by decide) (by decide) (by decide) (by decide)) (mvMn_el (by omega) hx i)) (by decide) (by decide) (by decide) (Nat.le_of_ble_eq_true rfl) rfl (fun A4 h4 => ?_)
      refine q_istore_n eX12_normOf_28 (by decide) rfl ?_
      refine q_iinc eX12_normOf_29 rfl (by decide) rfl ?_
      refine q_goto (tgt := 7) eX12_normOf_32 (by decide) ?_
      exact ih (i + 1) A4 (by omega) ((ho.trans (h3.mono (by simp))).trans h4)
set_option maxRecDepth 20000 in
theorem mo_norm {x : Int} {p e r q N : Nat} {m : Int} {f : Nat → Int} {g : Int} {rt lg : Nat → Int} {F : HF} {A : HA} {al : AL} (hK : KM al) (hX : MR F) (hT : GY p e r q N m f g rt lg F A) (hx : El m r x) : QE 5 0 0 mX12_normOf [vA 44, vI x] F A al (PQ (nmM p e r q m f g rt lg x r) F al (fun A2 => Off [51, 52, 53, 54] A A2)) := by
  refine QE.mk (by decide +kernel) (Nat.le_of_ble_eq_true rfl) ?_
  refine q_iload_n eX12_normOf_0 rfl ?_
  refine q_istore_n eX12_normOf_1 (by decide) rfl ?_
  refine q_iconst eX12_normOf_2 ?_
  refine q_istore_n eX12_normOf_3 (by decide) rfl ?_
  refine q_iconst eX12_normOf_4 ?_
  refine q_istore eX12_normOf_5 (by decide) rfl ?_
  exact lp_normOf hK hX hT hx r 0 A (by omega) Off.rfl'
/-- the least d, k to try from d on -/
def wiM (r : Nat) (P : Nat → Bool) : Nat → Nat → Nat
  | d, 0 => d
  | d, k + 1 => if r % d = 0 ∧ P d = true then d else wiM r P (d + 1) k
set_option maxRecDepth 20000 in
theorem lp_withinOf {x : Int} {p e r q N : Nat} {m : Int} {f : Nat → Int} {g : Int} {rt lg : Nat → Int} {F : HF} {A0 : HA} {al : AL} (hK : KM al) (hX : MR F) (hT0 : GY p e r q N m f g rt lg F A0) (hx : El m r x) : ∀ (k d : Nat) (A : HA), d + k = r → 1 ≤ d → Off [51, 52, 53, 54] A0 A →
    QW mX12_withinOf 6 0 0 (PQ (wiM r (fun d => decide (mvMn p e r q m f g rt lg x (d % r) = x)) d k : Nat) F al (fun A2 => Off [51, 52, 53, 54] A0 A2)) 0 0 2 [some (vA 44), some (vI x), some (vI d)] [] F A al := by
  obtain ⟨hG, hp, he, hq, hN, hg, ⟨hp2, hp7, he1, he4, hme, hqe, hq3, hNm, hgE⟩, hP, hL, hR⟩ := id hT0
  obtain ⟨hm, hr, hf, hm2, hr1, hr6, hN4⟩ := id hG
  have hm4 := hG.m4
  have hq2 := hT0.q2
  have hN9 : (N : Int) ≤ 4096 := by rw [hNm]; exact hN4
  intro k
  induction k with
  | zero =>
    intro d A hd hd1 ho
    have ed : d = r := by omega
    subst ed
    have hT1 : GY p e d q N m f g rt lg F A := hT0.off ho (by decide) (by decide) (by decide) (by decide)
    have hmm : (d : Int) % (d : Int) = 0 := Int.emod_self
    have hxl := hx.lt hN4
    have hv0 : mvMn p e d q m f g rt lg x (d % d) = x := by rw [Nat.mod_self]; rfl
    refine q_aload_n eX12_withinOf_2 rfl ?_
    refine q_getfield eX12_withinOf_3 gf_X12_19 (hK _ (by decide) (by decide)) (by decide) (by first | assumption) ?_
    refine q_iload_n eX12_withinOf_6 rfl ?_
    refine q_irem eX12_withinOf_7 (by omega) (by omega) (by omega) (by omega) ?_
    rw [hmm]
    refine q_if_ne (tgt := 21) eX12_withinOf_8 (by decide) (by first | assumption | exact ⟨by omega, by omega⟩) (fun c8 => ?_) (fun c8 => ?_)
    · exact absurd rfl c8
    · refine q_aload_n eX12_withinOf_11 rfl ?_
      refine q_iload_n eX12_withinOf_12 rfl ?_
      refine q_iload_n eX12_withinOf_13 rfl ?_
      refine q_callVQ [vI x, vI d] (M1 := mX12_movedTimes) eX12_withinOf_14 mf_X12_movedTimes lk_X12_201 (hK _ (by decide) (by decide)) (mo_movedTimes hK hX hT1 hx (by omega)) (by decide) (by decide) (by decide) (Nat.le_of_ble_eq_true rfl) rfl (fun A3 h3 => ?_)
      rw [hv0]
      refine q_iload_n eX12_withinOf_17 rfl ?_
      refine q_icmp_eq (tgt := 27) eX12_withinOf_18 (by decide) (by first | assumption | exact ⟨by omega, by omega⟩) (by first | assumption | exact ⟨by omega, by omega⟩) (fun c18 => ?_) (fun c18 => ?_)
      · refine q_iload_n eX12_withinOf_27 rfl ?_
        refine q_retI eX12_withinOf_28 rfl (by decide) (by decide) ?_
        exact ⟨rfl, rfl, rfl, ho.trans h3⟩
      · exact absurd rfl c18
  | succ k ih =>
    intro d A hd hd1 ho
    have hT1 : GY p e r q N m f g rt lg F A := hT0.off ho (by decide) (by decide) (by decide) (by decide)
    have hxl := hx.lt hN4
    have hvl := (mvMn_el (p := p) (e := e) (q := q) (f := f) (g := g) (rt := rt) (lg := lg) (show 0 < m by omega) hx (d % r)).lt hN4
    have emm : (r : Int) % (d : Int) = ((r % d : Nat) : Int) := by simp
    have hmd : r % d < d := Nat.mod_lt _ (by omega)
    have hb := ih (d + 1)
    refine q_aload_n eX12_withinOf_2 rfl ?_
    refine q_getfield eX12_withinOf_3 gf_X12_19 (hK _ (by decide) (by decide)) (by decide) (by first | assumption) ?_
    refine q_iload_n eX12_withinOf_6 rfl ?_
    refine q_irem eX12_withinOf_7 (by omega) (by omega) (by omega) (by omega) ?_
    rw [emm]
    refine q_if_ne (tgt := 21) eX12_withinOf_8 (by decide) (by first | assumption | exact ⟨by omega, by omega⟩) (fun c8 => ?_) (fun c8 => ?_)
    · refine q_iinc eX12_withinOf_21 rfl (by decide) rfl ?_
      refine q_goto (tgt := 2) eX12_withinOf_24 (by decide) ?_
      first
      | (rw [show wiM r (fun d => decide (mvMn p e r q m f g rt lg x (d % r) = x)) d (k + 1) = wiM r (fun d => decide (mvMn p e r q m f g rt lg x (d % r) = x)) (d + 1) k from if_neg (fun hc => c8 (by omega))]
         exact hb A (by omega) (by omega) ho)
      | (rw [show wiM r (fun d => decide (mvMn p e r q m f g rt lg x (d % r) = x)) d (k + 1) = wiM r (fun d => decide (mvMn p e r q m f g rt lg x (d % r) = x)) (d + 1) k from if_neg (fun hc => c18 (of_decide_eq_true hc.2))]
         exact hb A3 (by omega) (by omega) (ho.trans h3))
    · refine q_aload_n eX12_withinOf_11 rfl ?_
      refine q_iload_n eX12_withinOf_12 rfl ?_
      refine q_iload_n eX12_withinOf_13 rfl ?_
      refine q_callVQ [vI x, vI d] (M1 := mX12_movedTimes) eX12_withinOf_14 mf_X12_movedTimes lk_X12_201 (hK _ (by decide) (by decide)) (mo_movedTimes hK hX hT1 hx (by omega)) (by decide) (by decide) (by decide) (Nat.le_of_ble_eq_true rfl) rfl (fun A3 h3 => ?_)
      refine q_iload_n eX12_withinOf_17 rfl ?_
      refine q_icmp_eq (tgt := 27) eX12_withinOf_18 (by decide) (by first | assumption | exact ⟨by omega, by omega⟩) (by first | assumption | exact ⟨by omega, by omega⟩) (fun c18 => ?_) (fun c18 => ?_)
      · refine q_iload_n eX12_withinOf_27 rfl ?_
        refine q_retI eX12_withinOf_28 rfl (by decide) (by decide) ?_
        refine ⟨?_, rfl, rfl, ho.trans h3⟩
        rw [show wiM r (fun d => decide (mvMn p e r q m f g rt lg x (d % r) = x)) d (k + 1) = d from if_pos ⟨by omega, decide_eq_true c18⟩]
      · refine q_iinc eX12_withinOf_21 rfl (by decide) rfl ?_
        refine q_goto (tgt := 2) eX12_withinOf_24 (by decide) ?_
        first
        | (rw [show wiM r (fun d => decide (mvMn p e r q m f g rt lg x (d % r) = x)) d (k + 1) = wiM r (fun d => decide (mvMn p e r q m f g rt lg x (d % r) = x)) (d + 1) k from if_neg (fun hc => c8 (by omega))]
           exact hb A (by omega) (by omega) ho)
        | (rw [show wiM r (fun d => decide (mvMn p e r q m f g rt lg x (d % r) = x)) d (k + 1) = wiM r (fun d => decide (mvMn p e r q m f g rt lg x (d % r) = x)) (d + 1) k from if_neg (fun hc => c18 (of_decide_eq_true hc.2))]
           exact hb A3 (by omega) (by omega) (ho.trans h3))
set_option maxRecDepth 20000 in
theorem mo_withinOf {x : Int} {p e r q N : Nat} {m : Int} {f : Nat → Int} {g : Int} {rt lg : Nat → Int} {F : HF} {A : HA} {al : AL} (hK : KM al) (hX : MR F) (hT : GY p e r q N m f g rt lg F A) (hx : El m r x) : QE 6 0 0 mX12_withinOf [vA 44, vI x] F A al (PQ (wiM r (fun d => decide (mvMn p e r q m f g rt lg x (d % r) = x)) 1 (r - 1) : Nat) F al (fun A2 => Off [51, 52, 53, 54] A A2)) := by
  refine QE.mk (by decide +kernel) (Nat.le_of_ble_eq_true rfl) ?_
  obtain ⟨hG, hp, he, hq, hN, hg, ⟨hp2, hp7, he1, he4, hme, hqe, hq3, hNm, hgE⟩, hP, hL, hR⟩ := id hT
  obtain ⟨hm, hr, hf, hm2, hr1, hr6, hN4⟩ := id hG
  have hm4 := hG.m4
  have hq2 := hT.q2
  have hN9 : (N : Int) ≤ 4096 := by rw [hNm]; exact hN4
  refine q_iconst eX12_withinOf_0 ?_
  refine q_istore_n eX12_withinOf_1 (by decide) rfl ?_
  exact lp_withinOf hK hX hT hx (r - 1) 1 A (by omega) (by decide) Off.rfl'
set_option maxRecDepth 20000 in
theorem lp_orderOf {x : Int} {K : Nat} {p e r q N : Nat} {m : Int} {f : Nat → Int} {g : Int} {rt lg : Nat → Int} {F : HF} {A0 : HA} {al : AL} (hK : KM al) (hX : MR F) (hT0 : GY p e r q N m f g rt lg F A0) (hx : El m r x) (hK1 : pw m r f x K = 1) (hK2 : ∀ j, 1 ≤ j → j < K → pw m r f x j ≠ 1) (hK3 : K < 2147483648) : ∀ (k n : Nat) (A : HA), n + k = K → 1 ≤ n → Off [51, 52, 53] A0 A →
    QW mX12_orderOf 3 0 0 (PQ (K : Nat) F al (fun A2 => Off [51, 52, 53] A0 A2)) 0 0 4 [some (vA 44), some (vI x), some (vI n), some (vI (pw m r f x n))] [] F A al := by
  obtain ⟨hG, hp, he, hq, hN, hg, ⟨hp2, hp7, he1, he4, hme, hqe, hq3, hNm, hgE⟩, hP, hL, hR⟩ := id hT0
  obtain ⟨hm, hr, hf, hm2, hr1, hr6, hN4⟩ := id hG
  have hm4 := hG.m4
  have hq2 := hT0.q2
  have hN9 : (N : Int) ≤ 4096 := by rw [hNm]; exact hN4
  intro k
  induction k with
  | zero =>
    intro n A hn hn1 ho
    have en : n = K := by omega
    subst en
    rw [hK1]
    refine q_iload_n eX12_orderOf_4 rfl ?_
    refine q_iconst eX12_orderOf_5 ?_
    refine q_icmp_eq (tgt := 22) eX12_orderOf_6 (by decide) (by first | assumption | exact ⟨by omega, by omega⟩) (by first | assumption | exact ⟨by omega, by omega⟩) (fun c6 => ?_) (fun c6 => ?_)
    · refine q_iload_n eX12_orderOf_22 rfl ?_
      refine q_retI eX12_orderOf_23 rfl (by decide) (by decide) ?_
      exact ⟨rfl, rfl, rfl, ho⟩
    · exact absurd rfl c6
  | succ k ih =>
    intro n A hn hn1 ho
    have hT1 : GY p e r q N m f g rt lg F A := hT0.off ho (by decide) (by decide) (by decide) (by decide)
    have hne := hK2 n hn1 (by omega)
    have hpe := pw_el (f := f) hm2 hr1 x n
    have hpl := hpe.lt hN4
    refine q_iload_n eX12_orderOf_4 rfl ?_
    refine q_iconst eX12_orderOf_5 ?_
    refine q_icmp_eq (tgt := 22) eX12_orderOf_6 (by decide) (by first | assumption | exact ⟨by omega, by omega⟩) (by first | assumption | exact ⟨by omega, by omega⟩) (fun c6 => ?_) (fun c6 => ?_)
    · exact absurd c6 hne
    · refine q_aload_n eX12_orderOf_9 rfl ?_
      refine q_iload_n eX12_orderOf_10 rfl ?_
      refine q_iload_n eX12_orderOf_11 rfl ?_
      refine q_callVQ [vI (pw m r f x n), vI x] (M1 := mX12_times) eX12_orderOf_12 mf_X12_times lk_X12_132 (hK _ (by decide) (by decide)) (mo_times hK hX hT1.1 hpe hx) (by decide) (by decide) (by decide) (Nat.le_of_ble_eq_true rfl) rfl (fun A3 h3 => ?_)
      refine q_istore_n eX12_orderOf_15 (by decide) rfl ?_
      refine q_iinc eX12_orderOf_16 rfl (by decide) rfl ?_
      refine q_goto (tgt := 4) eX12_orderOf_19 (by decide) ?_
      exact ih (n + 1) A3 (by omega) (by omega) (ho.trans h3)
set_option maxRecDepth 20000 in
theorem mo_orderOf {x : Int} {K : Nat} {p e r q N : Nat} {m : Int} {f : Nat → Int} {g : Int} {rt lg : Nat → Int} {F : HF} {A : HA} {al : AL} (hK : KM al) (hX : MR F) (hT : GY p e r q N m f g rt lg F A) (hx : El m r x) (hK0 : 1 ≤ K) (hK1 : pw m r f x K = 1) (hK2 : ∀ j, 1 ≤ j → j < K → pw m r f x j ≠ 1) (hK3 : K < 2147483648) : QE 3 0 0 mX12_orderOf [vA 44, vI x] F A al (PQ (K : Nat) F al (fun A2 => Off [51, 52, 53] A A2)) := by
  refine QE.mk (by decide +kernel) (Nat.le_of_ble_eq_true rfl) ?_
  obtain ⟨hG, hp, he, hq, hN, hg, ⟨hp2, hp7, he1, he4, hme, hqe, hq3, hNm, hgE⟩, hP, hL, hR⟩ := id hT
  obtain ⟨hm, hr, hf, hm2, hr1, hr6, hN4⟩ := id hG
  have hm4 := hG.m4
  have hq2 := hT.q2
  have hN9 : (N : Int) ≤ 4096 := by rw [hNm]; exact hN4
  refine q_iconst eX12_orderOf_0 ?_
  refine q_istore_n eX12_orderOf_1 (by decide) rfl ?_
  refine q_iload_n eX12_orderOf_2 rfl ?_
  refine q_istore_n eX12_orderOf_3 (by decide) rfl ?_
  have h := lp_orderOf hK hX hT hx hK1 hK2 hK3 (K - 1) 1 A (by omega) (by decide) Off.rfl'
  rw [pw_one hm2 hr1 hx] at h
  exact h
