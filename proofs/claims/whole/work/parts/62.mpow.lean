/-! the model: powers, what is below, levels, digits -/
set_option maxRecDepth 20000 in
theorem lp_raised {x0 n0 T : Int} {m : Int} {r : Nat} {f : Nat → Int} {F : HF} {A0 : HA} {al : AL} (hK : KM al) (hX : MR F) : ∀ (k n : Nat) (its sq : Int) (A : HA), n ≤ k → (n : Int) < 2147483648 → GM m r f F A → Off [51, 52, 53] A0 A → El m r its → El m r sq → tm m r f its (pw m r f sq n) = T →
    QW mX12_raised 3 0 0 (PQ T F al (fun A2 => Off [51, 52, 53] A0 A2)) 0 0 9 [some (vA 44), some (vI x0), some (vJ n0), none, some (vI its), some (vI sq), some (vJ n), none] [] F A al := by
  intro k
  induction k with
  | zero =>
    intro n its sq A hn hn2 hG ho h1 h2 hT
    have e : n = 0 := by omega
    subst e
    have hm2 := hG.2.2.2.1
    have hr1 := hG.2.2.2.2.1
    have q1 := @cmpL_le ((0 : Nat) : Int) 0
    refine q_lload eX12_raised_9 rfl ?_
    refine q_lconst (v := 0) eX12_raised_11 (by decide +kernel) ?_
    refine q_lcmp eX12_raised_12 (by exact ⟨by omega, by omega⟩) (by exact ⟨by omega, by omega⟩)  ?_
    refine q_if_le (tgt := 58) eX12_raised_13 (by decide) (cmpL_R _ _) (fun c13 => ?_) (fun c13 => ?_)
    · refine q_iload eX12_raised_58 rfl ?_
      refine q_retI eX12_raised_60 rfl (by decide) (by decide) ?_
      refine ⟨?_, rfl, rfl, ho⟩
      have e := tm_one (f := f) hm2 hr1 h1
      rw [← hT, show pw m r f sq 0 = 1 from rfl, e]
    · exact absurd c13 (by omega)
  | succ k ih =>
    intro n its sq A hn hn2 hG ho h1 h2 hT
    obtain ⟨hm, hr, hf, hm2, hr1, hr6, hN4⟩ := id hG
    have hm4 := hG.m4
    have h0 : 0 < m := by omega
    have hs := pw_step (f := f) hm2 hr1 h2 h1 n
    rw [hT] at hs
    have hmod := Int.emod_nonneg (n : Int) (b := 2) (by omega)
    have hmod2 := Int.emod_lt_of_pos (n : Int) (b := 2) (by omega)
    have ed : (n : Int) / 2 = ((n / 2 : Nat) : Int) := by omega
    have q1 := @cmpL_le (n : Int) 0
    have q2 := @cmpL_eq ((n : Int) % 2) 1
    have tail : ∀ (md : Int) (A1 : HA), GM m r f F A1 → Off [51, 52, 53] A0 A1 → El m r md → 0 < n → tm m r f md (pw m r f (tm m r f sq sq) (n / 2)) = T →
        QW mX12_raised 3 0 0 (PQ T F al (fun A2 => Off [51, 52, 53] A0 A2)) 0 0 37 [some (vA 44), some (vI x0), some (vJ n0), none, some (vI md), some (vI sq), some (vJ n), none] [] F A1 al := by
      intro md A1 hG1 ho1 hmd hpos ht
      refine q_aload_n eX12_raised_37 rfl ?_
      refine q_iload eX12_raised_38 rfl ?_
      refine q_iload eX12_raised_40 rfl ?_
      refine q_callVQ [vI sq, vI sq] (M1 := mX12_times) eX12_raised_42 mf_X12_times lk_X12_132 (hK _ (by decide) (by decide)) (mo_times hK hX hG1 h2 h2) (by decide) (by decide) (by decide) (Nat.le_of_ble_eq_true rfl) rfl (fun A2 h9 => ?_)
      refine q_istore eX12_raised_45 (by decide) rfl ?_
      refine q_lload eX12_raised_47 rfl ?_
      refine q_ldc2 eX12_raised_49 kc_X12_130 ?_
      refine q_ldiv eX12_raised_52 (by omega) (by omega) (by omega) (by omega) ?_
      refine q_lstore eX12_raised_53 (by decide) rfl ?_
      refine q_goto (tgt := 9) eX12_raised_55 (by decide) ?_
      rw [ed]
      exact ih (n / 2) md _ _ (by omega) (by omega) (hG1.off h9 (by decide)) (ho1.trans h9) hmd (tm_el h0 _ _) ht
    refine q_lload eX12_raised_9 rfl ?_
    refine q_lconst (v := 0) eX12_raised_11 (by decide +kernel) ?_
    refine q_lcmp eX12_raised_12 (by exact ⟨by omega, by omega⟩) (by exact ⟨by omega, by omega⟩)  ?_
    refine q_if_le (tgt := 58) eX12_raised_13 (by decide) (cmpL_R _ _) (fun c13 => ?_) (fun c13 => ?_)
    · refine q_iload eX12_raised_58 rfl ?_
      refine q_retI eX12_raised_60 rfl (by decide) (by decide) ?_
      refine ⟨?_, rfl, rfl, ho⟩
      have e : n = 0 := by omega
      subst e
      have e := tm_one (f := f) hm2 hr1 h1
      rw [← hT, show pw m r f sq 0 = 1 from rfl, e]
    · refine q_lload eX12_raised_16 rfl ?_
      refine q_ldc2 eX12_raised_18 kc_X12_130 ?_
      refine q_lrem eX12_raised_21 (by omega) (by omega) (by omega) (by omega) ?_
      refine q_lconst (v := 1) eX12_raised_22 (by decide +kernel) ?_
      refine q_lcmp eX12_raised_23 (by exact ⟨by omega, by omega⟩) (by exact ⟨by omega, by omega⟩)  ?_
      refine q_if_ne (tgt := 37) eX12_raised_24 (by decide) (cmpL_R _ _) (fun c24 => ?_) (fun c24 => ?_)
      · first
        | exact tail _ _ (hG.off h9 (by decide)) (ho.trans h9) (tm_el h0 _ _) (by omega) (by rw [if_pos (by omega)] at hs; exact hs.symm)
        | exact tail _ _ hG ho h1 (by omega) (by rw [if_neg (by omega)] at hs; exact hs.symm)
      · refine q_aload_n eX12_raised_27 rfl ?_
        refine q_iload eX12_raised_28 rfl ?_
        refine q_iload eX12_raised_30 rfl ?_
        refine q_callVQ [vI its, vI sq] (M1 := mX12_times) eX12_raised_32 mf_X12_times lk_X12_132 (hK _ (by decide) (by decide)) (mo_times hK hX hG h1 h2) (by decide) (by decide) (by decide) (Nat.le_of_ble_eq_true rfl) rfl (fun A2 h9 => ?_)
        refine q_istore eX12_raised_35 (by decide) rfl ?_
        first
        | exact tail _ _ (hG.off h9 (by decide)) (ho.trans h9) (tm_el h0 _ _) (by omega) (by rw [if_pos (by omega)] at hs; exact hs.symm)
        | exact tail _ _ hG ho h1 (by omega) (by rw [if_neg (by omega)] at hs; exact hs.symm)
set_option maxRecDepth 20000 in
theorem mo_raised {x : Int} {n : Nat} {m : Int} {r : Nat} {f : Nat → Int} {F : HF} {A : HA} {al : AL} (hK : KM al) (hX : MR F) (hG : GM m r f F A) (hx : El m r x) (hn : (n : Int) < 2147483648) : QE 3 0 0 mX12_raised [vA 44, vI x, vJ n] F A al (PQ (pw m r f x n) F al (fun A2 => Off [51, 52, 53] A A2)) := by
  refine QE.mk (by decide +kernel) (Nat.le_of_ble_eq_true rfl) ?_
  obtain ⟨hm, hr, hf, hm2, hr1, hr6, hN4⟩ := id hG
  have hm4 := hG.m4
  refine q_iconst eX12_raised_0 ?_
  refine q_istore eX12_raised_1 (by decide) rfl ?_
  refine q_iload_n eX12_raised_3 rfl ?_
  refine q_istore eX12_raised_4 (by decide) rfl ?_
  refine q_lload_n eX12_raised_6 rfl ?_
  refine q_lstore eX12_raised_7 (by decide) rfl ?_
  exact lp_raised hK hX n n 1 x A (Nat.le_refl _) hn hG Off.rfl' (el_one hm2 hr1) hx (one_tm hm2 hr1 (pw_el hm2 hr1 x n))
theorem low_sum {p r : Nat} {m x : Int} (hp : 0 < p) : (low p r m x : Int) = sm r (fun i => dg m i x % p * (p : Int) ^ i) := by rw [low_cast hp, un_sm]
theorem lsum_range {p : Nat} {m x : Int} (hp : 0 < p) : ∀ i, 0 ≤ sm i (fun i => dg m i x % p * (p : Int) ^ i) ∧ sm i (fun i => dg m i x % p * (p : Int) ^ i) < (p : Int) ^ i := fun i => by
  rw [← un_sm]
  exact un_range (by omega) _ _
set_option maxRecDepth 20000 in
theorem lp_lowOf {p r : Nat} {m x : Int} {F : HF} {A : HA} {al : AL} (hK : KM al) (hm : F 44 4 = vI m) (hr : F 44 3 = vI r) (hp : F 44 1 = vI p) (hp1 : 2 ≤ p) (hp7 : p ≤ 7) (hm2 : 2 ≤ m) (hm3 : m < 2147483648) (hx : 0 ≤ x) (hx2 : x < 2147483648) (hr6 : r ≤ 6) : ∀ (k i : Nat), i + k = r →
    QW mX12_lowOf 0 0 0 (PI (low p r m x : Nat) F A al) 0 0 10 [some (vA 44), some (vI x), some (vI (sm i (fun i => dg m i x % p * (p : Int) ^ i))), some (vI ((p : Int) ^ i)), some (vI (dv m i x)), some (vI i)] [] F A al := by
  intro k
  induction k with
  | zero =>
    intro i hi
    have ei : i = r := by omega
    subst ei
    refine q_iload eX12_lowOf_10 rfl ?_
    refine q_aload_n eX12_lowOf_12 rfl ?_
    refine q_getfield eX12_lowOf_13 gf_X12_19 (hK _ (by decide) (by decide)) (by decide) (by first | assumption) ?_
    refine q_icmp_ge (tgt := 58) eX12_lowOf_16 (by decide) (by first | assumption | exact ⟨by omega, by omega⟩) (by first | assumption | exact ⟨by omega, by omega⟩) (fun c16 => ?_) (fun c16 => ?_)
    · refine q_iload_n eX12_lowOf_58 rfl ?_
      refine q_retI eX12_lowOf_59 rfl (by decide) (by decide) ?_
      exact PI_ok (low_sum (by omega)).symm
    · exact absurd c16 (by omega)
  | succ k ih =>
    intro i hi
    have hd := dv_range (m := m) (by omega) hx i
    have hdd := dv_dg (m := m) i x
    have hg := dg_range (m := m) (by omega) i x
    have hb := ih (i + 1) (by omega)
    refine q_iload eX12_lowOf_10 rfl ?_
    refine q_aload_n eX12_lowOf_12 rfl ?_
    refine q_getfield eX12_lowOf_13 gf_X12_19 (hK _ (by decide) (by decide)) (by decide) (by first | assumption) ?_
    refine q_icmp_ge (tgt := 58) eX12_lowOf_16 (by decide) (by first | assumption | exact ⟨by omega, by omega⟩) (by first | assumption | exact ⟨by omega, by omega⟩) (fun c16 => ?_) (fun c16 => ?_)
    · exact absurd c16 (by omega)
    · refine q_iload_n eX12_lowOf_19 rfl ?_
      refine q_iload_n eX12_lowOf_20 rfl ?_
      refine q_iload eX12_lowOf_21 rfl ?_
      refine q_aload_n eX12_lowOf_23 rfl ?_
      refine q_getfield eX12_lowOf_24 gf_X12_22 (hK _ (by decide) (by decide)) (by decide) (by first | assumption) ?_
      refine q_irem eX12_lowOf_27 (by omega) (by omega) (by omega) (by omega) ?_
      rw [hdd.1]
      refine q_aload_n eX12_lowOf_28 rfl ?_
      refine q_getfield eX12_lowOf_29 gf_X12_13 (hK _ (by decide) (by decide)) (by decide) (by first | assumption) ?_
      refine q_irem eX12_lowOf_32 (by omega) (by omega) (by omega) (by omega) ?_
      refine q_imul eX12_lowOf_33 ?_
      refine q_iadd eX12_lowOf_34 ?_
      refine q_istore_n eX12_lowOf_35 (by decide) rfl ?_
      refine q_iload_n eX12_lowOf_36 rfl ?_
      refine q_aload_n eX12_lowOf_37 rfl ?_
      refine q_getfield eX12_lowOf_38 gf_X12_13 (hK _ (by decide) (by decide)) (by decide) (by first | assumption) ?_
      refine q_imul eX12_lowOf_41 ?_
      refine q_istore_n eX12_lowOf_42 (by decide) rfl ?_
      refine q_iload eX12_lowOf_43 rfl ?_
      refine q_aload_n eX12_lowOf_45 rfl ?_
      refine q_getfield eX12_lowOf_46 gf_X12_22 (hK _ (by decide) (by decide)) (by decide) (by first | assumption) ?_
      refine q_idiv eX12_lowOf_49 (by omega) (by omega) (by omega) (by omega) ?_
      refine q_istore eX12_lowOf_50 (by decide) rfl ?_
      refine q_iinc eX12_lowOf_52 rfl (by decide) rfl ?_
      refine q_goto (tgt := 10) eX12_lowOf_55 (by decide) ?_
      rw [Int.mul_comm ((p : Int) ^ i)]
      exact hb
set_option maxRecDepth 20000 in
theorem mo_lowOf {p r : Nat} {m x : Int} {F : HF} {A : HA} {al : AL} (hK : KM al) (hm : F 44 4 = vI m) (hr : F 44 3 = vI r) (hp : F 44 1 = vI p) (hp1 : 2 ≤ p) (hp7 : p ≤ 7) (hm2 : 2 ≤ m) (hm3 : m < 2147483648) (hx : 0 ≤ x) (hx2 : x < 2147483648) (hr6 : r ≤ 6) : QE 0 0 0 mX12_lowOf [vA 44, vI x] F A al (PI (low p r m x : Nat) F A al) := by
  refine QE.mk (by decide +kernel) (Nat.le_of_ble_eq_true rfl) ?_
  refine q_iconst eX12_lowOf_0 ?_
  refine q_istore_n eX12_lowOf_1 (by decide) rfl ?_
  refine q_iconst eX12_lowOf_2 ?_
  refine q_istore_n eX12_lowOf_3 (by decide) rfl ?_
  refine q_iload_n eX12_lowOf_4 rfl ?_
  refine q_istore eX12_lowOf_5 (by decide) rfl ?_
  refine q_iconst eX12_lowOf_7 ?_
  refine q_istore eX12_lowOf_8 (by decide) rfl ?_
  exact lp_lowOf hK hm hr hp hp1 hp7 hm2 hm3 hx hx2 hr6 r 0 (by omega)
/-- the model's tables stand -/
def GY (p e r q N : Nat) (m : Int) (f : Nat → Int) (g : Int) (rt lg : Nat → Int) (F : HF) (A : HA) : Prop :=
  GM m r f F A ∧ F 44 1 = vI p ∧ F 44 2 = vI e ∧ F 44 5 = vI q ∧ F 44 6 = vI N ∧ F 44 11 = vI g ∧ (2 ≤ p ∧ p ≤ 7 ∧ 1 ≤ e ∧ e ≤ 4 ∧ m = (p : Int) ^ e ∧ q = p ^ r ∧ q ≤ 3125 ∧ (N : Int) = m ^ r ∧ El m r g) ∧
  (∀ k, k + 1 < q → A 48 k = pw m r f g k) ∧ (∀ j, j < q → A 47 j = lg j ∧ (lg j = -1 ∨ 0 ≤ lg j ∧ lg j < (q : Int) - 1)) ∧ ∀ j, j < q → A 46 j = rt j ∧ El m r (rt j)
section GYs
variable {p e r q N : Nat} {m : Int} {f : Nat → Int} {g : Int} {rt lg : Nat → Int} {F F2 : HF} {A A2 : HA} {al : AL}
theorem GY.off {l : List Nat} (h : GY p e r q N m f g rt lg F A) (ho : Off l A A2) (h5 : 45 ∉ l) (h6 : 46 ∉ l) (h7 : 47 ∉ l) (h8 : 48 ∉ l) : GY p e r q N m f g rt lg F A2 := by
  obtain ⟨a1, a2, a3, a4, a5, a6, a7, a8, a9, a10⟩ := h
  refine ⟨a1.off ho h5, a2, a3, a4, a5, a6, a7, fun k hk => ?_, fun j hj => ?_, fun j hj => ?_⟩
  · rw [ho 48 h8]; exact a8 k hk
  · rw [ho 47 h7]; exact a9 j hj
  · rw [ho 46 h6]; exact a10 j hj
theorem GY.row (h : GY p e r q N m f g rt lg F A) (hF : ∀ k, k ∈ [1, 2, 3, 4, 5, 6, 11] → F2 44 k = F 44 k) : GY p e r q N m f g rt lg F2 A := by
  obtain ⟨a1, a2, a3, a4, a5, a6, a7⟩ := h
  refine ⟨a1.row (hF 4 (by decide)) (hF 3 (by decide)), ?_, ?_, ?_, ?_, ?_, a7⟩
  · rw [hF 1 (by decide)]; exact a2
  · rw [hF 2 (by decide)]; exact a3
  · rw [hF 5 (by decide)]; exact a4
  · rw [hF 6 (by decide)]; exact a5
  · rw [hF 11 (by decide)]; exact a6
theorem GY.q2 (h : GY p e r q N m f g rt lg F A) : 2 ≤ q := by
  obtain ⟨h1, -, -, -, -, -, ⟨g1, -, -, -, -, g6, -⟩, -⟩ := h
  have := h1.2.2.2.2.1
  rw [g6]
  obtain ⟨k, rfl⟩ : ∃ k, r = k + 1 := ⟨r - 1, by omega⟩
  have : 0 < p ^ k := Nat.pow_pos (by omega)
  rw [Nat.pow_succ]
  have := Nat.mul_le_mul this g1
  omega
end GYs
set_option maxRecDepth 20000 in
theorem mo_isUnit {x : Int} {p e r q N : Nat} {m : Int} {f : Nat → Int} {g : Int} {rt lg : Nat → Int} {F : HF} {A : HA} {al : AL} (hK : KM al) (hX : MR F) (hT : GY p e r q N m f g rt lg F A) (hx : El m r x) : QE 1 0 0 mX12_isUnit [vA 44, vI x] F A al (PI (if low p r m x = 0 then 0 else 1) F A al) := by
  refine QE.mk (by decide +kernel) (Nat.le_of_ble_eq_true rfl) ?_
  obtain ⟨hG, hp, he, hq, hN, hg, ⟨hp2, hp7, he1, he4, hme, hqe, hq3, hNm, hgE⟩, hP, hL, hR⟩ := id hT
  obtain ⟨hm, hr, hf, hm2, hr1, hr6, hN4⟩ := id hG
  have hm4 := hG.m4
  have hq2 := hT.q2
  have hN9 : (N : Int) ≤ 4096 := by rw [hNm]; exact hN4
  refine q_aload_n eX12_isUnit_0 rfl ?_
  refine q_iload_n eX12_isUnit_1 rfl ?_
  refine q_callVP [vI x] (M1 := mX12_lowOf) eX12_isUnit_2 mf_X12_lowOf lk_X12_139 (hK _ (by decide) (by decide)) (mo_lowOf hK hm hr hp hp2 hp7 hm2 (by omega) hx.1 (hx.lt hN4 |> fun q => by omega) hr6) (by decide) (by decide) (by decide) (Nat.le_of_ble_eq_true rfl) rfl ?_
  have hlt := low_lt (r := r) (m := m) (x := x) (show 0 < p by omega)
  refine q_if_eq (tgt := 12) eX12_isUnit_5 (by decide) (by first | assumption | exact ⟨by omega, by omega⟩) (fun c5 => ?_) (fun c5 => ?_)
  · refine q_iconst eX12_isUnit_12 ?_
    refine q_retZ eX12_isUnit_13 rfl (by first | exact Or.inl rfl | exact Or.inr rfl | assumption) (by decide) (by decide) ?_
    refine PI_ok ?_
    first | rw [if_pos (by omega)] | rw [if_neg (by omega)]
  · refine q_iconst eX12_isUnit_8 ?_
    refine q_goto (tgt := 13) eX12_isUnit_9 (by decide) ?_
    refine q_retZ eX12_isUnit_13 rfl (by first | exact Or.inl rfl | exact Or.inr rfl | assumption) (by decide) (by decide) ?_
    refine PI_ok ?_
    first | rw [if_pos (by omega)] | rw [if_neg (by omega)]
def umE (N q : Nat) : Nat := N - N / q
set_option maxRecDepth 20000 in
theorem mo_unitMany {p e r q N : Nat} {m : Int} {f : Nat → Int} {g : Int} {rt lg : Nat → Int} {F : HF} {A : HA} {al : AL} (hK : KM al) (hX : MR F) (hT : GY p e r q N m f g rt lg F A)  : QE 0 0 0 mX12_unitMany [vA 44] F A al (PI (umE N q : Nat) F A al) := by
  refine QE.mk (by decide +kernel) (Nat.le_of_ble_eq_true rfl) ?_
  obtain ⟨hG, hp, he, hq, hN, hg, ⟨hp2, hp7, he1, he4, hme, hqe, hq3, hNm, hgE⟩, hP, hL, hR⟩ := id hT
  obtain ⟨hm, hr, hf, hm2, hr1, hr6, hN4⟩ := id hG
  have hm4 := hG.m4
  have hq2 := hT.q2
  have hN9 : (N : Int) ≤ 4096 := by rw [hNm]; exact hN4
  refine q_aload_n eX12_unitMany_0 rfl ?_
  refine q_getfield eX12_unitMany_1 gf_X12_28 (hK _ (by decide) (by decide)) (by decide) (by first | assumption) ?_
  refine q_aload_n eX12_unitMany_4 rfl ?_
  refine q_getfield eX12_unitMany_5 gf_X12_28 (hK _ (by decide) (by decide)) (by decide) (by first | assumption) ?_
  refine q_aload_n eX12_unitMany_8 rfl ?_
  refine q_getfield eX12_unitMany_9 gf_X12_25 (hK _ (by decide) (by decide)) (by decide) (by first | assumption) ?_
  refine q_idiv eX12_unitMany_12 (by omega) (by omega) (by omega) (by omega) ?_
  refine q_isub eX12_unitMany_13 ?_
  refine q_retI eX12_unitMany_14 rfl (by decide) (by decide) ?_
  refine PI_ok ?_
  unfold umE
  have h1 : (N : Int) / (q : Int) = ((N / q : Nat) : Int) := by simp
  have h2 := Nat.div_le_self N q
  rw [h1]
  omega
set_option maxRecDepth 20000 in
theorem mo_inverse {x : Int} {p e r q N : Nat} {m : Int} {f : Nat → Int} {g : Int} {rt lg : Nat → Int} {F : HF} {A : HA} {al : AL} (hK : KM al) (hX : MR F) (hT : GY p e r q N m f g rt lg F A) (hx : El m r x) (hu : 1 ≤ umE N q) : QE 4 0 0 mX12_inverse [vA 44, vI x] F A al (PQ (pw m r f x (umE N q - 1)) F al (fun A2 => Off [51, 52, 53] A A2)) := by
  refine QE.mk (by decide +kernel) (Nat.le_of_ble_eq_true rfl) ?_
  obtain ⟨hG, hp, he, hq, hN, hg, ⟨hp2, hp7, he1, he4, hme, hqe, hq3, hNm, hgE⟩, hP, hL, hR⟩ := id hT
  obtain ⟨hm, hr, hf, hm2, hr1, hr6, hN4⟩ := id hG
  have hm4 := hG.m4
  have hq2 := hT.q2
  have hN9 : (N : Int) ≤ 4096 := by rw [hNm]; exact hN4
  refine q_aload_n eX12_inverse_0 rfl ?_
  refine q_iload_n eX12_inverse_1 rfl ?_
  refine q_aload_n eX12_inverse_2 rfl ?_
  refine q_callVP [] (M1 := mX12_unitMany) eX12_inverse_3 mf_X12_unitMany lk_X12_143 (hK _ (by decide) (by decide)) (mo_unitMany hK hX hT) (by decide) (by decide) (by decide) (Nat.le_of_ble_eq_true rfl) rfl ?_
  have hul : umE N q ≤ N := Nat.sub_le _ _
  refine q_i2l eX12_inverse_6 (by first | assumption | exact ⟨by omega, by omega⟩) ?_
  refine q_lconst (v := 1) eX12_inverse_7 (by decide +kernel) ?_
  refine q_lsub eX12_inverse_8 ?_
  rw [show ((umE N q : Nat) : Int) - 1 = ((umE N q - 1 : Nat) : Int) by omega]
  refine q_callVQ [vI x, vJ (umE N q - 1 : Nat)] (M1 := mX12_raised) eX12_inverse_9 mf_X12_raised lk_X12_147 (hK _ (by decide) (by decide)) (mo_raised hK hX hG hx (by omega)) (by decide) (by decide) (by decide) (Nat.le_of_ble_eq_true rfl) rfl (fun A3 h3 => ?_)
  refine q_retI eX12_inverse_12 rfl (by decide) (by decide) ?_
  exact ⟨rfl, rfl, rfl, h3⟩
set_option maxRecDepth 20000 in
theorem mo_rootOf {x : Int} {p e r q N : Nat} {m : Int} {f : Nat → Int} {g : Int} {rt lg : Nat → Int} {F : HF} {A : HA} {al : AL} (hK : KM al) (hX : MR F) (hT : GY p e r q N m f g rt lg F A) (hx : El m r x) : QE 1 0 0 mX12_rootOf [vA 44, vI x] F A al (PI (rt (low p r m x)) F A al) := by
  refine QE.mk (by decide +kernel) (Nat.le_of_ble_eq_true rfl) ?_
  obtain ⟨hG, hp, he, hq, hN, hg, ⟨hp2, hp7, he1, he4, hme, hqe, hq3, hNm, hgE⟩, hP, hL, hR⟩ := id hT
  obtain ⟨hm, hr, hf, hm2, hr1, hr6, hN4⟩ := id hG
  have hm4 := hG.m4
  have hq2 := hT.q2
  have hN9 : (N : Int) ≤ 4096 := by rw [hNm]; exact hN4
  refine q_aload_n eX12_rootOf_0 rfl ?_
  refine q_getfield eX12_rootOf_1 gf_X12_35 (hK _ (by decide) (by decide)) (by decide) (mr_44_8 hX) ?_
  refine q_aload_n eX12_rootOf_4 rfl ?_
  refine q_iload_n eX12_rootOf_5 rfl ?_
  refine q_callVP [vI x] (M1 := mX12_lowOf) eX12_rootOf_6 mf_X12_lowOf lk_X12_139 (hK _ (by decide) (by decide)) (mo_lowOf hK hm hr hp hp2 hp7 hm2 (by omega) hx.1 (hx.lt hN4 |> fun q => by omega) hr6) (by decide) (by decide) (by decide) (Nat.le_of_ble_eq_true rfl) rfl ?_
  have hlt : low p r m x < q := by rw [hqe]; exact low_lt (show 0 < p by omega)
  refine q_iald eX12_rootOf_9 (hK _ (by decide) (by decide)) (by omega) (by omega) ?_
  refine q_retI eX12_rootOf_10 rfl (by decide) (by decide) ?_
  refine PI_ok ?_
  exact (hR _ hlt).1
set_option maxRecDepth 20000 in
theorem lp_mbyP {p : Nat} {x : Int} {m : Int} {r : Nat} {f : Nat → Int} {F : HF} {A0 : HA} {al : AL} (hK : KM al) (hX : MR F) (hG : GM m r f F A0) (hp : F 44 1 = vI p) (hp2 : 2 ≤ p) (hp7 : p ≤ 7) : ∀ (k i : Nat) (A : HA), i + k = r → Off [51] A0 A → (∀ j, j < i → A 51 j = dg m j x / p) → (∀ j, i ≤ j → j < r → A 51 j = dg m j x) →
    QW mX12_byP 1 0 0 (PQ (bp p r m x) F al (fun A2 => Off [51] A0 A2)) 0 0 11 [some (vA 44), some (vI x), some (vI i)] [] F A al := by
  obtain ⟨hm, hr, hf, hm2, hr1, hr6, hN4⟩ := id hG
  have hm4 := hG.m4
  have hdr : ∀ j, 0 ≤ dg m j x / (p : Int) ∧ dg m j x / (p : Int) < m := fun j => by
    have h := dg_range (m := m) (by omega) j x
    have h1 : 0 ≤ dg m j x / (p : Int) := Int.ediv_nonneg h.1 (by omega)
    have h2 : dg m j x / (p : Int) ≤ dg m j x := Int.ediv_le_self _ h.1
    exact ⟨h1, by omega⟩
  intro k
  induction k with
  | zero =>
    intro i A hi ho h1 h2
    have ei : i = r := by omega
    subst ei
    refine q_iload_n eX12_byP_11 rfl ?_
    refine q_aload_n eX12_byP_12 rfl ?_
    refine q_getfield eX12_byP_13 gf_X12_19 (hK _ (by decide) (by decide)) (by decide) (by first | assumption) ?_
    refine q_icmp_ge (tgt := 38) eX12_byP_16 (by decide) (by first | assumption | exact ⟨by omega, by omega⟩) (by first | assumption | exact ⟨by omega, by omega⟩) (fun c16 => ?_) (fun c16 => ?_)
    · refine q_aload_n eX12_byP_38 rfl ?_
      refine q_aload_n eX12_byP_39 rfl ?_
      refine q_getfield eX12_byP_40 gf_X12_50 (hK _ (by decide) (by decide)) (by decide) (mr_44_14 hX) ?_
      refine q_callVP [vA 51] (M1 := mX12_elementOf) eX12_byP_43 mf_X12_elementOf lk_X12_126 (hK _ (by decide) (by decide)) (mo_elem hK hm hr hm2 (by omega) (hK _ (by decide) (by decide)) (by decide) (by omega) (fun j hj => by rw [h1 j hj]; exact hdr j)) (by decide) (by decide) (by decide) (Nat.le_of_ble_eq_true rfl) rfl ?_
      refine q_retI eX12_byP_46 rfl (by decide) (by decide) ?_
      refine ⟨?_, rfl, rfl, ho⟩
      congr 2
      exact un_congr fun j hj => by rw [h1 j hj]
    · exact absurd c16 (by omega)
  | succ k ih =>
    intro i A hi ho h1 h2
    have hg := dg_range (m := m) (by omega) i x
    refine q_iload_n eX12_byP_11 rfl ?_
    refine q_aload_n eX12_byP_12 rfl ?_
    refine q_getfield eX12_byP_13 gf_X12_19 (hK _ (by decide) (by decide)) (by decide) (by first | assumption) ?_
    refine q_icmp_ge (tgt := 38) eX12_byP_16 (by decide) (by first | assumption | exact ⟨by omega, by omega⟩) (by first | assumption | exact ⟨by omega, by omega⟩) (fun c16 => ?_) (fun c16 => ?_)
    · exact absurd c16 (by omega)
    · refine q_aload_n eX12_byP_19 rfl ?_
      refine q_getfield eX12_byP_20 gf_X12_50 (hK _ (by decide) (by decide)) (by decide) (mr_44_14 hX) ?_
      refine q_iload_n eX12_byP_23 rfl ?_
      refine q_dup2 eX12_byP_24 rfl rfl ?_
      refine q_iald eX12_byP_25 (hK _ (by decide) (by decide)) (by omega) (by omega) ?_
      rw [show A 51 (i : Int).toNat = dg m i x from h2 i (Nat.le_refl _) (by omega)]
      refine q_aload_n eX12_byP_26 rfl ?_
      refine q_getfield eX12_byP_27 gf_X12_13 (hK _ (by decide) (by decide)) (by decide) (by first | assumption) ?_
      refine q_idiv eX12_byP_30 (by omega) (by omega) (by omega) (by omega) ?_
      refine q_iast eX12_byP_31 (hK _ (by decide) (by decide)) (by omega) (by omega) ?_
      refine q_iinc eX12_byP_32 rfl (by decide) rfl ?_
      refine q_goto (tgt := 11) eX12_byP_35 (by decide) ?_
      refine ih (i + 1) _ (by omega) (ho.trans (Off.up (by simp))) (fun j hj => ?_) (fun j hj hj2 => ?_)
      · rw [up2_at]
        split
        · next he => rw [show j = i from he]
        · next hne => exact h1 j (by have : j ≠ i := hne; omega)
      · rw [up2_at, if_neg (by show ¬ j = i; omega)]
        exact h2 j (by omega) hj2
set_option maxRecDepth 20000 in
theorem mo_byP {x : Int} {p e r q N : Nat} {m : Int} {f : Nat → Int} {g : Int} {rt lg : Nat → Int} {F : HF} {A : HA} {al : AL} (hK : KM al) (hX : MR F) (hT : GY p e r q N m f g rt lg F A) (hx : El m r x) : QE 1 0 0 mX12_byP [vA 44, vI x] F A al (PQ (bp p r m x) F al (fun A2 => Off [51] A A2)) := by
  refine QE.mk (by decide +kernel) (Nat.le_of_ble_eq_true rfl) ?_
  obtain ⟨hG, hp, he, hq, hN, hg, ⟨hp2, hp7, he1, he4, hme, hqe, hq3, hNm, hgE⟩, hP, hL, hR⟩ := id hT
  obtain ⟨hm, hr, hf, hm2, hr1, hr6, hN4⟩ := id hG
  have hm4 := hG.m4
  have hq2 := hT.q2
  have hN9 : (N : Int) ≤ 4096 := by rw [hNm]; exact hN4
  have hxl := hx.lt hN4
  refine q_aload_n eX12_byP_0 rfl ?_
  refine q_aload_n eX12_byP_1 rfl ?_
  refine q_getfield eX12_byP_2 gf_X12_50 (hK _ (by decide) (by decide)) (by decide) (mr_44_14 hX) ?_
  refine q_iload_n eX12_byP_5 rfl ?_
  refine q_callVV [vA 51, vI x] (M1 := mX12_lays) eX12_byP_6 mf_X12_lays lk_X12_122 (hK _ (by decide) (by decide)) (mo_lays hK hm hr hm2 (by omega) (hK _ (by decide) (by decide)) (by omega) (by decide) hx.1 (by omega)) (by decide) (by decide) (by decide) (Nat.le_of_ble_eq_true rfl) rfl (fun A3 h3 => ?_)
  obtain ⟨o3, v3, -⟩ := h3
  refine q_iconst eX12_byP_9 ?_
  refine q_istore_n eX12_byP_10 (by decide) rfl ?_
  exact lp_mbyP hK hX hG hp hp2 hp7 r 0 A3 (by omega) o3 (fun j hj => by omega) (fun j _ hj => v3 j hj)
def imE (r : Nat) (m x b : Int) : Prop := ∀ j, j < r → dg m j x % b = 0
def imB (r : Nat) (m x b : Int) : Bool := decide (∀ j, j < r → dg m j x % b = 0)
set_option maxRecDepth 20000 in
theorem lp_isMul {x b : Int} {m : Int} {r : Nat} {F : HF} {A0 : HA} {al : AL} (hK : KM al) (hX : MR F) (hm : F 44 4 = vI m) (hr : F 44 3 = vI r) (hm2 : 2 ≤ m) (hm4 : m ≤ 4096) (hr6 : r ≤ 6) (hb : 0 < b) (hb2 : b < 2147483648) {A : HA} (ho : Off [51] A0 A) (h1 : ∀ j, j < r → A 51 j = dg m j x) : ∀ (k i : Nat), i + k = r → (∀ j, j < i → dg m j x % b = 0) →
    QW mX12_isMultiple 1 0 0 (PQ (if imB r m x b = true then 1 else 0) F al (fun A2 => Off [51] A0 A2)) 0 0 11 [some (vA 44), some (vI x), some (vI b), some (vI i)] [] F A al := by
  intro k
  induction k with
  | zero =>
    intro i hi h2
    have ei : i = r := by omega
    subst ei
    refine q_iload_n eX12_isMultiple_11 rfl ?_
    refine q_aload_n eX12_isMultiple_12 rfl ?_
    refine q_getfield eX12_isMultiple_13 gf_X12_19 (hK _ (by decide) (by decide)) (by decide) (by first | assumption) ?_
    refine q_icmp_ge (tgt := 38) eX12_isMultiple_16 (by decide) (by first | assumption | exact ⟨by omega, by omega⟩) (by first | assumption | exact ⟨by omega, by omega⟩) (fun c16 => ?_) (fun c16 => ?_)
    · refine q_iconst eX12_isMultiple_38 ?_
      refine q_retZ eX12_isMultiple_39 rfl (by first | exact Or.inl rfl | exact Or.inr rfl | assumption) (by decide) (by decide) ?_
      exact ⟨by rw [if_pos (show imB i m x b = true from decide_eq_true h2)], rfl, rfl, ho⟩
    · exact absurd c16 (by omega)
  | succ k ih =>
    intro i hi h2
    have hg := dg_range (m := m) (by omega) i x
    have hb1 := Int.emod_nonneg (dg m i x) (b := b) (by omega)
    have hb2' := Int.emod_lt_of_pos (dg m i x) (b := b) hb
    refine q_iload_n eX12_isMultiple_11 rfl ?_
    refine q_aload_n eX12_isMultiple_12 rfl ?_
    refine q_getfield eX12_isMultiple_13 gf_X12_19 (hK _ (by decide) (by decide)) (by decide) (by first | assumption) ?_
    refine q_icmp_ge (tgt := 38) eX12_isMultiple_16 (by decide) (by first | assumption | exact ⟨by omega, by omega⟩) (by first | assumption | exact ⟨by omega, by omega⟩) (fun c16 => ?_) (fun c16 => ?_)
    · exact absurd c16 (by omega)
    · refine q_aload_n eX12_isMultiple_19 rfl ?_
      refine q_getfield eX12_isMultiple_20 gf_X12_50 (hK _ (by decide) (by decide)) (by decide) (mr_44_14 hX) ?_
      refine q_iload_n eX12_isMultiple_23 rfl ?_
      refine q_iald eX12_isMultiple_24 (hK _ (by decide) (by decide)) (by omega) (by omega) ?_
      rw [show A 51 (i : Int).toNat = dg m i x from h1 i (by omega)]
      refine q_iload_n eX12_isMultiple_25 rfl ?_
      refine q_irem eX12_isMultiple_26 (by omega) (by omega) (by omega) (by omega) ?_
      refine q_if_eq (tgt := 32) eX12_isMultiple_27 (by decide) (by first | assumption | exact ⟨by omega, by omega⟩) (fun c27 => ?_) (fun c27 => ?_)
      · refine q_iinc eX12_isMultiple_32 rfl (by decide) rfl ?_
        refine q_goto (tgt := 11) eX12_isMultiple_35 (by decide) ?_
        exact ih (i + 1) (by omega) (fun j hj => by
          by_cases he : j = i
          · rw [he]; exact c27
          · exact h2 j (by omega))
      · refine q_iconst eX12_isMultiple_30 ?_
        refine q_retZ eX12_isMultiple_31 rfl (by first | exact Or.inl rfl | exact Or.inr rfl | assumption) (by decide) (by decide) ?_
        exact ⟨by rw [if_neg (by unfold imB; rw [decide_eq_true_eq]; exact fun q => c27 (q i (by omega)))], rfl, rfl, ho⟩
set_option maxRecDepth 20000 in
theorem mo_isMul {x b : Int} {p e r q N : Nat} {m : Int} {f : Nat → Int} {g : Int} {rt lg : Nat → Int} {F : HF} {A : HA} {al : AL} (hK : KM al) (hX : MR F) (hT : GY p e r q N m f g rt lg F A) (hx : El m r x) (hb : 0 < b) (hb2 : b < 2147483648) : QE 1 0 0 mX12_isMultiple [vA 44, vI x, vI b] F A al (PQ (if imB r m x b = true then 1 else 0) F al (fun A2 => Off [51] A A2)) := by
  refine QE.mk (by decide +kernel) (Nat.le_of_ble_eq_true rfl) ?_
  obtain ⟨hG, hp, he, hq, hN, hg, ⟨hp2, hp7, he1, he4, hme, hqe, hq3, hNm, hgE⟩, hP, hL, hR⟩ := id hT
  obtain ⟨hm, hr, hf, hm2, hr1, hr6, hN4⟩ := id hG
  have hm4 := hG.m4
  have hq2 := hT.q2
  have hN9 : (N : Int) ≤ 4096 := by rw [hNm]; exact hN4
  have hxl := hx.lt hN4
  refine q_aload_n eX12_isMultiple_0 rfl ?_
  refine q_aload_n eX12_isMultiple_1 rfl ?_
  refine q_getfield eX12_isMultiple_2 gf_X12_50 (hK _ (by decide) (by decide)) (by decide) (mr_44_14 hX) ?_
  refine q_iload_n eX12_isMultiple_5 rfl ?_
  refine q_callVV [vA 51, vI x] (M1 := mX12_lays) eX12_isMultiple_6 mf_X12_lays lk_X12_122 (hK _ (by decide) (by decide)) (mo_lays hK hm hr hm2 (by omega) (hK _ (by decide) (by decide)) (by omega) (by decide) hx.1 (by omega)) (by decide) (by decide) (by decide) (Nat.le_of_ble_eq_true rfl) rfl (fun A3 h3 => ?_)
  obtain ⟨o3, v3, -⟩ := h3
  refine q_iconst eX12_isMultiple_9 ?_
  refine q_istore_n eX12_isMultiple_10 (by decide) rfl ?_
  exact lp_isMul hK hX hm hr hm2 hm4 hr6 hb hb2 o3 v3 r 0 (by omega) (fun j hj => by omega)
/-- the level: from n on, k to try -/
def lvM (p r : Nat) (m x : Int) : Nat → Nat → Nat
  | n, 0 => n
  | n, k + 1 => if imB r m x ((p : Int) ^ (n + 1)) = true then lvM p r m x (n + 1) k else n
set_option maxRecDepth 20000 in
theorem lp_levelOf {x : Int} {p e r q N : Nat} {m : Int} {f : Nat → Int} {g : Int} {rt lg : Nat → Int} {F : HF} {A0 : HA} {al : AL} (hK : KM al) (hX : MR F) (hT0 : GY p e r q N m f g rt lg F A0) (hx : El m r x) : ∀ (k n : Nat) (A : HA), n + k = e → Off [51] A0 A →
    QW mX12_levelOf 2 0 0 (PQ (lvM p r m x n k : Nat) F al (fun A2 => Off [51] A0 A2)) 0 0 7 [some (vA 44), some (vI x), some (vI n), some (vI ((p : Int) ^ (n + 1)))] [] F A al := by
  obtain ⟨hG, hp, he, hq, hN, hg, ⟨hp2, hp7, he1, he4, hme, hqe, hq3, hNm, hgE⟩, hP, hL, hR⟩ := id hT0
  obtain ⟨hm, hr, hf, hm2, hr1, hr6, hN4⟩ := id hG
  have hm4 := hG.m4
  have hq2 := hT0.q2
  have hN9 : (N : Int) ≤ 4096 := by rw [hNm]; exact hN4
  have hpw : ∀ n, n < e → 0 < (p : Int) ^ (n + 1) ∧ (p : Int) ^ (n + 1) ≤ 4096 := fun n hn => by
    have h1 : (p : Int) ^ (n + 1) ≤ (p : Int) ^ e := ipow_mono (by omega) (by omega)
    exact ⟨Int.pow_pos (by omega), by rw [hme] at hm4; omega⟩
  intro k
  induction k with
  | zero =>
    intro n A hi ho
    have ei : n = e := by omega
    subst ei
    refine q_iload_n eX12_levelOf_7 rfl ?_
    refine q_aload_n eX12_levelOf_8 rfl ?_
    refine q_getfield eX12_levelOf_9 gf_X12_16 (hK _ (by decide) (by decide)) (by decide) (by first | assumption) ?_
    refine q_icmp_ge (tgt := 37) eX12_levelOf_12 (by decide) (by first | assumption | exact ⟨by omega, by omega⟩) (by first | assumption | exact ⟨by omega, by omega⟩) (fun c12 => ?_) (fun c12 => ?_)
    · refine q_iload_n eX12_levelOf_37 rfl ?_
      refine q_retI eX12_levelOf_38 rfl (by decide) (by decide) ?_
      exact ⟨rfl, rfl, rfl, ho⟩
    · exact absurd c12 (by omega)
  | succ k ih =>
    intro n A hi ho
    have hT1 := hT0.off ho (by decide) (by decide) (by decide) (by decide)
    have hw := hpw n (by omega)
    have hb := ih (n + 1)
    refine q_iload_n eX12_levelOf_7 rfl ?_
    refine q_aload_n eX12_levelOf_8 rfl ?_
    refine q_getfield eX12_levelOf_9 gf_X12_16 (hK _ (by decide) (by decide)) (by decide) (by first | assumption) ?_
    refine q_icmp_ge (tgt := 37) eX12_levelOf_12 (by decide) (by first | assumption | exact ⟨by omega, by omega⟩) (by first | assumption | exact ⟨by omega, by omega⟩) (fun c12 => ?_) (fun c12 => ?_)
    · exact absurd c12 (by omega)
    · refine q_aload_n eX12_levelOf_15 rfl ?_
      refine q_iload_n eX12_levelOf_16 rfl ?_
      refine q_iload_n eX12_levelOf_17 rfl ?_
      refine q_callVQ [vI x, vI ((p : Int) ^ (n + 1))] (M1 := mX12_isMultiple) eX12_levelOf_18 mf_X12_isMultiple lk_X12_135 (hK _ (by decide) (by decide)) (mo_isMul hK hX hT1 hx hw.1 (by omega)) (by decide) (by decide) (by decide) (Nat.le_of_ble_eq_true rfl) rfl (fun A3 h3 => ?_)
      refine q_if_eq (tgt := 37) eX12_levelOf_21 (by decide) ir_ite (fun c21 => ?_) (fun c21 => ?_)
      · refine q_iload_n eX12_levelOf_37 rfl ?_
        refine q_retI eX12_levelOf_38 rfl (by decide) (by decide) ?_
        refine ⟨?_, rfl, rfl, ho.trans h3⟩
        rw [show lvM p r m x n (k + 1) = n from if_neg (i0 c21)]
      · refine q_iinc eX12_levelOf_24 rfl (by decide) rfl ?_
        refine q_iload_n eX12_levelOf_27 rfl ?_
        refine q_aload_n eX12_levelOf_28 rfl ?_
        refine q_getfield eX12_levelOf_29 gf_X12_13 (hK _ (by decide) (by decide)) (by decide) (by first | assumption) ?_
        refine q_imul eX12_levelOf_32 ?_
        refine q_istore_n eX12_levelOf_33 (by decide) rfl ?_
        refine q_goto (tgt := 7) eX12_levelOf_34 (by decide) ?_
        rw [show lvM p r m x n (k + 1) = lvM p r m x (n + 1) k from if_pos (i1 c21), ← Int.pow_succ]
        exact hb A3 (by omega) (ho.trans h3)
set_option maxRecDepth 20000 in
theorem mo_levelOf {x : Int} {p e r q N : Nat} {m : Int} {f : Nat → Int} {g : Int} {rt lg : Nat → Int} {F : HF} {A : HA} {al : AL} (hK : KM al) (hX : MR F) (hT : GY p e r q N m f g rt lg F A) (hx : El m r x) : QE 2 0 0 mX12_levelOf [vA 44, vI x] F A al (PQ (lvM p r m x 0 e : Nat) F al (fun A2 => Off [51] A A2)) := by
  refine QE.mk (by decide +kernel) (Nat.le_of_ble_eq_true rfl) ?_
  obtain ⟨hG, hp, he, hq, hN, hg, ⟨hp2, hp7, he1, he4, hme, hqe, hq3, hNm, hgE⟩, hP, hL, hR⟩ := id hT
  obtain ⟨hm, hr, hf, hm2, hr1, hr6, hN4⟩ := id hG
  have hm4 := hG.m4
  have hq2 := hT.q2
  have hN9 : (N : Int) ≤ 4096 := by rw [hNm]; exact hN4
  refine q_iconst eX12_levelOf_0 ?_
  refine q_istore_n eX12_levelOf_1 (by decide) rfl ?_
  refine q_aload_n eX12_levelOf_2 rfl ?_
  refine q_getfield eX12_levelOf_3 gf_X12_13 (hK _ (by decide) (by decide)) (by decide) (by first | assumption) ?_
  refine q_istore_n eX12_levelOf_6 (by decide) rfl ?_
  have h := lp_levelOf hK hX hT hx e 0 A (by omega) Off.rfl'
  rw [show (p : Int) ^ (0 + 1) = p by rw [Int.pow_succ, Int.pow_zero, Int.one_mul]] at h
  exact h
