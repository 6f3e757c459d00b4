/-! Galois: counts -/
/-- how many below n -/
def ctn (P : Nat → Bool) : Nat → Nat
  | 0 => 0
  | n + 1 => if P n = true then ctn P n + 1 else ctn P n
theorem ctn_le (P : Nat → Bool) : ∀ n, ctn P n ≤ n
  | 0 => Nat.le_refl _
  | n + 1 => by
    have := ctn_le P n
    unfold ctn
    split <;> omega
/-- the most of g below n where P stands, and 1 -/
def mxn (P : Nat → Bool) (g : Nat → Nat) : Nat → Nat
  | 0 => 1
  | n + 1 => if P n = true then max (mxn P g n) (g n) else mxn P g n
theorem mxn_le {P : Nat → Bool} {g : Nat → Nat} {B : Nat} (hB : 1 ≤ B) (h : ∀ i, g i ≤ B) : ∀ n, mxn P g n ≤ B
  | 0 => hB
  | n + 1 => by
    have := mxn_le (P := P) hB h n
    have := h n
    unfold mxn
    split <;> omega
theorem cast_max (a b : Nat) : ((max a b : Nat) : Int) = max (a : Int) b := by omega
theorem ctn_yes {P : Nat → Bool} {n : Nat} (h : P n = true) : ctn P (n + 1) = ctn P n + 1 := if_pos h
theorem ctn_no {P : Nat → Bool} {n : Nat} (h : ¬ P n = true) : ctn P (n + 1) = ctn P n := if_neg h
theorem el_nat {m : Int} {r N i : Nat} (h : (N : Int) = m ^ r) (hi : i < N) : El m r (i : Int) := ⟨by omega, by omega⟩
set_option maxRecDepth 20000 in
theorem ev_hasRootsOfOne {n : Int} {p e r q N : Nat} {m : Int} {f : Nat → Int} {g : Int} {lg : Nat → Int} {F : HF} {A : HA} {al : AL} (hK : KX al) (hX : XF F) (hT : GT p e r q N m f g lg F A) (hn : InR n) : QE 1 0 0 mX2_hasRootsOfOne [vA 2, vI n] F A al (PI (if 1 ≤ n ∧ n ≤ 63 ∧ ((q : Int) - 1) % n = 0 then 1 else 0) F A al) := by
  refine QE.mk (by decide +kernel) (Nat.le_of_ble_eq_true rfl) ?_
  obtain ⟨hG, hp, he, hq, hN, hg, ⟨hp2, hp7, he1, he4, hme, hqe, hq3, hNm, hgE⟩, hP, hL, hI⟩ := id hT
  obtain ⟨hm, hr, hf, hm2, hr1, hr6, hN4⟩ := id hG
  have hm4 := hG.m4
  have hq2 := hT.q2
  have hrr : 1 ≤ n → 0 ≤ ((q : Int) - 1) % n ∧ ((q : Int) - 1) % n < n := fun h => ⟨Int.emod_nonneg _ (by omega), Int.emod_lt_of_pos _ (by omega)⟩
  refine q_iload_n eX2_hasRootsOfOne_0 rfl ?_
  refine q_iconst eX2_hasRootsOfOne_1 ?_
  refine q_icmp_lt (tgt := 28) eX2_hasRootsOfOne_2 (by decide) (by first | assumption | exact ⟨by omega, by omega⟩) (by first | assumption | exact ⟨by omega, by omega⟩) (fun c2 => ?_) (fun c2 => ?_)
  · refine q_iconst eX2_hasRootsOfOne_28 ?_
    refine q_retZ eX2_hasRootsOfOne_29 rfl (by first | exact Or.inl rfl | exact Or.inr rfl | assumption) (by decide) (by decide) ?_
    refine PI_ok ?_
    first
    | (rw [if_pos (by omega)])
    | (rw [if_neg (by omega)])
  · refine q_iload_n eX2_hasRootsOfOne_5 rfl ?_
    refine q_bipush eX2_hasRootsOfOne_6 (by decide +kernel) ?_
    refine q_icmp_gt (tgt := 28) eX2_hasRootsOfOne_8 (by decide) (by first | assumption | exact ⟨by omega, by omega⟩) (by first | assumption | exact ⟨by omega, by omega⟩) (fun c8 => ?_) (fun c8 => ?_)
    · refine q_iconst eX2_hasRootsOfOne_28 ?_
      refine q_retZ eX2_hasRootsOfOne_29 rfl (by first | exact Or.inl rfl | exact Or.inr rfl | assumption) (by decide) (by decide) ?_
      refine PI_ok ?_
      first
      | (rw [if_pos (by omega)])
      | (rw [if_neg (by omega)])
    · refine q_aload_n eX2_hasRootsOfOne_11 rfl ?_
      refine q_getfield eX2_hasRootsOfOne_12 gf_X2_24 (hK _ (by decide) (by decide)) (by decide) (by assumption) ?_
      refine q_iconst eX2_hasRootsOfOne_15 ?_
      refine q_isub eX2_hasRootsOfOne_16 ?_
      refine q_iload_n eX2_hasRootsOfOne_17 rfl ?_
      refine q_callSP [vI ((q : Int) - 1), vI n] (M1 := mX7_remainder) eX2_hasRootsOfOne_18 mf_X7_remainder lk_X2_87 (ev_remP (by omega) (by omega) (by omega) (by omega)) (by decide) (by decide) (by decide) (Nat.le_of_ble_eq_true rfl) rfl ?_
      refine q_if_ne (tgt := 28) eX2_hasRootsOfOne_21 (by decide) (by first | assumption | exact ⟨by omega, by omega⟩) (fun c21 => ?_) (fun c21 => ?_)
      · refine q_iconst eX2_hasRootsOfOne_28 ?_
        refine q_retZ eX2_hasRootsOfOne_29 rfl (by first | exact Or.inl rfl | exact Or.inr rfl | assumption) (by decide) (by decide) ?_
        refine PI_ok ?_
        first
        | (rw [if_pos (by omega)])
        | (rw [if_neg (by omega)])
      · refine q_iconst eX2_hasRootsOfOne_24 ?_
        refine q_goto (tgt := 29) eX2_hasRootsOfOne_25 (by decide) ?_
        refine q_retZ eX2_hasRootsOfOne_29 rfl (by first | exact Or.inl rfl | exact Or.inr rfl | assumption) (by decide) (by decide) ?_
        refine PI_ok ?_
        first
        | (rw [if_pos (by omega)])
        | (rw [if_neg (by omega)])
def coE (p e r N : Nat) (m : Int) (f : Nat → Int) (lg : Nat → Int) : Nat := mxn (fun x => decide (rl p r m lg x = 0)) (fun x => obE p r m f (e - 1) x) N
theorem co_le {p e r n : Nat} {m : Int} {f : Nat → Int} {lg : Nat → Int} (hp : 2 ≤ p) (hp7 : p ≤ 7) (he : e ≤ 4) : mxn (fun x => decide (rl p r m lg x = 0)) (fun x => obE p r m f (e - 1) x) n ≤ 343 := by
  apply mxn_le (by decide)
  intro i
  have h1 := (obE_le (r := r) (m := m) (f := f) (p := p) (by omega) (e - 1) i).2
  have h2 := (pow_le7 (i := e - 1) hp7 (by omega)).1
  have h3 : (p : Int) ^ (e - 1) = ((p ^ (e - 1) : Nat) : Int) := by simp
  omega
set_option maxRecDepth 20000 in
theorem lp_commonOrder {A0 : HA} {p e r q N : Nat} {m : Int} {f : Nat → Int} {g : Int} {lg : Nat → Int} {F : HF}  {al : AL} (hK : KX al) (hX : XF F) (hT : GT p e r q N m f g lg F A0) : ∀ (k i : Nat) (A : HA), i + k = N → Off [13, 14, 15] A0 A →
    QW mX2_commonOrder 5 0 0 (PQ (((q : Int) - 1) * (coE p e r N m f lg : Nat)) F al (fun A2 => Off [13, 14, 15] A0 A2)) 0 0 4 [some (vA 2), some (vI (mxn (fun x => decide (rl p r m lg x = 0)) (fun x => obE p r m f (e - 1) x) i : Nat)), some (vI i)] [] F A al := by
  obtain ⟨hG, hp, he, hq, hN, hg, ⟨hp2, hp7, he1, he4, hme, hqe, hq3, hNm, hgE⟩, hP, hL, hI⟩ := id hT
  obtain ⟨hm, hr, hf, hm2, hr1, hr6, hN4⟩ := id hG
  have hm4 := hG.m4
  have hq2 := hT.q2
  intro k
  induction k with
  | zero =>
    intro i A hi ho
    have e9 : i = N := by omega
    subst e9
    refine q_iload_n eX2_commonOrder_4 rfl ?_
    refine q_aload_n eX2_commonOrder_5 rfl ?_
    refine q_getfield eX2_commonOrder_6 gf_X2_27 (hK _ (by decide) (by decide)) (by decide) (by assumption) ?_
    refine q_icmp_ge (tgt := 36) eX2_commonOrder_9 (by decide) (by first | assumption | exact ⟨by omega, by omega⟩) (by first | assumption | exact ⟨by omega, by omega⟩) (fun c9 => ?_) (fun c9 => ?_)
    · refine q_aload_n eX2_commonOrder_36 rfl ?_
      refine q_getfield eX2_commonOrder_37 gf_X2_24 (hK _ (by decide) (by decide)) (by decide) (by assumption) ?_
      refine q_iconst eX2_commonOrder_40 ?_
      refine q_isub eX2_commonOrder_41 ?_
      refine q_iload_n eX2_commonOrder_42 rfl ?_
      refine q_imul eX2_commonOrder_43 ?_
      refine q_retI eX2_commonOrder_44 rfl (by decide) (by decide) ?_
      exact ⟨rfl, rfl, rfl, ho⟩
    · exact absurd c9 (by omega)
  | succ k ih =>
    intro i A hi ho
    have hT1 := hT.s3 ho
    have hx := el_nat (i := i) hNm (by omega)
    have hrl := rl_R hT (i : Int)
    have hle := co_le (p := p) (e := e) (r := r) (n := i) (m := m) (f := f) (lg := lg) hp2 hp7 he4
    have hob := (obE_le (r := r) (m := m) (f := f) (p := p) (by omega) (e - 1) i).2
    have h2 := (pow_le7 (i := e - 1) hp7 (by omega)).1
    have h3 : (p : Int) ^ (e - 1) = ((p ^ (e - 1) : Nat) : Int) := by simp
    have hst : mxn (fun x => decide (rl p r m lg x = 0)) (fun x => obE p r m f (e - 1) x) (i + 1) = if decide (rl p r m lg i = 0) = true then max (mxn (fun x => decide (rl p r m lg x = 0)) (fun x => obE p r m f (e - 1) x) i) (obE p r m f (e - 1) i) else mxn (fun x => decide (rl p r m lg x = 0)) (fun x => obE p r m f (e - 1) x) i := rfl
    have hb := ih (i + 1)
    rw [hst] at hb
    refine q_iload_n eX2_commonOrder_4 rfl ?_
    refine q_aload_n eX2_commonOrder_5 rfl ?_
    refine q_getfield eX2_commonOrder_6 gf_X2_27 (hK _ (by decide) (by decide)) (by decide) (by assumption) ?_
    refine q_icmp_ge (tgt := 36) eX2_commonOrder_9 (by decide) (by first | assumption | exact ⟨by omega, by omega⟩) (by first | assumption | exact ⟨by omega, by omega⟩) (fun c9 => ?_) (fun c9 => ?_)
    · exact absurd c9 (by omega)
    · refine q_aload_n eX2_commonOrder_12 rfl ?_
      refine q_iload_n eX2_commonOrder_13 rfl ?_
      refine q_callVP [vI i] (M1 := mX2_rootLog) eX2_commonOrder_14 mf_X2_rootLog lk_X2_157 (hK _ (by decide) (by decide)) (ev_rootLog hK hX hT1 hx) (by decide) (by decide) (by decide) (Nat.le_of_ble_eq_true rfl) rfl ?_
      refine q_if_ne (tgt := 30) eX2_commonOrder_17 (by decide) (by first | assumption | exact ⟨by omega, by omega⟩) (fun c17 => ?_) (fun c17 => ?_)
      · refine q_iinc eX2_commonOrder_30 rfl (by decide) rfl ?_
        refine q_goto (tgt := 4) eX2_commonOrder_33 (by decide) ?_
        first
        | (rw [if_neg (by rw [decide_eq_true_eq]; exact c17)] at hb
           exact hb A (by omega) ho)
        | (rw [if_pos (by rw [decide_eq_true_eq]; exact c17), cast_max] at hb
           exact hb A3 (by omega) (ho.trans h3))
      · refine q_iload_n eX2_commonOrder_20 rfl ?_
        refine q_aload_n eX2_commonOrder_21 rfl ?_
        refine q_iload_n eX2_commonOrder_22 rfl ?_
        refine q_callVQ [vI i] (M1 := mX2_orderOneBelow) eX2_commonOrder_23 mf_X2_orderOneBelow lk_X2_186 (hK _ (by decide) (by decide)) (ev_orderOneBelow hK hX hT1 hx) (by decide) (by decide) (by decide) (Nat.le_of_ble_eq_true rfl) rfl (fun A3 h3 => ?_)
        refine q_callSP [vI (mxn (fun x => decide (rl p r m lg x = 0)) (fun x => obE p r m f (e - 1) x) i : Nat), vI (obE p r m f (e - 1) i : Nat)] (M1 := mJ9_max_7cf53) eX2_commonOrder_26 mf_J9_max_7cf53 lk_X2_189 (ev_max (by exact ⟨by omega, by omega⟩) (by exact ⟨by omega, by omega⟩)) (by decide) (by decide) (by decide) (Nat.le_of_ble_eq_true rfl) rfl ?_
        refine q_istore_n eX2_commonOrder_29 (by decide) rfl ?_
        refine q_iinc eX2_commonOrder_30 rfl (by decide) rfl ?_
        refine q_goto (tgt := 4) eX2_commonOrder_33 (by decide) ?_
        first
        | (rw [if_neg (by rw [decide_eq_true_eq]; exact c17)] at hb
           exact hb A (by omega) ho)
        | (rw [if_pos (by rw [decide_eq_true_eq]; exact c17), cast_max] at hb
           exact hb A3 (by omega) (ho.trans h3))
set_option maxRecDepth 20000 in
theorem ev_commonOrder {p e r q N : Nat} {m : Int} {f : Nat → Int} {g : Int} {lg : Nat → Int} {F : HF} {A : HA} {al : AL} (hK : KX al) (hX : XF F) (hT : GT p e r q N m f g lg F A) : QE 5 0 0 mX2_commonOrder [vA 2] F A al (PQ (((q : Int) - 1) * (coE p e r N m f lg : Nat)) F al (fun A2 => Off [13, 14, 15] A A2)) := by
  refine QE.mk (by decide +kernel) (Nat.le_of_ble_eq_true rfl) ?_
  refine q_iconst eX2_commonOrder_0 ?_
  refine q_istore_n eX2_commonOrder_1 (by decide) rfl ?_
  refine q_iconst eX2_commonOrder_2 ?_
  refine q_istore_n eX2_commonOrder_3 (by decide) rfl ?_
  exact lp_commonOrder hK hX hT N 0 A (by omega) Off.rfl'
