/-! Galois: what the tables tell -/
theorem un_sm {m : Int} : ∀ (n : Nat) (c : Nat → Int), un m n c = sm n (fun i => c i % m * m ^ i)
  | 0, _ => rfl
  | n + 1, c => by
    rw [sm_first]
    show c 0 % m + m * un m n (fun i => c (i + 1)) = _
    rw [un_sm n, ← sm_mul, Int.pow_zero, Int.mul_one]
    congr 1
    apply sm_congr
    intro i _
    rw [Int.pow_succ, Int.mul_left_comm, Int.mul_comm m]
/-- what an element is below -/
def low (p r : Nat) (m x : Int) : Nat := (un (p : Int) r (fun i => dg m i x)).toNat
theorem low_cast {p r : Nat} {m x : Int} (hp : 0 < p) : (low p r m x : Int) = un (p : Int) r (fun i => dg m i x) := Int.toNat_of_nonneg (un_range (by omega) _ _).1
theorem low_lt {p r : Nat} {m x : Int} (hp : 0 < p) : low p r m x < p ^ r := by
  have h := (un_range (m := (p : Int)) (by omega) r (fun i => dg m i x)).2
  rw [← low_cast hp] at h
  have e : (p : Int) ^ r = ((p ^ r : Nat) : Int) := by simp
  omega
theorem rbE_low {p r : Nat} {m x : Int} (hp : 0 < p) : rbE p r m p x = (low p r m x : Int) := by
  rw [low_cast hp, un_sm]
  rfl
/-- an element by p -/
def bp (p r : Nat) (m x : Int) : Int := un m r (fun i => dg m i x / p)
theorem bpE_bp {p r : Nat} {m x : Int} (hm : 0 < m) : bpE m p r x = bp p r m x := by
  unfold bp bpE
  rw [un_sm]
  apply sm_congr
  intro i _
  have h := dg_range hm i x
  have h1 : 0 ≤ dg m i x / (p : Int) := Int.ediv_nonneg h.1 (by omega)
  have h2 : dg m i x / (p : Int) ≤ dg m i x := Int.ediv_le_self _ h.1
  rw [Int.emod_eq_of_lt h1 (by omega)]
theorem bp_el {p r : Nat} {m x : Int} (hm : 0 < m) : El m r (bp p r m x) := un_range hm _ _
def GT (p e r q N : Nat) (m : Int) (f : Nat → Int) (g : Int) (lg : Nat → Int) (F : HF) (A : HA) : Prop :=
  GA m r f F A ∧ F 2 0 = vI p ∧ F 2 1 = vI e ∧ F 2 4 = vI q ∧ F 2 5 = vI N ∧ F 2 6 = vI g ∧
  (2 ≤ p ∧ p ≤ 7 ∧ 1 ≤ e ∧ e ≤ 4 ∧ m = (p : Int) ^ e ∧ q = p ^ r ∧ q ≤ 3125 ∧ (N : Int) = m ^ r ∧ El m r g) ∧ (∀ k, k + 1 < q → A 4 k = pw m r f g k) ∧ (∀ j, j < q → A 5 j = lg j ∧ (lg j = -1 ∨ 0 ≤ lg j ∧ lg j < (q : Int) - 1)) ∧
  ∀ j i, j < r → i < 6 → A (7 + j) i = dg m i (pw m r f (if r = 1 then 0 else m) (p * j))
section GTs
variable {p e r q N : Nat} {m : Int} {f : Nat → Int} {g : Int} {lg : Nat → Int} {F : HF} {A A2 : HA} {al : AL}
theorem GT.s3 (h : GT p e r q N m f g lg F A) (ho : Off [13, 14, 15] A A2) : GT p e r q N m f g lg F A2 := by
  obtain ⟨h1, h2, h3, h4, h5, h6, h7, h8, h9, h10⟩ := h
  have hr6 := h1.2.2.2.2.2.1
  refine ⟨h1.s3 ho, h2, h3, h4, h5, h6, h7, fun k hk => ?_, fun j hj => ?_, fun j i hj hi => ?_⟩
  · rw [ho 4 (by decide)]; exact h8 k hk
  · rw [ho 5 (by decide)]; exact h9 j hj
  · rw [ho (7 + j) (by simp; omega)]; exact h10 j i hj hi
theorem GT.q2 (h : GT p e r q N m f g lg F A) : 2 ≤ q := by
  obtain ⟨h1, -, -, -, -, -, ⟨g1, -, -, -, -, g6, -⟩, -⟩ := h
  have := h1.2.2.2.2.1
  rw [g6]
  obtain ⟨k, rfl⟩ : ∃ k, r = k + 1 := ⟨r - 1, by omega⟩
  have : 0 < p ^ k := Nat.pow_pos (by omega)
  rw [Nat.pow_succ]
  have := Nat.mul_le_mul this g1
  omega
end GTs
/-- the logarithm of the root of an element (-1: none) -/
def rl (p r : Nat) (m : Int) (lg : Nat → Int) (x : Int) : Int := lg (low p r m x)
def ro (p r : Nat) (m : Int) (f : Nat → Int) (g : Int) (lg : Nat → Int) (x : Int) : Int := if rl p r m lg x = -1 then 0 else pw m r f g (rl p r m lg x).toNat
set_option maxRecDepth 20000 in
theorem ev_rootLog {x : Int} {p e r q N : Nat} {m : Int} {f : Nat → Int} {g : Int} {lg : Nat → Int} {F : HF} {A : HA} {al : AL} (hK : KX al) (hX : XF F) (hT : GT p e r q N m f g lg F A) (hx : El m r x) : QE 2 0 0 mX2_rootLog [vA 2, vI x] F A al (PI (rl p r m lg x) F A al) := by
  refine QE.mk (by decide +kernel) (Nat.le_of_ble_eq_true rfl) ?_
  obtain ⟨hG, hp, he, hq, hN, hg, ⟨hp2, hp7, he1, he4, hme, hqe, hq3, hNm, hgE⟩, hP, hL, hI⟩ := id hT
  obtain ⟨hm, hr, hf, hm2, hr1, hr6, hN4⟩ := id hG
  have hm4 := hG.m4
  have hq2 := hT.q2
  have hlow := low_lt (r := r) (m := m) (x := x) (show 0 < p by omega)
  rw [← hqe] at hlow
  have hlr := (hL _ hlow).2
  have hx1 := hx.lt hN4
  refine q_aload_n eX2_rootLog_0 rfl ?_
  refine q_getfield eX2_rootLog_1 gf_X2_40 (hK _ (by decide) (by decide)) (by decide) (xf_2_9 hX) ?_
  refine q_aload_n eX2_rootLog_4 rfl ?_
  refine q_iload_n eX2_rootLog_5 rfl ?_
  refine q_aload_n eX2_rootLog_6 rfl ?_
  refine q_getfield eX2_rootLog_7 gf_X2_21 (hK _ (by decide) (by decide)) (by decide) (by assumption) ?_
  refine q_aload_n eX2_rootLog_10 rfl ?_
  refine q_getfield eX2_rootLog_11 gf_X2_9 (hK _ (by decide) (by decide)) (by decide) (by assumption) ?_
  refine q_callVP [vI x, vI m, vI p] (M1 := mX2_rebase) eX2_rootLog_14 mf_X2_rebase lk_X2_124 (hK _ (by decide) (by decide)) (ev_rebase hK hp hr (by omega) (by omega) hm2 (by omega) hx1.1 (by omega) hr6) (by decide) (by decide) (by decide) (Nat.le_of_ble_eq_true rfl) rfl ?_
  rw [rbE_low (by omega)]
  refine q_callSP [vA 5, vI (low p r m x : Nat)] (M1 := mX7_at) eX2_rootLog_17 mf_X7_at lk_X2_116 (ev_atN (hK _ (by decide) (by decide)) (by omega) (by decide)) (by decide) (by decide) (by decide) (Nat.le_of_ble_eq_true rfl) rfl ?_
  refine q_retI eX2_rootLog_20 rfl (by decide) (by decide) ?_
  exact PI_ok (hL _ hlow).1
theorem rl_R {p e r q N : Nat} {m : Int} {f : Nat → Int} {g : Int} {lg : Nat → Int} {F : HF} {A : HA} (hT : GT p e r q N m f g lg F A) (x : Int) : (rl p r m lg x = -1 ∨ 0 ≤ rl p r m lg x ∧ rl p r m lg x < (q : Int) - 1) ∧ q ≤ 3125 := by
  obtain ⟨hG, hp, he, hq, hN, hg, ⟨hp2, hp7, he1, he4, hme, hqe, hq3, hNm, hgE⟩, hP, hL, hI⟩ := id hT
  have hlow := low_lt (r := r) (m := m) (x := x) (show 0 < p by omega)
  rw [← hqe] at hlow
  exact ⟨(hL _ hlow).2, hq3⟩
theorem ro_el {p e r q N : Nat} {m : Int} {f : Nat → Int} {g : Int} {lg : Nat → Int} {F : HF} {A : HA} (hT : GT p e r q N m f g lg F A) (x : Int) : El m r (ro p r m f g lg x) := by
  have hm2 := hT.1.2.2.2.1
  have hr1 := hT.1.2.2.2.2.1
  unfold ro
  split
  · exact el_zero (by omega)
  · exact pw_el hm2 hr1 _ _
set_option maxRecDepth 20000 in
theorem ev_rootOf {x : Int} {p e r q N : Nat} {m : Int} {f : Nat → Int} {g : Int} {lg : Nat → Int} {F : HF} {A : HA} {al : AL} (hK : KX al) (hX : XF F) (hT : GT p e r q N m f g lg F A) (hx : El m r x) : QE 3 0 0 mX2_rootOf [vA 2, vI x] F A al (PI (ro p r m f g lg x) F A al) := by
  refine QE.mk (by decide +kernel) (Nat.le_of_ble_eq_true rfl) ?_
  obtain ⟨hG, hp, he, hq, hN, hg, ⟨hp2, hp7, he1, he4, hme, hqe, hq3, hNm, hgE⟩, hP, hL, hI⟩ := id hT
  obtain ⟨hm, hr, hf, hm2, hr1, hr6, hN4⟩ := id hG
  have hm4 := hG.m4
  have hq2 := hT.q2
  have hrl := rl_R hT x
  refine q_aload_n eX2_rootOf_0 rfl ?_
  refine q_iload_n eX2_rootOf_1 rfl ?_
  refine q_callVP [vI x] (M1 := mX2_rootLog) eX2_rootOf_2 mf_X2_rootLog lk_X2_157 (hK _ (by decide) (by decide)) (ev_rootLog hK hX hT hx) (by decide) (by decide) (by decide) (Nat.le_of_ble_eq_true rfl) rfl ?_
  refine q_istore_n eX2_rootOf_5 (by decide) rfl ?_
  refine q_iload_n eX2_rootOf_6 rfl ?_
  refine q_iconst eX2_rootOf_7 ?_
  refine q_icmp_ne (tgt := 15) eX2_rootOf_8 (by decide) (by first | assumption | exact ⟨by omega, by omega⟩) (by first | assumption | exact ⟨by omega, by omega⟩) (fun c8 => ?_) (fun c8 => ?_)
  · refine q_aload_n eX2_rootOf_15 rfl ?_
    refine q_getfield eX2_rootOf_16 gf_X2_37 (hK _ (by decide) (by decide)) (by decide) (xf_2_8 hX) ?_
    refine q_iload_n eX2_rootOf_19 rfl ?_
    refine q_callSP [vA 4, vI (rl p r m lg x)] (M1 := mX7_at) eX2_rootOf_20 mf_X7_at lk_X2_116 (ev_at (hK _ (by decide) (by decide)) ⟨by omega, by omega⟩ (by decide)) (by decide) (by decide) (by decide) (Nat.le_of_ble_eq_true rfl) rfl ?_
    refine q_retI eX2_rootOf_23 rfl (by decide) (by decide) ?_
    refine PI_ok ?_
    unfold ro
    first
    | rw [if_pos c8]
    | (rw [if_neg c8, show rl p r m lg x = ((rl p r m lg x).toNat : Int) by omega, atS_nat (by omega), hP _ (by omega)]
       rfl)
  · refine q_iconst eX2_rootOf_11 ?_
    refine q_goto (tgt := 23) eX2_rootOf_12 (by decide) ?_
    refine q_retI eX2_rootOf_23 rfl (by decide) (by decide) ?_
    refine PI_ok ?_
    unfold ro
    first
    | rw [if_pos c8]
    | (rw [if_neg c8, show rl p r m lg x = ((rl p r m lg x).toNat : Int) by omega, atS_nat (by omega), hP _ (by omega)]
       rfl)
set_option maxRecDepth 20000 in
theorem ev_isUnit {x : Int} {p e r q N : Nat} {m : Int} {f : Nat → Int} {g : Int} {lg : Nat → Int} {F : HF} {A : HA} {al : AL} (hK : KX al) (hX : XF F) (hT : GT p e r q N m f g lg F A) (hx : El m r x) : QE 3 0 0 mX2_isUnit [vA 2, vI x] F A al (PI (if rl p r m lg x = -1 then 0 else 1) F A al) := by
  refine QE.mk (by decide +kernel) (Nat.le_of_ble_eq_true rfl) ?_
  obtain ⟨hG, hp, he, hq, hN, hg, ⟨hp2, hp7, he1, he4, hme, hqe, hq3, hNm, hgE⟩, hP, hL, hI⟩ := id hT
  obtain ⟨hm, hr, hf, hm2, hr1, hr6, hN4⟩ := id hG
  have hm4 := hG.m4
  have hq2 := hT.q2
  have hrl := rl_R hT x
  refine q_aload_n eX2_isUnit_0 rfl ?_
  refine q_iload_n eX2_isUnit_1 rfl ?_
  refine q_callVP [vI x] (M1 := mX2_rootLog) eX2_isUnit_2 mf_X2_rootLog lk_X2_157 (hK _ (by decide) (by decide)) (ev_rootLog hK hX hT hx) (by decide) (by decide) (by decide) (Nat.le_of_ble_eq_true rfl) rfl ?_
  refine q_iconst eX2_isUnit_5 ?_
  refine q_icmp_eq (tgt := 13) eX2_isUnit_6 (by decide) (by first | assumption | exact ⟨by omega, by omega⟩) (by first | assumption | exact ⟨by omega, by omega⟩) (fun c6 => ?_) (fun c6 => ?_)
  · refine q_iconst eX2_isUnit_13 ?_
    refine q_retZ eX2_isUnit_14 rfl (by first | exact Or.inl rfl | exact Or.inr rfl | assumption) (by decide) (by decide) ?_
    refine PI_ok ?_
    first | rw [if_pos c6] | rw [if_neg c6]
  · refine q_iconst eX2_isUnit_9 ?_
    refine q_goto (tgt := 14) eX2_isUnit_10 (by decide) ?_
    refine q_retZ eX2_isUnit_14 rfl (by first | exact Or.inl rfl | exact Or.inr rfl | assumption) (by decide) (by decide) ?_
    refine PI_ok ?_
    first | rw [if_pos c6] | rw [if_neg c6]
theorem ev_bp {x : Int} {p e r q N : Nat} {m : Int} {f : Nat → Int} {g : Int} {lg : Nat → Int} {F : HF} {A : HA} {al : AL} (hK : KX al) (hX : XF F) (hT : GT p e r q N m f g lg F A) (hx : El m r x) : QE 1 0 0 mX2_byP [vA 2, vI x] F A al (PI (bp p r m x) F A al) := by
  obtain ⟨hG, hp, he, hq, hN, hg, ⟨hp2, hp7, he1, he4, hme, hqe, hq3, hNm, hgE⟩, hP, hL, hI⟩ := id hT
  obtain ⟨hm, hr, hf, hm2, hr1, hr6, hN4⟩ := id hG
  have hm4 := hG.m4
  have hq2 := hT.q2
  have hx1 := hx.lt hN4
  have h := ev_byP (A := A) hK hp hr hm (by omega) (by omega) hm2 (by omega) hx1.1 (by omega) hr6
  rw [bpE_bp (by omega)] at h
  exact h
/-- what is left of an element behind i digits -/
def dlE (p r : Nat) (m : Int) (f : Nat → Int) (g : Int) (lg : Nat → Int) (x : Int) : Nat → Int
  | 0 => x
  | i + 1 => bp p r m (mi m r (dlE p r m f g lg x i) (ro p r m f g lg (dlE p r m f g lg x i)))
theorem dl_el {p r : Nat} {m : Int} {f : Nat → Int} {g : Int} {lg : Nat → Int} {x : Int} (hm : 0 < m) (hx : El m r x) : ∀ i, El m r (dlE p r m f g lg x i)
  | 0 => hx
  | _ + 1 => bp_el hm
set_option maxRecDepth 20000 in
theorem lp_digitLog {x : Int} {n : Nat} {p e r q N : Nat} {m : Int} {f : Nat → Int} {g : Int} {lg : Nat → Int} {F : HF} {A : HA} {al : AL} (hK : KX al) (hX : XF F) (hT : GT p e r q N m f g lg F A) (hx : El m r x) (hn : n < 2147483648) : ∀ (k i : Nat), i + k = n →
    QW mX2_digitLog 4 0 0 (PI (rl p r m lg (dlE p r m f g lg x n)) F A al) 0 0 5 [some (vA 2), some (vI x), some (vI n), some (vI (dlE p r m f g lg x i)), some (vI i)] [] F A al := by
  obtain ⟨hG, hp, he, hq, hN, hg, ⟨hp2, hp7, he1, he4, hme, hqe, hq3, hNm, hgE⟩, hP, hL, hI⟩ := id hT
  obtain ⟨hm, hr, hf, hm2, hr1, hr6, hN4⟩ := id hG
  have hm4 := hG.m4
  have hq2 := hT.q2
  intro k
  induction k with
  | zero =>
    intro i hi
    have e9 : i = n := by omega
    subst e9
    refine q_iload eX2_digitLog_5 rfl ?_
    refine q_iload_n eX2_digitLog_7 rfl ?_
    refine q_icmp_ge (tgt := 32) eX2_digitLog_8 (by decide) (by first | assumption | exact ⟨by omega, by omega⟩) (by first | assumption | exact ⟨by omega, by omega⟩) (fun c8 => ?_) (fun c8 => ?_)
    · refine q_aload_n eX2_digitLog_32 rfl ?_
      refine q_iload_n eX2_digitLog_33 rfl ?_
      refine q_callVP [vI (dlE p r m f g lg x i)] (M1 := mX2_rootLog) eX2_digitLog_34 mf_X2_rootLog lk_X2_157 (hK _ (by decide) (by decide)) (ev_rootLog hK hX hT (dl_el (by omega) hx i)) (by decide) (by decide) (by decide) (Nat.le_of_ble_eq_true rfl) rfl ?_
      refine q_retI eX2_digitLog_37 rfl (by decide) (by decide) ?_
      exact PI_ok rfl
    · exact absurd c8 (by omega)
  | succ k ih =>
    intro i hi
    have hd := dl_el (p := p) (f := f) (g := g) (lg := lg) (show 0 < m by omega) hx i
    refine q_iload eX2_digitLog_5 rfl ?_
    refine q_iload_n eX2_digitLog_7 rfl ?_
    refine q_icmp_ge (tgt := 32) eX2_digitLog_8 (by decide) (by first | assumption | exact ⟨by omega, by omega⟩) (by first | assumption | exact ⟨by omega, by omega⟩) (fun c8 => ?_) (fun c8 => ?_)
    · exact absurd c8 (by omega)
    · refine q_aload_n eX2_digitLog_11 rfl ?_
      refine q_aload_n eX2_digitLog_12 rfl ?_
      refine q_iload_n eX2_digitLog_13 rfl ?_
      refine q_aload_n eX2_digitLog_14 rfl ?_
      refine q_iload_n eX2_digitLog_15 rfl ?_
      refine q_callVP [vI (dlE p r m f g lg x i)] (M1 := mX2_rootOf) eX2_digitLog_16 mf_X2_rootOf lk_X2_161 (hK _ (by decide) (by decide)) (ev_rootOf hK hX hT hd) (by decide) (by decide) (by decide) (Nat.le_of_ble_eq_true rfl) rfl ?_
      refine q_callVP [vI (dlE p r m f g lg x i), vI (ro p r m f g lg (dlE p r m f g lg x i))] (M1 := mX2_minus) eX2_digitLog_19 mf_X2_minus lk_X2_146 (hK _ (by decide) (by decide)) (ev_minus hK hX hG hd (ro_el hT _)) (by decide) (by decide) (by decide) (Nat.le_of_ble_eq_true rfl) rfl ?_
      refine q_callVP [vI (mi m r (dlE p r m f g lg x i) (ro p r m f g lg (dlE p r m f g lg x i)))] (M1 := mX2_byP) eX2_digitLog_22 mf_X2_byP lk_X2_164 (hK _ (by decide) (by decide)) (ev_bp hK hX hT (mi_el (by omega) _ _)) (by decide) (by decide) (by decide) (Nat.le_of_ble_eq_true rfl) rfl ?_
      refine q_istore_n eX2_digitLog_25 (by decide) rfl ?_
      refine q_iinc eX2_digitLog_26 rfl (by decide) rfl ?_
      refine q_goto (tgt := 5) eX2_digitLog_29 (by decide) ?_
      exact ih (i + 1) (by omega)
set_option maxRecDepth 20000 in
theorem ev_digitLog {x : Int} {n : Nat} {p e r q N : Nat} {m : Int} {f : Nat → Int} {g : Int} {lg : Nat → Int} {F : HF} {A : HA} {al : AL} (hK : KX al) (hX : XF F) (hT : GT p e r q N m f g lg F A) (hx : El m r x) (hn : n < 2147483648) : QE 4 0 0 mX2_digitLog [vA 2, vI x, vI n] F A al (PI (rl p r m lg (dlE p r m f g lg x n)) F A al) := by
  refine QE.mk (by decide +kernel) (Nat.le_of_ble_eq_true rfl) ?_
  refine q_iload_n eX2_digitLog_0 rfl ?_
  refine q_istore_n eX2_digitLog_1 (by decide) rfl ?_
  refine q_iconst eX2_digitLog_2 ?_
  refine q_istore eX2_digitLog_3 (by decide) rfl ?_
  exact lp_digitLog hK hX hT hx hn n 0 (by omega)
def wdE (p r : Nat) (m : Int) (f : Nat → Int) (g x : Int) (i : Nat) (log : Int) : Int := if log = -1 then x else un m r (fun j => dg m j x + (p : Int) ^ i * dg m j (pw m r f g log.toNat))
theorem pow_le7 {p i : Nat} (hp : p ≤ 7) (hi : i ≤ 3) : (p : Int) ^ i ≤ 343 ∧ 0 ≤ (p : Int) ^ i := by
  have h : ∀ p, p ≤ 7 → ∀ i, i ≤ 3 → p ^ i ≤ 343 := by decide
  have := h p hp i hi
  have e : (p : Int) ^ i = ((p ^ i : Nat) : Int) := by simp
  omega
set_option maxRecDepth 20000 in
theorem ev_withDigit {x log : Int} {i : Nat} {p e r q N : Nat} {m : Int} {f : Nat → Int} {g : Int} {lg : Nat → Int} {F : HF} {A : HA} {al : AL} (hK : KX al) (hX : XF F) (hT : GT p e r q N m f g lg F A) (hx : El m r x) (hi : i ≤ 3) (hlog : log = -1 ∨ 0 ≤ log ∧ log < (q : Int) - 1) : QE 1 0 0 mX2_withDigit [vA 2, vI x, vI i, vI log] F A al (PI (wdE p r m f g x i log) F A al) := by
  refine QE.mk (by decide +kernel) (Nat.le_of_ble_eq_true rfl) ?_
  obtain ⟨hG, hp, he, hq, hN, hg, ⟨hp2, hp7, he1, he4, hme, hqe, hq3, hNm, hgE⟩, hP, hL, hI⟩ := id hT
  obtain ⟨hm, hr, hf, hm2, hr1, hr6, hN4⟩ := id hG
  have hm4 := hG.m4
  have hq2 := hT.q2
  have hx1 := hx.lt hN4
  have hpE := pw_el (f := f) hm2 hr1 g log.toNat
  have hpw := hpE.lt hN4
  have hpi := pow_le7 hp7 hi
  refine q_iload_n eX2_withDigit_0 rfl ?_
  refine q_iconst eX2_withDigit_1 ?_
  refine q_icmp_ne (tgt := 7) eX2_withDigit_2 (by decide) (by first | assumption | exact ⟨by omega, by omega⟩) (by first | assumption | exact ⟨by omega, by omega⟩) (fun c2 => ?_) (fun c2 => ?_)
  · refine q_iload_n eX2_withDigit_7 rfl ?_
    refine q_aload_n eX2_withDigit_8 rfl ?_
    refine q_getfield eX2_withDigit_9 gf_X2_37 (hK _ (by decide) (by decide)) (by decide) (xf_2_8 hX) ?_
    refine q_iload_n eX2_withDigit_12 rfl ?_
    refine q_callSP [vA 4, vI log] (M1 := mX7_at) eX2_withDigit_13 mf_X7_at lk_X2_116 (ev_at (hK _ (by decide) (by decide)) ⟨by omega, by omega⟩ (by decide)) (by decide) (by decide) (by decide) (Nat.le_of_ble_eq_true rfl) rfl ?_
    rw [show atS A 4 3125 log = pw m r f g log.toNat by rw [show log = (log.toNat : Int) by omega, atS_nat (by omega), hP _ (by omega)]; rfl]
    refine q_aload_n eX2_withDigit_16 rfl ?_
    refine q_getfield eX2_withDigit_17 gf_X2_9 (hK _ (by decide) (by decide)) (by decide) (by assumption) ?_
    refine q_iload_n eX2_withDigit_20 rfl ?_
    refine q_callSP [vI p, vI i] (M1 := mX7_raise) eX2_withDigit_21 mf_X7_raise lk_X2_64 (ev_raiseN (by omega)) (by decide) (by decide) (by decide) (Nat.le_of_ble_eq_true rfl) rfl ?_
    refine q_aload_n eX2_withDigit_24 rfl ?_
    refine q_getfield eX2_withDigit_25 gf_X2_21 (hK _ (by decide) (by decide)) (by decide) (by assumption) ?_
    refine q_callSP [vI x, vI (pw m r f g log.toNat), vI ((p : Int) ^ i), vI m] (M1 := mX7_mix) eX2_withDigit_28 mf_X7_mix lk_X2_135 (ev_mix hx1.1 (by omega) hpw.1 (by omega) (by omega) (by omega) hpi.2 (by have e1 : ((p : Int) ^ i + 1) * m ≤ 344 * m := Int.mul_le_mul_of_nonneg_right (by omega) (by omega); omega)) (by decide) (by decide) (by decide) (Nat.le_of_ble_eq_true rfl) rfl ?_
    refine q_retI eX2_withDigit_31 rfl (by decide) (by decide) ?_
    refine PI_ok ?_
    unfold wdE
    first
    | rw [if_pos c2]
    | rw [if_neg c2, if_neg (by omega), mixI_r (by omega) (by omega) hx.1 hx.2 hpE.1 hpE.2]
  · refine q_iload_n eX2_withDigit_5 rfl ?_
    refine q_retI eX2_withDigit_6 rfl (by decide) (by decide) ?_
    refine PI_ok ?_
    unfold wdE
    first
    | rw [if_pos c2]
    | rw [if_neg c2, if_neg (by omega), mixI_r (by omega) (by omega) hx.1 hx.2 hpE.1 hpE.2]
/-- the level as the class counts it: from what is left behind j steps on, k steps more -/
def bpn (p r : Nat) (m x : Int) : Nat → Int
  | 0 => x
  | i + 1 => bp p r m (bpn p r m x i)
theorem bpn_el {p r : Nat} {m x : Int} (hm : 0 < m) (hx : El m r x) : ∀ i, El m r (bpn p r m x i)
  | 0 => hx
  | _ + 1 => bp_el hm
def lvE (p r : Nat) (m : Int) (lg : Nat → Int) (x : Int) : Nat → Nat → Int
  | i, 0 => i
  | i, k + 1 => if rl p r m lg (bpn p r m x i) = -1 then lvE p r m lg x (i + 1) k else i
set_option maxRecDepth 20000 in
theorem lp_level {x : Int} {p e r q N : Nat} {m : Int} {f : Nat → Int} {g : Int} {lg : Nat → Int} {F : HF} {A : HA} {al : AL} (hK : KX al) (hX : XF F) (hT : GT p e r q N m f g lg F A) (hx : El m r x) : ∀ (k i : Nat), i + k = e →
    QW mX2_level 4 0 0 (PI (lvE p r m lg x i k) F A al) 0 0 4 [some (vA 2), some (vI x), some (vI (bpn p r m x i)), some (vI i)] [] F A al := by
  obtain ⟨hG, hp, he, hq, hN, hg, ⟨hp2, hp7, he1, he4, hme, hqe, hq3, hNm, hgE⟩, hP, hL, hI⟩ := id hT
  obtain ⟨hm, hr, hf, hm2, hr1, hr6, hN4⟩ := id hG
  have hm4 := hG.m4
  have hq2 := hT.q2
  intro k
  induction k with
  | zero =>
    intro i hi
    refine q_iload_n eX2_level_4 rfl ?_
    refine q_aload_n eX2_level_5 rfl ?_
    refine q_getfield eX2_level_6 gf_X2_15 (hK _ (by decide) (by decide)) (by decide) (by assumption) ?_
    refine q_icmp_ge (tgt := 34) eX2_level_9 (by decide) (by first | assumption | exact ⟨by omega, by omega⟩) (by first | assumption | exact ⟨by omega, by omega⟩) (fun c9 => ?_) (fun c9 => ?_)
    · refine q_aload_n eX2_level_34 rfl ?_
      refine q_getfield eX2_level_35 gf_X2_15 (hK _ (by decide) (by decide)) (by decide) (by assumption) ?_
      refine q_retI eX2_level_38 rfl (by decide) (by decide) ?_
      refine PI_ok ?_
      show (e : Int) = i
      omega
    · exact absurd c9 (by omega)
  | succ k ih =>
    intro i hi
    have hd := bpn_el (p := p) (show 0 < m by omega) hx i
    have hu : InR (if rl p r m lg (bpn p r m x i) = -1 then 0 else 1) := by split <;> exact ⟨by decide, by decide⟩
    refine q_iload_n eX2_level_4 rfl ?_
    refine q_aload_n eX2_level_5 rfl ?_
    refine q_getfield eX2_level_6 gf_X2_15 (hK _ (by decide) (by decide)) (by decide) (by assumption) ?_
    refine q_icmp_ge (tgt := 34) eX2_level_9 (by decide) (by first | assumption | exact ⟨by omega, by omega⟩) (by first | assumption | exact ⟨by omega, by omega⟩) (fun c9 => ?_) (fun c9 => ?_)
    · exact absurd c9 (by omega)
    · refine q_aload_n eX2_level_12 rfl ?_
      refine q_iload_n eX2_level_13 rfl ?_
      refine q_callVP [vI (bpn p r m x i)] (M1 := mX2_isUnit) eX2_level_14 mf_X2_isUnit lk_X2_167 (hK _ (by decide) (by decide)) (ev_isUnit hK hX hT hd) (by decide) (by decide) (by decide) (Nat.le_of_ble_eq_true rfl) rfl ?_
      refine q_if_eq (tgt := 22) eX2_level_17 (by decide) (by first | assumption | exact ⟨by omega, by omega⟩) (fun c17 => ?_) (fun c17 => ?_)
      · refine q_aload_n eX2_level_22 rfl ?_
        refine q_iload_n eX2_level_23 rfl ?_
        refine q_callVP [vI (bpn p r m x i)] (M1 := mX2_byP) eX2_level_24 mf_X2_byP lk_X2_164 (hK _ (by decide) (by decide)) (ev_bp hK hX hT hd) (by decide) (by decide) (by decide) (Nat.le_of_ble_eq_true rfl) rfl ?_
        refine q_istore_n eX2_level_27 (by decide) rfl ?_
        refine q_iinc eX2_level_28 rfl (by decide) rfl ?_
        refine q_goto (tgt := 4) eX2_level_31 (by decide) ?_
        have h := ih (i + 1) (by omega)
        have e9 : lvE p r m lg x i (k + 1) = lvE p r m lg x (i + 1) k := by
          show (if rl p r m lg (bpn p r m x i) = -1 then _ else _) = _
          rw [if_pos]
          exact Classical.byContradiction fun h8 => by rw [if_neg h8] at c17; exact absurd c17 (by decide)
        rw [e9]
        exact h
      · refine q_iload_n eX2_level_20 rfl ?_
        refine q_retI eX2_level_21 rfl (by decide) (by decide) ?_
        refine PI_ok ?_
        show _ = (if rl p r m lg (bpn p r m x i) = -1 then _ else _)
        rw [if_neg]
        intro h8
        rw [if_pos h8] at c17
        exact c17 rfl
set_option maxRecDepth 20000 in
theorem ev_level {x : Int} {p e r q N : Nat} {m : Int} {f : Nat → Int} {g : Int} {lg : Nat → Int} {F : HF} {A : HA} {al : AL} (hK : KX al) (hX : XF F) (hT : GT p e r q N m f g lg F A) (hx : El m r x) : QE 4 0 0 mX2_level [vA 2, vI x] F A al (PI (lvE p r m lg x 0 e) F A al) := by
  refine QE.mk (by decide +kernel) (Nat.le_of_ble_eq_true rfl) ?_
  refine q_iload_n eX2_level_0 rfl ?_
  refine q_istore_n eX2_level_1 (by decide) rfl ?_
  refine q_iconst eX2_level_2 ?_
  refine q_istore_n eX2_level_3 (by decide) rfl ?_
  exact lp_level hK hX hT hx e 0 (by omega)
