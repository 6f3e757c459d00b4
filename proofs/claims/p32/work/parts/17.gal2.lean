/-! Galois: power, grow, evaluate, rebase, byP -/
theorem GA.s3 {m : Int} {r : Nat} {f : Nat → Int} {F : HF} {A A2 : HA} (h : GA m r f F A) (ho : Off [13, 14, 15] A A2) : GA m r f F A2 := h.off ho (by decide)
theorem pw_two {m : Int} {r : Nat} {f : Nat → Int} (hm : 2 ≤ m) (hr : 0 < r) {x : Int} (hx : El m r x) (k : Nat) : pw m r f x (2 * k) = pw m r f (tm m r f x x) k := by
  rw [pw_mul hm hr hx]
  congr 1
  show tm m r f (tm m r f 1 x) x = _
  rw [one_tm hm hr hx]
theorem pw_step {m : Int} {r : Nat} {f : Nat → Int} (hm : 2 ≤ m) (hr : 0 < r) {x a : Int} (hx : El m r x) (ha : El m r a) (n : Nat) :
    tm m r f a (pw m r f x n) = tm m r f (if n % 2 = 1 then tm m r f a x else a) (pw m r f (tm m r f x x) (n / 2)) := by
  have h0 : 0 < m := by omega
  have e : n = 2 * (n / 2) + n % 2 := by omega
  have hp := pw_el (f := f) hm hr (tm m r f x x) (n / 2)
  split
  · next h =>
    conv => lhs; rw [e, h, Nat.add_comm, pw_add hm hr hx, pw_one hm hr hx, pw_two hm hr hx]
    rw [tm_assoc h0 ha hx hp]
  · next h =>
    have h2 : n % 2 = 0 := by omega
    conv => lhs; rw [e, h2, Nat.add_zero, pw_two hm hr hx]
set_option maxRecDepth 20000 in
theorem lp_power {m : Int} {r : Nat} {f : Nat → Int} {x0 n0 T : Int} {F : HF} {A0 : HA} {al : AL} (hK : KX al) (hX : XF F) : ∀ (k n : Nat) (made sq : Int) (A : HA), n ≤ k → (n : Int) < 2147483648 → GA m r f F A → Off [13, 14, 15] A0 A → El m r made → El m r sq → tm m r f made (pw m r f sq n) = T →
    QW mX2_power 3 0 0 (PQ T F al (fun A2 => Off [13, 14, 15] A0 A2)) 0 0 8 [some (vA 2), some (vI x0), some (vI n0), some (vI made), some (vI sq), some (vI n)] [] F A al := by
  intro k
  induction k with
  | zero =>
    intro n made sq A hn hn2 hG ho h1 h2 hT
    have e : n = 0 := by omega
    subst e
    have hm2 := hG.2.2.2.1
    have hr1 := hG.2.2.2.2.1
    refine q_iload eX2_power_8 rfl ?_
    refine q_if_le (tgt := 59) eX2_power_10 (by decide) (by first | assumption | exact ⟨by omega, by omega⟩) (fun c10 => ?_) (fun c10 => ?_)
    · refine q_iload_n eX2_power_59 rfl ?_
      refine q_retI eX2_power_60 rfl (by decide) (by decide) ?_
      refine ⟨?_, rfl, rfl, ho⟩
      have e := tm_one (f := f) hm2 hr1 h1
      rw [← hT, show pw m r f sq 0 = 1 from rfl, e]
    · exact absurd c10 (by omega)
  | succ k ih =>
    intro n made sq A hn hn2 hG ho h1 h2 hT
    obtain ⟨hm, hr, hf, hm2, hr1, hr6, hN⟩ := id hG
    have h0 : 0 < m := by omega
    have hs := pw_step (f := f) hm2 hr1 h2 h1 n
    rw [hT] at hs
    have hmod := Int.emod_nonneg (n : Int) (b := 2) (by omega)
    have hmod2 := Int.emod_lt_of_pos (n : Int) (b := 2) (by omega)
    have ed : (n : Int) / 2 ^ 1 = ((n / 2 : Nat) : Int) := by rw [show (2:Int) ^ 1 = 2 from rfl]; omega
    have tail : ∀ (md : Int) (A1 : HA), GA m r f F A1 → Off [13, 14, 15] A0 A1 → El m r md → 0 < n → tm m r f md (pw m r f (tm m r f sq sq) (n / 2)) = T →
        QW mX2_power 3 0 0 (PQ T F al (fun A2 => Off [13, 14, 15] A0 A2)) 0 0 29 [some (vA 2), some (vI x0), some (vI n0), some (vI md), some (vI sq), some (vI n)] [] F A1 al := by
      intro md A1 hG1 ho1 hmd hpos ht
      refine q_iload eX2_power_29 rfl ?_
      refine q_iconst eX2_power_31 ?_
      refine q_icmp_le (tgt := 46) eX2_power_32 (by decide) (by first | assumption | exact ⟨by omega, by omega⟩) (by first | assumption | exact ⟨by omega, by omega⟩) (fun c32 => ?_) (fun c32 => ?_)
      · refine q_iload eX2_power_46 rfl ?_
        refine q_istore eX2_power_48 (by decide) rfl ?_
        refine q_iload eX2_power_50 rfl ?_
        refine q_iconst eX2_power_52 ?_
        refine q_ishr eX2_power_53 ⟨by omega, by omega⟩ rfl (by decide) ?_
        refine q_istore eX2_power_54 (by decide) rfl ?_
        refine q_goto (tgt := 8) eX2_power_56 (by decide) ?_
        rw [ed]
        first
        | exact ih (n / 2) md _ _ (by omega) (by omega) (hG1.s3 h9) (ho1.trans h9) hmd (tm_el h0 _ _) ht
        | (refine ih (n / 2) md _ _ (by omega) (by omega) hG1 ho1 hmd h2 ?_
           rw [← ht, show n / 2 = 0 by omega]
           rfl)
      · refine q_aload_n eX2_power_35 rfl ?_
        refine q_iload eX2_power_36 rfl ?_
        refine q_iload eX2_power_38 rfl ?_
        refine q_callVQ [vI sq, vI sq] (M1 := mX2_times) eX2_power_40 mf_X2_times lk_X2_132 (hK _ (by decide) (by decide)) (ev_times hK hX hG1 h2 h2) (by decide) (by decide) (by decide) (Nat.le_of_ble_eq_true rfl) rfl (fun A2 h9 => ?_)
        refine q_goto (tgt := 48) eX2_power_43 (by decide) ?_
        refine q_istore eX2_power_48 (by decide) rfl ?_
        refine q_iload eX2_power_50 rfl ?_
        refine q_iconst eX2_power_52 ?_
        refine q_ishr eX2_power_53 ⟨by omega, by omega⟩ rfl (by decide) ?_
        refine q_istore eX2_power_54 (by decide) rfl ?_
        refine q_goto (tgt := 8) eX2_power_56 (by decide) ?_
        rw [ed]
        first
        | exact ih (n / 2) md _ _ (by omega) (by omega) (hG1.s3 h9) (ho1.trans h9) hmd (tm_el h0 _ _) ht
        | (refine ih (n / 2) md _ _ (by omega) (by omega) hG1 ho1 hmd h2 ?_
           rw [← ht, show n / 2 = 0 by omega]
           rfl)
    refine q_iload eX2_power_8 rfl ?_
    refine q_if_le (tgt := 59) eX2_power_10 (by decide) (by first | assumption | exact ⟨by omega, by omega⟩) (fun c10 => ?_) (fun c10 => ?_)
    · refine q_iload_n eX2_power_59 rfl ?_
      refine q_retI eX2_power_60 rfl (by decide) (by decide) ?_
      refine ⟨?_, rfl, rfl, ho⟩
      have e : n = 0 := by omega
      subst e
      have e := tm_one (f := f) hm2 hr1 h1
      rw [← hT, show pw m r f sq 0 = 1 from rfl, e]
    · refine q_iload eX2_power_13 rfl ?_
      refine q_iconst eX2_power_15 ?_
      refine q_iand1 eX2_power_16 ?_
      refine q_iconst eX2_power_17 ?_
      refine q_icmp_ne (tgt := 29) eX2_power_18 (by decide) ⟨by omega, by omega⟩ ⟨by omega, by omega⟩ (fun c18 => ?_) (fun c18 => ?_)
      · first
        | exact tail _ _ (hG.s3 h9) (ho.trans h9) (tm_el h0 _ _) (by omega) (by rw [if_pos (by omega)] at hs; exact hs.symm)
        | exact tail _ _ hG ho h1 (by omega) (by rw [if_neg (by omega)] at hs; exact hs.symm)
      · refine q_aload_n eX2_power_21 rfl ?_
        refine q_iload_n eX2_power_22 rfl ?_
        refine q_iload eX2_power_23 rfl ?_
        refine q_callVQ [vI made, vI sq] (M1 := mX2_times) eX2_power_25 mf_X2_times lk_X2_132 (hK _ (by decide) (by decide)) (ev_times hK hX hG h1 h2) (by decide) (by decide) (by decide) (Nat.le_of_ble_eq_true rfl) rfl (fun A2 h9 => ?_)
        refine q_istore_n eX2_power_28 (by decide) rfl ?_
        first
        | exact tail _ _ (hG.s3 h9) (ho.trans h9) (tm_el h0 _ _) (by omega) (by rw [if_pos (by omega)] at hs; exact hs.symm)
        | exact tail _ _ hG ho h1 (by omega) (by rw [if_neg (by omega)] at hs; exact hs.symm)
set_option maxRecDepth 20000 in
theorem ev_power {x : Int} {n : Nat} {m : Int} {r : Nat} {f : Nat → Int} {F : HF} {A : HA} {al : AL} (hK : KX al) (hX : XF F) (hG : GA m r f F A) (hx : El m r x) (hn : (n : Int) < 2147483648) : QE 3 0 0 mX2_power [vA 2, vI x, vI n] F A al (PQ (pw m r f x n) F al (fun A2 => Off [13, 14, 15] A A2)) := by
  refine QE.mk (by decide +kernel) (Nat.le_of_ble_eq_true rfl) ?_
  obtain ⟨hm, hr, hf, hm2, hr1, hr6, hN⟩ := id hG
  have hm4 := hG.m4
  refine q_iconst eX2_power_0 ?_
  refine q_istore_n eX2_power_1 (by decide) rfl ?_
  refine q_iload_n eX2_power_2 rfl ?_
  refine q_istore eX2_power_3 (by decide) rfl ?_
  refine q_iload_n eX2_power_5 rfl ?_
  refine q_istore eX2_power_6 (by decide) rfl ?_
  exact lp_power hK hX n n 1 x A (Nat.le_refl _) hn hG Off.rfl' (el_one hm2 hr1) hx (one_tm hm2 hr1 (pw_el hm2 hr1 x n))
def gwE (m : Int) (r : Nat) (f c : Nat → Int) (root : Int) (i : Nat) : Int := mi m r (if i = 0 then 0 else c (i - 1)) (tm m r f root (c i))
theorem gw_el {m : Int} {r : Nat} {f c : Nat → Int} (hm : 0 < m) (root : Int) (i : Nat) : El m r (gwE m r f c root i) := mi_el hm _ _
set_option maxRecDepth 20000 in
theorem lp_grow {m : Int} {r : Nat} {f c : Nat → Int} {root : Int} {a n D : Nat} {F : HF} {A0 : HA} {al : AL} (hK : KX al) (hX : XF F) (hk : al.1 a = (0, n)) (hn : n < 2147483648) (ha : a ≠ 3 ∧ a ≠ 13 ∧ a ≠ 14 ∧ a ≠ 15) (hD : D + 1 < n) (hroot : El m r root) (hc : ∀ i, i ≤ D + 1 → El m r (c i)) : ∀ (i : Nat) (A : HA) (l5 : Option LV), i ≤ D + 2 → okS [some (vA 2), some (vA a), some (vI D), some (vI root), some (vI ((i : Int) - 1)), l5] 5 = true → GA m r f F A → Off [a, 13, 14, 15] A0 A → (∀ j, j < i → A a j = c j) → (∀ j, i ≤ j → j ≤ D + 1 → A a j = gwE m r f c root j) → (∀ j, D + 1 < j → A a j = A0 a j) →
    QW mX2_grow 3 0 0 (PV F al (fun A2 => Off [a, 13, 14, 15] A0 A2 ∧ (∀ j, j ≤ D + 1 → A2 a j = gwE m r f c root j) ∧ ∀ j, D + 1 < j → A2 a j = A0 a j)) 0 0 5 [some (vA 2), some (vA a), some (vI D), some (vI root), some (vI ((i : Int) - 1)), l5] [] F A al := by
  intro i
  induction i with
  | zero =>
    intro A l5 hi hl5 hG ho h1 h2 h3
    refine q_iload eX2_grow_5 rfl ?_
    refine q_if_lt (tgt := 49) eX2_grow_7 (by decide) (by first | assumption | exact ⟨by omega, by omega⟩) (fun c7 => ?_) (fun c7 => ?_)
    · refine q_retV eX2_grow_49 rfl (by decide) (by decide) ?_
      exact ⟨rfl, rfl, rfl, ho, fun j hj => h2 j (Nat.zero_le _) hj, h3⟩
    · exact absurd c7 (by omega)
  | succ i ih =>
    intro A l5 hi hl5 hG ho h1 h2 h3
    obtain ⟨hm, hr, hf, hm2, hr1, hr6, hN⟩ := id hG
    have h0 : 0 < m := by omega
    have e0 : ((i + 1 : Nat) : Int) - 1 = (i : Int) := by omega
    rw [e0]
    have hlow : atS A a n ((i : Int) - 1) = if i = 0 then 0 else c (i - 1) := by
      split
      · next h => subst h; rfl
      · next h =>
        rw [show (i : Int) - 1 = ((i - 1 : Nat) : Int) by omega, atS_nat (by omega)]
        exact h1 (i - 1) (by omega)
    have hle : El m r (if i = 0 then 0 else c (i - 1)) := by
      split
      · exact el_zero h0
      · exact hc (i - 1) (by omega)
    refine q_iload eX2_grow_5 rfl ?_
    refine q_if_lt (tgt := 49) eX2_grow_7 (by decide) (by first | assumption | exact ⟨by omega, by omega⟩) (fun c7 => ?_) (fun c7 => ?_)
    · exact absurd c7 (by omega)
    · refine q_aload_n eX2_grow_10 rfl ?_
      refine q_iload eX2_grow_11 rfl ?_
      refine q_iconst eX2_grow_13 ?_
      refine q_isub eX2_grow_14 ?_
      refine q_callSP [vA a, vI ((i : Int) - 1)] (M1 := mX7_at) eX2_grow_15 mf_X7_at lk_X2_116 (ev_at hk ⟨by omega, by omega⟩ hn) (by decide) (by decide) (by decide) (Nat.le_of_ble_eq_true rfl) rfl ?_
      rw [hlow]
      refine q_istore eX2_grow_18 (by decide) rfl ?_
      refine q_aload_n eX2_grow_20 rfl ?_
      refine q_iload eX2_grow_21 rfl ?_
      refine q_aload_n eX2_grow_23 rfl ?_
      refine q_iload eX2_grow_24 rfl ?_
      refine q_aload_n eX2_grow_26 rfl ?_
      refine q_iload_n eX2_grow_27 rfl ?_
      refine q_aload_n eX2_grow_28 rfl ?_
      refine q_iload eX2_grow_29 rfl ?_
      refine q_callSP [vA a, vI i] (M1 := mX7_at) eX2_grow_31 mf_X7_at lk_X2_116 (ev_atN hk (by omega) hn) (by decide) (by decide) (by decide) (Nat.le_of_ble_eq_true rfl) rfl ?_
      rw [h1 i (by omega)]
      refine q_callVQ [vI root, vI (c i)] (M1 := mX2_times) eX2_grow_34 mf_X2_times lk_X2_132 (hK _ (by decide) (by decide)) (ev_times hK hX hG hroot (hc i (by omega))) (by decide) (by decide) (by decide) (Nat.le_of_ble_eq_true rfl) rfl (fun A2 h9 => ?_)
      refine q_callVP [vI (if i = 0 then 0 else c (i - 1)), vI (tm m r f root (c i))] (M1 := mX2_minus) eX2_grow_37 mf_X2_minus lk_X2_146 (hK _ (by decide) (by decide)) (ev_minus hK hX (hG.s3 h9) hle (tm_el h0 _ _)) (by decide) (by decide) (by decide) (Nat.le_of_ble_eq_true rfl) rfl ?_
      refine q_callSV [vA a, vI i, vI (gwE m r f c root i)] (M1 := mX7_set) eX2_grow_40 mf_X7_set lk_X2_90 (ev_setN hk (by omega) hn) (by decide) (by decide) (by decide) (Nat.le_of_ble_eq_true rfl) rfl (fun A3 h3b => ?_)
      subst h3b
      refine q_iinc eX2_grow_43 rfl (by decide) rfl ?_
      refine q_goto (tgt := 5) eX2_grow_46 (by decide) ?_
      rw [show (i : Int) + -1 = (i : Int) - 1 by omega]
      have ea : A2 a = A a := h9 a (by simp; omega)
      refine ih _ _ (by omega) rfl ((hG.s3 h9).off (l := [a]) (Off.up (by simp)) (by simp; omega)) ((ho.trans (h9.mono (fun b hb => List.mem_cons_of_mem _ hb))).trans (Off.up (by simp))) (fun j hj => ?_) (fun j hj hj2 => ?_) (fun j hj => ?_)
      · rw [up2_ne (by omega), ea]; exact h1 j (by omega)
      · rw [up2_at, ea]
        split
        · next he => rw [show j = i from he]
        · next hne => exact h2 j (by have : j ≠ i := hne; omega) hj2
      · rw [up2_ne (by omega), ea]; exact h3 j hj
set_option maxRecDepth 20000 in
theorem ev_grow {c : Nat → Int} {root : Int} {a n D : Nat} {m : Int} {r : Nat} {f : Nat → Int} {F : HF} {A : HA} {al : AL} (hK : KX al) (hX : XF F) (hG : GA m r f F A) (hk : al.1 a = (0, n)) (hn : n < 2147483648) (ha : a ≠ 3 ∧ a ≠ 13 ∧ a ≠ 14 ∧ a ≠ 15) (hD : D + 1 < n) (hroot : El m r root) (hc : ∀ i, i ≤ D + 1 → El m r (c i)) (hA : ∀ j, j ≤ D + 1 → A a j = c j) : QE 3 0 0 mX2_grow [vA 2, vA a, vI D, vI root] F A al (PV F al (fun A2 => Off [a, 13, 14, 15] A A2 ∧ (∀ j, j ≤ D + 1 → A2 a j = gwE m r f c root j) ∧ ∀ j, D + 1 < j → A2 a j = A a j)) := by
  refine QE.mk (by decide +kernel) (Nat.le_of_ble_eq_true rfl) ?_
  refine q_iload_n eX2_grow_0 rfl ?_
  refine q_iconst eX2_grow_1 ?_
  refine q_iadd eX2_grow_2 ?_
  refine q_istore eX2_grow_3 (by decide) rfl ?_
  rw [show (D : Int) + 1 = ((D + 2 : Nat) : Int) - 1 by omega]
  exact lp_grow hK hX hk hn ha hD hroot hc (D + 2) A _ (Nat.le_refl _) rfl hG Off.rfl' (fun j hj => hA j (by omega)) (fun j hj hj2 => by omega) (fun _ _ => rfl)
def rbE (p : Int) (r : Nat) (fr to x : Int) : Int := sm r (fun i => dg fr i x % p * to ^ i)
set_option maxRecDepth 20000 in
theorem lp_rebase {p fr to x : Int} {r : Nat} {F : HF} {A : HA} {al : AL} (hK : KX al) (hp : F 2 0 = vI p) (hr : F 2 2 = vI r) (hp1 : 0 < p) (hp2 : p < 2147483648) (hf1 : 2 ≤ fr) (hf2 : fr < 2147483648) (hx : 0 ≤ x) (hx2 : x < 2147483648) (hr6 : r ≤ 6) : ∀ (k i : Nat), i + k = r →
    QW mX2_rebase 1 0 0 (PI (rbE p r fr to x) F A al) 0 0 12 [some (vA 2), some (vI x), some (vI fr), some (vI to), some (vI (sm i (fun i => dg fr i x % p * to ^ i))), some (vI (to ^ i)), some (vI (dv fr i x)), some (vI i)] [] F A al := by
  intro k
  induction k with
  | zero =>
    intro i hi
    have e : i = r := by omega
    subst e
    refine q_iload eX2_rebase_12 rfl ?_
    refine q_aload_n eX2_rebase_14 rfl ?_
    refine q_getfield eX2_rebase_15 gf_X2_18 (hK _ (by decide) (by decide)) (by decide) (by assumption) ?_
    refine q_icmp_ge (tgt := 62) eX2_rebase_18 (by decide) (by first | assumption | exact ⟨by omega, by omega⟩) (by first | assumption | exact ⟨by omega, by omega⟩) (fun c18 => ?_) (fun c18 => ?_)
    · refine q_iload eX2_rebase_62 rfl ?_
      refine q_retI eX2_rebase_64 rfl (by decide) (by decide) ?_
      exact PI_ok rfl
    · exact absurd c18 (by omega)
  | succ k ih =>
    intro i hi
    have hd := dv_range (m := fr) (by omega) hx i
    have hg := dg_range (m := fr) (by omega) i x
    have h := ih (i + 1) (by omega)
    have e1 : sm i (fun i => dg fr i x % p * to ^ i) + to ^ i * (dg fr i x % p) = sm (i + 1) (fun i => dg fr i x % p * to ^ i) := by
      show _ = sm i (fun i => dg fr i x % p * to ^ i) + dg fr i x % p * to ^ i
      rw [Int.mul_comm]
    rw [← e1, Int.pow_succ] at h
    refine q_iload eX2_rebase_12 rfl ?_
    refine q_aload_n eX2_rebase_14 rfl ?_
    refine q_getfield eX2_rebase_15 gf_X2_18 (hK _ (by decide) (by decide)) (by decide) (by assumption) ?_
    refine q_icmp_ge (tgt := 62) eX2_rebase_18 (by decide) (by first | assumption | exact ⟨by omega, by omega⟩) (by first | assumption | exact ⟨by omega, by omega⟩) (fun c18 => ?_) (fun c18 => ?_)
    · exact absurd c18 (by omega)
    · refine q_iload eX2_rebase_21 rfl ?_
      refine q_iload eX2_rebase_23 rfl ?_
      refine q_iload eX2_rebase_25 rfl ?_
      refine q_iload_n eX2_rebase_27 rfl ?_
      refine q_callSP [vI (dv fr i x), vI fr] (M1 := mX7_remainder) eX2_rebase_28 mf_X7_remainder lk_X2_87 (ev_remP hd.1 (by omega) (by omega) hf2) (by decide) (by decide) (by decide) (Nat.le_of_ble_eq_true rfl) rfl ?_
      rw [(dv_dg i x).1]
      refine q_aload_n eX2_rebase_31 rfl ?_
      refine q_getfield eX2_rebase_32 gf_X2_9 (hK _ (by decide) (by decide)) (by decide) (by assumption) ?_
      refine q_callSP [vI (dg fr i x), vI p] (M1 := mX7_remainder) eX2_rebase_35 mf_X7_remainder lk_X2_87 (ev_remP hg.1 (by omega) hp1 hp2) (by decide) (by decide) (by decide) (Nat.le_of_ble_eq_true rfl) rfl ?_
      refine q_imul eX2_rebase_38 ?_
      refine q_iadd eX2_rebase_39 ?_
      refine q_istore eX2_rebase_40 (by decide) rfl ?_
      refine q_iload eX2_rebase_42 rfl ?_
      refine q_iload_n eX2_rebase_44 rfl ?_
      refine q_callSP [vI (dv fr i x), vI fr] (M1 := mX7_quotient) eX2_rebase_45 mf_X7_quotient lk_X2_94 (ev_quotP hd.1 (by omega) (by omega) hf2) (by decide) (by decide) (by decide) (Nat.le_of_ble_eq_true rfl) rfl ?_
      refine q_istore eX2_rebase_48 (by decide) rfl ?_
      refine q_iload eX2_rebase_50 rfl ?_
      refine q_iload_n eX2_rebase_52 rfl ?_
      refine q_imul eX2_rebase_53 ?_
      refine q_istore eX2_rebase_54 (by decide) rfl ?_
      refine q_iinc eX2_rebase_56 rfl (by decide) rfl ?_
      refine q_goto (tgt := 12) eX2_rebase_59 (by decide) ?_
      exact h
set_option maxRecDepth 20000 in
theorem ev_rebase {p fr to x : Int} {r : Nat} {F : HF} {A : HA} {al : AL} (hK : KX al) (hp : F 2 0 = vI p) (hr : F 2 2 = vI r) (hp1 : 0 < p) (hp2 : p < 2147483648) (hf1 : 2 ≤ fr) (hf2 : fr < 2147483648) (hx : 0 ≤ x) (hx2 : x < 2147483648) (hr6 : r ≤ 6) : QE 1 0 0 mX2_rebase [vA 2, vI x, vI fr, vI to] F A al (PI (rbE p r fr to x) F A al) := by
  refine QE.mk (by decide +kernel) (Nat.le_of_ble_eq_true rfl) ?_
  refine q_iconst eX2_rebase_0 ?_
  refine q_istore eX2_rebase_1 (by decide) rfl ?_
  refine q_iconst eX2_rebase_3 ?_
  refine q_istore eX2_rebase_4 (by decide) rfl ?_
  refine q_iload_n eX2_rebase_6 rfl ?_
  refine q_istore eX2_rebase_7 (by decide) rfl ?_
  refine q_iconst eX2_rebase_9 ?_
  refine q_istore eX2_rebase_10 (by decide) rfl ?_
  have h := lp_rebase (to := to) (A := A) hK hp hr hp1 hp2 hf1 hf2 hx hx2 hr6 r 0 (by omega)
  rw [Int.pow_zero] at h
  exact h
def bpE (m p : Int) (r : Nat) (x : Int) : Int := sm r (fun i => dg m i x / p * m ^ i)
set_option maxRecDepth 20000 in
theorem lp_byP {p m x : Int} {r : Nat} {F : HF} {A : HA} {al : AL} (hK : KX al) (hp : F 2 0 = vI p) (hr : F 2 2 = vI r) (hm : F 2 3 = vI m) (hp1 : 0 < p) (hp2 : p < 2147483648) (hf1 : 2 ≤ m) (hf2 : m < 2147483648) (hx : 0 ≤ x) (hx2 : x < 2147483648) (hr6 : r ≤ 6) : ∀ (k i : Nat), i + k = r →
    QW mX2_byP 1 0 0 (PI (bpE m p r x) F A al) 0 0 10 [some (vA 2), some (vI x), some (vI (sm i (fun i => dg m i x / p * m ^ i))), some (vI (m ^ i)), some (vI (dv m i x)), some (vI i)] [] F A al := by
  intro k
  induction k with
  | zero =>
    intro i hi
    have e : i = r := by omega
    subst e
    refine q_iload eX2_byP_10 rfl ?_
    refine q_aload_n eX2_byP_12 rfl ?_
    refine q_getfield eX2_byP_13 gf_X2_18 (hK _ (by decide) (by decide)) (by decide) (by assumption) ?_
    refine q_icmp_ge (tgt := 64) eX2_byP_16 (by decide) (by first | assumption | exact ⟨by omega, by omega⟩) (by first | assumption | exact ⟨by omega, by omega⟩) (fun c16 => ?_) (fun c16 => ?_)
    · refine q_iload_n eX2_byP_64 rfl ?_
      refine q_retI eX2_byP_65 rfl (by decide) (by decide) ?_
      exact PI_ok rfl
    · exact absurd c16 (by omega)
  | succ k ih =>
    intro i hi
    have hd := dv_range (m := m) (by omega) hx i
    have hg := dg_range (m := m) (by omega) i x
    have h := ih (i + 1) (by omega)
    have e1 : sm i (fun i => dg m i x / p * m ^ i) + m ^ i * (dg m i x / p) = sm (i + 1) (fun i => dg m i x / p * m ^ i) := by
      show _ = sm i (fun i => dg m i x / p * m ^ i) + dg m i x / p * m ^ i
      rw [Int.mul_comm]
    rw [← e1, Int.pow_succ] at h
    refine q_iload eX2_byP_10 rfl ?_
    refine q_aload_n eX2_byP_12 rfl ?_
    refine q_getfield eX2_byP_13 gf_X2_18 (hK _ (by decide) (by decide)) (by decide) (by assumption) ?_
    refine q_icmp_ge (tgt := 64) eX2_byP_16 (by decide) (by first | assumption | exact ⟨by omega, by omega⟩) (by first | assumption | exact ⟨by omega, by omega⟩) (fun c16 => ?_) (fun c16 => ?_)
    · exact absurd c16 (by omega)
    · refine q_iload_n eX2_byP_19 rfl ?_
      refine q_iload_n eX2_byP_20 rfl ?_
      refine q_iload eX2_byP_21 rfl ?_
      refine q_aload_n eX2_byP_23 rfl ?_
      refine q_getfield eX2_byP_24 gf_X2_21 (hK _ (by decide) (by decide)) (by decide) (by assumption) ?_
      refine q_callSP [vI (dv m i x), vI m] (M1 := mX7_remainder) eX2_byP_27 mf_X7_remainder lk_X2_87 (ev_remP hd.1 (by omega) (by omega) hf2) (by decide) (by decide) (by decide) (Nat.le_of_ble_eq_true rfl) rfl ?_
      rw [(dv_dg i x).1]
      refine q_aload_n eX2_byP_30 rfl ?_
      refine q_getfield eX2_byP_31 gf_X2_9 (hK _ (by decide) (by decide)) (by decide) (by assumption) ?_
      refine q_callSP [vI (dg m i x), vI p] (M1 := mX7_quotient) eX2_byP_34 mf_X7_quotient lk_X2_94 (ev_quotP hg.1 (by omega) hp1 hp2) (by decide) (by decide) (by decide) (Nat.le_of_ble_eq_true rfl) rfl ?_
      refine q_imul eX2_byP_37 ?_
      refine q_iadd eX2_byP_38 ?_
      refine q_istore_n eX2_byP_39 (by decide) rfl ?_
      refine q_iload eX2_byP_40 rfl ?_
      refine q_aload_n eX2_byP_42 rfl ?_
      refine q_getfield eX2_byP_43 gf_X2_21 (hK _ (by decide) (by decide)) (by decide) (by assumption) ?_
      refine q_callSP [vI (dv m i x), vI m] (M1 := mX7_quotient) eX2_byP_46 mf_X7_quotient lk_X2_94 (ev_quotP hd.1 (by omega) (by omega) hf2) (by decide) (by decide) (by decide) (Nat.le_of_ble_eq_true rfl) rfl ?_
      refine q_istore eX2_byP_49 (by decide) rfl ?_
      refine q_iload_n eX2_byP_51 rfl ?_
      refine q_aload_n eX2_byP_52 rfl ?_
      refine q_getfield eX2_byP_53 gf_X2_21 (hK _ (by decide) (by decide)) (by decide) (by assumption) ?_
      refine q_imul eX2_byP_56 ?_
      refine q_istore_n eX2_byP_57 (by decide) rfl ?_
      refine q_iinc eX2_byP_58 rfl (by decide) rfl ?_
      refine q_goto (tgt := 10) eX2_byP_61 (by decide) ?_
      exact h
set_option maxRecDepth 20000 in
theorem ev_byP {p m x : Int} {r : Nat} {F : HF} {A : HA} {al : AL} (hK : KX al) (hp : F 2 0 = vI p) (hr : F 2 2 = vI r) (hm : F 2 3 = vI m) (hp1 : 0 < p) (hp2 : p < 2147483648) (hf1 : 2 ≤ m) (hf2 : m < 2147483648) (hx : 0 ≤ x) (hx2 : x < 2147483648) (hr6 : r ≤ 6) : QE 1 0 0 mX2_byP [vA 2, vI x] F A al (PI (bpE m p r x) F A al) := by
  refine QE.mk (by decide +kernel) (Nat.le_of_ble_eq_true rfl) ?_
  refine q_iconst eX2_byP_0 ?_
  refine q_istore_n eX2_byP_1 (by decide) rfl ?_
  refine q_iconst eX2_byP_2 ?_
  refine q_istore_n eX2_byP_3 (by decide) rfl ?_
  refine q_iload_n eX2_byP_4 rfl ?_
  refine q_istore eX2_byP_5 (by decide) rfl ?_
  refine q_iconst eX2_byP_7 ?_
  refine q_istore eX2_byP_8 (by decide) rfl ?_
  have h := lp_byP (A := A) hK hp hr hm hp1 hp2 hf1 hf2 hx hx2 hr6 r 0 (by omega)
  rw [Int.pow_zero] at h
  exact h
