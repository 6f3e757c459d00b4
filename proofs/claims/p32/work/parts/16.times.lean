/-! Galois: times -/
theorem Xv_rec {r : Nat} {f : Nat → Int} {k : Nat} (hr : 1 ≤ r) (hk : r ≤ k) (J : Nat) : Xv r f k J = sm r (fun i => (- f i) * Xv r f (k - r + i) J) := by
  have h0 : Xv r f r = fun j => sm r (fun i => (- f i) * Xv r f i j) := by
    have e : Xv r f r = sh r f (ev1 (r - 1)) := by
      have h1 : Xv r f (r - 1) = ev1 (r - 1) := shi_e (r - 1) (by omega)
      rw [← h1]
      show shi r f r (ev1 0) = sh r f (shi r f (r - 1) (ev1 0))
      obtain ⟨q, rfl⟩ : ∃ q, r = q + 1 := ⟨r - 1, by omega⟩
      rfl
    have hb := basis (r := r) (f := f) (b := sh r f (ev1 (r - 1))) sh_sup
    rw [e, hb]
    funext j
    apply sm_congr
    intro i hi
    have e2 : sh r f (ev1 (r - 1)) i = - f i := by
      unfold sh ev1
      rw [if_pos hi, if_pos rfl, Int.mul_one]
      by_cases hi0 : i = 0
      · rw [if_pos hi0]; omega
      · rw [if_neg hi0, if_neg (by omega)]; omega
    rw [e2]
    rfl
  have h1 := shi_lin (r := r) (f := f) r (fun i => - f i) (fun i => Xv r f i) (k - r)
  rw [← h0] at h1
  have e3 : shi r f (k - r) (Xv r f r) = Xv r f k := by
    show shi r f (k - r) (shi r f r (ev1 0)) = shi r f k (ev1 0)
    rw [shi_add]
    congr 1
    omega
  rw [e3] at h1
  rw [h1]
  apply sm_congr
  intro i hi
  show - f i * shi r f (k - r) (shi r f i (ev1 0)) J = _
  rw [shi_add]
  rfl
def tV (r : Nat) (f P : Nat → Int) (n J : Nat) : Int := sm n (fun k => P k * Xv r f k J)
theorem tV_up {r : Nat} {f P Q : Nat → Int} {n k : Nat} {v : Int} (hk : k < n) (hq : ∀ j, Q j = if j = k then P k + v else P j) (J : Nat) : tV r f Q n J = tV r f P n J + v * Xv r f k J := by
  have e : sm n (fun j => (Q j - P j) * Xv r f j J) = v * Xv r f k J := by
    rw [sm_one (n := n) (f := fun j => (Q j - P j) * Xv r f j J) hk (fun i _ hne => by rw [hq i, if_neg hne, Int.sub_self, Int.zero_mul]), hq k, if_pos rfl]
    congr 1; omega
  have e2 : sm n (fun j => (Q j - P j) * Xv r f j J) = tV r f Q n J - tV r f P n J := by
    unfold tV
    rw [← sm_sub]
    exact sm_congr fun i _ => Int.sub_mul _ _ _
  omega
theorem tV_cut {r : Nat} {f P : Nat → Int} {n n' : Nat} (h : n ≤ n') (h0 : ∀ k, n ≤ k → k < n' → P k = 0) (J : Nat) : tV r f P n' J = tV r f P n J := by
  obtain ⟨d, rfl⟩ : ∃ d, n' = n + d := ⟨n' - n, by omega⟩
  unfold tV
  rw [sm_add_n, sm_zero (n := d) (fun i hi => by rw [h0 (n + i) (by omega) (by omega), Int.zero_mul]), Int.add_zero]
theorem tV_r {r : Nat} {f P : Nat → Int} {J : Nat} (hJ : J < r) : tV r f P r J = P J := by
  unfold tV
  rw [sm_one hJ (fun i hi hne => by
    show P i * shi r f i (ev1 0) J = 0
    rw [shi_e i hi]; unfold ev1; rw [if_neg (Ne.symm hne), Int.mul_zero])]
  show P J * shi r f J (ev1 0) J = _
  rw [shi_e J hJ]; unfold ev1; rw [if_pos rfl, Int.mul_one]
def tQ (m : Int) (r : Nat) (f : Nat → Int) (x y : Int) (F : HF) (A0 : HA) (al : AL) : PO := PQ (tm m r f x y) F al (fun A2 => Off [13, 14, 15] A0 A2)
set_option maxRecDepth 20000 in
theorem lp_times3 {m x y : Int} {r : Nat} {f : Nat → Int} {F : HF} {A0 : HA} {al : AL} (hK : KX al) (hX : XF F) {d : Nat} (hd : 1 < d)
    {A : HA} {l3 l4 l5 : Option LV} (hG : GA m r f F A) (ho : Off [13, 14, 15] A0 A) (hb : ∀ k, k < 12 → 0 ≤ A 15 k ∧ A 15 k < 2147483648) (hv : ∀ J, J < r → A 15 J % m = mulV r f (fun i => dg m i x) (fun i => dg m i y) J % m) :
    QW mX2_times d 0 0 (tQ m r f x y F A0 al) 0 0 173 [some (vA 2), some (vI x), some (vI y), l3, l4, l5] [] F A al := by
  obtain ⟨hm, hr, hf, hm2, hr1, hr6, hN⟩ := id hG
  have hm4 := hG.m4
  refine q_aload_n eX2_times_173 rfl ?_
  refine q_aload_n eX2_times_174 rfl ?_
  refine q_getfield eX2_times_175 gf_X2_54 (hK _ (by decide) (by decide)) (by decide) (xf_2_13 hX) ?_
  refine q_callVP [vA 15] (M1 := mX2_gather) eX2_times_178 mf_X2_gather lk_X2_142 (hK _ (by decide) (by decide)) (ev_gather (r := r) hK hm hr hm2 (by omega) (hK _ (by decide) (by decide)) (by decide) (by omega) hb) hd (by decide) (by decide) (Nat.le_of_ble_eq_true rfl) rfl ?_
  refine q_retI eX2_times_181 rfl (by decide) (by decide) ?_
  refine ⟨?_, rfl, rfl, ho⟩
  have e : tm m r f x y = un m r (A 15) := un_congr fun i hi => (hv i hi).symm
  rw [e]
theorem red_lt {m : Int} (hm : 2 ≤ m) (hm4 : m ≤ 4096) {t g : Int} (h0 : 0 ≤ t) (h1 : t < m) (h2 : 0 ≤ g) (h3 : g < m) : 0 ≤ t * (m - g) ∧ t * (m - g) ≤ 16777216 := sq_le h0 (by omega) (by omega) (by omega) hm4
set_option maxRecDepth 20000 in
theorem lp_times2 {m x y : Int} {r : Nat} {f : Nat → Int} {F : HF} {A0 : HA} {al : AL} (hK : KX al) (hX : XF F) {d : Nat} (hd : 1 < d) : ∀ (n k : Nat) (A : HA) (l4 l5 : Option LV), GA m r f F A → Off [13, 14, 15] A0 A → r ≤ k + 1 → k + 1 = r + n → k ≤ 2 * r - 2 → (∀ j, j < 12 → 0 ≤ A 15 j ∧ A 15 j ≤ (36 + 6 * (2 * r - 2 - k) : Nat) * 16777216) →
    (∀ J, J < r → tV r f (A 15) (k + 1) J % m = mulV r f (fun i => dg m i x) (fun i => dg m i y) J % m) →
    QW mX2_times d 0 0 (tQ m r f x y F A0 al) 0 0 91 [some (vA 2), some (vI x), some (vI y), some (vI k), l4, l5] [] F A al := by
  intro n
  induction n with
  | zero =>
    intro k A l4 l5 hG ho hk hn hk2 hb hv
    obtain ⟨hm, hr, hf, hm2, hr1, hr6, hN⟩ := id hG
    refine q_iload_n eX2_times_91 rfl ?_
    refine q_aload_n eX2_times_92 rfl ?_
    refine q_getfield eX2_times_93 gf_X2_18 (hK _ (by decide) (by decide)) (by decide) (by assumption) ?_
    refine q_icmp_lt (tgt := 173) eX2_times_96 (by decide) (by first | assumption | exact ⟨by omega, by omega⟩) (by first | assumption | exact ⟨by omega, by omega⟩) (fun c96 => ?_) (fun c96 => ?_)
    · refine lp_times3 hK hX hd hG ho (fun j hj => ⟨(hb j hj).1, by have := (hb j hj).2; omega⟩) (fun J hJ => ?_)
      have h1 := hv J hJ
      rw [show k + 1 = r by omega, tV_r hJ] at h1
      exact h1
    · exact absurd c96 (by omega)
  | succ n ih =>
    intro k A l4 l5 hG ho hk hn hk2 hb hv
    obtain ⟨hm, hr, hf, hm2, hr1, hr6, hN⟩ := id hG
    have hm4 := hG.m4
    have hbk := hb k (by omega)
    have ht0 := Int.emod_nonneg (A 15 k) (b := m) (by omega)
    have ht1 := Int.emod_lt_of_pos (A 15 k) (b := m) (by omega)
    obtain ⟨t, ht⟩ : ∃ t, t = A 15 k % m := ⟨_, rfl⟩
    rw [← ht] at ht0 ht1
    have inner : ∀ (q i : Nat) (A1 : HA), i + q = r → GA m r f F A1 → Off [13, 14, 15] A0 A1 → (∀ j, j < 12 → 0 ≤ A1 15 j ∧ A1 15 j ≤ (36 + 6 * (2 * r - 2 - k) + i : Nat) * 16777216) →
        (∀ J, J < r → (tV r f (A1 15) k J + (sm r (fun i => t * (m - f i) * Xv r f (k - r + i) J) - sm i (fun i => t * (m - f i) * Xv r f (k - r + i) J))) % m = mulV r f (fun i => dg m i x) (fun i => dg m i y) J % m) →
        QW mX2_times d 0 0 (tQ m r f x y F A0 al) 0 0 119 [some (vA 2), some (vI x), some (vI y), some (vI k), some (vI t), some (vI i)] [] F A1 al := by
      intro q
      induction q with
      | zero =>
        intro i A1 hi hG1 ho1 hb1 hv1
        have hir : i = r := by omega
        subst hir
        refine q_iload eX2_times_119 rfl ?_
        refine q_aload_n eX2_times_121 rfl ?_
        refine q_getfield eX2_times_122 gf_X2_18 (hK _ (by decide) (by decide)) (by decide) (by assumption) ?_
        refine q_icmp_ge (tgt := 167) eX2_times_125 (by decide) (by first | assumption | exact ⟨by omega, by omega⟩) (by first | assumption | exact ⟨by omega, by omega⟩) (fun c125 => ?_) (fun c125 => ?_)
        · refine q_iinc eX2_times_167 rfl (by decide) rfl ?_
          refine q_goto (tgt := 91) eX2_times_170 (by decide) ?_
          have e1 : (k : Int) + -1 = ((k - 1 : Nat) : Int) := by omega
          rw [e1]
          refine ih (k - 1) A1 _ _ hG1 ho1 (by omega) (by omega) (by omega) (fun j hj => ⟨(hb1 j hj).1, ?_⟩) (fun J hJ => ?_)
          · have h2 := (hb1 j hj).2
            have e2 : 36 + 6 * (2 * i - 2 - (k - 1)) = 36 + 6 * (2 * i - 2 - k) + 6 := by omega
            rw [e2]
            omega
          · have h2 := hv1 J hJ
            rw [Int.sub_self, Int.add_zero] at h2
            rw [show k - 1 + 1 = k by omega]
            exact h2
        · exact absurd c125 (by omega)
      | succ q ihq =>
        intro i A1 hi hG1 ho1 hb1 hv1
        obtain ⟨-, -, hf1, -⟩ := id hG1
        obtain ⟨g1, g2, g3⟩ := hf1 i (by omega)
        have hu := red_lt hm2 hm4 ht0 ht1 g2 g3
        have ej : (k : Int) - r + i = ((k - r + i : Nat) : Int) := by omega
        refine q_iload eX2_times_119 rfl ?_
        refine q_aload_n eX2_times_121 rfl ?_
        refine q_getfield eX2_times_122 gf_X2_18 (hK _ (by decide) (by decide)) (by decide) (by assumption) ?_
        refine q_icmp_ge (tgt := 167) eX2_times_125 (by decide) (by first | assumption | exact ⟨by omega, by omega⟩) (by first | assumption | exact ⟨by omega, by omega⟩) (fun c125 => ?_) (fun c125 => ?_)
        · exact absurd c125 (by omega)
        · refine q_aload_n eX2_times_128 rfl ?_
          refine q_getfield eX2_times_129 gf_X2_54 (hK _ (by decide) (by decide)) (by decide) (xf_2_13 hX) ?_
          refine q_iload_n eX2_times_132 rfl ?_
          refine q_aload_n eX2_times_133 rfl ?_
          refine q_getfield eX2_times_134 gf_X2_18 (hK _ (by decide) (by decide)) (by decide) (by assumption) ?_
          refine q_isub eX2_times_137 ?_
          refine q_iload eX2_times_138 rfl ?_
          refine q_iadd eX2_times_140 ?_
          rw [ej]
          refine q_iload eX2_times_141 rfl ?_
          refine q_aload_n eX2_times_143 rfl ?_
          refine q_getfield eX2_times_144 gf_X2_21 (hK _ (by decide) (by decide)) (by decide) (by assumption) ?_
          refine q_aload_n eX2_times_147 rfl ?_
          refine q_getfield eX2_times_148 gf_X2_33 (hK _ (by decide) (by decide)) (by decide) (xf_2_7 hX) ?_
          refine q_iload eX2_times_151 rfl ?_
          refine q_callSP [vA 3, vI i] (M1 := mX7_at) eX2_times_153 mf_X7_at lk_X2_116 (ev_atN (k := i) (hK _ (by decide) (by decide)) (by omega) (by decide)) (by omega) (by decide) (by decide) (Nat.le_of_ble_eq_true rfl) rfl ?_
          rw [g1]
          refine q_isub eX2_times_156 ?_
          refine q_imul eX2_times_157 ?_
          refine q_callSV [vA 15, vI ((k - r + i : Nat) : Int), vI (t * (m - f i))] (M1 := mX7_add) eX2_times_158 mf_X7_add lk_X2_139 (ev_addN (hK _ (by decide) (by decide)) (by omega) (by decide)) (by omega) (by decide) (by decide) (Nat.le_of_ble_eq_true rfl) rfl (fun A9 h9 => ?_)
          subst h9
          refine q_iinc eX2_times_161 rfl (by decide) rfl ?_
          refine q_goto (tgt := 119) eX2_times_164 (by decide) ?_
          refine ihq (i + 1) _ (by omega) (hG1.off (l := [15]) (Off.up (by simp)) (by simp)) (ho1.trans (Off.up (by simp))) (fun j hj => ?_) (fun J hJ => ?_)
          · rw [up2_at]
            have h2 := hb1 j hj
            have h3 := hb1 (k - r + i) (by omega)
            split <;> omega
          · have h2 := hv1 J hJ
            rw [tV_up (P := A1 15) (k := k - r + i) (v := t * (m - f i)) (by omega) (fun j => up2_at _ _ _ _ j) J]
            have e2 : sm (i + 1) (fun i => t * (m - f i) * Xv r f (k - r + i) J) = sm i (fun i => t * (m - f i) * Xv r f (k - r + i) J) + t * (m - f i) * Xv r f (k - r + i) J := rfl
            rw [e2, ← h2]
            congr 1
            omega
    refine q_iload_n eX2_times_91 rfl ?_
    refine q_aload_n eX2_times_92 rfl ?_
    refine q_getfield eX2_times_93 gf_X2_18 (hK _ (by decide) (by decide)) (by decide) (by assumption) ?_
    refine q_icmp_lt (tgt := 173) eX2_times_96 (by decide) (by first | assumption | exact ⟨by omega, by omega⟩) (by first | assumption | exact ⟨by omega, by omega⟩) (fun c96 => ?_) (fun c96 => ?_)
    · exact absurd c96 (by omega)
    · refine q_aload_n eX2_times_99 rfl ?_
      refine q_getfield eX2_times_100 gf_X2_54 (hK _ (by decide) (by decide)) (by decide) (xf_2_13 hX) ?_
      refine q_iload_n eX2_times_103 rfl ?_
      refine q_callSP [vA 15, vI k] (M1 := mX7_at) eX2_times_104 mf_X7_at lk_X2_116 (ev_atN (k := k) (hK _ (by decide) (by decide)) (by omega) (by decide)) (by omega) (by decide) (by decide) (Nat.le_of_ble_eq_true rfl) rfl ?_
      refine q_aload_n eX2_times_107 rfl ?_
      refine q_getfield eX2_times_108 gf_X2_21 (hK _ (by decide) (by decide)) (by decide) (by assumption) ?_
      refine q_callSP [vI (A 15 k), vI m] (M1 := mX7_remainder) eX2_times_111 mf_X7_remainder lk_X2_87 (ev_remP hbk.1 (by omega) (by omega) (by omega)) (by omega) (by decide) (by decide) (Nat.le_of_ble_eq_true rfl) rfl ?_
      rw [← ht]
      refine q_istore eX2_times_114 (by decide) rfl ?_
      refine q_iconst eX2_times_116 ?_
      refine q_istore eX2_times_117 (by decide) rfl ?_
      refine inner r 0 A (by omega) hG ho hb (fun J hJ => ?_)
      rw [← hv J hJ]
      show (tV r f (A 15) k J + (sm r (fun i => t * (m - f i) * Xv r f (k - r + i) J) - 0)) % m = (tV r f (A 15) k J + A 15 k * Xv r f k J) % m
      rw [Int.sub_zero, Int.add_emod, Int.add_emod (tV r f (A 15) k J)]
      congr 2
      have e1 : sm r (fun i => t * (m - f i) * Xv r f (k - r + i) J) = m * sm r (fun i => t * Xv r f (k - r + i) J) + t * Xv r f k J := by
        rw [Xv_rec (by omega) (by omega) J, ← sm_mul, ← sm_mul, ← sm_add]
        apply sm_congr
        intro i _
        rw [Int.mul_sub, Int.sub_mul, Int.neg_mul, Int.mul_neg, Int.mul_left_comm m t, Int.mul_assoc t m, Int.mul_assoc t (f i)]
        omega
      rw [e1, Int.mul_add_emod_self_left, ht, Int.mul_emod, Int.emod_emod, ← Int.mul_emod]
set_option maxRecDepth 20000 in
theorem lp_times1 {m x y : Int} {r : Nat} {f : Nat → Int} {F : HF} {A0 : HA} {al : AL} (hK : KX al) (hX : XF F) {d : Nat} (hd : 1 < d) (hx : El m r x) (hy : El m r y) : ∀ (n i j : Nat) (A : HA) (l5 : Option LV), n + (6 * i + j) + i = 42 → i < 6 → j ≤ 6 → GA m r f F A → Off [13, 14, 15] A0 A → (∀ k, k < 6 → A 13 k = dg m k x) → (∀ k, k < 6 → A 14 k = dg m k y) → (∀ k, k < 12 → 0 ≤ A 15 k ∧ A 15 k ≤ (6 * i + j : Nat) * 16777216) → (∀ k, 2 * r - 1 ≤ k → k < 12 → A 15 k = 0) →
    (∀ J, tV r f (A 15) 12 J = sm i (fun a => sm 6 (fun b => dg m a x * dg m b y * Xv r f (a + b) J)) + sm j (fun b => dg m i x * dg m b y * Xv r f (i + b) J)) →
    QW mX2_times d 0 0 (tQ m r f x y F A0 al) 0 0 37 [some (vA 2), some (vI x), some (vI y), some (vI i), some (vI j), l5] [] F A al := by
  intro n
  induction n with
  | zero => intro i j A l5 hn hi hj; omega
  | succ n ih =>
    intro i j A l5 hn hi hj hG ho hl hrr hb hz hv
    obtain ⟨hm, hr, hf, hm2, hr1, hr6, hN⟩ := id hG
    have hm4 := hG.m4
    have hL := dg_range (m := m) (by omega) i x
    have hR := dg_range (m := m) (by omega) j y
    have hu := sq_le hL.1 (by omega) hR.1 (by omega) hm4 (b := dg m j y)
    have ej : (i : Int) + j = ((i + j : Nat) : Int) := by omega
    refine q_iload eX2_times_37 rfl ?_
    refine q_bipush eX2_times_39 (by decide +kernel) ?_
    refine q_icmp_ge (tgt := 76) eX2_times_41 (by decide) (by first | assumption | exact ⟨by omega, by omega⟩) (by first | assumption | exact ⟨by omega, by omega⟩) (fun c41 => ?_) (fun c41 => ?_)
    · refine q_iinc eX2_times_76 rfl (by decide) rfl ?_
      refine q_goto (tgt := 28) eX2_times_79 (by decide) ?_
      refine q_iload_n eX2_times_28 rfl ?_
      refine q_bipush eX2_times_29 (by decide +kernel) ?_
      refine q_icmp_ge (tgt := 82) eX2_times_31 (by decide) (by first | assumption | exact ⟨by omega, by omega⟩) (by first | assumption | exact ⟨by omega, by omega⟩) (fun c31 => ?_) (fun c31 => ?_)
      · have hi5 : i = 5 := by omega
        have hj6 : j = 6 := by omega
        subst hi5; subst hj6
        refine q_iconst eX2_times_82 ?_
        refine q_aload_n eX2_times_83 rfl ?_
        refine q_getfield eX2_times_84 gf_X2_18 (hK _ (by decide) (by decide)) (by decide) (by assumption) ?_
        refine q_imul eX2_times_87 ?_
        refine q_iconst eX2_times_88 ?_
        refine q_isub eX2_times_89 ?_
        refine q_istore_n eX2_times_90 (by decide) rfl ?_
        have e1 : (2 : Int) * r - 2 = ((2 * r - 2 : Nat) : Int) := by omega
        rw [e1]
        refine lp_times2 hK hX hd (r - 1) (2 * r - 2) A _ _ hG ho (by omega) (by omega) (by omega) (fun k hk => ⟨(hb k hk).1, by have := (hb k hk).2; omega⟩) (fun J hJ => ?_)
        have h1 := hv J
        rw [tV_cut (n := 2 * r - 1) (by omega) hz] at h1
        rw [show 2 * r - 2 + 1 = 2 * r - 1 by omega, h1]
        have e2 : mulV r f (fun i => dg m i x) (fun i => dg m i y) J = sm 6 (fun a => sm 6 (fun b => dg m a x * dg m b y * Xv r f (a + b) J)) := by
          rw [mulV_X (dg_sup (by omega) hy)]
          have e3 : ∀ (g : Nat → Int), (∀ i, r ≤ i → g i = 0) → sm 6 g = sm r g := by
            intro g hg
            obtain ⟨q, hq⟩ : ∃ q, 6 = r + q := ⟨6 - r, by omega⟩
            rw [hq, sm_add_n, sm_zero (n := q) (fun i _ => hg (r + i) (by omega)), Int.add_zero]
          rw [e3 (fun a => sm 6 (fun b => dg m a x * dg m b y * Xv r f (a + b) J)) (fun a ha => sm_zero fun b _ => by rw [show dg m a x = 0 from dg_sup (by omega) hx a ha, Int.zero_mul, Int.zero_mul])]
          apply sm_congr
          intro a _
          rw [e3 (fun b => dg m a x * dg m b y * Xv r f (a + b) J) (fun b hb => by rw [show dg m b y = 0 from dg_sup (by omega) hy b hb, Int.mul_zero, Int.zero_mul])]
        rw [e2]
        rfl
      · refine q_iconst eX2_times_34 ?_
        refine q_istore eX2_times_35 (by decide) rfl ?_
        refine ih (i + 1) 0 A _ (by omega) (by omega) (by omega) hG ho hl hrr (fun k hk => ⟨(hb k hk).1, by have := (hb k hk).2; omega⟩) hz (fun J => ?_)
        have hj6 : j = 6 := by omega
        subst hj6
        rw [hv J]
        show _ = (sm i _ + sm 6 _) + 0
        omega
    · refine q_aload_n eX2_times_44 rfl ?_
      refine q_getfield eX2_times_45 gf_X2_54 (hK _ (by decide) (by decide)) (by decide) (xf_2_13 hX) ?_
      refine q_iload_n eX2_times_48 rfl ?_
      refine q_iload eX2_times_49 rfl ?_
      refine q_iadd eX2_times_51 ?_
      rw [ej]
      refine q_dup2 eX2_times_52 rfl rfl ?_
      refine q_iald eX2_times_53 (hK _ (by decide) (by decide)) (by omega) (by omega) ?_
      refine q_aload_n eX2_times_54 rfl ?_
      refine q_getfield eX2_times_55 gf_X2_48 (hK _ (by decide) (by decide)) (by decide) (xf_2_11 hX) ?_
      refine q_iload_n eX2_times_58 rfl ?_
      refine q_iald eX2_times_59 (hK _ (by decide) (by decide)) (by omega) (by omega) ?_
      refine q_aload_n eX2_times_60 rfl ?_
      refine q_getfield eX2_times_61 gf_X2_51 (hK _ (by decide) (by decide)) (by decide) (xf_2_12 hX) ?_
      refine q_iload eX2_times_64 rfl ?_
      refine q_iald eX2_times_66 (hK _ (by decide) (by decide)) (by omega) (by omega) ?_
      rw [show A 13 (i : Int).toNat = dg m i x from hl i (by omega), show A 14 (j : Int).toNat = dg m j y from hrr j (by omega)]
      refine q_imul eX2_times_67 ?_
      refine q_iadd eX2_times_68 ?_
      refine q_iast eX2_times_69 (hK _ (by decide) (by decide)) (by omega) (by omega) ?_
      refine q_iinc eX2_times_70 rfl (by decide) rfl ?_
      refine q_goto (tgt := 37) eX2_times_73 (by decide) ?_
      refine ih i (j + 1) _ _ (by omega) hi (by omega) (hG.off (l := [15]) (Off.up (by simp)) (by simp)) (ho.trans (Off.up (by simp))) (fun k hk => by rw [up2_row (by decide)]; exact hl k hk) (fun k hk => by rw [up2_row (by decide)]; exact hrr k hk) (fun k hk => ?_) (fun k hk1 hk2 => ?_) (fun J => ?_)
      · rw [up2_at]
        have h1 := hb k hk
        have h2 := hb (i + j) (by omega)
        have e9 : ((i + j : Nat) : Int).toNat = i + j := rfl
        split
        · rw [e9]; omega
        · omega
      · rw [up2_at]
        have e9 : ((i + j : Nat) : Int).toNat = i + j := rfl
        split
        · next hk3 =>
          rw [e9] at hk3 ⊢
          have h1 := hz k hk1 hk2
          rw [hk3] at h1
          rw [h1]
          rcases Nat.lt_or_ge i r with q | q
          · rw [show dg m j y = 0 from dg_sup (by omega) hy j (by omega), Int.mul_zero]; rfl
          · rw [show dg m i x = 0 from dg_sup (by omega) hx i q, Int.zero_mul]; rfl
        · exact hz k hk1 hk2
      · have e9 : ((i + j : Nat) : Int).toNat = i + j := rfl
        rw [e9, tV_up (n := 12) (P := A 15) (k := i + j) (v := dg m i x * dg m j y) (by omega) (fun q => up2_at _ _ _ _ q) J, hv J]
        show _ = _ + (sm j (fun b => dg m i x * dg m b y * Xv r f (i + b) J) + dg m i x * dg m j y * Xv r f (i + j) J)
        omega
set_option maxRecDepth 20000 in
theorem ev_times {m x y : Int} {r : Nat} {f : Nat → Int} {F : HF} {A : HA} {al : AL} (hK : KX al) (hX : XF F) (hG : GA m r f F A) (hx : El m r x) (hy : El m r y) : QE 2 0 0 mX2_times [vA 2, vI x, vI y] F A al (tQ m r f x y F A al) := by
  refine QE.mk (by decide +kernel) (Nat.le_of_ble_eq_true rfl) ?_
  obtain ⟨hm, hr, hf, hm2, hr1, hr6, hN⟩ := id hG
  have hm4 := hG.m4
  have hx1 := hx.lt hN
  have hy1 := hy.lt hN
  have hd : 1 < 2 := by decide
  have hd2 : 0 < 2 := by decide
  refine q_aload_n eX2_times_0 rfl ?_
  refine q_iload_n eX2_times_1 rfl ?_
  refine q_aload_n eX2_times_2 rfl ?_
  refine q_getfield eX2_times_3 gf_X2_48 (hK _ (by decide) (by decide)) (by decide) (xf_2_11 hX) ?_
  refine q_callVV [vI x, vA 13] (M1 := mX2_spread) eX2_times_6 mf_X2_spread lk_X2_120 (hK _ (by decide) (by decide)) (ev_spread hK hm hm2 (by omega) (hK _ (by decide) (by decide)) (by decide) (by omega) (by omega)) hd2 (by decide) (by decide) (Nat.le_of_ble_eq_true rfl) rfl (fun A1 h1 => ?_)
  obtain ⟨o1, v1⟩ := h1
  refine q_aload_n eX2_times_9 rfl ?_
  refine q_iload_n eX2_times_10 rfl ?_
  refine q_aload_n eX2_times_11 rfl ?_
  refine q_getfield eX2_times_12 gf_X2_51 (hK _ (by decide) (by decide)) (by decide) (xf_2_12 hX) ?_
  refine q_callVV [vI y, vA 14] (M1 := mX2_spread) eX2_times_15 mf_X2_spread lk_X2_120 (hK _ (by decide) (by decide)) (ev_spread hK hm hm2 (by omega) (hK _ (by decide) (by decide)) (by decide) (by omega) (by omega)) hd2 (by decide) (by decide) (Nat.le_of_ble_eq_true rfl) rfl (fun A2 h2 => ?_)
  obtain ⟨o2, v2⟩ := h2
  refine q_aload_n eX2_times_18 rfl ?_
  refine q_getfield eX2_times_19 gf_X2_54 (hK _ (by decide) (by decide)) (by decide) (xf_2_13 hX) ?_
  refine q_iconst eX2_times_22 ?_
  refine q_callSV [vA 15, vI 0] (M1 := mJ7_fill_53178) eX2_times_23 mf_J7_fill_53178 lk_X2_97 (ev_fill (hK _ (by decide) (by decide)) (by decide)) hd2 (by decide) (by decide) (Nat.le_of_ble_eq_true rfl) rfl (fun A3 h3 => ?_)
  obtain ⟨o3, v3⟩ := h3
  refine q_iconst eX2_times_26 ?_
  refine q_istore_n eX2_times_27 (by decide) rfl ?_
  refine q_iload_n eX2_times_28 rfl ?_
  refine q_bipush eX2_times_29 (by decide +kernel) ?_
  refine q_icmp_ge (tgt := 82) eX2_times_31 (by decide) (by first | assumption | exact ⟨by omega, by omega⟩) (by first | assumption | exact ⟨by omega, by omega⟩) (fun c31 => ?_) (fun c31 => ?_)
  · exact absurd c31 (by omega)
  · refine q_iconst eX2_times_34 ?_
    refine q_istore eX2_times_35 (by decide) rfl ?_
    refine lp_times1 hK hX hd hx hy 42 0 0 A3 _ (by omega) (by omega) (by omega) (((hG.off o1 (by simp)).off o2 (by simp)).off o3 (by simp)) ((o1.mono (by simp)).trans ((o2.mono (by simp)).trans (o3.mono (by simp)))) (fun k hk => ?_) (fun k hk => ?_) (fun k hk => ?_) (fun k _ hk => v3 k hk) (fun J => ?_)
    · rw [o3 13 (by simp), o2 13 (by simp)]; exact v1 k hk
    · rw [o3 14 (by simp)]; exact v2 k hk
    · rw [v3 k hk]; omega
    · unfold tV
      rw [sm_zero (fun k hk => by rw [v3 k hk, Int.zero_mul])]
      rfl
