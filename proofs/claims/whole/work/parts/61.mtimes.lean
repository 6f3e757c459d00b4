/-! the model: products, powers -/
theorem md_step {m t v q X : Int} : (t + (v - m * q) * X) % m = (t + v * X) % m := by
  rw [show t + (v - m * q) * X = (t + v * X) + m * (-(q * X)) by rw [Int.sub_mul, Int.mul_assoc, Int.mul_neg]; omega, Int.add_mul_emod_self_left]
/-- a coefficient changed by v, then taken below m -/
theorem tV_md {r : Nat} {f P Q : Nat → Int} {n k : Nat} {m v : Int} (hm : 0 < m) (hk : k < n) (hq : ∀ j, Q j = if j = k then (P k + v) % m else P j) (J : Nat) : tV r f Q n J % m = (tV r f P n J + v * Xv r f k J) % m := by
  have e : ∀ j, Q j = if j = k then P k + (v - m * ((P k + v) / m)) else P j := by
    intro j
    rw [hq j]
    split
    · have := Int.emod_add_mul_ediv (P k + v) m
      omega
    · rfl
  rw [tV_up hk e, md_step]
theorem add_md {a b c m : Int} (h : a % m = b % m) : (a + c) % m = (b + c) % m := by rw [Int.add_emod, h, ← Int.add_emod]
set_option maxRecDepth 20000 in
theorem lp_mt3i {m : Int} {r : Nat} {f : Nat → Int} {x y : Int} {F : HF} {A0 : HA} {al : AL} (hK : KM al) (hX : MR F) (hG : GM m r f F A0) (hx : El m r x) (hy : El m r y) {c : Int} {TT : Nat → Int} {kk : Nat} (hk1 : r ≤ kk) (hk2 : kk < 2 * r) (hc0 : 0 ≤ c) (hc1 : c < m) (hc9 : c ≠ 0)
    (out : ∀ A, Off [51, 52, 53] A0 A → (∀ j, j < 2 * r → 0 ≤ A 53 j ∧ A 53 j < m) → A 53 kk = c → (∀ j, kk < j → j < 2 * r → A 53 j = 0) → (∀ J, tV r f (A 53) (2 * r) J % m = (TT J + c * Xv r f kk J) % m) → QW mX12_times 2 0 0 (PQ (tm m r f x y) F al (fun A2 => Off [51, 52, 53] A0 A2)) 0 0 209 [some (vA 44), some (vI x), some (vI y), some (vI kk), some (vI c), some (vI r)] [] F A al) : ∀ (s t : Nat) (A : HA), t + s = r → Off [51, 52, 53] A0 A → (∀ j, j < 2 * r → 0 ≤ A 53 j ∧ A 53 j < m) → A 53 kk = c → (∀ j, kk < j → j < 2 * r → A 53 j = 0) →
      (∀ J, tV r f (A 53) (2 * r) J % m = (TT J + sm t (fun i => c * (- f i * Xv r f (kk - r + i) J))) % m) →
    QW mX12_times 2 0 0 (PQ (tm m r f x y) F al (fun A2 => Off [51, 52, 53] A0 A2)) 0 0 143 [some (vA 44), some (vI x), some (vI y), some (vI kk), some (vI c), some (vI t)] [] F A al := by
  obtain ⟨hm, hr, hf, hm2, hr1, hr6, hN4⟩ := id hG
  have hm4 := hG.m4
  intro s
  induction s with
  | zero =>
    intro t A ht ho hr0 hcA hz hT
    have et : t = r := by omega
    subst et
    refine q_iload eX12_times_143 rfl ?_
    refine q_aload_n eX12_times_145 rfl ?_
    refine q_getfield eX12_times_146 gf_X12_19 (hK _ (by decide) (by decide)) (by decide) (by first | assumption) ?_
    refine q_icmp_ge (tgt := 209) eX12_times_149 (by decide) (by first | assumption | exact ⟨by omega, by omega⟩) (by first | assumption | exact ⟨by omega, by omega⟩) (fun c149 => ?_) (fun c149 => ?_)
    · refine out A ho hr0 hcA hz (fun J => ?_)
      rw [hT J, Xv_rec hr1 hk1, ← sm_mul]
    · exact absurd c149 (by omega)
  | succ s ih =>
    intro t A ht ho hr0 hcA hz hT
    obtain ⟨g1, g2, g3⟩ := hf t (by omega)
    have hP := hr0 (kk - r + t) (by omega)
    have e1 : (kk : Int) - r + t = ((kk - r + t : Nat) : Int) := by omega
    have hcf0 : 0 ≤ c * f t := Int.mul_nonneg hc0 g2
    have hcf1 : c * f t ≤ 4096 * 4096 := Int.mul_le_mul (by omega) (by omega) g2 (by omega)
    have hG1 : A 45 t = f t := by rw [ho 45 (by decide)]; exact g1
    refine q_iload eX12_times_143 rfl ?_
    refine q_aload_n eX12_times_145 rfl ?_
    refine q_getfield eX12_times_146 gf_X12_19 (hK _ (by decide) (by decide)) (by decide) (by first | assumption) ?_
    refine q_icmp_ge (tgt := 209) eX12_times_149 (by decide) (by first | assumption | exact ⟨by omega, by omega⟩) (by first | assumption | exact ⟨by omega, by omega⟩) (fun c149 => ?_) (fun c149 => ?_)
    · exact absurd c149 (by omega)
    · refine q_iload eX12_times_152 rfl ?_
      refine q_if_eq (tgt := 209) eX12_times_154 (by decide) (by first | assumption | exact ⟨by omega, by omega⟩) (fun c154 => ?_) (fun c154 => ?_)
      · exact absurd c154 hc9
      · refine q_aload_n eX12_times_157 rfl ?_
        refine q_getfield eX12_times_158 gf_X12_56 (hK _ (by decide) (by decide)) (by decide) (mr_44_16 hX) ?_
        refine q_iload_n eX12_times_161 rfl ?_
        refine q_aload_n eX12_times_162 rfl ?_
        refine q_getfield eX12_times_163 gf_X12_19 (hK _ (by decide) (by decide)) (by decide) (by first | assumption) ?_
        refine q_isub eX12_times_166 ?_
        refine q_iload eX12_times_167 rfl ?_
        refine q_iadd eX12_times_169 ?_
        rw [e1]
        refine q_aload_n eX12_times_170 rfl ?_
        refine q_getfield eX12_times_171 gf_X12_56 (hK _ (by decide) (by decide)) (by decide) (mr_44_16 hX) ?_
        refine q_iload_n eX12_times_174 rfl ?_
        refine q_aload_n eX12_times_175 rfl ?_
        refine q_getfield eX12_times_176 gf_X12_19 (hK _ (by decide) (by decide)) (by decide) (by first | assumption) ?_
        refine q_isub eX12_times_179 ?_
        refine q_iload eX12_times_180 rfl ?_
        refine q_iadd eX12_times_182 ?_
        rw [e1]
        refine q_iald eX12_times_183 (hK _ (by decide) (by decide)) (by omega) (by omega) ?_
        refine q_iload eX12_times_184 rfl ?_
        refine q_aload_n eX12_times_186 rfl ?_
        refine q_getfield eX12_times_187 gf_X12_31 (hK _ (by decide) (by decide)) (by decide) (mr_44_7 hX) ?_
        refine q_iload eX12_times_190 rfl ?_
        refine q_iald eX12_times_192 (hK _ (by decide) (by decide)) (by omega) (by omega) ?_
        rw [show A 45 (t : Int).toNat = f t from hG1]
        refine q_imul eX12_times_193 ?_
        refine q_isub eX12_times_194 ?_
        refine q_aload_n eX12_times_195 rfl ?_
        refine q_getfield eX12_times_196 gf_X12_22 (hK _ (by decide) (by decide)) (by decide) (by first | assumption) ?_
        refine q_callSP [vI (A 53 (kk - r + t : Nat) - c * f t), vI m] (M1 := mJ9_floorMod_7cf53) eX12_times_199 mf_J9_floorMod_7cf53 lk_X12_109 (ev_floorMod (by exact ⟨by omega, by omega⟩) (by omega) (by omega)) (by decide) (by decide) (by decide) (Nat.le_of_ble_eq_true rfl) rfl ?_
        refine q_iast eX12_times_202 (hK _ (by decide) (by decide)) (by omega) (by omega) ?_
        refine q_iinc eX12_times_203 rfl (by decide) rfl ?_
        refine q_goto (tgt := 143) eX12_times_206 (by decide) ?_
        have hq : ∀ j, up2 A 53 (kk - r + t) ((A 53 (kk - r + t) - c * f t) % m) 53 j = if j = kk - r + t then (A 53 (kk - r + t) + (-(c * f t))) % m else A 53 j := fun j => by rw [up2_at]; rfl
        refine ih (t + 1) _ (by omega) (ho.trans (Off.up (by simp))) (fun j hj => ?_) ?_ (fun j hj hj2 => ?_) (fun J => ?_)
        · show 0 ≤ up2 A 53 (kk - r + t) ((A 53 (kk - r + t) - c * f t) % m) 53 j ∧ up2 A 53 (kk - r + t) ((A 53 (kk - r + t) - c * f t) % m) 53 j < m
          rw [hq j]
          split
          · exact ⟨Int.emod_nonneg _ (by omega), Int.emod_lt_of_pos _ (by omega)⟩
          · exact hr0 j hj
        · show up2 A 53 (kk - r + t) ((A 53 (kk - r + t) - c * f t) % m) 53 kk = c
          rw [hq kk, if_neg (by omega)]; exact hcA
        · show up2 A 53 (kk - r + t) ((A 53 (kk - r + t) - c * f t) % m) 53 j = 0
          rw [hq j, if_neg (by omega)]; exact hz j hj hj2
        · show tV r f (up2 A 53 (kk - r + t) ((A 53 (kk - r + t) - c * f t) % m) 53) (2 * r) J % m = _
          rw [tV_md (by omega) (show kk - r + t < 2 * r by omega) hq J, add_md (hT J), Int.add_assoc]
          show _ = (TT J + (sm t (fun i => c * (- f i * Xv r f (kk - r + i) J)) + c * (- f t * Xv r f (kk - r + t) J))) % m
          rw [show -(c * f t) * Xv r f (kk - r + t) J = c * (- f t * Xv r f (kk - r + t) J) by rw [← Int.mul_assoc, Int.mul_neg]]
set_option maxRecDepth 20000 in
theorem lp_mt3 {m : Int} {r : Nat} {f : Nat → Int} {x y : Int} {F : HF} {A0 : HA} {al : AL} (hK : KM al) (hX : MR F) (hG : GM m r f F A0) (hx : El m r x) (hy : El m r y) {TT : Nat → Int} (hTT : ∀ J, J < r → TT J % m = mulV r f (fun i => dg m i x) (fun i => dg m i y) J % m) : ∀ (s kk : Nat) (A : HA) (l4 l5 : Option LV), r + s = kk → kk ≤ 2 * r → Off [51, 52, 53] A0 A → (∀ j, j < 2 * r → 0 ≤ A 53 j ∧ A 53 j < m) → (∀ j, kk ≤ j → j < 2 * r → A 53 j = 0) → (∀ J, tV r f (A 53) (2 * r) J % m = TT J % m) →
    QW mX12_times 2 0 0 (PQ (tm m r f x y) F al (fun A2 => Off [51, 52, 53] A0 A2)) 0 0 124 [some (vA 44), some (vI x), some (vI y), some (vI ((kk : Int) - 1)), l4, l5] [] F A al := by
  obtain ⟨hm, hr, hf, hm2, hr1, hr6, hN4⟩ := id hG
  have hm4 := hG.m4
  intro s
  induction s with
  | zero =>
    intro kk A l4 l5 hk hk2 ho hr0 hz hT
    have ek : kk = r := by omega
    subst ek
    have hrr : ∀ j, j < kk → 0 ≤ A 53 j ∧ A 53 j < m := fun j hj => hr0 j (by omega)
    refine q_iload_n eX12_times_124 rfl ?_
    refine q_aload_n eX12_times_125 rfl ?_
    refine q_getfield eX12_times_126 gf_X12_19 (hK _ (by decide) (by decide)) (by decide) (by first | assumption) ?_
    refine q_icmp_lt (tgt := 222) eX12_times_129 (by decide) (by first | assumption | exact ⟨by omega, by omega⟩) (by first | assumption | exact ⟨by omega, by omega⟩) (fun c129 => ?_) (fun c129 => ?_)
    · refine q_aload_n eX12_times_222 rfl ?_
      refine q_aload_n eX12_times_223 rfl ?_
      refine q_getfield eX12_times_224 gf_X12_56 (hK _ (by decide) (by decide)) (by decide) (mr_44_16 hX) ?_
      refine q_callVP [vA 53] (M1 := mX12_elementOf) eX12_times_227 mf_X12_elementOf lk_X12_126 (hK _ (by decide) (by decide)) (mo_elem hK hm hr hm2 (by omega) (hK _ (by decide) (by decide)) (by decide) (by omega) hrr) (by decide) (by decide) (by decide) (Nat.le_of_ble_eq_true rfl) rfl ?_
      refine q_retI eX12_times_230 rfl (by decide) (by decide) ?_
      refine ⟨?_, rfl, rfl, ho⟩
      congr 2
      refine un_congr fun j hj => ?_
      rw [← hTT j hj, ← hT j, tV_cut (by omega) hz, tV_r hj]
    · exact absurd c129 (by omega)
  | succ s ih =>
    intro kk A l4 l5 hk hk2 ho hr0 hz hT
    obtain ⟨k, rfl⟩ : ∃ k, kk = k + 1 := ⟨kk - 1, by omega⟩
    have e0 : ((k + 1 : Nat) : Int) - 1 = (k : Int) := by omega
    rw [e0]
    have hP := hr0 k (by omega)
    -- behind the inner loop: the top coefficient goes
    have fin : ∀ (A1 : HA) (l5 : Option LV) (c : Int), c = A 53 k → Off [51, 52, 53] A0 A1 → (∀ j, j < 2 * r → 0 ≤ A1 53 j ∧ A1 53 j < m) → A1 53 k = c → (∀ j, k < j → j < 2 * r → A1 53 j = 0) → (∀ J, tV r f (A1 53) (2 * r) J % m = (TT J + c * Xv r f k J) % m) →
        QW mX12_times 2 0 0 (PQ (tm m r f x y) F al (fun A2 => Off [51, 52, 53] A0 A2)) 0 0 209 [some (vA 44), some (vI x), some (vI y), some (vI k), some (vI c), l5] [] F A1 al := by
      intro A1 l5 c hc ho1 hr1' hcA hz1 hT1
      refine q_aload_n eX12_times_209 rfl ?_
      refine q_getfield eX12_times_210 gf_X12_56 (hK _ (by decide) (by decide)) (by decide) (mr_44_16 hX) ?_
      refine q_iload_n eX12_times_213 rfl ?_
      refine q_iconst eX12_times_214 ?_
      refine q_iast eX12_times_215 (hK _ (by decide) (by decide)) (by omega) (by omega) ?_
      refine q_iinc eX12_times_216 rfl (by decide) rfl ?_
      refine q_goto (tgt := 124) eX12_times_219 (by decide) ?_
      have hq : ∀ j, up2 A1 53 k 0 53 j = if j = k then A1 53 k + (-c) else A1 53 j := fun j => by rw [up2_at, hcA]; split <;> omega
      have h9 := ih k (up2 A1 53 k 0) (some (vI c)) l5 (by omega) (by omega) (ho1.trans (Off.up (by simp))) (fun j hj => ?_) (fun j hj hj2 => ?_) (fun J => ?_)
      · exact h9
      · rw [up2_at]
        split
        · exact ⟨Int.le_refl _, by omega⟩
        · exact hr1' j hj
      · rw [up2_at]
        split
        · rfl
        · exact hz1 j (by omega) hj2
      · rw [tV_up (show k < 2 * r by omega) hq J, add_md (hT1 J), Int.add_assoc, Int.neg_mul, Int.add_right_neg, Int.add_zero]
    refine q_iload_n eX12_times_124 rfl ?_
    refine q_aload_n eX12_times_125 rfl ?_
    refine q_getfield eX12_times_126 gf_X12_19 (hK _ (by decide) (by decide)) (by decide) (by first | assumption) ?_
    refine q_icmp_lt (tgt := 222) eX12_times_129 (by decide) (by first | assumption | exact ⟨by omega, by omega⟩) (by first | assumption | exact ⟨by omega, by omega⟩) (fun c129 => ?_) (fun c129 => ?_)
    · exact absurd c129 (by omega)
    · refine q_aload_n eX12_times_132 rfl ?_
      refine q_getfield eX12_times_133 gf_X12_56 (hK _ (by decide) (by decide)) (by decide) (mr_44_16 hX) ?_
      refine q_iload_n eX12_times_136 rfl ?_
      refine q_iald eX12_times_137 (hK _ (by decide) (by decide)) (by omega) (by omega) ?_
      refine q_istore eX12_times_138 (by decide) rfl ?_
      refine q_iconst eX12_times_140 ?_
      refine q_istore eX12_times_141 (by decide) rfl ?_
      by_cases hc : A 53 k = 0
      · have e143 := hc
        rw [show A 53 (k : Int).toNat = A 53 k from rfl, hc]
        refine q_iload eX12_times_143 rfl ?_
        refine q_aload_n eX12_times_145 rfl ?_
        refine q_getfield eX12_times_146 gf_X12_19 (hK _ (by decide) (by decide)) (by decide) (by first | assumption) ?_
        refine q_icmp_ge (tgt := 209) eX12_times_149 (by decide) (by first | assumption | exact ⟨by omega, by omega⟩) (by first | assumption | exact ⟨by omega, by omega⟩) (fun c149 => ?_) (fun c149 => ?_)
        · exact absurd c149 (by omega)
        · refine q_iload eX12_times_152 rfl ?_
          refine q_if_eq (tgt := 209) eX12_times_154 (by decide) (by first | assumption | exact ⟨by omega, by omega⟩) (fun c154 => ?_) (fun c154 => ?_)
          · refine fin A _ 0 hc.symm ho hr0 hc (fun j hj hj2 => hz j (by omega) hj2) (fun J => ?_)
            rw [hT J, Int.zero_mul, Int.add_zero]
          · exact absurd rfl c154
      · refine lp_mt3i (c := A 53 k) (TT := TT) hK hX hG hx hy (show r ≤ k by omega) (by omega) hP.1 hP.2 hc (fun A1 a1 a2 a3 a4 a5 => fin A1 _ (A 53 k) rfl a1 a2 a3 a4 a5) r 0 A (by omega) ho hr0 rfl (fun j hj hj2 => hz j (by omega) hj2) (fun J => ?_)
        rw [hT J]
        show _ = (TT J + 0) % m
        rw [Int.add_zero]
def acc (m : Int) (r : Nat) (f : Nat → Int) (x y : Int) (k t : Nat) (J : Nat) : Int := sm k (fun i => sm r (fun j => dg m i x * dg m j y * Xv r f (i + j) J)) + sm t (fun j => dg m k x * dg m j y * Xv r f (k + j) J)
set_option maxRecDepth 20000 in
theorem lp_mt2i {m : Int} {r : Nat} {f : Nat → Int} {x y : Int} {F : HF} {A0 : HA} {al : AL} (hK : KM al) (hX : MR F) (hG : GM m r f F A0) (hx : El m r x) (hy : El m r y) {k : Nat} (hkr : k < r) (out : ∀ (A : HA) (l4 : Option LV), Off [51, 52, 53] A0 A → (∀ j, j < r → A 51 j = dg m j x) → (∀ j, j < r → A 52 j = dg m j y) → (∀ j, j < 2 * r → 0 ≤ A 53 j ∧ A 53 j < m) → A 53 (2 * r - 1) = 0 → (∀ J, tV r f (A 53) (2 * r) J % m = acc m r f x y (k + 1) 0 J % m) → QW mX12_times 2 0 0 (PQ (tm m r f x y) F al (fun A2 => Off [51, 52, 53] A0 A2)) 0 0 45 [some (vA 44), some (vI x), some (vI y), some (vI ((k : Int) + 1)), l4, none] [] F A al) : ∀ (s t : Nat) (A : HA), t + s = r → Off [51, 52, 53] A0 A → (∀ j, j < r → A 51 j = dg m j x) → (∀ j, j < r → A 52 j = dg m j y) → (∀ j, j < 2 * r → 0 ≤ A 53 j ∧ A 53 j < m) → A 53 (2 * r - 1) = 0 → (∀ J, tV r f (A 53) (2 * r) J % m = acc m r f x y k t J % m) →
    QW mX12_times 2 0 0 (PQ (tm m r f x y) F al (fun A2 => Off [51, 52, 53] A0 A2)) 0 0 56 [some (vA 44), some (vI x), some (vI y), some (vI k), some (vI t), none] [] F A al := by
  obtain ⟨hm, hr, hf, hm2, hr1, hr6, hN4⟩ := id hG
  have hm4 := hG.m4
  intro s
  induction s with
  | zero =>
    intro t A ht ho hx1 hy1 hr0 hz hT
    have et : t = r := by omega
    subst et
    refine q_iload eX12_times_56 rfl ?_
    refine q_aload_n eX12_times_58 rfl ?_
    refine q_getfield eX12_times_59 gf_X12_19 (hK _ (by decide) (by decide)) (by decide) (by first | assumption) ?_
    refine q_icmp_ge (tgt := 109) eX12_times_62 (by decide) (by first | assumption | exact ⟨by omega, by omega⟩) (by first | assumption | exact ⟨by omega, by omega⟩) (fun c62 => ?_) (fun c62 => ?_)
    · refine q_iinc eX12_times_109 rfl (by decide) rfl ?_
      refine q_goto (tgt := 45) eX12_times_112 (by decide) ?_
      refine out A _ ho hx1 hy1 hr0 hz (fun J => ?_)
      rw [hT J]
      unfold acc
      show _ = (sm (k + 1) _ + 0) % m
      rw [Int.add_zero]
      rfl
    · exact absurd c62 (by omega)
  | succ s ih =>
    intro t A ht ho hx1 hy1 hr0 hz hT
    have hdx := dg_range (m := m) (by omega) k x
    have hdy := dg_range (m := m) (by omega) t y
    have hP := hr0 (k + t) (by omega)
    have e1 : (k : Int) + t = ((k + t : Nat) : Int) := by omega
    have hp0 : 0 ≤ dg m k x * dg m t y := Int.mul_nonneg hdx.1 hdy.1
    have hp1 : dg m k x * dg m t y ≤ 4096 * 4096 := Int.mul_le_mul (by omega) (by omega) hdy.1 (by omega)
    refine q_iload eX12_times_56 rfl ?_
    refine q_aload_n eX12_times_58 rfl ?_
    refine q_getfield eX12_times_59 gf_X12_19 (hK _ (by decide) (by decide)) (by decide) (by first | assumption) ?_
    refine q_icmp_ge (tgt := 109) eX12_times_62 (by decide) (by first | assumption | exact ⟨by omega, by omega⟩) (by first | assumption | exact ⟨by omega, by omega⟩) (fun c62 => ?_) (fun c62 => ?_)
    · exact absurd c62 (by omega)
    · refine q_aload_n eX12_times_65 rfl ?_
      refine q_getfield eX12_times_66 gf_X12_56 (hK _ (by decide) (by decide)) (by decide) (mr_44_16 hX) ?_
      refine q_iload_n eX12_times_69 rfl ?_
      refine q_iload eX12_times_70 rfl ?_
      refine q_iadd eX12_times_72 ?_
      rw [e1]
      refine q_aload_n eX12_times_73 rfl ?_
      refine q_getfield eX12_times_74 gf_X12_56 (hK _ (by decide) (by decide)) (by decide) (mr_44_16 hX) ?_
      refine q_iload_n eX12_times_77 rfl ?_
      refine q_iload eX12_times_78 rfl ?_
      refine q_iadd eX12_times_80 ?_
      rw [e1]
      refine q_iald eX12_times_81 (hK _ (by decide) (by decide)) (by omega) (by omega) ?_
      rw [show A 53 ((k + t : Nat) : Int).toNat = A 53 (k + t) from rfl]
      refine q_aload_n eX12_times_82 rfl ?_
      refine q_getfield eX12_times_83 gf_X12_50 (hK _ (by decide) (by decide)) (by decide) (mr_44_14 hX) ?_
      refine q_iload_n eX12_times_86 rfl ?_
      refine q_iald eX12_times_87 (hK _ (by decide) (by decide)) (by omega) (by omega) ?_
      rw [show A 51 (k : Int).toNat = dg m k x from hx1 k hkr]
      refine q_aload_n eX12_times_88 rfl ?_
      refine q_getfield eX12_times_89 gf_X12_53 (hK _ (by decide) (by decide)) (by decide) (mr_44_15 hX) ?_
      refine q_iload eX12_times_92 rfl ?_
      refine q_iald eX12_times_94 (hK _ (by decide) (by decide)) (by omega) (by omega) ?_
      rw [show A 52 (t : Int).toNat = dg m t y from hy1 t (by omega)]
      refine q_imul eX12_times_95 ?_
      refine q_iadd eX12_times_96 ?_
      refine q_aload_n eX12_times_97 rfl ?_
      refine q_getfield eX12_times_98 gf_X12_22 (hK _ (by decide) (by decide)) (by decide) (by first | assumption) ?_
      refine q_irem eX12_times_101 (by omega) (by omega) (by omega) (by omega) ?_
      refine q_iast eX12_times_102 (hK _ (by decide) (by decide)) (by omega) (by omega) ?_
      refine q_iinc eX12_times_103 rfl (by decide) rfl ?_
      refine q_goto (tgt := 56) eX12_times_106 (by decide) ?_
      have hq : ∀ j, up2 A 53 (k + t) ((A 53 (k + t) + dg m k x * dg m t y) % m) 53 j = if j = k + t then (A 53 (k + t) + dg m k x * dg m t y) % m else A 53 j := fun j => up2_at _ _ _ _ _
      refine ih (t + 1) _ (by omega) (ho.trans (Off.up (by simp))) (fun j hj => ?_) (fun j hj => ?_) (fun j hj => ?_) ?_ (fun J => ?_)
      · rw [up2_row (by decide)]; exact hx1 j hj
      · rw [up2_row (by decide)]; exact hy1 j hj
      · show 0 ≤ up2 A 53 (k + t) ((A 53 (k + t) + dg m k x * dg m t y) % m) 53 j ∧ up2 A 53 (k + t) ((A 53 (k + t) + dg m k x * dg m t y) % m) 53 j < m
        rw [hq j]
        split
        · exact ⟨Int.emod_nonneg _ (by omega), Int.emod_lt_of_pos _ (by omega)⟩
        · exact hr0 j hj
      · show up2 A 53 (k + t) ((A 53 (k + t) + dg m k x * dg m t y) % m) 53 (2 * r - 1) = 0
        rw [hq, if_neg (by omega)]; exact hz
      · show tV r f (up2 A 53 (k + t) ((A 53 (k + t) + dg m k x * dg m t y) % m) 53) (2 * r) J % m = _
        rw [tV_md (by omega) (show k + t < 2 * r by omega) hq J, add_md (hT J)]
        unfold acc
        rw [Int.add_assoc]
        rfl
set_option maxRecDepth 20000 in
theorem lp_mt2 {m : Int} {r : Nat} {f : Nat → Int} {x y : Int} {F : HF} {A0 : HA} {al : AL} (hK : KM al) (hX : MR F) (hG : GM m r f F A0) (hx : El m r x) (hy : El m r y) : ∀ (s k : Nat) (A : HA) (l4 : Option LV), k + s = r → Off [51, 52, 53] A0 A → (∀ j, j < r → A 51 j = dg m j x) → (∀ j, j < r → A 52 j = dg m j y) → (∀ j, j < 2 * r → 0 ≤ A 53 j ∧ A 53 j < m) → A 53 (2 * r - 1) = 0 → (∀ J, tV r f (A 53) (2 * r) J % m = acc m r f x y k 0 J % m) →
    QW mX12_times 2 0 0 (PQ (tm m r f x y) F al (fun A2 => Off [51, 52, 53] A0 A2)) 0 0 45 [some (vA 44), some (vI x), some (vI y), some (vI k), l4, none] [] F A al := by
  obtain ⟨hm, hr, hf, hm2, hr1, hr6, hN4⟩ := id hG
  have hm4 := hG.m4
  intro s
  induction s with
  | zero =>
    intro k A l4 hk ho hx1 hy1 hr0 hz hT
    have ek : k = r := by omega
    subst ek
    refine q_iload_n eX12_times_45 rfl ?_
    refine q_aload_n eX12_times_46 rfl ?_
    refine q_getfield eX12_times_47 gf_X12_19 (hK _ (by decide) (by decide)) (by decide) (by first | assumption) ?_
    refine q_icmp_ge (tgt := 115) eX12_times_50 (by decide) (by first | assumption | exact ⟨by omega, by omega⟩) (by first | assumption | exact ⟨by omega, by omega⟩) (fun c50 => ?_) (fun c50 => ?_)
    · refine q_iconst eX12_times_115 ?_
      refine q_aload_n eX12_times_116 rfl ?_
      refine q_getfield eX12_times_117 gf_X12_19 (hK _ (by decide) (by decide)) (by decide) (by first | assumption) ?_
      refine q_imul eX12_times_120 ?_
      refine q_iconst eX12_times_121 ?_
      refine q_isub eX12_times_122 ?_
      refine q_istore_n eX12_times_123 (by decide) rfl ?_
      rw [show (2 : Int) * (k : Int) - 1 = ((2 * k : Nat) : Int) - 1 by omega]
      refine lp_mt3 (TT := acc m k f x y k 0) hK hX hG hx hy (fun J hJ => ?_) k (2 * k) A l4 none (by omega) (Nat.le_refl _) ho hr0 (fun j hj hj2 => by omega) hT
      unfold acc
      rw [mulV_X (dg_sup (by omega) hy)]
      show (sm k _ + 0) % m = _
      rw [Int.add_zero]
    · exact absurd c50 (by omega)
  | succ s ih =>
    intro k A l4 hk ho hx1 hy1 hr0 hz hT
    refine q_iload_n eX12_times_45 rfl ?_
    refine q_aload_n eX12_times_46 rfl ?_
    refine q_getfield eX12_times_47 gf_X12_19 (hK _ (by decide) (by decide)) (by decide) (by first | assumption) ?_
    refine q_icmp_ge (tgt := 115) eX12_times_50 (by decide) (by first | assumption | exact ⟨by omega, by omega⟩) (by first | assumption | exact ⟨by omega, by omega⟩) (fun c50 => ?_) (fun c50 => ?_)
    · exact absurd c50 (by omega)
    · refine q_iconst eX12_times_53 ?_
      refine q_istore eX12_times_54 (by decide) rfl ?_
      exact lp_mt2i hK hX hG hx hy (show k < r by omega) (fun A l4 a1 a2 a3 a4 a5 a6 => ih (k + 1) A l4 (by omega) a1 a2 a3 a4 a5 a6) r 0 A (by omega) ho hx1 hy1 hr0 hz hT
set_option maxRecDepth 20000 in
theorem lp_mt1 {m : Int} {r : Nat} {f : Nat → Int} {x y : Int} {F : HF} {A0 : HA} {al : AL} (hK : KM al) (hX : MR F) (hG : GM m r f F A0) (hx : El m r x) (hy : El m r y) : ∀ (s k : Nat) (A : HA), k + s = 2 * r → Off [51, 52, 53] A0 A → (∀ j, j < r → A 51 j = dg m j x) → (∀ j, j < r → A 52 j = dg m j y) → (∀ j, j < k → A 53 j = 0) →
    QW mX12_times 2 0 0 (PQ (tm m r f x y) F al (fun A2 => Off [51, 52, 53] A0 A2)) 0 0 20 [some (vA 44), some (vI x), some (vI y), some (vI k), none, none] [] F A al := by
  obtain ⟨hm, hr, hf, hm2, hr1, hr6, hN4⟩ := id hG
  have hm4 := hG.m4
  intro s
  induction s with
  | zero =>
    intro k A hk ho hx1 hy1 h0
    refine q_iload_n eX12_times_20 rfl ?_
    refine q_iconst eX12_times_21 ?_
    refine q_aload_n eX12_times_22 rfl ?_
    refine q_getfield eX12_times_23 gf_X12_19 (hK _ (by decide) (by decide)) (by decide) (by first | assumption) ?_
    refine q_imul eX12_times_26 ?_
    refine q_icmp_ge (tgt := 43) eX12_times_27 (by decide) (by first | assumption | exact ⟨by omega, by omega⟩) (by first | assumption | exact ⟨by omega, by omega⟩) (fun c27 => ?_) (fun c27 => ?_)
    · refine q_iconst eX12_times_43 ?_
      refine q_istore_n eX12_times_44 (by decide) rfl ?_
      refine lp_mt2 hK hX hG hx hy r 0 A none (by omega) ho hx1 hy1 (fun j hj => by rw [h0 j (by omega)]; exact ⟨Int.le_refl _, by omega⟩) (h0 _ (by omega)) (fun J => ?_)
      unfold acc tV
      rw [sm_zero (n := 2 * r) (fun i hi => by rw [h0 i (by omega), Int.zero_mul])]
      rfl
    · exact absurd c27 (by omega)
  | succ s ih =>
    intro k A hk ho hx1 hy1 h0
    refine q_iload_n eX12_times_20 rfl ?_
    refine q_iconst eX12_times_21 ?_
    refine q_aload_n eX12_times_22 rfl ?_
    refine q_getfield eX12_times_23 gf_X12_19 (hK _ (by decide) (by decide)) (by decide) (by first | assumption) ?_
    refine q_imul eX12_times_26 ?_
    refine q_icmp_ge (tgt := 43) eX12_times_27 (by decide) (by first | assumption | exact ⟨by omega, by omega⟩) (by first | assumption | exact ⟨by omega, by omega⟩) (fun c27 => ?_) (fun c27 => ?_)
    · exact absurd c27 (by omega)
    · refine q_aload_n eX12_times_30 rfl ?_
      refine q_getfield eX12_times_31 gf_X12_56 (hK _ (by decide) (by decide)) (by decide) (mr_44_16 hX) ?_
      refine q_iload_n eX12_times_34 rfl ?_
      refine q_iconst eX12_times_35 ?_
      refine q_iast eX12_times_36 (hK _ (by decide) (by decide)) (by omega) (by omega) ?_
      refine q_iinc eX12_times_37 rfl (by decide) rfl ?_
      refine q_goto (tgt := 20) eX12_times_40 (by decide) ?_
      refine ih (k + 1) _ (by omega) (ho.trans (Off.up (by simp))) (fun j hj => ?_) (fun j hj => ?_) (fun j hj => ?_)
      · rw [up2_row (by decide)]; exact hx1 j hj
      · rw [up2_row (by decide)]; exact hy1 j hj
      · rw [up2_at]
        split
        · rfl
        · next hne => exact h0 j (by have : j ≠ k := hne; omega)
set_option maxRecDepth 20000 in
theorem mo_times {x y : Int} {m : Int} {r : Nat} {f : Nat → Int} {F : HF} {A : HA} {al : AL} (hK : KM al) (hX : MR F) (hG : GM m r f F A) (hx : El m r x) (hy : El m r y) : QE 2 0 0 mX12_times [vA 44, vI x, vI y] F A al (PQ (tm m r f x y) F al (fun A2 => Off [51, 52, 53] A A2)) := by
  refine QE.mk (by decide +kernel) (Nat.le_of_ble_eq_true rfl) ?_
  obtain ⟨hm, hr, hf, hm2, hr1, hr6, hN4⟩ := id hG
  have hm4 := hG.m4
  have hxl := hx.lt hN4
  have hyl := hy.lt hN4
  refine q_aload_n eX12_times_0 rfl ?_
  refine q_aload_n eX12_times_1 rfl ?_
  refine q_getfield eX12_times_2 gf_X12_50 (hK _ (by decide) (by decide)) (by decide) (mr_44_14 hX) ?_
  refine q_iload_n eX12_times_5 rfl ?_
  refine q_callVV [vA 51, vI x] (M1 := mX12_lays) eX12_times_6 mf_X12_lays lk_X12_122 (hK _ (by decide) (by decide)) (mo_lays hK hm hr hm2 (by omega) (hK _ (by decide) (by decide)) (by omega) (by decide) hx.1 (by omega)) (by decide) (by decide) (by decide) (Nat.le_of_ble_eq_true rfl) rfl (fun A3 h3 => ?_)
  obtain ⟨o3, v3, -⟩ := h3
  refine q_aload_n eX12_times_9 rfl ?_
  refine q_aload_n eX12_times_10 rfl ?_
  refine q_getfield eX12_times_11 gf_X12_53 (hK _ (by decide) (by decide)) (by decide) (mr_44_15 hX) ?_
  refine q_iload_n eX12_times_14 rfl ?_
  refine q_callVV [vA 52, vI y] (M1 := mX12_lays) eX12_times_15 mf_X12_lays lk_X12_122 (hK _ (by decide) (by decide)) (mo_lays hK hm hr hm2 (by omega) (hK _ (by decide) (by decide)) (by omega) (by decide) hy.1 (by omega)) (by decide) (by decide) (by decide) (Nat.le_of_ble_eq_true rfl) rfl (fun A4 h4 => ?_)
  obtain ⟨o4, v4, -⟩ := h4
  refine q_iconst eX12_times_18 ?_
  refine q_istore_n eX12_times_19 (by decide) rfl ?_
  exact lp_mt1 hK hX hG hx hy (2 * r) 0 A4 (by omega) ((o3.mono (by simp)).trans (o4.mono (by simp))) (fun j hj => by rw [o4 51 (by decide)]; exact v3 j hj) v4 (fun j hj => by omega)
