/-! Galois: moved, traces, norms, orders, counts -/
theorem xf_img {F : HF} (h : XF F) : ∀ {j : Nat}, j < 6 → F 6 j = vA (7 + j)
  | 0, _ => xf_6_0 h
  | 1, _ => xf_6_1 h
  | 2, _ => xf_6_2 h
  | 3, _ => xf_6_3 h
  | 4, _ => xf_6_4 h
  | 5, _ => xf_6_5 h
theorem kx_img {al : AL} (hK : KX al) {j : Nat} (h : j < 6) : al.1 (7 + j) = (0, 6) := by
  have : ∀ j, j < 6 → klf (7 + j) = (0, 6) := by decide
  rw [hK _ (by omega) (by omega), this j h]
/-- the movement, a linear map -/
def mv (p r : Nat) (m : Int) (f : Nat → Int) (x : Int) : Int := un m r (fun i => sm r (fun j => dg m j x * dg m i (pw m r f (if r = 1 then 0 else m) (p * j))))
theorem mv_el {p r : Nat} {m : Int} {f : Nat → Int} {x : Int} (hm : 0 < m) : El m r (mv p r m f x) := un_range hm _ _
theorem sm_le {B : Int} {g : Nat → Int} : ∀ {n : Nat}, (∀ i, i < n → 0 ≤ g i ∧ g i ≤ B) → 0 ≤ sm n g ∧ sm n g ≤ n * B
  | 0, _ => ⟨Int.le_refl _, by simp [sm]⟩
  | n + 1, h => by
    obtain ⟨h1, h2⟩ := sm_le (n := n) (fun i hi => h i (by omega))
    obtain ⟨h3, h4⟩ := h n (by omega)
    refine ⟨by show 0 ≤ sm n g + g n; omega, ?_⟩
    show sm n g + g n ≤ ((n + 1 : Nat) : Int) * B
    rw [show ((n + 1 : Nat) : Int) = (n : Int) + 1 from rfl, Int.add_mul, Int.one_mul]
    omega
set_option maxRecDepth 20000 in
theorem lp_moved {x : Int} {A0 : HA} {p e r q N : Nat} {m : Int} {f : Nat → Int} {g : Int} {lg : Nat → Int} {F : HF}  {al : AL} (hK : KX al) (hX : XF F) (hT : GT p e r q N m f g lg F A0) (hx : El m r x) : ∀ (n j i : Nat) (A : HA), n + (6 * j + i) + j = 42 → j < 6 → i ≤ 6 → Off [13, 14, 15] A0 A → (∀ k, k < 6 → A 13 k = dg m k x) → (∀ k, k < 12 → A 15 k = sm j (fun a => dg m a x * (if k < 6 then A0 (7 + a) k else 0)) + (if k < i then dg m j x * A0 (7 + j) k else 0)) →
    QW mX2_moved 2 0 0 (PQ (mv p r m f x) F al (fun A2 => Off [13, 14, 15] A0 A2)) 0 0 27 [some (vA 2), some (vI x), some (vI j), some (vI i)] [] F A al := by
  obtain ⟨hG, hp, he, hq, hN, hg, ⟨hp2, hp7, he1, he4, hme, hqe, hq3, hNm, hgE⟩, hP, hL, hI⟩ := id hT
  obtain ⟨hm, hr, hf, hm2, hr1, hr6, hN4⟩ := id hG
  have hm4 := hG.m4
  have hq2 := hT.q2
  have hgath : ∀ (A : HA), (∀ k, k < 12 → A 15 k = sm 6 (fun a => dg m a x * (if k < 6 then A0 (7 + a) k else 0))) → (∀ k, k < 12 → 0 ≤ A 15 k ∧ A 15 k < 2147483648) ∧ un m r (A 15) = mv p r m f x := by
    intro A hv
    have e3 : ∀ (g : Nat → Int), (∀ i, r ≤ i → g i = 0) → sm 6 g = sm r g := by
      intro g hg
      obtain ⟨c, hc⟩ : ∃ c, 6 = r + c := ⟨6 - r, by omega⟩
      rw [hc, sm_add_n, sm_zero (n := c) (fun i _ => hg (r + i) (by omega)), Int.add_zero]
    have e4 : ∀ k, k < 12 → A 15 k = sm r (fun a => dg m a x * (if k < 6 then A0 (7 + a) k else 0)) := by
      intro k hk
      rw [hv k hk]
      exact e3 _ (fun a ha => by rw [show dg m a x = 0 from dg_sup (by omega) hx a ha, Int.zero_mul])
    refine ⟨fun k hk => ?_, un_congr fun i hi => ?_⟩
    · rw [e4 k hk]
      have h := sm_le (n := r) (B := 16777216) (g := fun a => dg m a x * (if k < 6 then A0 (7 + a) k else 0)) (fun a ha => by
        have h1 := dg_range (m := m) (by omega) a x
        show 0 ≤ dg m a x * (if k < 6 then A0 (7 + a) k else 0) ∧ dg m a x * (if k < 6 then A0 (7 + a) k else 0) ≤ 16777216
        split
        · next h6 =>
          rw [hI a k ha h6]
          have h2 := dg_range (m := m) (by omega) k (pw m r f (if r = 1 then 0 else m) (p * a))
          exact sq_le h1.1 (by omega) h2.1 (by omega) hm4
        · simp)
      have e5 : (r : Int) * 16777216 ≤ 6 * 16777216 := Int.mul_le_mul_of_nonneg_right (by omega) (by decide)
      omega
    · rw [e4 i (by omega)]
      congr 1
      apply sm_congr
      intro a ha
      rw [if_pos (by omega), hI a i ha (by omega)]
  intro n
  induction n with
  | zero => intro j i A hn hj hi; omega
  | succ n ih =>
    intro j i A hn hj hi ho hl hv
    have hji := xf_img hX hj
    have hki := kx_img hK hj
    refine q_iload_n eX2_moved_27 rfl ?_
    refine q_bipush eX2_moved_28 (by decide +kernel) ?_
    refine q_icmp_ge (tgt := 63) eX2_moved_30 (by decide) (by first | assumption | exact ⟨by omega, by omega⟩) (by first | assumption | exact ⟨by omega, by omega⟩) (fun c30 => ?_) (fun c30 => ?_)
    · refine q_iinc eX2_moved_63 rfl (by decide) rfl ?_
      refine q_goto (tgt := 19) eX2_moved_66 (by decide) ?_
      refine q_iload_n eX2_moved_19 rfl ?_
      refine q_bipush eX2_moved_20 (by decide +kernel) ?_
      refine q_icmp_ge (tgt := 69) eX2_moved_22 (by decide) (by first | assumption | exact ⟨by omega, by omega⟩) (by first | assumption | exact ⟨by omega, by omega⟩) (fun c22 => ?_) (fun c22 => ?_)
      · have hj5 : j = 5 := by omega
        have hi6 : i = 6 := by omega
        subst hj5; subst hi6
        obtain ⟨hb1, hb2⟩ := hgath A (fun k hk => by
          rw [hv k hk]
          show _ = sm 5 _ + dg m 5 x * (if k < 6 then A0 (7 + 5) k else 0)
          congr 1
          split
          · rfl
          · rw [Int.mul_zero])
        refine q_aload_n eX2_moved_69 rfl ?_
        refine q_aload_n eX2_moved_70 rfl ?_
        refine q_getfield eX2_moved_71 gf_X2_54 (hK _ (by decide) (by decide)) (by decide) (xf_2_13 hX) ?_
        refine q_callVP [vA 15] (M1 := mX2_gather) eX2_moved_74 mf_X2_gather lk_X2_142 (hK _ (by decide) (by decide)) (ev_gather (r := r) hK hm hr hm2 (by omega) (hK _ (by decide) (by decide)) (by decide) (by omega) hb1) (by decide) (by decide) (by decide) (Nat.le_of_ble_eq_true rfl) rfl ?_
        rw [hb2]
        refine q_retI eX2_moved_77 rfl (by decide) (by decide) ?_
        exact ⟨rfl, rfl, rfl, ho⟩
      · refine q_iconst eX2_moved_25 ?_
        refine q_istore_n eX2_moved_26 (by decide) rfl ?_
        refine ih (j + 1) 0 A (by omega) (by omega) (by omega) ho hl (fun k hk => ?_)
        have hi6 : i = 6 := by omega
        subst hi6
        rw [hv k hk]
        show _ = sm j _ + dg m j x * (if k < 6 then A0 (7 + j) k else 0) + (if k < 0 then _ else 0)
        rw [if_neg (show ¬ k < 0 by omega), Int.add_zero]
        congr 1
        split
        · rfl
        · rw [Int.mul_zero]
    · refine q_aload_n eX2_moved_33 rfl ?_
      refine q_getfield eX2_moved_34 gf_X2_54 (hK _ (by decide) (by decide)) (by decide) (xf_2_13 hX) ?_
      refine q_iload_n eX2_moved_37 rfl ?_
      refine q_dup2 eX2_moved_38 rfl rfl ?_
      refine q_iald eX2_moved_39 (hK _ (by decide) (by decide)) (by omega) (by omega) ?_
      refine q_aload_n eX2_moved_40 rfl ?_
      refine q_getfield eX2_moved_41 gf_X2_48 (hK _ (by decide) (by decide)) (by decide) (xf_2_11 hX) ?_
      refine q_iload_n eX2_moved_44 rfl ?_
      refine q_iald eX2_moved_45 (hK _ (by decide) (by decide)) (by omega) (by omega) ?_
      refine q_aload_n eX2_moved_46 rfl ?_
      refine q_getfield eX2_moved_47 gf_X2_45 (hK _ (by decide) (by decide)) (by decide) (xf_2_10 hX) ?_
      refine q_iload_n eX2_moved_50 rfl ?_
      refine q_aald eX2_moved_51 (hK _ (by decide) (by decide)) (by omega) (by omega) hji ?_
      refine q_iload_n eX2_moved_52 rfl ?_
      refine q_iald eX2_moved_53 hki (by omega) (by omega) ?_
      rw [show A 13 (j : Int).toNat = dg m j x from hl j (by omega), show A (7 + j) (i : Int).toNat = A0 (7 + j) i from by rw [ho (7 + j) (by simp; omega)]; rfl]
      refine q_imul eX2_moved_54 ?_
      refine q_iadd eX2_moved_55 ?_
      refine q_iast eX2_moved_56 (hK _ (by decide) (by decide)) (by omega) (by omega) ?_
      refine q_iinc eX2_moved_57 rfl (by decide) rfl ?_
      refine q_goto (tgt := 27) eX2_moved_60 (by decide) ?_
      refine ih j (i + 1) _ (by omega) hj (by omega) (ho.trans (Off.up (by simp))) (fun k hk => by rw [up2_row (by decide)]; exact hl k hk) (fun k hk => ?_)
      rw [up2_at]
      have e9 : (i : Int).toNat = i := rfl
      rw [e9]
      split
      · next hk2 =>
        subst hk2
        rw [hv k hk, if_neg (by omega), if_pos (by omega)]
        omega
      · next hk2 =>
        rw [hv k hk]
        congr 1
        by_cases h8 : k < i
        · rw [if_pos h8, if_pos (by omega)]
        · rw [if_neg h8, if_neg (by omega)]
set_option maxRecDepth 20000 in
theorem ev_moved {x : Int} {p e r q N : Nat} {m : Int} {f : Nat → Int} {g : Int} {lg : Nat → Int} {F : HF} {A : HA} {al : AL} (hK : KX al) (hX : XF F) (hT : GT p e r q N m f g lg F A) (hx : El m r x) : QE 2 0 0 mX2_moved [vA 2, vI x] F A al (PQ (mv p r m f x) F al (fun A2 => Off [13, 14, 15] A A2)) := by
  refine QE.mk (by decide +kernel) (Nat.le_of_ble_eq_true rfl) ?_
  obtain ⟨hG, hp, he, hq, hN, hg, ⟨hp2, hp7, he1, he4, hme, hqe, hq3, hNm, hgE⟩, hP, hL, hI⟩ := id hT
  obtain ⟨hm, hr, hf, hm2, hr1, hr6, hN4⟩ := id hG
  have hm4 := hG.m4
  have hq2 := hT.q2
  have hx1 := hx.lt hN4
  refine q_aload_n eX2_moved_0 rfl ?_
  refine q_iload_n eX2_moved_1 rfl ?_
  refine q_aload_n eX2_moved_2 rfl ?_
  refine q_getfield eX2_moved_3 gf_X2_48 (hK _ (by decide) (by decide)) (by decide) (xf_2_11 hX) ?_
  refine q_callVV [vI x, vA 13] (M1 := mX2_spread) eX2_moved_6 mf_X2_spread lk_X2_120 (hK _ (by decide) (by decide)) (ev_spread hK hm hm2 (by omega) (hK _ (by decide) (by decide)) (by decide) (by omega) (by omega)) (by decide) (by decide) (by decide) (Nat.le_of_ble_eq_true rfl) rfl (fun A1 h1 => ?_)
  obtain ⟨o1, v1⟩ := h1
  refine q_aload_n eX2_moved_9 rfl ?_
  refine q_getfield eX2_moved_10 gf_X2_54 (hK _ (by decide) (by decide)) (by decide) (xf_2_13 hX) ?_
  refine q_iconst eX2_moved_13 ?_
  refine q_callSV [vA 15, vI 0] (M1 := mJ7_fill_53178) eX2_moved_14 mf_J7_fill_53178 lk_X2_97 (ev_fill (hK _ (by decide) (by decide)) (by decide)) (by decide) (by decide) (by decide) (Nat.le_of_ble_eq_true rfl) rfl (fun A3 h3 => ?_)
  obtain ⟨o3, v3⟩ := h3
  refine q_iconst eX2_moved_17 ?_
  refine q_istore_n eX2_moved_18 (by decide) rfl ?_
  refine q_iload_n eX2_moved_19 rfl ?_
  refine q_bipush eX2_moved_20 (by decide +kernel) ?_
  refine q_icmp_ge (tgt := 69) eX2_moved_22 (by decide) (by first | assumption | exact ⟨by omega, by omega⟩) (by first | assumption | exact ⟨by omega, by omega⟩) (fun c22 => ?_) (fun c22 => ?_)
  · exact absurd c22 (by omega)
  · refine q_iconst eX2_moved_25 ?_
    refine q_istore_n eX2_moved_26 (by decide) rfl ?_
    refine lp_moved hK hX hT hx 42 0 0 A3 (by omega) (by omega) (by omega) ((o1.mono (by simp)).trans (o3.mono (by simp))) (fun k hk => ?_) (fun k hk => ?_)
    · rw [o3 13 (by simp)]; exact v1 k hk
    · rw [v3 k hk]
      rfl
def mvn (p r : Nat) (m : Int) (f : Nat → Int) (x : Int) : Nat → Int
  | 0 => x
  | n + 1 => mv p r m f (mvn p r m f x n)
theorem mvn_el {p r : Nat} {m : Int} {f : Nat → Int} {x : Int} (hm : 0 < m) (hx : El m r x) : ∀ n, El m r (mvn p r m f x n)
  | 0 => hx
  | _ + 1 => mv_el hm
def trE (p r : Nat) (m : Int) (f : Nat → Int) (x : Int) : Nat → Int
  | 0 => 0
  | n + 1 => pl m r (trE p r m f x n) (mvn p r m f x n)
theorem tr_el {p r : Nat} {m : Int} {f : Nat → Int} {x : Int} (hm : 0 < m) : ∀ n, El m r (trE p r m f x n)
  | 0 => el_zero hm
  | _ + 1 => pl_el hm _ _
def nmE (p r : Nat) (m : Int) (f : Nat → Int) (x : Int) : Nat → Int
  | 0 => 1
  | n + 1 => tm m r f (nmE p r m f x n) (mvn p r m f x n)
theorem nm_el {p r : Nat} {m : Int} {f : Nat → Int} {x : Int} (hm : 2 ≤ m) (hr : 0 < r) : ∀ n, El m r (nmE p r m f x n)
  | 0 => el_one hm hr
  | _ + 1 => tm_el (by omega) _ _
set_option maxRecDepth 20000 in
theorem lp_trace {x : Int} {A0 : HA} {p e r q N : Nat} {m : Int} {f : Nat → Int} {g : Int} {lg : Nat → Int} {F : HF}  {al : AL} (hK : KX al) (hX : XF F) (hT : GT p e r q N m f g lg F A0) (hx : El m r x) : ∀ (k i : Nat) (A : HA), i + k = r → Off [13, 14, 15] A0 A →
    QW mX2_trace 3 0 0 (PQ (trE p r m f x r) F al (fun A2 => Off [13, 14, 15] A0 A2)) 0 0 7 [some (vA 2), some (vI x), some (vI (trE p r m f x i)), some (vI (mvn p r m f x i)), some (vI i)] [] F A al := by
  obtain ⟨hG, hp, he, hq, hN, hg, ⟨hp2, hp7, he1, he4, hme, hqe, hq3, hNm, hgE⟩, hP, hL, hI⟩ := id hT
  obtain ⟨hm, hr, hf, hm2, hr1, hr6, hN4⟩ := id hG
  have hm4 := hG.m4
  have hq2 := hT.q2
  intro k
  induction k with
  | zero =>
    intro i A hi ho
    have e9 : i = r := by omega
    subst e9
    refine q_iload eX2_trace_7 rfl ?_
    refine q_aload_n eX2_trace_9 rfl ?_
    refine q_getfield eX2_trace_10 gf_X2_18 (hK _ (by decide) (by decide)) (by decide) (by assumption) ?_
    refine q_icmp_ge (tgt := 35) eX2_trace_13 (by decide) (by first | assumption | exact ⟨by omega, by omega⟩) (by first | assumption | exact ⟨by omega, by omega⟩) (fun c13 => ?_) (fun c13 => ?_)
    · refine q_iload_n eX2_trace_35 rfl ?_
      refine q_retI eX2_trace_36 rfl (by decide) (by decide) ?_
      exact ⟨rfl, rfl, rfl, ho⟩
    · exact absurd c13 (by omega)
  | succ k ih =>
    intro i A hi ho
    have hT1 := hT.s3 ho
    refine q_iload eX2_trace_7 rfl ?_
    refine q_aload_n eX2_trace_9 rfl ?_
    refine q_getfield eX2_trace_10 gf_X2_18 (hK _ (by decide) (by decide)) (by decide) (by assumption) ?_
    refine q_icmp_ge (tgt := 35) eX2_trace_13 (by decide) (by first | assumption | exact ⟨by omega, by omega⟩) (by first | assumption | exact ⟨by omega, by omega⟩) (fun c13 => ?_) (fun c13 => ?_)
    · exact absurd c13 (by omega)
    · refine q_aload_n eX2_trace_16 rfl ?_
      refine q_iload_n eX2_trace_17 rfl ?_
      refine q_iload_n eX2_trace_18 rfl ?_
      refine q_callVP [vI (trE p r m f x i), vI (mvn p r m f x i)] (M1 := mX2_plus) eX2_trace_19 mf_X2_plus lk_X2_149 (hK _ (by decide) (by decide)) (ev_plus hK hX hT1.1 (tr_el (by omega) i) (mvn_el (by omega) hx i)) (by decide) (by decide) (by decide) (Nat.le_of_ble_eq_true rfl) rfl ?_
      refine q_istore_n eX2_trace_22 (by decide) rfl ?_
      refine q_aload_n eX2_trace_23 rfl ?_
      refine q_iload_n eX2_trace_24 rfl ?_
      refine q_callVQ [vI (mvn p r m f x i)] (M1 := mX2_moved) eX2_trace_25 mf_X2_moved lk_X2_170 (hK _ (by decide) (by decide)) (ev_moved hK hX hT1 (mvn_el (by omega) hx i)) (by decide) (by decide) (by decide) (Nat.le_of_ble_eq_true rfl) rfl (fun A3 h3 => ?_)
      refine q_istore_n eX2_trace_28 (by decide) rfl ?_
      refine q_iinc eX2_trace_29 rfl (by decide) rfl ?_
      refine q_goto (tgt := 7) eX2_trace_32 (by decide) ?_
      exact ih (i + 1) A3 (by omega) (ho.trans h3)
set_option maxRecDepth 20000 in
theorem ev_trace {x : Int} {p e r q N : Nat} {m : Int} {f : Nat → Int} {g : Int} {lg : Nat → Int} {F : HF} {A : HA} {al : AL} (hK : KX al) (hX : XF F) (hT : GT p e r q N m f g lg F A) (hx : El m r x) : QE 3 0 0 mX2_trace [vA 2, vI x] F A al (PQ (trE p r m f x r) F al (fun A2 => Off [13, 14, 15] A A2)) := by
  refine QE.mk (by decide +kernel) (Nat.le_of_ble_eq_true rfl) ?_
  refine q_iconst eX2_trace_0 ?_
  refine q_istore_n eX2_trace_1 (by decide) rfl ?_
  refine q_iload_n eX2_trace_2 rfl ?_
  refine q_istore_n eX2_trace_3 (by decide) rfl ?_
  refine q_iconst eX2_trace_4 ?_
  refine q_istore eX2_trace_5 (by decide) rfl ?_
  exact lp_trace hK hX hT hx r 0 A (by omega) Off.rfl'
set_option maxRecDepth 20000 in
theorem lp_norm {x : Int} {A0 : HA} {p e r q N : Nat} {m : Int} {f : Nat → Int} {g : Int} {lg : Nat → Int} {F : HF}  {al : AL} (hK : KX al) (hX : XF F) (hT : GT p e r q N m f g lg F A0) (hx : El m r x) : ∀ (k i : Nat) (A : HA), i + k = r → Off [13, 14, 15] A0 A →
    QW mX2_norm 3 0 0 (PQ (nmE p r m f x r) F al (fun A2 => Off [13, 14, 15] A0 A2)) 0 0 7 [some (vA 2), some (vI x), some (vI (nmE p r m f x i)), some (vI (mvn p r m f x i)), some (vI i)] [] F A al := by
  obtain ⟨hG, hp, he, hq, hN, hg, ⟨hp2, hp7, he1, he4, hme, hqe, hq3, hNm, hgE⟩, hP, hL, hI⟩ := id hT
  obtain ⟨hm, hr, hf, hm2, hr1, hr6, hN4⟩ := id hG
  have hm4 := hG.m4
  have hq2 := hT.q2
  intro k
  induction k with
  | zero =>
    intro i A hi ho
    have e9 : i = r := by omega
    subst e9
    refine q_iload eX2_norm_7 rfl ?_
    refine q_aload_n eX2_norm_9 rfl ?_
    refine q_getfield eX2_norm_10 gf_X2_18 (hK _ (by decide) (by decide)) (by decide) (by assumption) ?_
    refine q_icmp_ge (tgt := 35) eX2_norm_13 (by decide) (by first | assumption | exact ⟨by omega, by omega⟩) (by first | assumption | exact ⟨by omega, by omega⟩) (fun c13 => ?_) (fun c13 => ?_)
    · refine q_iload_n eX2_norm_35 rfl ?_
      refine q_retI eX2_norm_36 rfl (by decide) (by decide) ?_
      exact ⟨rfl, rfl, rfl, ho⟩
    · exact absurd c13 (by omega)
  | succ k ih =>
    intro i A hi ho
    have hT1 := hT.s3 ho
    refine q_iload eX2_norm_7 rfl ?_
    refine q_aload_n eX2_norm_9 rfl ?_
    refine q_getfield eX2_norm_10 gf_X2_18 (hK _ (by decide) (by decide)) (by decide) (by assumption) ?_
    refine q_icmp_ge (tgt := 35) eX2_norm_13 (by decide) (by first | assumption | exact ⟨by omega, by omega⟩) (by first | assumption | exact ⟨by omega, by omega⟩) (fun c13 => ?_) (fun c13 => ?_)
    · exact absurd c13 (by omega)
    · refine q_aload_n eX2_norm_16 rfl ?_
      refine q_iload_n eX2_norm_17 rfl ?_
      refine q_iload_n eX2_norm_18 rfl ?_
      refine q_callVQ [vI (nmE p r m f x i), vI (mvn p r m f x i)] (M1 := mX2_times) eX2_norm_19 mf_X2_times lk_X2_132 (hK _ (by decide) (by decide)) (ev_times hK hX hT1.1 (nm_el hm2 hr1 i) (mvn_el (by omega) hx i)) (by decide) (by decide) (by decide) (Nat.le_of_ble_eq_true rfl) rfl (fun A2 h2 => ?_)
      refine q_istore_n eX2_norm_22 (by decide) rfl ?_
      refine q_aload_n eX2_norm_23 rfl ?_
      refine q_iload_n eX2_norm_24 rfl ?_
      refine q_callVQ [vI (mvn p r m f x i)] (M1 := mX2_moved) eX2_norm_25 mf_X2_moved lk_X2_170 (hK _ (by decide) (by decide)) (ev_moved hK hX (hT1.s3 h2) (mvn_el (by omega) hx i)) (by decide) (by decide) (by decide) (Nat.le_of_ble_eq_true rfl) rfl (fun A3 h3 => ?_)
      refine q_istore_n eX2_norm_28 (by decide) rfl ?_
      refine q_iinc eX2_norm_29 rfl (by decide) rfl ?_
      refine q_goto (tgt := 7) eX2_norm_32 (by decide) ?_
      exact ih (i + 1) A3 (by omega) ((ho.trans h2).trans h3)
set_option maxRecDepth 20000 in
theorem ev_norm {x : Int} {p e r q N : Nat} {m : Int} {f : Nat → Int} {g : Int} {lg : Nat → Int} {F : HF} {A : HA} {al : AL} (hK : KX al) (hX : XF F) (hT : GT p e r q N m f g lg F A) (hx : El m r x) : QE 3 0 0 mX2_norm [vA 2, vI x] F A al (PQ (nmE p r m f x r) F al (fun A2 => Off [13, 14, 15] A A2)) := by
  refine QE.mk (by decide +kernel) (Nat.le_of_ble_eq_true rfl) ?_
  refine q_iconst eX2_norm_0 ?_
  refine q_istore_n eX2_norm_1 (by decide) rfl ?_
  refine q_iload_n eX2_norm_2 rfl ?_
  refine q_istore_n eX2_norm_3 (by decide) rfl ?_
  refine q_iconst eX2_norm_4 ?_
  refine q_istore eX2_norm_5 (by decide) rfl ?_
  exact lp_norm hK hX hT hx r 0 A (by omega) Off.rfl'
set_option maxRecDepth 20000 in
theorem lp_isWithin {x : Int} {n : Nat} {A0 : HA} {p e r q N : Nat} {m : Int} {f : Nat → Int} {g : Int} {lg : Nat → Int} {F : HF}  {al : AL} (hK : KX al) (hX : XF F) (hT : GT p e r q N m f g lg F A0) (hx : El m r x) (hn : n < 2147483648) : ∀ (k i : Nat) (A : HA), i + k = n → Off [13, 14, 15] A0 A →
    QW mX2_isWithin 3 0 0 (PQ (if mvn p r m f x n = x then 1 else 0) F al (fun A2 => Off [13, 14, 15] A0 A2)) 0 0 5 [some (vA 2), some (vI x), some (vI n), some (vI (mvn p r m f x i)), some (vI i)] [] F A al := by
  obtain ⟨hG, hp, he, hq, hN, hg, ⟨hp2, hp7, he1, he4, hme, hqe, hq3, hNm, hgE⟩, hP, hL, hI⟩ := id hT
  obtain ⟨hm, hr, hf, hm2, hr1, hr6, hN4⟩ := id hG
  have hm4 := hG.m4
  have hq2 := hT.q2
  have hx1 := hx.lt hN4
  intro k
  induction k with
  | zero =>
    intro i A hi ho
    have e9 : i = n := by omega
    subst e9
    have hx2 := (mvn_el (p := p) (f := f) (show 0 < m by omega) hx i).lt hN4
    refine q_iload eX2_isWithin_5 rfl ?_
    refine q_iload_n eX2_isWithin_7 rfl ?_
    refine q_icmp_ge (tgt := 23) eX2_isWithin_8 (by decide) (by first | assumption | exact ⟨by omega, by omega⟩) (by first | assumption | exact ⟨by omega, by omega⟩) (fun c8 => ?_) (fun c8 => ?_)
    · refine q_iload_n eX2_isWithin_23 rfl ?_
      refine q_iload_n eX2_isWithin_24 rfl ?_
      refine q_icmp_ne (tgt := 32) eX2_isWithin_25 (by decide) (by first | assumption | exact ⟨by omega, by omega⟩) (by first | assumption | exact ⟨by omega, by omega⟩) (fun c25 => ?_) (fun c25 => ?_)
      · refine q_iconst eX2_isWithin_32 ?_
        refine q_retZ eX2_isWithin_33 rfl (by first | exact Or.inl rfl | exact Or.inr rfl | assumption) (by decide) (by decide) ?_
        refine ⟨?_, rfl, rfl, ho⟩
        first | rw [if_pos c25] | rw [if_neg c25]
      · refine q_iconst eX2_isWithin_28 ?_
        refine q_goto (tgt := 33) eX2_isWithin_29 (by decide) ?_
        refine q_retZ eX2_isWithin_33 rfl (by first | exact Or.inl rfl | exact Or.inr rfl | assumption) (by decide) (by decide) ?_
        refine ⟨?_, rfl, rfl, ho⟩
        first | rw [if_pos c25] | rw [if_neg c25]
    · exact absurd c8 (by omega)
  | succ k ih =>
    intro i A hi ho
    have hT1 := hT.s3 ho
    refine q_iload eX2_isWithin_5 rfl ?_
    refine q_iload_n eX2_isWithin_7 rfl ?_
    refine q_icmp_ge (tgt := 23) eX2_isWithin_8 (by decide) (by first | assumption | exact ⟨by omega, by omega⟩) (by first | assumption | exact ⟨by omega, by omega⟩) (fun c8 => ?_) (fun c8 => ?_)
    · exact absurd c8 (by omega)
    · refine q_aload_n eX2_isWithin_11 rfl ?_
      refine q_iload_n eX2_isWithin_12 rfl ?_
      refine q_callVQ [vI (mvn p r m f x i)] (M1 := mX2_moved) eX2_isWithin_13 mf_X2_moved lk_X2_170 (hK _ (by decide) (by decide)) (ev_moved hK hX hT1 (mvn_el (by omega) hx i)) (by decide) (by decide) (by decide) (Nat.le_of_ble_eq_true rfl) rfl (fun A3 h3 => ?_)
      refine q_istore_n eX2_isWithin_16 (by decide) rfl ?_
      refine q_iinc eX2_isWithin_17 rfl (by decide) rfl ?_
      refine q_goto (tgt := 5) eX2_isWithin_20 (by decide) ?_
      exact ih (i + 1) A3 (by omega) (ho.trans h3)
set_option maxRecDepth 20000 in
theorem ev_isWithin {x : Int} {n : Nat} {p e r q N : Nat} {m : Int} {f : Nat → Int} {g : Int} {lg : Nat → Int} {F : HF} {A : HA} {al : AL} (hK : KX al) (hX : XF F) (hT : GT p e r q N m f g lg F A) (hx : El m r x) (hn : n < 2147483648) : QE 3 0 0 mX2_isWithin [vA 2, vI x, vI n] F A al (PQ (if mvn p r m f x n = x then 1 else 0) F al (fun A2 => Off [13, 14, 15] A A2)) := by
  refine QE.mk (by decide +kernel) (Nat.le_of_ble_eq_true rfl) ?_
  refine q_iload_n eX2_isWithin_0 rfl ?_
  refine q_istore_n eX2_isWithin_1 (by decide) rfl ?_
  refine q_iconst eX2_isWithin_2 ?_
  refine q_istore eX2_isWithin_3 (by decide) rfl ?_
  exact lp_isWithin hK hX hT hx hn n 0 A (by omega) Off.rfl'
/-- the least d from i on, k tried, that divides r and by which x moved is x (else r) -/
def lwE (p r : Nat) (m : Int) (f : Nat → Int) (x : Int) : Nat → Nat → Nat
  | _, 0 => r
  | i, k + 1 => if r % i = 0 ∧ mvn p r m f x i = x then i else lwE p r m f x (i + 1) k
set_option maxRecDepth 20000 in
theorem lp_leastWithin {x : Int} {A0 : HA} {p e r q N : Nat} {m : Int} {f : Nat → Int} {g : Int} {lg : Nat → Int} {F : HF}  {al : AL} (hK : KX al) (hX : XF F) (hT : GT p e r q N m f g lg F A0) (hx : El m r x) : ∀ (k i : Nat) (A : HA), 1 ≤ i → i + k = r → Off [13, 14, 15] A0 A →
    QW mX2_leastWithin 4 0 0 (PQ (lwE p r m f x i k : Nat) F al (fun A2 => Off [13, 14, 15] A0 A2)) 0 0 2 [some (vA 2), some (vI x), some (vI i)] [] F A al := by
  obtain ⟨hG, hp, he, hq, hN, hg, ⟨hp2, hp7, he1, he4, hme, hqe, hq3, hNm, hgE⟩, hP, hL, hI⟩ := id hT
  obtain ⟨hm, hr, hf, hm2, hr1, hr6, hN4⟩ := id hG
  have hm4 := hG.m4
  have hq2 := hT.q2
  have hx1 := hx.lt hN4
  intro k
  induction k with
  | zero =>
    intro i A hi1 hi ho
    refine q_iload_n eX2_leastWithin_2 rfl ?_
    refine q_aload_n eX2_leastWithin_3 rfl ?_
    refine q_getfield eX2_leastWithin_4 gf_X2_18 (hK _ (by decide) (by decide)) (by decide) (by assumption) ?_
    refine q_icmp_ge (tgt := 38) eX2_leastWithin_7 (by decide) (by first | assumption | exact ⟨by omega, by omega⟩) (by first | assumption | exact ⟨by omega, by omega⟩) (fun c7 => ?_) (fun c7 => ?_)
    · refine q_aload_n eX2_leastWithin_38 rfl ?_
      refine q_getfield eX2_leastWithin_39 gf_X2_18 (hK _ (by decide) (by decide)) (by decide) (by assumption) ?_
      refine q_retI eX2_leastWithin_42 rfl (by decide) (by decide) ?_
      exact ⟨rfl, rfl, rfl, ho⟩
    · exact absurd c7 (by omega)
  | succ k ih =>
    intro i A hi1 hi ho
    have hT1 := hT.s3 ho
    have hu : InR (if mvn p r m f x i = x then 1 else 0) := by split <;> exact ⟨by decide, by decide⟩
    have hm1 : (r : Int) % i = ((r % i : Nat) : Int) := by simp
    have hm9 : r % i < i := Nat.mod_lt _ (by omega)
    have h := ih (i + 1)
    have e9 : lwE p r m f x i (k + 1) = if r % i = 0 ∧ mvn p r m f x i = x then i else lwE p r m f x (i + 1) k := rfl
    refine q_iload_n eX2_leastWithin_2 rfl ?_
    refine q_aload_n eX2_leastWithin_3 rfl ?_
    refine q_getfield eX2_leastWithin_4 gf_X2_18 (hK _ (by decide) (by decide)) (by decide) (by assumption) ?_
    refine q_icmp_ge (tgt := 38) eX2_leastWithin_7 (by decide) (by first | assumption | exact ⟨by omega, by omega⟩) (by first | assumption | exact ⟨by omega, by omega⟩) (fun c7 => ?_) (fun c7 => ?_)
    · exact absurd c7 (by omega)
    · refine q_aload_n eX2_leastWithin_10 rfl ?_
      refine q_getfield eX2_leastWithin_11 gf_X2_18 (hK _ (by decide) (by decide)) (by decide) (by assumption) ?_
      refine q_iload_n eX2_leastWithin_14 rfl ?_
      refine q_callSP [vI r, vI i] (M1 := mX7_remainder) eX2_leastWithin_15 mf_X7_remainder lk_X2_87 (ev_remP (by omega) (by omega) (by omega) (by omega)) (by decide) (by decide) (by decide) (Nat.le_of_ble_eq_true rfl) rfl ?_
      rw [hm1]
      refine q_if_ne (tgt := 32) eX2_leastWithin_18 (by decide) (by first | assumption | exact ⟨by omega, by omega⟩) (fun c18 => ?_) (fun c18 => ?_)
      · refine q_iinc eX2_leastWithin_32 rfl (by decide) rfl ?_
        refine q_goto (tgt := 2) eX2_leastWithin_35 (by decide) ?_
        first
        | (rw [e9, if_neg (fun h8 => c18 (by rw [h8.1]; rfl))]
           exact h A (by omega) (by omega) ho)
        | (rw [e9, if_neg (fun h8 => by rw [if_pos h8.2] at c27; exact absurd c27 (by decide))]
           exact h A3 (by omega) (by omega) (ho.trans h3))
      · refine q_aload_n eX2_leastWithin_21 rfl ?_
        refine q_iload_n eX2_leastWithin_22 rfl ?_
        refine q_iload_n eX2_leastWithin_23 rfl ?_
        refine q_callVQ [vI x, vI i] (M1 := mX2_isWithin) eX2_leastWithin_24 mf_X2_isWithin lk_X2_173 (hK _ (by decide) (by decide)) (ev_isWithin hK hX hT1 hx (by omega)) (by decide) (by decide) (by decide) (Nat.le_of_ble_eq_true rfl) rfl (fun A3 h3 => ?_)
        refine q_if_eq (tgt := 32) eX2_leastWithin_27 (by decide) (by first | assumption | exact ⟨by omega, by omega⟩) (fun c27 => ?_) (fun c27 => ?_)
        · refine q_iinc eX2_leastWithin_32 rfl (by decide) rfl ?_
          refine q_goto (tgt := 2) eX2_leastWithin_35 (by decide) ?_
          first
          | (rw [e9, if_neg (fun h8 => c18 (by rw [h8.1]; rfl))]
             exact h A (by omega) (by omega) ho)
          | (rw [e9, if_neg (fun h8 => by rw [if_pos h8.2] at c27; exact absurd c27 (by decide))]
             exact h A3 (by omega) (by omega) (ho.trans h3))
        · refine q_iload_n eX2_leastWithin_30 rfl ?_
          refine q_retI eX2_leastWithin_31 rfl (by decide) (by decide) ?_
          refine ⟨?_, rfl, rfl, ho.trans h3⟩
          have h8 : mvn p r m f x i = x := Classical.byContradiction fun h7 => c27 (by rw [if_neg h7])
          rw [e9, if_pos ⟨by omega, h8⟩]
set_option maxRecDepth 20000 in
theorem ev_leastWithin {x : Int} {p e r q N : Nat} {m : Int} {f : Nat → Int} {g : Int} {lg : Nat → Int} {F : HF} {A : HA} {al : AL} (hK : KX al) (hX : XF F) (hT : GT p e r q N m f g lg F A) (hx : El m r x) : QE 4 0 0 mX2_leastWithin [vA 2, vI x] F A al (PQ (lwE p r m f x 1 (r - 1) : Nat) F al (fun A2 => Off [13, 14, 15] A A2)) := by
  refine QE.mk (by decide +kernel) (Nat.le_of_ble_eq_true rfl) ?_
  have hr1 := hT.1.2.2.2.2.1
  refine q_iconst eX2_leastWithin_0 ?_
  refine q_istore_n eX2_leastWithin_1 (by decide) rfl ?_
  exact lp_leastWithin hK hX hT hx (r - 1) 1 A (by omega) (by omega) Off.rfl'
def ivN (p e q : Nat) : Nat := (q - 1) * p ^ (e - 1) - 1
theorem iv_cast {p e r q N : Nat} {m : Int} {f : Nat → Int} {g : Int} {lg : Nat → Int} {F : HF} {A : HA} (hT : GT p e r q N m f g lg F A) : ((q : Int) - 1) * (p : Int) ^ (e - 1) - 1 = (ivN p e q : Nat) ∧ ivN p e q < 2147483647 := by
  obtain ⟨hG, hp, he, hq, hN, hg, ⟨hp2, hp7, he1, he4, hme, hqe, hq3, hNm, hgE⟩, hP, hL, hI⟩ := id hT
  obtain ⟨hm, hr, hf, hm2, hr1, hr6, hN4⟩ := id hG
  have hm4 := hG.m4
  have hq2 := hT.q2
  have h1 := pow_le7 (i := e - 1) hp7 (by omega)
  have h2 : 0 < p ^ (e - 1) := Nat.pow_pos (by omega)
  have h3 : (p : Int) ^ (e - 1) = ((p ^ (e - 1) : Nat) : Int) := by simp
  have h4 : 1 * 1 ≤ (q - 1) * p ^ (e - 1) := Nat.mul_le_mul (by omega) h2
  have h5 : (q - 1) * p ^ (e - 1) ≤ 3125 * 343 := Nat.mul_le_mul (by omega) (by omega)
  unfold ivN
  refine ⟨?_, by omega⟩
  rw [h3, show (q : Int) - 1 = ((q - 1 : Nat) : Int) by omega, ← Int.natCast_mul]
  omega
set_option maxRecDepth 20000 in
theorem ev_inverse {x : Int} {p e r q N : Nat} {m : Int} {f : Nat → Int} {g : Int} {lg : Nat → Int} {F : HF} {A : HA} {al : AL} (hK : KX al) (hX : XF F) (hT : GT p e r q N m f g lg F A) (hx : El m r x) : QE 4 0 0 mX2_inverse [vA 2, vI x] F A al (PQ (pw m r f x (ivN p e q)) F al (fun A2 => Off [13, 14, 15] A A2)) := by
  refine QE.mk (by decide +kernel) (Nat.le_of_ble_eq_true rfl) ?_
  obtain ⟨hG, hp, he, hq, hN, hg, ⟨hp2, hp7, he1, he4, hme, hqe, hq3, hNm, hgE⟩, hP, hL, hI⟩ := id hT
  obtain ⟨hm, hr, hf, hm2, hr1, hr6, hN4⟩ := id hG
  have hm4 := hG.m4
  have hq2 := hT.q2
  have hiv := iv_cast hT
  refine q_aload_n eX2_inverse_0 rfl ?_
  refine q_iload_n eX2_inverse_1 rfl ?_
  refine q_aload_n eX2_inverse_2 rfl ?_
  refine q_getfield eX2_inverse_3 gf_X2_24 (hK _ (by decide) (by decide)) (by decide) (by assumption) ?_
  refine q_iconst eX2_inverse_6 ?_
  refine q_isub eX2_inverse_7 ?_
  refine q_aload_n eX2_inverse_8 rfl ?_
  refine q_getfield eX2_inverse_9 gf_X2_9 (hK _ (by decide) (by decide)) (by decide) (by assumption) ?_
  refine q_aload_n eX2_inverse_12 rfl ?_
  refine q_getfield eX2_inverse_13 gf_X2_15 (hK _ (by decide) (by decide)) (by decide) (by assumption) ?_
  refine q_iconst eX2_inverse_16 ?_
  refine q_isub eX2_inverse_17 ?_
  refine q_callSP [vI p, vI ((e : Int) - 1)] (M1 := mX7_raise) eX2_inverse_18 mf_X7_raise lk_X2_64 (ev_raise (by exact ⟨by omega, by omega⟩)) (by decide) (by decide) (by decide) (Nat.le_of_ble_eq_true rfl) rfl ?_
  rw [show ((e : Int) - 1).toNat = e - 1 by omega]
  refine q_imul eX2_inverse_21 ?_
  refine q_iconst eX2_inverse_22 ?_
  refine q_isub eX2_inverse_23 ?_
  rw [hiv.1]
  refine q_callVQ [vI x, vI (ivN p e q : Nat)] (M1 := mX2_power) eX2_inverse_24 mf_X2_power lk_X2_110 (hK _ (by decide) (by decide)) (ev_power hK hX hG hx (by omega)) (by decide) (by decide) (by decide) (Nat.le_of_ble_eq_true rfl) rfl (fun A2 h2 => ?_)
  refine q_retI eX2_inverse_27 rfl (by decide) (by decide) ?_
  exact ⟨rfl, rfl, rfl, h2⟩
def obl (p e r q : Nat) (m : Int) (f : Nat → Int) (g : Int) (lg : Nat → Int) (x : Int) : Int := tm m r f x (pw m r f (ro p r m f g lg x) (ivN p e q))
set_option maxRecDepth 20000 in
theorem ev_oneBelow {x : Int} {p e r q N : Nat} {m : Int} {f : Nat → Int} {g : Int} {lg : Nat → Int} {F : HF} {A : HA} {al : AL} (hK : KX al) (hX : XF F) (hT : GT p e r q N m f g lg F A) (hx : El m r x) : QE 5 0 0 mX2_oneBelow [vA 2, vI x] F A al (PQ (obl p e r q m f g lg x) F al (fun A2 => Off [13, 14, 15] A A2)) := by
  refine QE.mk (by decide +kernel) (Nat.le_of_ble_eq_true rfl) ?_
  obtain ⟨hG, hp, he, hq, hN, hg, ⟨hp2, hp7, he1, he4, hme, hqe, hq3, hNm, hgE⟩, hP, hL, hI⟩ := id hT
  obtain ⟨hm, hr, hf, hm2, hr1, hr6, hN4⟩ := id hG
  have hm4 := hG.m4
  have hq2 := hT.q2
  refine q_aload_n eX2_oneBelow_0 rfl ?_
  refine q_iload_n eX2_oneBelow_1 rfl ?_
  refine q_aload_n eX2_oneBelow_2 rfl ?_
  refine q_aload_n eX2_oneBelow_3 rfl ?_
  refine q_iload_n eX2_oneBelow_4 rfl ?_
  refine q_callVP [vI x] (M1 := mX2_rootOf) eX2_oneBelow_5 mf_X2_rootOf lk_X2_161 (hK _ (by decide) (by decide)) (ev_rootOf hK hX hT hx) (by decide) (by decide) (by decide) (Nat.le_of_ble_eq_true rfl) rfl ?_
  refine q_callVQ [vI (ro p r m f g lg x)] (M1 := mX2_inverse) eX2_oneBelow_8 mf_X2_inverse lk_X2_177 (hK _ (by decide) (by decide)) (ev_inverse hK hX hT (ro_el hT x)) (by decide) (by decide) (by decide) (Nat.le_of_ble_eq_true rfl) rfl (fun A2 h2 => ?_)
  refine q_callVQ [vI x, vI (pw m r f (ro p r m f g lg x) (ivN p e q))] (M1 := mX2_times) eX2_oneBelow_11 mf_X2_times lk_X2_132 (hK _ (by decide) (by decide)) (ev_times hK hX (hT.s3 h2).1 hx (pw_el hm2 hr1 _ _)) (by decide) (by decide) (by decide) (Nat.le_of_ble_eq_true rfl) rfl (fun A3 h3 => ?_)
  refine q_retI eX2_oneBelow_14 rfl (by decide) (by decide) ?_
  exact ⟨rfl, rfl, rfl, h2.trans h3⟩
def obE (p r : Nat) (m : Int) (f : Nat → Int) : Nat → Int → Nat
  | 0, _ => 1
  | k + 1, y => if y = 1 then 1 else p * obE p r m f k (pw m r f y p)
theorem obE_le {p r : Nat} {m : Int} {f : Nat → Int} (hp : 1 ≤ p) : ∀ (k : Nat) (y : Int), 1 ≤ obE p r m f k y ∧ obE p r m f k y ≤ p ^ k
  | 0, _ => ⟨Nat.le_refl _, Nat.le_refl _⟩
  | k + 1, y => by
    obtain ⟨h1, h2⟩ := obE_le (r := r) (m := m) (f := f) hp k (pw m r f y p)
    have h3 : 0 < p ^ k := Nat.pow_pos hp
    have h4 : p * obE p r m f k (pw m r f y p) ≤ p * p ^ k := Nat.mul_le_mul_left _ h2
    have h5 : 1 * 1 ≤ p * obE p r m f k (pw m r f y p) := Nat.mul_le_mul hp h1
    have h6 : 1 * 1 ≤ p * p ^ k := Nat.mul_le_mul hp h3
    unfold obE
    rw [Nat.pow_succ, Nat.mul_comm (p ^ k)]
    split <;> omega
set_option maxRecDepth 20000 in
theorem lp_orderOneBelow {x0 : Int} {A0 : HA} {p e r q N : Nat} {m : Int} {f : Nat → Int} {g : Int} {lg : Nat → Int} {F : HF}  {al : AL} (hK : KX al) (hX : XF F) (hT : GT p e r q N m f g lg F A0) : ∀ (k i : Nat) (o : Int) (y : Int) (A : HA), i + k = e → El m r y → Off [13, 14, 15] A0 A →
    QW mX2_orderOneBelow 4 0 0 (PQ (o * (obE p r m f k y : Nat)) F al (fun A2 => Off [13, 14, 15] A0 A2)) 0 0 7 [some (vA 2), some (vI x0), some (vI o), some (vI y), some (vI i)] [] F A al := by
  obtain ⟨hG, hp, he, hq, hN, hg, ⟨hp2, hp7, he1, he4, hme, hqe, hq3, hNm, hgE⟩, hP, hL, hI⟩ := id hT
  obtain ⟨hm, hr, hf, hm2, hr1, hr6, hN4⟩ := id hG
  have hm4 := hG.m4
  have hq2 := hT.q2
  intro k
  induction k with
  | zero =>
    intro i o y A hi hy ho
    refine q_iload eX2_orderOneBelow_7 rfl ?_
    refine q_aload_n eX2_orderOneBelow_9 rfl ?_
    refine q_getfield eX2_orderOneBelow_10 gf_X2_15 (hK _ (by decide) (by decide)) (by decide) (by assumption) ?_
    refine q_icmp_ge (tgt := 44) eX2_orderOneBelow_13 (by decide) (by first | assumption | exact ⟨by omega, by omega⟩) (by first | assumption | exact ⟨by omega, by omega⟩) (fun c13 => ?_) (fun c13 => ?_)
    · refine q_iload_n eX2_orderOneBelow_44 rfl ?_
      refine q_retI eX2_orderOneBelow_45 rfl (by decide) (by decide) ?_
      refine ⟨?_, rfl, rfl, ho⟩
      show _ = Sum.inl (some (o * ((1 : Nat) : Int)))
      rw [Int.natCast_one, Int.mul_one]
    · exact absurd c13 (by omega)
  | succ k ih =>
    intro i o y A hi hy ho
    have hy1 := hy.lt hN4
    have hT1 := hT.s3 ho
    have e9 : obE p r m f (k + 1) y = if y = 1 then 1 else p * obE p r m f k (pw m r f y p) := rfl
    refine q_iload eX2_orderOneBelow_7 rfl ?_
    refine q_aload_n eX2_orderOneBelow_9 rfl ?_
    refine q_getfield eX2_orderOneBelow_10 gf_X2_15 (hK _ (by decide) (by decide)) (by decide) (by assumption) ?_
    refine q_icmp_ge (tgt := 44) eX2_orderOneBelow_13 (by decide) (by first | assumption | exact ⟨by omega, by omega⟩) (by first | assumption | exact ⟨by omega, by omega⟩) (fun c13 => ?_) (fun c13 => ?_)
    · exact absurd c13 (by omega)
    · refine q_iload_n eX2_orderOneBelow_16 rfl ?_
      refine q_iconst eX2_orderOneBelow_17 ?_
      refine q_icmp_eq (tgt := 44) eX2_orderOneBelow_18 (by decide) (by first | assumption | exact ⟨by omega, by omega⟩) (by first | assumption | exact ⟨by omega, by omega⟩) (fun c18 => ?_) (fun c18 => ?_)
      · refine q_iload_n eX2_orderOneBelow_44 rfl ?_
        refine q_retI eX2_orderOneBelow_45 rfl (by decide) (by decide) ?_
        refine ⟨?_, rfl, rfl, ho⟩
        rw [e9, if_pos c18, Int.natCast_one, Int.mul_one]
      · refine q_aload_n eX2_orderOneBelow_21 rfl ?_
        refine q_iload_n eX2_orderOneBelow_22 rfl ?_
        refine q_aload_n eX2_orderOneBelow_23 rfl ?_
        refine q_getfield eX2_orderOneBelow_24 gf_X2_9 (hK _ (by decide) (by decide)) (by decide) (by assumption) ?_
        refine q_callVQ [vI y, vI p] (M1 := mX2_power) eX2_orderOneBelow_27 mf_X2_power lk_X2_110 (hK _ (by decide) (by decide)) (ev_power (n := p) hK hX hT1.1 hy (by omega)) (by decide) (by decide) (by decide) (Nat.le_of_ble_eq_true rfl) rfl (fun A2 h2 => ?_)
        refine q_istore_n eX2_orderOneBelow_30 (by decide) rfl ?_
        refine q_iload_n eX2_orderOneBelow_31 rfl ?_
        refine q_aload_n eX2_orderOneBelow_32 rfl ?_
        refine q_getfield eX2_orderOneBelow_33 gf_X2_9 (hK _ (by decide) (by decide)) (by decide) (by assumption) ?_
        refine q_imul eX2_orderOneBelow_36 ?_
        refine q_istore_n eX2_orderOneBelow_37 (by decide) rfl ?_
        refine q_iinc eX2_orderOneBelow_38 rfl (by decide) rfl ?_
        refine q_goto (tgt := 7) eX2_orderOneBelow_41 (by decide) ?_
        have h := ih (i + 1) (o * p) (pw m r f y p) A2 (by omega) (pw_el hm2 hr1 _ _) (ho.trans h2)
        rw [e9, if_neg c18, Int.natCast_mul, ← Int.mul_assoc]
        exact h
set_option maxRecDepth 20000 in
theorem ev_orderOneBelow {x : Int} {p e r q N : Nat} {m : Int} {f : Nat → Int} {g : Int} {lg : Nat → Int} {F : HF} {A : HA} {al : AL} (hK : KX al) (hX : XF F) (hT : GT p e r q N m f g lg F A) (hx : El m r x) : QE 4 0 0 mX2_orderOneBelow [vA 2, vI x] F A al (PQ (obE p r m f (e - 1) x : Nat) F al (fun A2 => Off [13, 14, 15] A A2)) := by
  refine QE.mk (by decide +kernel) (Nat.le_of_ble_eq_true rfl) ?_
  obtain ⟨hG, hp, he, hq, hN, hg, ⟨hp2, hp7, he1, he4, hme, hqe, hq3, hNm, hgE⟩, hP, hL, hI⟩ := id hT
  obtain ⟨hm, hr, hf, hm2, hr1, hr6, hN4⟩ := id hG
  have hm4 := hG.m4
  have hq2 := hT.q2
  refine q_iconst eX2_orderOneBelow_0 ?_
  refine q_istore_n eX2_orderOneBelow_1 (by decide) rfl ?_
  refine q_iload_n eX2_orderOneBelow_2 rfl ?_
  refine q_istore_n eX2_orderOneBelow_3 (by decide) rfl ?_
  refine q_iconst eX2_orderOneBelow_4 ?_
  refine q_istore eX2_orderOneBelow_5 (by decide) rfl ?_
  have h := lp_orderOneBelow (x0 := x) hK hX hT (e - 1) 1 1 x A (by omega) hx Off.rfl'
  rw [Int.one_mul] at h
  exact h
def ordE (p e r q : Nat) (m : Int) (f : Nat → Int) (g : Int) (lg : Nat → Int) (x : Int) : Nat := (q - 1) / Nat.gcd (rl p r m lg x).toNat (q - 1) * obE p r m f (e - 1) (obl p e r q m f g lg x)
set_option maxRecDepth 20000 in
theorem ev_order {x : Int} {p e r q N : Nat} {m : Int} {f : Nat → Int} {g : Int} {lg : Nat → Int} {F : HF} {A : HA} {al : AL} (hK : KX al) (hX : XF F) (hT : GT p e r q N m f g lg F A) (hx : El m r x) (hu : rl p r m lg x ≠ -1) : QE 6 0 0 mX2_order [vA 2, vI x] F A al (PQ (ordE p e r q m f g lg x : Nat) F al (fun A2 => Off [13, 14, 15] A A2)) := by
  refine QE.mk (by decide +kernel) (Nat.le_of_ble_eq_true rfl) ?_
  obtain ⟨hG, hp, he, hq, hN, hg, ⟨hp2, hp7, he1, he4, hme, hqe, hq3, hNm, hgE⟩, hP, hL, hI⟩ := id hT
  obtain ⟨hm, hr, hf, hm2, hr1, hr6, hN4⟩ := id hG
  have hm4 := hG.m4
  have hq2 := hT.q2
  have hrl := rl_R hT x
  have hgc : 0 < Nat.gcd (rl p r m lg x).toNat (q - 1) := Nat.gcd_pos_of_pos_right _ (by omega)
  have hgc2 : Nat.gcd (rl p r m lg x).toNat (q - 1) ≤ q - 1 := Nat.gcd_le_right _ (by omega)
  refine q_aload_n eX2_order_0 rfl ?_
  refine q_getfield eX2_order_1 gf_X2_24 (hK _ (by decide) (by decide)) (by decide) (by assumption) ?_
  refine q_iconst eX2_order_4 ?_
  refine q_isub eX2_order_5 ?_
  refine q_aload_n eX2_order_6 rfl ?_
  refine q_iload_n eX2_order_7 rfl ?_
  refine q_callVP [vI x] (M1 := mX2_rootLog) eX2_order_8 mf_X2_rootLog lk_X2_157 (hK _ (by decide) (by decide)) (ev_rootLog hK hX hT hx) (by decide) (by decide) (by decide) (Nat.le_of_ble_eq_true rfl) rfl ?_
  refine q_aload_n eX2_order_11 rfl ?_
  refine q_getfield eX2_order_12 gf_X2_24 (hK _ (by decide) (by decide)) (by decide) (by assumption) ?_
  refine q_iconst eX2_order_15 ?_
  refine q_isub eX2_order_16 ?_
  rw [show rl p r m lg x = ((rl p r m lg x).toNat : Int) by omega, show (q : Int) - 1 = ((q - 1 : Nat) : Int) by omega]
  refine q_callSP [vI ((rl p r m lg x).toNat : Nat), vI ((q - 1 : Nat) : Int)] (M1 := mX7_common) eX2_order_17 mf_X7_common lk_X2_180 (ev_common (by omega) (by omega) (by omega)) (by decide) (by decide) (by decide) (Nat.le_of_ble_eq_true rfl) rfl ?_
  refine q_callSP [vI ((q - 1 : Nat) : Int), vI (Nat.gcd (rl p r m lg x).toNat (q - 1) : Nat)] (M1 := mX7_quotient) eX2_order_20 mf_X7_quotient lk_X2_94 (ev_quotP (by omega) (by omega) (by omega) (by omega)) (by decide) (by decide) (by decide) (Nat.le_of_ble_eq_true rfl) rfl ?_
  refine q_istore_n eX2_order_23 (by decide) rfl ?_
  refine q_iload_n eX2_order_24 rfl ?_
  refine q_aload_n eX2_order_25 rfl ?_
  refine q_aload_n eX2_order_26 rfl ?_
  refine q_iload_n eX2_order_27 rfl ?_
  refine q_callVQ [vI x] (M1 := mX2_oneBelow) eX2_order_28 mf_X2_oneBelow lk_X2_183 (hK _ (by decide) (by decide)) (ev_oneBelow hK hX hT hx) (by decide) (by decide) (by decide) (Nat.le_of_ble_eq_true rfl) rfl (fun A2 h2 => ?_)
  refine q_callVQ [vI (obl p e r q m f g lg x)] (M1 := mX2_orderOneBelow) eX2_order_31 mf_X2_orderOneBelow lk_X2_186 (hK _ (by decide) (by decide)) (ev_orderOneBelow hK hX (hT.s3 h2) (tm_el (by omega) _ _)) (by decide) (by decide) (by decide) (Nat.le_of_ble_eq_true rfl) rfl (fun A3 h3 => ?_)
  refine q_imul eX2_order_34 ?_
  refine q_retI eX2_order_35 rfl (by decide) (by decide) ?_
  refine ⟨?_, rfl, rfl, h2.trans h3⟩
  unfold ordE
  rw [Int.natCast_mul, Int.natCast_ediv]
