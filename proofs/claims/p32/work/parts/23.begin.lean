/-! Galois: a ring begins (images, generator, logs) -/
set_option maxRecDepth 20000 in
theorem lp_fillImages {p e r q N : Nat} {m : Int} {f : Nat → Int} {F : HF} {A0 : HA} {al : AL} (hK : KX al) (hX : XF F) (hB : GB p e r q N m F) (hG0 : GA m r f F A0) : ∀ (k j : Nat) (A : HA), j + k = r → Off [7, 8, 9, 10, 11, 12, 13, 14, 15] A0 A → (∀ a i, a < j → i < 6 → A (7 + a) i = dg m i (pw m r f (tE m r) (p * a))) →
    QW mX2_fillImages 4 0 0 (PV F al (fun A2 => Off [7, 8, 9, 10, 11, 12, 13, 14, 15] A0 A2 ∧ ∀ a i, a < r → i < 6 → A2 (7 + a) i = dg m i (pw m r f (tE m r) (p * a)))) 0 0 2 [some (vA 2), some (vI j)] [] F A al := by
  obtain ⟨hp, he, hr, hm, hq, hN, hpp, hp2, hp7, he1, he4, hr1, hr6, hme, hqe, hNm, hN4, hq3⟩ := id hB
  have hm2 := hB.m2
  have hq2 := hB.q2
  have hm4 := hB.m4
  have hqt := hB.qt
  intro k
  induction k with
  | zero =>
    intro j A hj ho h1
    have ej : j = r := by omega
    subst ej
    refine q_iload_n eX2_fillImages_2 rfl ?_
    refine q_aload_n eX2_fillImages_3 rfl ?_
    refine q_getfield eX2_fillImages_4 gf_X2_18 (hK _ (by decide) (by decide)) (by decide) (by assumption) ?_
    refine q_icmp_ge (tgt := 49) eX2_fillImages_7 (by decide) (by first | assumption | exact ⟨by omega, by omega⟩) (by first | assumption | exact ⟨by omega, by omega⟩) (fun c7 => ?_) (fun c7 => ?_)
    · refine q_retV eX2_fillImages_49 rfl (by decide) (by decide) ?_
      exact ⟨rfl, rfl, rfl, ho, h1⟩
    · exact absurd c7 (by omega)
  | succ k ih =>
    intro j A hj ho h1
    have hG : GA m r f F A := hG0.off ho (by decide)
    have hj6 : j < 6 := by omega
    have hji := xf_img hX hj6
    have hki := kx_img hK hj6
    have hmul : ((p : Int) * j) = ((p * j : Nat) : Int) := by simp
    have hpj : p * j ≤ 7 * 6 := Nat.mul_le_mul hp7 (by omega)
    have hel := pw_el (f := f) hm2 hr1 (tE m r) (p * j)
    have hlt := hel.lt (by omega)
    have hnot : 7 + j ∈ [7, 8, 9, 10, 11, 12, 13, 14, 15] := by simp; omega
    refine q_iload_n eX2_fillImages_2 rfl ?_
    refine q_aload_n eX2_fillImages_3 rfl ?_
    refine q_getfield eX2_fillImages_4 gf_X2_18 (hK _ (by decide) (by decide)) (by decide) (by assumption) ?_
    refine q_icmp_ge (tgt := 49) eX2_fillImages_7 (by decide) (by first | assumption | exact ⟨by omega, by omega⟩) (by first | assumption | exact ⟨by omega, by omega⟩) (fun c7 => ?_) (fun c7 => ?_)
    · exact absurd c7 (by omega)
    · refine q_iload_n eX2_fillImages_10 rfl ?_
      refine q_aload_n eX2_fillImages_11 rfl ?_
      refine q_getfield eX2_fillImages_12 gf_X2_45 (hK _ (by decide) (by decide)) (by decide) (xf_2_10 hX) ?_
      refine q_alenM eX2_fillImages_15 (hK _ (by decide) (by decide)) ?_
      refine q_icmp_ge (tgt := 49) eX2_fillImages_16 (by decide) (by first | assumption | exact ⟨by omega, by omega⟩) (by first | assumption | exact ⟨by omega, by omega⟩) (fun c16 => ?_) (fun c16 => ?_)
      · exact absurd c16 (by omega)
      · refine q_aload_n eX2_fillImages_19 rfl ?_
        refine q_aload_n eX2_fillImages_20 rfl ?_
        refine q_aload_n eX2_fillImages_21 rfl ?_
        refine q_callVP [] (M1 := mX2_t) eX2_fillImages_22 mf_X2_t lk_X2_103 (hK _ (by decide) (by decide)) (ev_t hK hX hG) (by decide) (by decide) (by decide) (Nat.le_of_ble_eq_true rfl) rfl ?_
        rw [tE_cast]
        refine q_aload_n eX2_fillImages_25 rfl ?_
        refine q_getfield eX2_fillImages_26 gf_X2_9 (hK _ (by decide) (by decide)) (by decide) (by assumption) ?_
        refine q_iload_n eX2_fillImages_29 rfl ?_
        refine q_imul eX2_fillImages_30 ?_
        rw [hmul]
        refine q_callVQ [vI (tE m r), vI (p * j : Nat)] (M1 := mX2_power) eX2_fillImages_31 mf_X2_power lk_X2_110 (hK _ (by decide) (by decide)) (ev_power hK hX hG (tE_el hm2 hr1) (by omega)) (by decide) (by decide) (by decide) (Nat.le_of_ble_eq_true rfl) rfl (fun A2 h2 => ?_)
        refine q_aload_n eX2_fillImages_34 rfl ?_
        refine q_getfield eX2_fillImages_35 gf_X2_45 (hK _ (by decide) (by decide)) (by decide) (xf_2_10 hX) ?_
        refine q_iload_n eX2_fillImages_38 rfl ?_
        refine q_aald eX2_fillImages_39 (hK _ (by decide) (by decide)) (by omega) (by omega) hji ?_
        refine q_callVV [vI (pw m r f (tE m r) (p * j)), vA (7 + j)] (M1 := mX2_spread) eX2_fillImages_40 mf_X2_spread lk_X2_120 (hK _ (by decide) (by decide)) (ev_spread hK hm hm2 (by omega) hki (by decide) (by omega) (by omega)) (by decide) (by decide) (by decide) (Nat.le_of_ble_eq_true rfl) rfl (fun A3 h3 => ?_)
        obtain ⟨o3, v3⟩ := h3
        refine q_iinc eX2_fillImages_43 rfl (by decide) rfl ?_
        refine q_goto (tgt := 2) eX2_fillImages_46 (by decide) ?_
        refine ih (j + 1) A3 (by omega) ((ho.trans (h2.mono (by simp))).trans (o3.mono (fun b hb => by rw [List.mem_singleton.mp hb]; exact hnot))) (fun a i ha hi => ?_)
        by_cases he : a = j
        · rw [he]; exact v3 i hi
        · rw [o3 (7 + a) (by simp; omega), h2 (7 + a) (by simp; omega)]
          exact h1 a i (by omega) hi
set_option maxRecDepth 20000 in
theorem ev_fillImages {p e r q N : Nat} {m : Int} {f : Nat → Int} {F : HF} {A : HA} {al : AL} (hK : KX al) (hX : XF F) (hB : GB p e r q N m F) (hG : GA m r f F A) : QE 4 0 0 mX2_fillImages [vA 2] F A al (PV F al (fun A2 => Off [7, 8, 9, 10, 11, 12, 13, 14, 15] A A2 ∧ ∀ a i, a < r → i < 6 → A2 (7 + a) i = dg m i (pw m r f (tE m r) (p * a)))) := by
  refine QE.mk (by decide +kernel) (Nat.le_of_ble_eq_true rfl) ?_
  refine q_iconst eX2_fillImages_0 ?_
  refine q_istore_n eX2_fillImages_1 (by decide) rfl ?_
  exact lp_fillImages hK hX hB hG r 0 A (by omega) Off.rfl' (fun a i ha _ => absurd ha (by omega))
abbrev maE (q : Nat) (m : Int) (r : Nat) (f : Nat → Int) (x : Int) : Prop := ∀ n, n < q - 1 → 1 ≤ n → pw m r f x n ≠ 1
set_option maxRecDepth 20000 in
theorem lp_makes {x : Int} {p e r q N : Nat} {m : Int} {f : Nat → Int} {F : HF} {A0 : HA} {al : AL} (hK : KX al) (hX : XF F) (hB : GB p e r q N m F) (hG0 : GA m r f F A0) (hx : El m r x) : ∀ (k n : Nat) (A : HA), n + k = q - 1 → 1 ≤ n → Off [13, 14, 15] A0 A → (∀ i, i < n → 1 ≤ i → pw m r f x i ≠ 1) →
    QW mX2_makesAllRoots 3 0 0 (PQ (if maE q m r f x then 1 else 0) F al (fun A2 => Off [13, 14, 15] A0 A2)) 0 0 4 [some (vA 2), some (vI x), some (vI (pw m r f x n)), some (vI n)] [] F A al := by
  obtain ⟨hp, he, hr, hm, hq, hN, hpp, hp2, hp7, he1, he4, hr1, hr6, hme, hqe, hNm, hN4, hq3⟩ := id hB
  have hm2 := hB.m2
  have hq2 := hB.q2
  have hm4 := hB.m4
  have hqt := hB.qt
  intro k
  induction k with
  | zero =>
    intro n A hn hn1 ho h1
    have en : n = q - 1 := by omega
    subst en
    refine q_iload_n eX2_makesAllRoots_4 rfl ?_
    refine q_aload_n eX2_makesAllRoots_5 rfl ?_
    refine q_getfield eX2_makesAllRoots_6 gf_X2_24 (hK _ (by decide) (by decide)) (by decide) (by assumption) ?_
    refine q_iconst eX2_makesAllRoots_9 ?_
    refine q_isub eX2_makesAllRoots_10 ?_
    refine q_icmp_ge (tgt := 34) eX2_makesAllRoots_11 (by decide) (by first | assumption | exact ⟨by omega, by omega⟩) (by first | assumption | exact ⟨by omega, by omega⟩) (fun c11 => ?_) (fun c11 => ?_)
    · refine q_iconst eX2_makesAllRoots_34 ?_
      refine q_retZ eX2_makesAllRoots_35 rfl (by first | exact Or.inl rfl | exact Or.inr rfl | assumption) (by decide) (by decide) ?_
      exact ⟨by rw [if_pos h1], rfl, rfl, ho⟩
    · exact absurd c11 (by omega)
  | succ k ih =>
    intro n A hn hn1 ho h1
    have hel := pw_el (f := f) hm2 hr1 x n
    have hlt := hel.lt (by omega)
    refine q_iload_n eX2_makesAllRoots_4 rfl ?_
    refine q_aload_n eX2_makesAllRoots_5 rfl ?_
    refine q_getfield eX2_makesAllRoots_6 gf_X2_24 (hK _ (by decide) (by decide)) (by decide) (by assumption) ?_
    refine q_iconst eX2_makesAllRoots_9 ?_
    refine q_isub eX2_makesAllRoots_10 ?_
    refine q_icmp_ge (tgt := 34) eX2_makesAllRoots_11 (by decide) (by first | assumption | exact ⟨by omega, by omega⟩) (by first | assumption | exact ⟨by omega, by omega⟩) (fun c11 => ?_) (fun c11 => ?_)
    · exact absurd c11 (by omega)
    · refine q_iload_n eX2_makesAllRoots_14 rfl ?_
      refine q_iconst eX2_makesAllRoots_15 ?_
      refine q_icmp_ne (tgt := 21) eX2_makesAllRoots_16 (by decide) (by first | assumption | exact ⟨by omega, by omega⟩) (by first | assumption | exact ⟨by omega, by omega⟩) (fun c16 => ?_) (fun c16 => ?_)
      · refine q_aload_n eX2_makesAllRoots_21 rfl ?_
        refine q_iload_n eX2_makesAllRoots_22 rfl ?_
        refine q_iload_n eX2_makesAllRoots_23 rfl ?_
        refine q_callVQ [vI (pw m r f x n), vI x] (M1 := mX2_times) eX2_makesAllRoots_24 mf_X2_times lk_X2_132 (hK _ (by decide) (by decide)) (ev_times hK hX (hG0.s3 ho) hel hx) (by decide) (by decide) (by decide) (Nat.le_of_ble_eq_true rfl) rfl (fun A2 h2 => ?_)
        refine q_istore_n eX2_makesAllRoots_27 (by decide) rfl ?_
        refine q_iinc eX2_makesAllRoots_28 rfl (by decide) rfl ?_
        refine q_goto (tgt := 4) eX2_makesAllRoots_31 (by decide) ?_
        refine ih (n + 1) A2 (by omega) (by omega) (ho.trans h2) (fun i hi hi1 => ?_)
        by_cases he : i = n
        · rw [he]; exact c16
        · exact h1 i (by omega) hi1
      · refine q_iconst eX2_makesAllRoots_19 ?_
        refine q_retZ eX2_makesAllRoots_20 rfl (by first | exact Or.inl rfl | exact Or.inr rfl | assumption) (by decide) (by decide) ?_
        exact ⟨by rw [if_neg (fun h => h n (by omega) hn1 c16)], rfl, rfl, ho⟩
set_option maxRecDepth 20000 in
theorem ev_makesAllRoots {x : Int} {p e r q N : Nat} {m : Int} {f : Nat → Int} {F : HF} {A : HA} {al : AL} (hK : KX al) (hX : XF F) (hB : GB p e r q N m F) (hG : GA m r f F A) (hx : El m r x) : QE 3 0 0 mX2_makesAllRoots [vA 2, vI x] F A al (PQ (if maE q m r f x then 1 else 0) F al (fun A2 => Off [13, 14, 15] A A2)) := by
  refine QE.mk (by decide +kernel) (Nat.le_of_ble_eq_true rfl) ?_
  obtain ⟨hp, he, hr, hm, hq, hN, hpp, hp2, hp7, he1, he4, hr1, hr6, hme, hqe, hNm, hN4, hq3⟩ := id hB
  have hm2 := hB.m2
  have hq2 := hB.q2
  have hm4 := hB.m4
  have hqt := hB.qt
  refine q_iload_n eX2_makesAllRoots_0 rfl ?_
  refine q_istore_n eX2_makesAllRoots_1 (by decide) rfl ?_
  refine q_iconst eX2_makesAllRoots_2 ?_
  refine q_istore_n eX2_makesAllRoots_3 (by decide) rfl ?_
  have h := lp_makes hK hX hB hG hx (q - 2) 1 A (by omega) (Nat.le_refl _) Off.rfl' (fun i h1 h2 => absurd h1 (by omega))
  rw [pw_one hm2 hr1 hx] at h
  exact h
/-- the number below, lifted digit by digit -/
def liE (p r : Nat) (m : Int) (b : Int) : Int := un m r (fun i => dg p i b)
theorem rbE_li {p r : Nat} {m b : Int} (hp : 0 < p) (hm : (p : Int) ≤ m) : rbE p r p m b = liE p r m b := by
  unfold liE rbE
  rw [un_sm]
  apply sm_congr
  intro i _
  have h := dg_range (m := (p : Int)) (by omega) i b
  rw [Int.emod_eq_of_lt h.1 h.2, Int.emod_eq_of_lt h.1 (by omega)]
def tcE (p e r q : Nat) (m : Int) (f : Nat → Int) (b : Nat) : Int := pw m r f (liE p r m b) (q ^ (e - 1))
/-- the generator, b numbers tried -/
def gnE (p e r q : Nat) (m : Int) (f : Nat → Int) : Nat → Int
  | 0 => 0
  | b + 1 => if (gnE p e r q m f b = 0 ∨ tcE p e r q m f (b + 1) < gnE p e r q m f b) ∧ maE q m r f (tcE p e r q m f (b + 1)) then tcE p e r q m f (b + 1) else gnE p e r q m f b
theorem tc_el {p e r q : Nat} {m : Int} {f : Nat → Int} (hm : 2 ≤ m) (hr : 0 < r) (b : Nat) : El m r (tcE p e r q m f b) := pw_el hm hr _ _
theorem gn_el {p e r q : Nat} {m : Int} {f : Nat → Int} (hm : 2 ≤ m) (hr : 0 < r) : ∀ b, El m r (gnE p e r q m f b)
  | 0 => el_zero (by omega)
  | b + 1 => by
    unfold gnE
    split
    · exact tc_el hm hr _
    · exact gn_el hm hr b
theorem GA.upF {m : Int} {r : Nat} {f : Nat → Int} {F : HF} {A : HA} {v : LV} (h : GA m r f F A) : GA m r f (up2 F 2 6 v) A := ⟨by rw [up2_ne (by decide)]; exact h.1, by rw [up2_ne (by decide)]; exact h.2.1, h.2.2⟩
theorem GB.upF {p e r q N : Nat} {m : Int} {F : HF} {v : LV} (h : GB p e r q N m F) : GB p e r q N m (up2 F 2 6 v) := by
  obtain ⟨h1, h2, h3, h4, h5, h6, h7⟩ := h
  refine ⟨?_, ?_, ?_, ?_, ?_, ?_, h7⟩ <;> (rw [up2_ne (by decide)]; assumption)
def PG6 (F : HF) (al : AL) (g : Int) (Q : HA → Prop) : PO := fun o F' A' al' => o = .inl none ∧ F' = up2 F 2 6 (vI g) ∧ al' = al ∧ Q A'
theorem nt_PG6 {F : HF} {al : AL} {g : Int} {Q : HA → Prop} : NT (PG6 F al g Q) := by intro E F A al h; cases h.1
set_option maxRecDepth 20000 in
theorem lp_findGen {p e r q N : Nat} {m : Int} {f : Nat → Int} {F : HF} {A0 : HA} {al : AL} (hK : KX al) (hX0 : XF F) (hB0 : GB p e r q N m F) (hG0 : GA m r f F A0) : ∀ (k b : Nat) (A : HA) (l3 : Option LV), b + k + 1 = q → Off [13, 14, 15] A0 A →
    QW mX2_findGenerator 4 0 0 (PG6 F al (gnE p e r q m f (q - 1)) (fun A2 => Off [13, 14, 15] A0 A2)) 0 0 12 [some (vA 2), some (vI (q ^ (e - 1) : Nat)), some (vI (b + 1 : Nat)), l3] [] (up2 F 2 6 (vI (gnE p e r q m f b))) A al := by
  intro k
  induction k with
  | zero =>
    intro b A l3 hb ho
    have hX := XF.up (v := vI (gnE p e r q m f b)) hX0 (show plainF xrefs 2 6 = true by decide)
    have hB := GB.upF (v := vI (gnE p e r q m f b)) hB0
    obtain ⟨hp, he, hr, hm, hq, hN, hpp, hp2, hp7, he1, he4, hr1, hr6, hme, hqe, hNm, hN4, hq3⟩ := id hB
    have hm2 := hB.m2
    have hq2 := hB.q2
    have hm4 := hB.m4
    have hqt := hB.qt
    have eb : b = q - 1 := by omega
    subst eb
    refine q_iload_n eX2_findGenerator_12 rfl ?_
    refine q_aload_n eX2_findGenerator_13 rfl ?_
    refine q_getfield eX2_findGenerator_14 gf_X2_24 (hK _ (by decide) (by decide)) (by decide) (by assumption) ?_
    refine q_icmp_ge (tgt := 73) eX2_findGenerator_17 (by decide) (by first | assumption | exact ⟨by omega, by omega⟩) (by first | assumption | exact ⟨by omega, by omega⟩) (fun c17 => ?_) (fun c17 => ?_)
    · refine q_retV eX2_findGenerator_73 rfl (by decide) (by decide) ?_
      exact ⟨rfl, rfl, rfl, ho⟩
    · exact absurd c17 (by omega)
  | succ k ih =>
    intro b A l3 hb ho
    have hX := XF.up (v := vI (gnE p e r q m f b)) hX0 (show plainF xrefs 2 6 = true by decide)
    have hB := GB.upF (v := vI (gnE p e r q m f b)) hB0
    have hG := GA.upF (v := vI (gnE p e r q m f b)) (hG0.s3 ho)
    obtain ⟨hp, he, hr, hm, hq, hN, hpp, hp2, hp7, he1, he4, hr1, hr6, hme, hqe, hNm, hN4, hq3⟩ := id hB
    have hm2 := hB.m2
    have hq2 := hB.q2
    have hm4 := hB.m4
    have hqt := hB.qt
    have hg6 : up2 F 2 6 (vI (gnE p e r q m f b)) 2 6 = vI (gnE p e r q m f b) := up2_eq _ _ _ _
    have hpm : (p : Int) ≤ m := by rw [hme]; exact pow_ge (by omega) he1
    have hli : El m r (liE p r m (b + 1 : Nat)) := un_range (by omega) _ _
    have hlt := hli.lt (by omega)
    have htc := (tc_el (p := p) (e := e) (q := q) (f := f) hm2 hr1 (b + 1))
    have htl := htc.lt (by omega)
    have hgl := (gn_el (p := p) (e := e) (q := q) (f := f) hm2 hr1 b).lt (by omega)
    have hst : gnE p e r q m f (b + 1) = if (gnE p e r q m f b = 0 ∨ tcE p e r q m f (b + 1) < gnE p e r q m f b) ∧ maE q m r f (tcE p e r q m f (b + 1)) then tcE p e r q m f (b + 1) else gnE p e r q m f b := rfl
    have ih1 := ih (b + 1)
    have hrr : InR (if maE q m r f (tcE p e r q m f (b + 1)) then 1 else 0) := by split <;> exact ⟨by decide, by decide⟩
    refine q_iload_n eX2_findGenerator_12 rfl ?_
    refine q_aload_n eX2_findGenerator_13 rfl ?_
    refine q_getfield eX2_findGenerator_14 gf_X2_24 (hK _ (by decide) (by decide)) (by decide) (by assumption) ?_
    refine q_icmp_ge (tgt := 73) eX2_findGenerator_17 (by decide) (by first | assumption | exact ⟨by omega, by omega⟩) (by first | assumption | exact ⟨by omega, by omega⟩) (fun c17 => ?_) (fun c17 => ?_)
    · exact absurd c17 (by omega)
    · refine q_aload_n eX2_findGenerator_20 rfl ?_
      refine q_aload_n eX2_findGenerator_21 rfl ?_
      refine q_iload_n eX2_findGenerator_22 rfl ?_
      refine q_aload_n eX2_findGenerator_23 rfl ?_
      refine q_getfield eX2_findGenerator_24 gf_X2_9 (hK _ (by decide) (by decide)) (by decide) (by assumption) ?_
      refine q_aload_n eX2_findGenerator_27 rfl ?_
      refine q_getfield eX2_findGenerator_28 gf_X2_21 (hK _ (by decide) (by decide)) (by decide) (by assumption) ?_
      refine q_callVP [vI (b + 1 : Nat), vI p, vI m] (M1 := mX2_rebase) eX2_findGenerator_31 mf_X2_rebase lk_X2_124 (hK _ (by decide) (by decide)) (ev_rebase hK hp hr (by omega) (by omega) (by omega) (by omega) (by omega) (by omega) hr6) (by decide) (by decide) (by decide) (Nat.le_of_ble_eq_true rfl) rfl ?_
      rw [rbE_li (by omega) hpm]
      refine q_iload_n eX2_findGenerator_34 rfl ?_
      refine q_callVQ [vI (liE p r m (b + 1 : Nat)), vI (q ^ (e - 1) : Nat)] (M1 := mX2_power) eX2_findGenerator_35 mf_X2_power lk_X2_110 (hK _ (by decide) (by decide)) (ev_power hK hX hG hli (by omega)) (by decide) (by decide) (by decide) (Nat.le_of_ble_eq_true rfl) rfl (fun A2 h2 => ?_)
      rw [show pw m r f (liE p r m (b + 1 : Nat)) (q ^ (e - 1)) = tcE p e r q m f (b + 1) from rfl]
      refine q_istore_n eX2_findGenerator_38 (by decide) rfl ?_
      refine q_aload_n eX2_findGenerator_39 rfl ?_
      refine q_getfield eX2_findGenerator_40 gf_X2_30 (hK _ (by decide) (by decide)) (by decide) (by assumption) ?_
      refine q_if_eq (tgt := 54) eX2_findGenerator_43 (by decide) (by first | assumption | exact ⟨by omega, by omega⟩) (fun c43 => ?_) (fun c43 => ?_)
      · refine q_aload_n eX2_findGenerator_54 rfl ?_
        refine q_iload_n eX2_findGenerator_55 rfl ?_
        refine q_callVQ [vI (tcE p e r q m f (b + 1))] (M1 := mX2_makesAllRoots) eX2_findGenerator_56 mf_X2_makesAllRoots lk_X2_128 (hK _ (by decide) (by decide)) (ev_makesAllRoots hK hX hB (hG.s3 h2) htc) (by decide) (by decide) (by decide) (Nat.le_of_ble_eq_true rfl) rfl (fun A3 h3 => ?_)
        refine q_if_eq (tgt := 67) eX2_findGenerator_59 (by decide) (by first | assumption | exact ⟨by omega, by omega⟩) (fun c59 => ?_) (fun c59 => ?_)
        · refine q_iinc eX2_findGenerator_67 rfl (by decide) rfl ?_
          refine q_goto (tgt := 12) eX2_findGenerator_70 (by decide) ?_
          first
          | (rw [hst, if_neg (fun h => by rcases h.1 with h | h <;> omega)] at ih1
             exact ih1 A2 _ (by omega) (ho.trans h2))
          | (rw [hst, if_neg (fun h => by rw [if_pos h.2] at c59; exact absurd c59 (by decide))] at ih1
             exact ih1 A3 _ (by omega) ((ho.trans h2).trans h3))
          | (rw [up2_up2]
             have hma : maE q m r f (tcE p e r q m f (b + 1)) := Classical.byContradiction fun h => c59 (if_neg h)
             rw [hst, if_pos ⟨by omega, hma⟩] at ih1
             exact ih1 A3 _ (by omega) ((ho.trans h2).trans h3))
        · refine q_aload_n eX2_findGenerator_62 rfl ?_
          refine q_iload_n eX2_findGenerator_63 rfl ?_
          refine q_putfield eX2_findGenerator_64 pf_X2_30 (hK _ (by decide) (by decide)) (by decide) (FT_i rfl) ?_
          refine q_iinc eX2_findGenerator_67 rfl (by decide) rfl ?_
          refine q_goto (tgt := 12) eX2_findGenerator_70 (by decide) ?_
          first
          | (rw [hst, if_neg (fun h => by rcases h.1 with h | h <;> omega)] at ih1
             exact ih1 A2 _ (by omega) (ho.trans h2))
          | (rw [hst, if_neg (fun h => by rw [if_pos h.2] at c59; exact absurd c59 (by decide))] at ih1
             exact ih1 A3 _ (by omega) ((ho.trans h2).trans h3))
          | (rw [up2_up2]
             have hma : maE q m r f (tcE p e r q m f (b + 1)) := Classical.byContradiction fun h => c59 (if_neg h)
             rw [hst, if_pos ⟨by omega, hma⟩] at ih1
             exact ih1 A3 _ (by omega) ((ho.trans h2).trans h3))
      · refine q_iload_n eX2_findGenerator_46 rfl ?_
        refine q_aload_n eX2_findGenerator_47 rfl ?_
        refine q_getfield eX2_findGenerator_48 gf_X2_30 (hK _ (by decide) (by decide)) (by decide) (by assumption) ?_
        refine q_icmp_ge (tgt := 67) eX2_findGenerator_51 (by decide) (by first | assumption | exact ⟨by omega, by omega⟩) (by first | assumption | exact ⟨by omega, by omega⟩) (fun c51 => ?_) (fun c51 => ?_)
        · refine q_iinc eX2_findGenerator_67 rfl (by decide) rfl ?_
          refine q_goto (tgt := 12) eX2_findGenerator_70 (by decide) ?_
          first
          | (rw [hst, if_neg (fun h => by rcases h.1 with h | h <;> omega)] at ih1
             exact ih1 A2 _ (by omega) (ho.trans h2))
          | (rw [hst, if_neg (fun h => by rw [if_pos h.2] at c59; exact absurd c59 (by decide))] at ih1
             exact ih1 A3 _ (by omega) ((ho.trans h2).trans h3))
          | (rw [up2_up2]
             have hma : maE q m r f (tcE p e r q m f (b + 1)) := Classical.byContradiction fun h => c59 (if_neg h)
             rw [hst, if_pos ⟨by omega, hma⟩] at ih1
             exact ih1 A3 _ (by omega) ((ho.trans h2).trans h3))
        · refine q_aload_n eX2_findGenerator_54 rfl ?_
          refine q_iload_n eX2_findGenerator_55 rfl ?_
          refine q_callVQ [vI (tcE p e r q m f (b + 1))] (M1 := mX2_makesAllRoots) eX2_findGenerator_56 mf_X2_makesAllRoots lk_X2_128 (hK _ (by decide) (by decide)) (ev_makesAllRoots hK hX hB (hG.s3 h2) htc) (by decide) (by decide) (by decide) (Nat.le_of_ble_eq_true rfl) rfl (fun A3 h3 => ?_)
          refine q_if_eq (tgt := 67) eX2_findGenerator_59 (by decide) (by first | assumption | exact ⟨by omega, by omega⟩) (fun c59 => ?_) (fun c59 => ?_)
          · refine q_iinc eX2_findGenerator_67 rfl (by decide) rfl ?_
            refine q_goto (tgt := 12) eX2_findGenerator_70 (by decide) ?_
            first
            | (rw [hst, if_neg (fun h => by rcases h.1 with h | h <;> omega)] at ih1
               exact ih1 A2 _ (by omega) (ho.trans h2))
            | (rw [hst, if_neg (fun h => by rw [if_pos h.2] at c59; exact absurd c59 (by decide))] at ih1
               exact ih1 A3 _ (by omega) ((ho.trans h2).trans h3))
            | (rw [up2_up2]
               have hma : maE q m r f (tcE p e r q m f (b + 1)) := Classical.byContradiction fun h => c59 (if_neg h)
               rw [hst, if_pos ⟨by omega, hma⟩] at ih1
               exact ih1 A3 _ (by omega) ((ho.trans h2).trans h3))
          · refine q_aload_n eX2_findGenerator_62 rfl ?_
            refine q_iload_n eX2_findGenerator_63 rfl ?_
            refine q_putfield eX2_findGenerator_64 pf_X2_30 (hK _ (by decide) (by decide)) (by decide) (FT_i rfl) ?_
            refine q_iinc eX2_findGenerator_67 rfl (by decide) rfl ?_
            refine q_goto (tgt := 12) eX2_findGenerator_70 (by decide) ?_
            first
            | (rw [hst, if_neg (fun h => by rcases h.1 with h | h <;> omega)] at ih1
               exact ih1 A2 _ (by omega) (ho.trans h2))
            | (rw [hst, if_neg (fun h => by rw [if_pos h.2] at c59; exact absurd c59 (by decide))] at ih1
               exact ih1 A3 _ (by omega) ((ho.trans h2).trans h3))
            | (rw [up2_up2]
               have hma : maE q m r f (tcE p e r q m f (b + 1)) := Classical.byContradiction fun h => c59 (if_neg h)
               rw [hst, if_pos ⟨by omega, hma⟩] at ih1
               exact ih1 A3 _ (by omega) ((ho.trans h2).trans h3))
set_option maxRecDepth 20000 in
theorem ev_findGenerator {p e r q N : Nat} {m : Int} {f : Nat → Int} {F : HF} {A : HA} {al : AL} (hK : KX al) (hX : XF F) (hB : GB p e r q N m F) (hG : GA m r f F A) : QE 4 0 0 mX2_findGenerator [vA 2] F A al (PG6 F al (gnE p e r q m f (q - 1)) (fun A2 => Off [13, 14, 15] A A2)) := by
  refine QE.mk (by decide +kernel) (Nat.le_of_ble_eq_true rfl) ?_
  obtain ⟨hp, he, hr, hm, hq, hN, hpp, hp2, hp7, he1, he4, hr1, hr6, hme, hqe, hNm, hN4, hq3⟩ := id hB
  have hm2 := hB.m2
  have hq2 := hB.q2
  have hm4 := hB.m4
  have hqt := hB.qt
  refine q_aload_n eX2_findGenerator_0 rfl ?_
  refine q_iconst eX2_findGenerator_1 ?_
  refine q_putfield eX2_findGenerator_2 pf_X2_30 (hK _ (by decide) (by decide)) (by decide) (FT_i rfl) ?_
  refine q_aload_n eX2_findGenerator_5 rfl ?_
  refine q_callVP [] (M1 := mX2_toRoot) eX2_findGenerator_6 mf_X2_toRoot lk_X2_107 (hK _ (by decide) (by decide)) (ev_toRoot hK (F := up2 F 2 6 (vI 0)) (by rw [up2_ne (by decide)]; exact hq) (by rw [up2_ne (by decide)]; exact he) he1 he4) (by decide) (by decide) (by decide) (Nat.le_of_ble_eq_true rfl) rfl ?_
  rw [hqt.2]
  refine q_istore_n eX2_findGenerator_9 (by decide) rfl ?_
  refine q_iconst eX2_findGenerator_10 ?_
  refine q_istore_n eX2_findGenerator_11 (by decide) rfl ?_
  exact lp_findGen hK hX hB hG (q - 1) 0 A _ (by omega) Off.rfl'
/-- the last of k powers of g that is j below, or -1 -/
def lgE (p r : Nat) (m : Int) (f : Nat → Int) (g : Int) : Nat → Nat → Int
  | 0, _ => -1
  | k + 1, j => if j = low p r m (pw m r f g k) then k else lgE p r m f g k j
theorem lg_range {p r : Nat} {m : Int} {f : Nat → Int} {g : Int} : ∀ (k j : Nat), lgE p r m f g k j = -1 ∨ 0 ≤ lgE p r m f g k j ∧ lgE p r m f g k j < k
  | 0, _ => Or.inl rfl
  | k + 1, j => by
    unfold lgE
    split
    · exact Or.inr ⟨by omega, by omega⟩
    · rcases lg_range k j with h | h
      · exact Or.inl h
      · exact Or.inr ⟨h.1, by omega⟩
set_option maxRecDepth 20000 in
theorem lp_fillLogs {g : Int} {p e r q N : Nat} {m : Int} {f : Nat → Int} {F : HF} {A0 : HA} {al : AL} (hK : KX al) (hX : XF F) (hB : GB p e r q N m F) (hG0 : GA m r f F A0) (hg : F 2 6 = vI g) (hgE : El m r g) : ∀ (k n : Nat) (A : HA), n + k = q - 1 → Off [4, 5, 13, 14, 15] A0 A → (∀ i, i < n → A 4 i = pw m r f g i) → (∀ j, j < q → A 5 j = lgE p r m f g n j) →
    QW mX2_fillLogs 3 0 0 (PV F al (fun A2 => Off [4, 5, 13, 14, 15] A0 A2 ∧ (∀ i, i < q - 1 → A2 4 i = pw m r f g i) ∧ ∀ j, j < q → A2 5 j = lgE p r m f g (q - 1) j)) 0 0 12 [some (vA 2), some (vI (pw m r f g n)), some (vI n)] [] F A al := by
  obtain ⟨hp, he, hr, hm, hq, hN, hpp, hp2, hp7, he1, he4, hr1, hr6, hme, hqe, hNm, hN4, hq3⟩ := id hB
  have hm2 := hB.m2
  have hq2 := hB.q2
  have hm4 := hB.m4
  have hqt := hB.qt
  intro k
  induction k with
  | zero =>
    intro n A hn ho h1 h2
    have en : n = q - 1 := by omega
    subst en
    refine q_iload_n eX2_fillLogs_12 rfl ?_
    refine q_aload_n eX2_fillLogs_13 rfl ?_
    refine q_getfield eX2_fillLogs_14 gf_X2_24 (hK _ (by decide) (by decide)) (by decide) (by assumption) ?_
    refine q_iconst eX2_fillLogs_17 ?_
    refine q_isub eX2_fillLogs_18 ?_
    refine q_icmp_ge (tgt := 68) eX2_fillLogs_19 (by decide) (by first | assumption | exact ⟨by omega, by omega⟩) (by first | assumption | exact ⟨by omega, by omega⟩) (fun c19 => ?_) (fun c19 => ?_)
    · refine q_retV eX2_fillLogs_68 rfl (by decide) (by decide) ?_
      exact ⟨rfl, rfl, rfl, ho, h1, h2⟩
    · exact absurd c19 (by omega)
  | succ k ih =>
    intro n A hn ho h1 h2
    have hel := pw_el (f := f) hm2 hr1 g n
    have hlt := hel.lt (by omega)
    have hlo := low_lt (p := p) (r := r) (m := m) (x := pw m r f g n) (by omega)
    rw [← hqe] at hlo
    refine q_iload_n eX2_fillLogs_12 rfl ?_
    refine q_aload_n eX2_fillLogs_13 rfl ?_
    refine q_getfield eX2_fillLogs_14 gf_X2_24 (hK _ (by decide) (by decide)) (by decide) (by assumption) ?_
    refine q_iconst eX2_fillLogs_17 ?_
    refine q_isub eX2_fillLogs_18 ?_
    refine q_icmp_ge (tgt := 68) eX2_fillLogs_19 (by decide) (by first | assumption | exact ⟨by omega, by omega⟩) (by first | assumption | exact ⟨by omega, by omega⟩) (fun c19 => ?_) (fun c19 => ?_)
    · exact absurd c19 (by omega)
    · refine q_aload_n eX2_fillLogs_22 rfl ?_
      refine q_getfield eX2_fillLogs_23 gf_X2_37 (hK _ (by decide) (by decide)) (by decide) (xf_2_8 hX) ?_
      refine q_iload_n eX2_fillLogs_26 rfl ?_
      refine q_iload_n eX2_fillLogs_27 rfl ?_
      refine q_callSV [vA 4, vI n, vI (pw m r f g n)] (M1 := mX7_set) eX2_fillLogs_28 mf_X7_set lk_X2_90 (ev_setN (hK _ (by decide) (by decide)) (show n < 3125 by omega) (by decide)) (by decide) (by decide) (by decide) (Nat.le_of_ble_eq_true rfl) rfl (fun A1 h1b => ?_)
      subst h1b
      refine q_aload_n eX2_fillLogs_31 rfl ?_
      refine q_getfield eX2_fillLogs_32 gf_X2_40 (hK _ (by decide) (by decide)) (by decide) (xf_2_9 hX) ?_
      refine q_aload_n eX2_fillLogs_35 rfl ?_
      refine q_iload_n eX2_fillLogs_36 rfl ?_
      refine q_aload_n eX2_fillLogs_37 rfl ?_
      refine q_getfield eX2_fillLogs_38 gf_X2_21 (hK _ (by decide) (by decide)) (by decide) (by assumption) ?_
      refine q_aload_n eX2_fillLogs_41 rfl ?_
      refine q_getfield eX2_fillLogs_42 gf_X2_9 (hK _ (by decide) (by decide)) (by decide) (by assumption) ?_
      refine q_callVP [vI (pw m r f g n), vI m, vI p] (M1 := mX2_rebase) eX2_fillLogs_45 mf_X2_rebase lk_X2_124 (hK _ (by decide) (by decide)) (ev_rebase hK hp hr (by omega) (by omega) (by omega) (by omega) (by omega) (by omega) hr6) (by decide) (by decide) (by decide) (Nat.le_of_ble_eq_true rfl) rfl ?_
      rw [rbE_low (by omega)]
      refine q_iload_n eX2_fillLogs_48 rfl ?_
      refine q_callSV [vA 5, vI (low p r m (pw m r f g n) : Nat), vI n] (M1 := mX7_set) eX2_fillLogs_49 mf_X7_set lk_X2_90 (ev_setN (hK _ (by decide) (by decide)) (show low p r m (pw m r f g n) < 3125 by omega) (by decide)) (by decide) (by decide) (by decide) (Nat.le_of_ble_eq_true rfl) rfl (fun A3 h3b => ?_)
      subst h3b
      refine q_aload_n eX2_fillLogs_52 rfl ?_
      refine q_iload_n eX2_fillLogs_53 rfl ?_
      refine q_aload_n eX2_fillLogs_54 rfl ?_
      refine q_getfield eX2_fillLogs_55 gf_X2_30 (hK _ (by decide) (by decide)) (by decide) (by assumption) ?_
      refine q_callVQ [vI (pw m r f g n), vI g] (M1 := mX2_times) eX2_fillLogs_58 mf_X2_times lk_X2_132 (hK _ (by decide) (by decide)) (ev_times hK hX (((hG0.off ho (by decide)).off (l := [4]) (Off.up (by decide)) (by decide)).off (l := [5]) (Off.up (by decide)) (by decide)) hel hgE) (by decide) (by decide) (by decide) (Nat.le_of_ble_eq_true rfl) rfl (fun A4 h4 => ?_)
      refine q_istore_n eX2_fillLogs_61 (by decide) rfl ?_
      refine q_iinc eX2_fillLogs_62 rfl (by decide) rfl ?_
      refine q_goto (tgt := 12) eX2_fillLogs_65 (by decide) ?_
      refine ih (n + 1) A4 (by omega) (((ho.trans (Off.up (a := 4) (by simp))).trans (Off.up (a := 5) (by simp))).trans (h4.mono (by simp))) (fun i hi => ?_) (fun j hj => ?_)
      · rw [h4 4 (by decide), up2_row (by decide), up2_at]
        split
        · next he => rw [show i = n from he]
        · next hne => exact h1 i (by have : i ≠ n := hne; omega)
      · rw [h4 5 (by decide), up2_at, up2_row (by decide), h2 j hj]
        rfl
set_option maxRecDepth 20000 in
theorem ev_fillLogs {g : Int} {p e r q N : Nat} {m : Int} {f : Nat → Int} {F : HF} {A : HA} {al : AL} (hK : KX al) (hX : XF F) (hB : GB p e r q N m F) (hG : GA m r f F A) (hg : F 2 6 = vI g) (hgE : El m r g) : QE 3 0 0 mX2_fillLogs [vA 2] F A al (PV F al (fun A2 => Off [4, 5, 13, 14, 15] A A2 ∧ (∀ i, i < q - 1 → A2 4 i = pw m r f g i) ∧ ∀ j, j < q → A2 5 j = lgE p r m f g (q - 1) j)) := by
  refine QE.mk (by decide +kernel) (Nat.le_of_ble_eq_true rfl) ?_
  obtain ⟨hp, he, hr, hm, hq, hN, hpp, hp2, hp7, he1, he4, hr1, hr6, hme, hqe, hNm, hN4, hq3⟩ := id hB
  have hm2 := hB.m2
  have hq2 := hB.q2
  have hm4 := hB.m4
  have hqt := hB.qt
  refine q_aload_n eX2_fillLogs_0 rfl ?_
  refine q_getfield eX2_fillLogs_1 gf_X2_40 (hK _ (by decide) (by decide)) (by decide) (xf_2_9 hX) ?_
  refine q_iconst eX2_fillLogs_4 ?_
  refine q_callSV [vA 5, vI (-1)] (M1 := mJ7_fill_53178) eX2_fillLogs_5 mf_J7_fill_53178 lk_X2_97 (ev_fill (hK _ (by decide) (by decide)) (by decide)) (by decide) (by decide) (by decide) (Nat.le_of_ble_eq_true rfl) rfl (fun A2 h2 => ?_)
  obtain ⟨o2, v2⟩ := h2
  refine q_iconst eX2_fillLogs_8 ?_
  refine q_istore_n eX2_fillLogs_9 (by decide) rfl ?_
  refine q_iconst eX2_fillLogs_10 ?_
  refine q_istore_n eX2_fillLogs_11 (by decide) rfl ?_
  have hfin := lp_fillLogs (A0 := A) hK hX hB hG hg hgE (q - 1) 0 A2 (by omega) (o2.mono (by simp)) (fun i hi => absurd hi (by omega)) (fun j hj => v2 j (by omega))
  exact hfin
