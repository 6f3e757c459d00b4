/-! CyclicCode -/
theorem GT.row {p e r q N : Nat} {m : Int} {f : Nat → Int} {g : Int} {lg : Nat → Int} {F F2 : HF} {A : HA} (h : GT p e r q N m f g lg F A) (hF : F2 2 = F 2) : GT p e r q N m f g lg F2 A := by
  obtain ⟨⟨a1, a2, a3⟩, h2, h3, h4, h5, h6, h7⟩ := h
  exact ⟨⟨by rw [hF]; exact a1, by rw [hF]; exact a2, a3⟩, by rw [hF]; exact h2, by rw [hF]; exact h3, by rw [hF]; exact h4, by rw [hF]; exact h5, by rw [hF]; exact h6, h7⟩
theorem GT.off {p e r q N : Nat} {m : Int} {f : Nat → Int} {g : Int} {lg : Nat → Int} {F : HF} {A A2 : HA} {l : List Nat} (h : GT p e r q N m f g lg F A) (ho : Off l A A2) (h3 : 3 ∉ l) (h4 : 4 ∉ l) (h5 : 5 ∉ l) (h7 : ∀ j, j < 6 → 7 + j ∉ l) : GT p e r q N m f g lg F A2 := by
  obtain ⟨a1, a2, a3, a4, a5, a6, a7, a8, a9, a10⟩ := h
  have hr6 := a1.2.2.2.2.2.1
  refine ⟨a1.off ho h3, a2, a3, a4, a5, a6, a7, fun k hk => ?_, fun j hj => ?_, fun j i hj hi => ?_⟩
  · rw [ho 4 h4]; exact a8 k hk
  · rw [ho 5 h5]; exact a9 j hj
  · rw [ho (7 + j) (h7 j (by omega))]; exact a10 j i hj hi
/-- how many words, if few -/
def swE (m : Int) (k : Nat) : Int := if m ^ k ≤ 65536 then m ^ k else 0
theorem sw_def (m : Int) (k : Nat) : swE m k = if m ^ k ≤ 65536 then m ^ k else 0 := rfl
set_option maxRecDepth 20000 in
theorem lp_smallWords {m : Int} {n : Nat} {F : HF} {A : HA} {al : AL} (hK : KX al) (hX : XF F) (hm : F 2 3 = vI m) (hc : F 27 3 = vI n) (hm2 : 2 ≤ m) (hm4 : m ≤ 4096) (hn : n < 100) : ∀ (k i : Nat), i + k = n → (1 ≤ i → m ^ (i - 1) ≤ 65536) →
    QW mX1_smallWords 1 0 0 (PI (swE m n) F A al) 0 0 4 [some (vA 27), some (vI (m ^ i)), some (vI i)] [] F A al := by
  intro k
  have hbnd : ∀ i : Nat, (1 ≤ i → m ^ (i - 1) ≤ 65536) → 0 < m ^ i ∧ m ^ i ≤ 268435456 := by
    intro i hb
    refine ⟨Int.pow_pos (by omega), ?_⟩
    by_cases h6 : 1 ≤ i
    · have h7 : m ^ i = m ^ (i - 1) * m := by rw [← Int.pow_succ, show (i - 1).succ = i by omega]
      have h8 : m ^ (i - 1) * m ≤ 65536 * 4096 := Int.mul_le_mul (hb h6) (by omega) (by omega) (by omega)
      omega
    · rw [show i = 0 by omega, Int.pow_zero]; decide
  rw [sw_def]
  induction k with
  | zero =>
    intro i hi hb
    have ei : i = n := by omega
    subst ei
    obtain ⟨hpp, hpb⟩ := hbnd i hb
    refine q_iload_n eX1_smallWords_4 rfl ?_
    refine q_aload_n eX1_smallWords_5 rfl ?_
    refine q_getfield eX1_smallWords_6 gf_X1_18 (hK _ (by decide) (by decide)) (by decide) (by assumption) ?_
    refine q_icmp_ge (tgt := 34) eX1_smallWords_9 (by decide) (by first | assumption | exact ⟨by omega, by omega⟩) (by first | assumption | exact ⟨by omega, by omega⟩) (fun c9 => ?_) (fun c9 => ?_)
    · refine q_iload_n eX1_smallWords_34 rfl ?_
      refine q_ldc eX1_smallWords_35 kc_X1_74 ?_
      refine q_icmp_gt (tgt := 44) eX1_smallWords_37 (by decide) (by first | assumption | exact ⟨by omega, by omega⟩) (by first | assumption | exact ⟨by omega, by omega⟩) (fun c37 => ?_) (fun c37 => ?_)
      · refine q_iconst eX1_smallWords_44 ?_
        refine q_retI eX1_smallWords_45 rfl (by decide) (by decide) ?_
        first
        | exact PI_ok (if_pos (by omega)).symm
        | exact PI_ok (if_neg (by omega)).symm
      · refine q_iload_n eX1_smallWords_40 rfl ?_
        refine q_goto (tgt := 45) eX1_smallWords_41 (by decide) ?_
        refine q_retI eX1_smallWords_45 rfl (by decide) (by decide) ?_
        first
        | exact PI_ok (if_pos (by omega)).symm
        | exact PI_ok (if_neg (by omega)).symm
    · exact absurd c9 (by omega)
  | succ k ih =>
    intro i hi hb
    obtain ⟨hpp, hpb⟩ := hbnd i hb
    have hmo : m ^ i ≤ m ^ n := ipow_mono (by omega) (by omega)
    refine q_iload_n eX1_smallWords_4 rfl ?_
    refine q_aload_n eX1_smallWords_5 rfl ?_
    refine q_getfield eX1_smallWords_6 gf_X1_18 (hK _ (by decide) (by decide)) (by decide) (by assumption) ?_
    refine q_icmp_ge (tgt := 34) eX1_smallWords_9 (by decide) (by first | assumption | exact ⟨by omega, by omega⟩) (by first | assumption | exact ⟨by omega, by omega⟩) (fun c9 => ?_) (fun c9 => ?_)
    · exact absurd c9 (by omega)
    · refine q_iload_n eX1_smallWords_12 rfl ?_
      refine q_ldc eX1_smallWords_13 kc_X1_74 ?_
      refine q_icmp_gt (tgt := 34) eX1_smallWords_15 (by decide) (by first | assumption | exact ⟨by omega, by omega⟩) (by first | assumption | exact ⟨by omega, by omega⟩) (fun c15 => ?_) (fun c15 => ?_)
      · refine q_iload_n eX1_smallWords_34 rfl ?_
        refine q_ldc eX1_smallWords_35 kc_X1_74 ?_
        refine q_icmp_gt (tgt := 44) eX1_smallWords_37 (by decide) (by first | assumption | exact ⟨by omega, by omega⟩) (by first | assumption | exact ⟨by omega, by omega⟩) (fun c37 => ?_) (fun c37 => ?_)
        · refine q_iconst eX1_smallWords_44 ?_
          refine q_retI eX1_smallWords_45 rfl (by decide) (by decide) ?_
          first
          | exact absurd c37 (by omega)
          | exact PI_ok (if_neg (by omega)).symm
        · refine q_iload_n eX1_smallWords_40 rfl ?_
          refine q_goto (tgt := 45) eX1_smallWords_41 (by decide) ?_
          refine q_retI eX1_smallWords_45 rfl (by decide) (by decide) ?_
          first
          | exact absurd c37 (by omega)
          | exact PI_ok (if_neg (by omega)).symm
      · refine q_iload_n eX1_smallWords_18 rfl ?_
        refine q_aload_n eX1_smallWords_19 rfl ?_
        refine q_getfield eX1_smallWords_20 gf_X1_31 (hK _ (by decide) (by decide)) (by decide) (xf_27_0 hX) ?_
        refine q_getfield eX1_smallWords_23 gf_X1_75 (hK _ (by decide) (by decide)) (by decide) (by assumption) ?_
        refine q_imul eX1_smallWords_26 ?_
        refine q_istore_n eX1_smallWords_27 (by decide) rfl ?_
        refine q_iinc eX1_smallWords_28 rfl (by decide) rfl ?_
        refine q_goto (tgt := 4) eX1_smallWords_31 (by decide) ?_
        have ih1 := ih (i + 1) (by omega) (fun _ => by rw [Nat.add_sub_cancel]; omega)
        rw [Int.pow_succ] at ih1
        exact ih1
set_option maxRecDepth 20000 in
theorem ev_smallWords {m : Int} {n : Nat} {F : HF} {A : HA} {al : AL} (hK : KX al) (hX : XF F) (hm : F 2 3 = vI m) (hc : F 27 3 = vI n) (hm2 : 2 ≤ m) (hm4 : m ≤ 4096) (hn : n < 100) : QE 1 0 0 mX1_smallWords [vA 27] F A al (PI (swE m n) F A al) := by
  refine QE.mk (by decide +kernel) (Nat.le_of_ble_eq_true rfl) ?_
  refine q_iconst eX1_smallWords_0 ?_
  refine q_istore_n eX1_smallWords_1 (by decide) rfl ?_
  refine q_iconst eX1_smallWords_2 ?_
  refine q_istore_n eX1_smallWords_3 (by decide) rfl ?_
  have h := lp_smallWords (A := A) hK hX hm hc hm2 hm4 hn n 0 (by omega) (by omega)
  rw [Int.pow_zero] at h
  exact h
def selE (c : Nat → Int) (set : Int) (i : Nat) : Prop := c i ≤ 30 ∧ set / 2 ^ (c i).toNat % 2 = 1
def selB (c : Nat → Int) (set : Int) (i : Nat) : Bool := decide (c i ≤ 30) && decide (set / 2 ^ (c i).toNat % 2 = 1)
theorem selB_iff {c : Nat → Int} {set : Int} {i : Nat} : selB c set i = true ↔ selE c set i := by
  unfold selB selE
  rw [Bool.and_eq_true, decide_eq_true_eq, decide_eq_true_eq]
/-- a polynomial of degree D times X less a root -/
def grw (m : Int) (r : Nat) (f : Nat → Int) (D : Nat) (c : Nat → Int) (root : Int) : Nat → Int := fun j => if j ≤ D + 1 then gwE m r f c root j else c j
def oneC : Nat → Int := fun j => if j = 0 then 1 else 0
/-- the i-th root of one -/
def roE (m : Int) (r q n : Nat) (f : Nat → Int) (g : Int) (i : Nat) : Int := pw m r f g (i * ((q - 1) / n))
def cyE (m : Int) (r q n : Nat) (f : Nat → Int) (g : Int) (c : Nat → Int) (set : Int) : Nat → Nat × (Nat → Int) × (Nat → Int)
  | 0 => (0, oneC, oneC)
  | i + 1 => if selB c set i = true then ((cyE m r q n f g c set i).1 + 1, grw m r f (cyE m r q n f g c set i).1 (cyE m r q n f g c set i).2.1 (roE m r q n f g i), (cyE m r q n f g c set i).2.2)
    else ((cyE m r q n f g c set i).1, (cyE m r q n f g c set i).2.1, grw m r f (i - (cyE m r q n f g c set i).1) (cyE m r q n f g c set i).2.2 (roE m r q n f g i))
section Cy
variable {r q n : Nat} {m set : Int} {f : Nat → Int} {g : Int} {c : Nat → Int}
theorem cy_le : ∀ i, (cyE m r q n f g c set i).1 ≤ i
  | 0 => Nat.le_refl _
  | i + 1 => by
    have := cy_le i
    unfold cyE
    split <;> simp <;> omega
theorem oneC_el (hm : 2 ≤ m) (hr : 0 < r) (j : Nat) : El m r (oneC j) := by
  unfold oneC
  split
  · exact el_one hm hr
  · exact el_zero (by omega)
theorem grw_el (hm : 2 ≤ m) {D : Nat} {d : Nat → Int} {root : Int} (h : ∀ j, El m r (d j)) (j : Nat) : El m r (grw m r f D d root j) := by
  unfold grw
  split
  · exact gw_el (by omega) _ _
  · exact h j
theorem cy_el (hm : 2 ≤ m) (hr : 0 < r) : ∀ i, (∀ j, El m r ((cyE m r q n f g c set i).2.1 j)) ∧ ∀ j, El m r ((cyE m r q n f g c set i).2.2 j)
  | 0 => ⟨oneC_el hm hr, oneC_el hm hr⟩
  | i + 1 => by
    obtain ⟨h1, h2⟩ := cy_el hm hr i
    unfold cyE
    split
    · exact ⟨grw_el hm h1, h2⟩
    · exact ⟨h1, grw_el hm h2⟩
theorem cy_yes {i : Nat} (h : selE c set i) : cyE m r q n f g c set (i + 1) = ((cyE m r q n f g c set i).1 + 1, grw m r f (cyE m r q n f g c set i).1 (cyE m r q n f g c set i).2.1 (roE m r q n f g i), (cyE m r q n f g c set i).2.2) := if_pos (selB_iff.mpr h)
theorem cy_no {i : Nat} (h : ¬ selE c set i) : cyE m r q n f g c set (i + 1) = ((cyE m r q n f g c set i).1, (cyE m r q n f g c set i).2.1, grw m r f (i - (cyE m r q n f g c set i).1) (cyE m r q n f g c set i).2.2 (roE m r q n f g i)) := if_neg (fun h2 => h (selB_iff.mp h2))
end Cy
def PCY (F : HF) (al : AL) (n dg : Nat) (w : Int) (Q : HA → Prop) : PO := fun o F' A' al' => o = .inl none ∧ F' = up2 (up2 (up2 (up2 F 27 1 (vI n)) 27 2 (vI dg)) 27 3 (vI (n - dg : Nat))) 27 4 (vI w) ∧ al' = al ∧ Q A'
theorem nt_PCY {F : HF} {al : AL} {n dg : Nat} {w : Int} {Q : HA → Prop} : NT (PCY F al n dg w Q) := by intro E F A al h; cases h.1
set_option maxRecDepth 20000 in
theorem lp_cyclic {A0 : HA} {p e r q N n : Nat} {m set : Int} {f : Nat → Int} {g : Int} {lg c : Nat → Int} {F : HF} {al : AL} (hK : KX al) (hX0 : XF F) (hT0 : GT p e r q N m f g lg F A0) (hn1 : 1 ≤ n) (hn63 : n ≤ 63) (hc : ∀ j, j < 63 → A0 25 j = c j) (hcp : ∀ j, j < n → 0 ≤ c j ∧ c j ≤ 62) (hset : InR set) : ∀ (k i : Nat) (A : HA) (l5 l6 : Option LV), i + k = n → Off [13, 14, 15, 28, 29] A0 A → (∀ j, j < 64 → A 28 j = (cyE m r q n f g c set i).2.1 j) → (∀ j, j < 64 → A 29 j = (cyE m r q n f g c set i).2.2 j) →
    QW mX1_become 4 0 0 (PCY F al n (cyE m r q n f g c set n).1 (swE m (n - (cyE m r q n f g c set n).1)) (fun A2 => Off [13, 14, 15, 28, 29] A0 A2 ∧ (∀ j, j < 64 → A2 28 j = (cyE m r q n f g c set n).2.1 j) ∧ ∀ j, j < 64 → A2 29 j = (cyE m r q n f g c set n).2.2 j)) 0 0 63 [some (vA 27), some (vA 24), some (vI set), some (vI ((q - 1) / n : Nat)), some (vI i), l5, l6] [] (up2 (up2 F 27 1 (vI n)) 27 2 (vI (cyE m r q n f g c set i).1)) A al := by
  intro k
  obtain ⟨hG, hp, he, hq, hN, hg, ⟨hp2, hp7, he1, he4, hme, hqe, hq3, hNm, hgE⟩, hP, hL, hI⟩ := id hT0
  obtain ⟨hm, hr, hf, hm2, hr1, hr6, hN4⟩ := id hG
  have hm4 := hG.m4
  have hq2 := hT0.q2
  induction k with
  | zero =>
    intro i A l5 l6 hi ho h1 h2
    have ei : i = n := by omega
    subst ei
    have hle := cy_le (m := m) (r := r) (q := q) (n := i) (f := f) (g := g) (c := c) (set := set) i
    have hX := (hX0.up (v := vI i) (show plainF xrefs 27 1 = true by decide)).up (v := vI (cyE m r q i f g c set i).1) (show plainF xrefs 27 2 = true by decide)
    have ech : (i : Int) - (cyE m r q i f g c set i).1 = ((i - (cyE m r q i f g c set i).1 : Nat) : Int) := by omega
    have hX2 := hX.up (v := vI (i - (cyE m r q i f g c set i).1 : Nat)) (show plainF xrefs 27 3 = true by decide)
    have hm' : up2 (up2 (up2 F 27 1 (vI i)) 27 2 (vI (cyE m r q i f g c set i).1)) 27 3 (vI (i - (cyE m r q i f g c set i).1 : Nat)) 2 3 = vI m := by rw [up2_row (by decide), up2_row (by decide), up2_row (by decide)]; exact hm
    refine q_iload eX1_become_63 rfl ?_
    refine q_aload_n eX1_become_65 rfl ?_
    refine q_getfield eX1_become_66 gf_X1_9 (hK _ (by decide) (by decide)) (by decide) (by first | assumption | exact up2_eq _ _ _ _ | exact Eq.trans (up2_ne (by decide)) (up2_eq _ _ _ _) | exact Eq.trans (up2_ne (by decide)) (Eq.trans (up2_ne (by decide)) (up2_eq _ _ _ _)) | exact Eq.trans (up2_ne (by decide)) (Eq.trans (up2_ne (by decide)) (Eq.trans (up2_ne (by decide)) (up2_eq _ _ _ _))) | exact Eq.trans (up2_ne (by decide)) (Eq.trans (up2_ne (by decide)) (Eq.trans (up2_ne (by decide)) (Eq.trans (up2_ne (by decide)) (up2_eq _ _ _ _)))) | exact Eq.trans (up2_ne (by decide)) (Eq.trans (up2_ne (by decide)) (Eq.trans (up2_ne (by decide)) (Eq.trans (up2_ne (by decide)) (Eq.trans (up2_ne (by decide)) (up2_eq _ _ _ _))))) | exact Eq.trans (up2_ne (by decide)) (Eq.trans (up2_ne (by decide)) (Eq.trans (up2_ne (by decide)) (Eq.trans (up2_ne (by decide)) (Eq.trans (up2_ne (by decide)) (Eq.trans (up2_ne (by decide)) (up2_eq _ _ _ _))))))) ?_
    refine q_icmp_ge (tgt := 169) eX1_become_69 (by decide) (by first | assumption | exact ⟨by omega, by omega⟩) (by first | assumption | exact ⟨by omega, by omega⟩) (fun c69 => ?_) (fun c69 => ?_)
    · refine q_aload_n eX1_become_169 rfl ?_
      refine q_aload_n eX1_become_170 rfl ?_
      refine q_getfield eX1_become_171 gf_X1_9 (hK _ (by decide) (by decide)) (by decide) (by first | assumption | exact up2_eq _ _ _ _ | exact Eq.trans (up2_ne (by decide)) (up2_eq _ _ _ _) | exact Eq.trans (up2_ne (by decide)) (Eq.trans (up2_ne (by decide)) (up2_eq _ _ _ _)) | exact Eq.trans (up2_ne (by decide)) (Eq.trans (up2_ne (by decide)) (Eq.trans (up2_ne (by decide)) (up2_eq _ _ _ _))) | exact Eq.trans (up2_ne (by decide)) (Eq.trans (up2_ne (by decide)) (Eq.trans (up2_ne (by decide)) (Eq.trans (up2_ne (by decide)) (up2_eq _ _ _ _)))) | exact Eq.trans (up2_ne (by decide)) (Eq.trans (up2_ne (by decide)) (Eq.trans (up2_ne (by decide)) (Eq.trans (up2_ne (by decide)) (Eq.trans (up2_ne (by decide)) (up2_eq _ _ _ _))))) | exact Eq.trans (up2_ne (by decide)) (Eq.trans (up2_ne (by decide)) (Eq.trans (up2_ne (by decide)) (Eq.trans (up2_ne (by decide)) (Eq.trans (up2_ne (by decide)) (Eq.trans (up2_ne (by decide)) (up2_eq _ _ _ _))))))) ?_
      refine q_aload_n eX1_become_174 rfl ?_
      refine q_getfield eX1_become_175 gf_X1_15 (hK _ (by decide) (by decide)) (by decide) (by first | assumption | exact up2_eq _ _ _ _ | exact Eq.trans (up2_ne (by decide)) (up2_eq _ _ _ _) | exact Eq.trans (up2_ne (by decide)) (Eq.trans (up2_ne (by decide)) (up2_eq _ _ _ _)) | exact Eq.trans (up2_ne (by decide)) (Eq.trans (up2_ne (by decide)) (Eq.trans (up2_ne (by decide)) (up2_eq _ _ _ _))) | exact Eq.trans (up2_ne (by decide)) (Eq.trans (up2_ne (by decide)) (Eq.trans (up2_ne (by decide)) (Eq.trans (up2_ne (by decide)) (up2_eq _ _ _ _)))) | exact Eq.trans (up2_ne (by decide)) (Eq.trans (up2_ne (by decide)) (Eq.trans (up2_ne (by decide)) (Eq.trans (up2_ne (by decide)) (Eq.trans (up2_ne (by decide)) (up2_eq _ _ _ _))))) | exact Eq.trans (up2_ne (by decide)) (Eq.trans (up2_ne (by decide)) (Eq.trans (up2_ne (by decide)) (Eq.trans (up2_ne (by decide)) (Eq.trans (up2_ne (by decide)) (Eq.trans (up2_ne (by decide)) (up2_eq _ _ _ _))))))) ?_
      refine q_isub eX1_become_178 ?_
      rw [ech]
      refine q_putfield eX1_become_179 pf_X1_18 (hK _ (by decide) (by decide)) (by decide) (FT_i rfl) ?_
      refine q_aload_n eX1_become_182 rfl ?_
      refine q_aload_n eX1_become_183 rfl ?_
      refine q_callVP [] (M1 := mX1_smallWords) eX1_become_184 mf_X1_smallWords lk_X1_70 (hK _ (by decide) (by decide)) (ev_smallWords hK hX2 hm' (up2_eq _ _ _ _) hm2 hm4 (by omega)) (by decide) (by decide) (by decide) (Nat.le_of_ble_eq_true rfl) rfl ?_
      refine q_putfield eX1_become_187 pf_X1_21 (hK _ (by decide) (by decide)) (by decide) (FT_i rfl) ?_
      refine q_retV eX1_become_190 rfl (by decide) (by decide) ?_
      exact ⟨rfl, rfl, rfl, ho, h1, h2⟩
    · exact absurd c69 (by omega)
  | succ k ih =>
    intro i A l5 l6 hi ho h1 h2
    have hle := cy_le (m := m) (r := r) (q := q) (n := n) (f := f) (g := g) (c := c) (set := set) i
    obtain ⟨he1, he2⟩ := cy_el (m := m) (r := r) (q := q) (n := n) (f := f) (g := g) (c := c) (set := set) hm2 hr1 i
    have hX := (hX0.up (v := vI n) (show plainF xrefs 27 1 = true by decide)).up (v := vI (cyE m r q n f g c set i).1) (show plainF xrefs 27 2 = true by decide)
    have hGf : GA m r f (up2 (up2 F 27 1 (vI n)) 27 2 (vI (cyE m r q n f g c set i).1)) A := ((hT0.row (show up2 (up2 F 27 1 (vI n)) 27 2 (vI (cyE m r q n f g c set i).1) 2 = F 2 by rw [up2_row (by decide), up2_row (by decide)])).1).off ho (by decide)
    have his : i * ((q - 1) / n) + 1 < q := by
      have h3 : n * ((q - 1) / n) ≤ q - 1 := Nat.mul_div_le _ _
      generalize (q - 1) / n = s at h3 ⊢
      have h4 : (i + 1) * s ≤ n * s := Nat.mul_le_mul_right _ (by omega)
      rw [Nat.add_mul, Nat.one_mul] at h4
      by_cases h5 : s = 0
      · rw [h5, Nat.mul_zero]; omega
      · omega
    have hmul : ((i : Int) * ((q - 1) / n : Nat)) = ((i * ((q - 1) / n) : Nat) : Int) := by simp
    have hro : A 4 (i * ((q - 1) / n)) = roE m r q n f g i := by rw [ho 4 (by decide)]; exact hP _ his
    have hroE : El m r (roE m r q n f g i) := pw_el hm2 hr1 _ _
    have hci : A 25 i = c i := by rw [ho 25 (by decide)]; exact hc i (by omega)
    obtain ⟨hcp1, hcp2⟩ := hcp i (by omega)
    have hcn : c i = ((c i).toNat : Int) := by omega
    have ih1 := ih (i + 1)
    have edi : (i : Int) - (cyE m r q n f g c set i).1 = ((i - (cyE m r q n f g c set i).1 : Nat) : Int) := by omega
    have hrs := Int.emod_nonneg (set / 2 ^ (c i).toNat) (b := 2) (by omega)
    have hrs2 := Int.emod_lt_of_pos (set / 2 ^ (c i).toNat) (b := 2) (by omega)
    refine q_iload eX1_become_63 rfl ?_
    refine q_aload_n eX1_become_65 rfl ?_
    refine q_getfield eX1_become_66 gf_X1_9 (hK _ (by decide) (by decide)) (by decide) (by first | assumption | exact up2_eq _ _ _ _ | exact Eq.trans (up2_ne (by decide)) (up2_eq _ _ _ _) | exact Eq.trans (up2_ne (by decide)) (Eq.trans (up2_ne (by decide)) (up2_eq _ _ _ _)) | exact Eq.trans (up2_ne (by decide)) (Eq.trans (up2_ne (by decide)) (Eq.trans (up2_ne (by decide)) (up2_eq _ _ _ _))) | exact Eq.trans (up2_ne (by decide)) (Eq.trans (up2_ne (by decide)) (Eq.trans (up2_ne (by decide)) (Eq.trans (up2_ne (by decide)) (up2_eq _ _ _ _)))) | exact Eq.trans (up2_ne (by decide)) (Eq.trans (up2_ne (by decide)) (Eq.trans (up2_ne (by decide)) (Eq.trans (up2_ne (by decide)) (Eq.trans (up2_ne (by decide)) (up2_eq _ _ _ _))))) | exact Eq.trans (up2_ne (by decide)) (Eq.trans (up2_ne (by decide)) (Eq.trans (up2_ne (by decide)) (Eq.trans (up2_ne (by decide)) (Eq.trans (up2_ne (by decide)) (Eq.trans (up2_ne (by decide)) (up2_eq _ _ _ _))))))) ?_
    refine q_icmp_ge (tgt := 169) eX1_become_69 (by decide) (by first | assumption | exact ⟨by omega, by omega⟩) (by first | assumption | exact ⟨by omega, by omega⟩) (fun c69 => ?_) (fun c69 => ?_)
    · exact absurd c69 (by omega)
    · refine q_aload_n eX1_become_72 rfl ?_
      refine q_getfield eX1_become_73 gf_X1_31 (hK _ (by decide) (by decide)) (by decide) (xf_27_0 hX) ?_
      refine q_getfield eX1_become_76 gf_X1_55 (hK _ (by decide) (by decide)) (by decide) (xf_2_8 hX) ?_
      refine q_iload eX1_become_79 rfl ?_
      refine q_iload_n eX1_become_81 rfl ?_
      refine q_imul eX1_become_82 ?_
      rw [hmul]
      refine q_callSP [vA 4, vI (i * ((q - 1) / n) : Nat)] (M1 := mX7_at) eX1_become_83 mf_X7_at lk_X1_58 (ev_atN (hK _ (by decide) (by decide)) (show i * ((q - 1) / n) < 3125 by omega) (by decide)) (by decide) (by decide) (by decide) (Nat.le_of_ble_eq_true rfl) rfl ?_
      rw [hro]
      refine q_istore eX1_become_86 (by decide) rfl ?_
      refine q_aload_n eX1_become_88 rfl ?_
      refine q_iload eX1_become_89 rfl ?_
      refine q_callVP [vI i] (M1 := mX4_part) eX1_become_91 mf_X4_part lk_X1_62 (hK _ (by decide) (by decide)) (ev_part hK hX (show i < 63 by omega) hci) (by decide) (by decide) (by decide) (Nat.le_of_ble_eq_true rfl) rfl ?_
      refine q_istore eX1_become_94 (by decide) rfl ?_
      refine q_iload eX1_become_96 rfl ?_
      refine q_bipush eX1_become_98 (by decide +kernel) ?_
      refine q_icmp_gt (tgt := 143) eX1_become_100 (by decide) (by first | assumption | exact ⟨by omega, by omega⟩) (by first | assumption | exact ⟨by omega, by omega⟩) (fun c100 => ?_) (fun c100 => ?_)
      · refine q_aload_n eX1_become_143 rfl ?_
        refine q_getfield eX1_become_144 gf_X1_31 (hK _ (by decide) (by decide)) (by decide) (xf_27_0 hX) ?_
        refine q_aload_n eX1_become_147 rfl ?_
        refine q_getfield eX1_become_148 gf_X1_28 (hK _ (by decide) (by decide)) (by decide) (xf_27_6 hX) ?_
        refine q_iload eX1_become_151 rfl ?_
        refine q_aload_n eX1_become_153 rfl ?_
        refine q_getfield eX1_become_154 gf_X1_15 (hK _ (by decide) (by decide)) (by decide) (by first | assumption | exact up2_eq _ _ _ _ | exact Eq.trans (up2_ne (by decide)) (up2_eq _ _ _ _) | exact Eq.trans (up2_ne (by decide)) (Eq.trans (up2_ne (by decide)) (up2_eq _ _ _ _)) | exact Eq.trans (up2_ne (by decide)) (Eq.trans (up2_ne (by decide)) (Eq.trans (up2_ne (by decide)) (up2_eq _ _ _ _))) | exact Eq.trans (up2_ne (by decide)) (Eq.trans (up2_ne (by decide)) (Eq.trans (up2_ne (by decide)) (Eq.trans (up2_ne (by decide)) (up2_eq _ _ _ _)))) | exact Eq.trans (up2_ne (by decide)) (Eq.trans (up2_ne (by decide)) (Eq.trans (up2_ne (by decide)) (Eq.trans (up2_ne (by decide)) (Eq.trans (up2_ne (by decide)) (up2_eq _ _ _ _))))) | exact Eq.trans (up2_ne (by decide)) (Eq.trans (up2_ne (by decide)) (Eq.trans (up2_ne (by decide)) (Eq.trans (up2_ne (by decide)) (Eq.trans (up2_ne (by decide)) (Eq.trans (up2_ne (by decide)) (up2_eq _ _ _ _))))))) ?_
        refine q_isub eX1_become_157 ?_
        rw [edi]
        refine q_iload eX1_become_158 rfl ?_
        refine q_callVV [vA 29, vI (i - (cyE m r q n f g c set i).1 : Nat), vI (roE m r q n f g i)] (M1 := mX2_grow) eX1_become_160 mf_X2_grow lk_X1_66 (hK _ (by decide) (by decide)) (ev_grow (c := (cyE m r q n f g c set i).2.2) hK hX hGf (hK _ (by decide) (by decide)) (by decide) (by decide) (show (i - (cyE m r q n f g c set i).1) + 1 < 64 by omega) hroE (fun j _ => he2 j) (fun j hj => h2 j (by omega))) (by decide) (by decide) (by decide) (Nat.le_of_ble_eq_true rfl) rfl (fun A3 h3 => ?_)
        obtain ⟨o3, v3, w3⟩ := h3
        refine q_iinc eX1_become_163 rfl (by decide) rfl ?_
        refine q_goto (tgt := 63) eX1_become_166 (by decide) ?_
        first
        | (rw [up2_up2]
           have hs : selE c set i := ⟨by omega, c110⟩
           rw [cy_yes hs] at ih1
           refine ih1 A3 _ _ (by omega) (ho.trans (o3.mono (by simp))) (fun j hj => ?_) (fun j hj => ?_)
           · show _ = if j ≤ (cyE m r q n f g c set i).1 + 1 then gwE m r f (cyE m r q n f g c set i).2.1 (roE m r q n f g i) j else (cyE m r q n f g c set i).2.1 j
             by_cases hj2 : j ≤ (cyE m r q n f g c set i).1 + 1
             · rw [if_pos hj2]; exact v3 j hj2
             · rw [if_neg hj2, w3 j (by omega)]; exact h1 j hj
           · rw [o3 29 (by decide)]; exact h2 j hj)
        | (have hs : ¬ selE c set i := by
             rintro ⟨q1, q2⟩
             first
             | exact absurd q1 (by omega)
             | exact c110 q2
           rw [cy_no hs] at ih1
           refine ih1 A3 _ _ (by omega) (ho.trans (o3.mono (by simp))) (fun j hj => ?_) (fun j hj => ?_)
           · rw [o3 28 (by decide)]; exact h1 j hj
           · show _ = if j ≤ (i - (cyE m r q n f g c set i).1) + 1 then gwE m r f (cyE m r q n f g c set i).2.2 (roE m r q n f g i) j else (cyE m r q n f g c set i).2.2 j
             by_cases hj2 : j ≤ (i - (cyE m r q n f g c set i).1) + 1
             · rw [if_pos hj2]; exact v3 j hj2
             · rw [if_neg hj2, w3 j (by omega)]; exact h2 j hj)
      · refine q_iload_n eX1_become_103 rfl ?_
        refine q_iload eX1_become_104 rfl ?_
        refine q_ishr eX1_become_106 hset hcn (by omega) ?_
        refine q_iconst eX1_become_107 ?_
        refine q_iand1 eX1_become_108 ?_
        refine q_iconst eX1_become_109 ?_
        refine q_icmp_ne (tgt := 143) eX1_become_110 (by decide) ⟨by omega, by omega⟩ ⟨by omega, by omega⟩ (fun c110 => ?_) (fun c110 => ?_)
        · refine q_aload_n eX1_become_143 rfl ?_
          refine q_getfield eX1_become_144 gf_X1_31 (hK _ (by decide) (by decide)) (by decide) (xf_27_0 hX) ?_
          refine q_aload_n eX1_become_147 rfl ?_
          refine q_getfield eX1_become_148 gf_X1_28 (hK _ (by decide) (by decide)) (by decide) (xf_27_6 hX) ?_
          refine q_iload eX1_become_151 rfl ?_
          refine q_aload_n eX1_become_153 rfl ?_
          refine q_getfield eX1_become_154 gf_X1_15 (hK _ (by decide) (by decide)) (by decide) (by first | assumption | exact up2_eq _ _ _ _ | exact Eq.trans (up2_ne (by decide)) (up2_eq _ _ _ _) | exact Eq.trans (up2_ne (by decide)) (Eq.trans (up2_ne (by decide)) (up2_eq _ _ _ _)) | exact Eq.trans (up2_ne (by decide)) (Eq.trans (up2_ne (by decide)) (Eq.trans (up2_ne (by decide)) (up2_eq _ _ _ _))) | exact Eq.trans (up2_ne (by decide)) (Eq.trans (up2_ne (by decide)) (Eq.trans (up2_ne (by decide)) (Eq.trans (up2_ne (by decide)) (up2_eq _ _ _ _)))) | exact Eq.trans (up2_ne (by decide)) (Eq.trans (up2_ne (by decide)) (Eq.trans (up2_ne (by decide)) (Eq.trans (up2_ne (by decide)) (Eq.trans (up2_ne (by decide)) (up2_eq _ _ _ _))))) | exact Eq.trans (up2_ne (by decide)) (Eq.trans (up2_ne (by decide)) (Eq.trans (up2_ne (by decide)) (Eq.trans (up2_ne (by decide)) (Eq.trans (up2_ne (by decide)) (Eq.trans (up2_ne (by decide)) (up2_eq _ _ _ _))))))) ?_
          refine q_isub eX1_become_157 ?_
          rw [edi]
          refine q_iload eX1_become_158 rfl ?_
          refine q_callVV [vA 29, vI (i - (cyE m r q n f g c set i).1 : Nat), vI (roE m r q n f g i)] (M1 := mX2_grow) eX1_become_160 mf_X2_grow lk_X1_66 (hK _ (by decide) (by decide)) (ev_grow (c := (cyE m r q n f g c set i).2.2) hK hX hGf (hK _ (by decide) (by decide)) (by decide) (by decide) (show (i - (cyE m r q n f g c set i).1) + 1 < 64 by omega) hroE (fun j _ => he2 j) (fun j hj => h2 j (by omega))) (by decide) (by decide) (by decide) (Nat.le_of_ble_eq_true rfl) rfl (fun A3 h3 => ?_)
          obtain ⟨o3, v3, w3⟩ := h3
          refine q_iinc eX1_become_163 rfl (by decide) rfl ?_
          refine q_goto (tgt := 63) eX1_become_166 (by decide) ?_
          first
          | (rw [up2_up2]
             have hs : selE c set i := ⟨by omega, c110⟩
             rw [cy_yes hs] at ih1
             refine ih1 A3 _ _ (by omega) (ho.trans (o3.mono (by simp))) (fun j hj => ?_) (fun j hj => ?_)
             · show _ = if j ≤ (cyE m r q n f g c set i).1 + 1 then gwE m r f (cyE m r q n f g c set i).2.1 (roE m r q n f g i) j else (cyE m r q n f g c set i).2.1 j
               by_cases hj2 : j ≤ (cyE m r q n f g c set i).1 + 1
               · rw [if_pos hj2]; exact v3 j hj2
               · rw [if_neg hj2, w3 j (by omega)]; exact h1 j hj
             · rw [o3 29 (by decide)]; exact h2 j hj)
          | (have hs : ¬ selE c set i := by
               rintro ⟨q1, q2⟩
               first
               | exact absurd q1 (by omega)
               | exact c110 q2
             rw [cy_no hs] at ih1
             refine ih1 A3 _ _ (by omega) (ho.trans (o3.mono (by simp))) (fun j hj => ?_) (fun j hj => ?_)
             · rw [o3 28 (by decide)]; exact h1 j hj
             · show _ = if j ≤ (i - (cyE m r q n f g c set i).1) + 1 then gwE m r f (cyE m r q n f g c set i).2.2 (roE m r q n f g i) j else (cyE m r q n f g c set i).2.2 j
               by_cases hj2 : j ≤ (i - (cyE m r q n f g c set i).1) + 1
               · rw [if_pos hj2]; exact v3 j hj2
               · rw [if_neg hj2, w3 j (by omega)]; exact h2 j hj)
        · refine q_aload_n eX1_become_113 rfl ?_
          refine q_getfield eX1_become_114 gf_X1_31 (hK _ (by decide) (by decide)) (by decide) (xf_27_0 hX) ?_
          refine q_aload_n eX1_become_117 rfl ?_
          refine q_getfield eX1_become_118 gf_X1_24 (hK _ (by decide) (by decide)) (by decide) (xf_27_5 hX) ?_
          refine q_aload_n eX1_become_121 rfl ?_
          refine q_getfield eX1_become_122 gf_X1_15 (hK _ (by decide) (by decide)) (by decide) (by first | assumption | exact up2_eq _ _ _ _ | exact Eq.trans (up2_ne (by decide)) (up2_eq _ _ _ _) | exact Eq.trans (up2_ne (by decide)) (Eq.trans (up2_ne (by decide)) (up2_eq _ _ _ _)) | exact Eq.trans (up2_ne (by decide)) (Eq.trans (up2_ne (by decide)) (Eq.trans (up2_ne (by decide)) (up2_eq _ _ _ _))) | exact Eq.trans (up2_ne (by decide)) (Eq.trans (up2_ne (by decide)) (Eq.trans (up2_ne (by decide)) (Eq.trans (up2_ne (by decide)) (up2_eq _ _ _ _)))) | exact Eq.trans (up2_ne (by decide)) (Eq.trans (up2_ne (by decide)) (Eq.trans (up2_ne (by decide)) (Eq.trans (up2_ne (by decide)) (Eq.trans (up2_ne (by decide)) (up2_eq _ _ _ _))))) | exact Eq.trans (up2_ne (by decide)) (Eq.trans (up2_ne (by decide)) (Eq.trans (up2_ne (by decide)) (Eq.trans (up2_ne (by decide)) (Eq.trans (up2_ne (by decide)) (Eq.trans (up2_ne (by decide)) (up2_eq _ _ _ _))))))) ?_
          refine q_iload eX1_become_125 rfl ?_
          refine q_callVV [vA 28, vI (cyE m r q n f g c set i).1, vI (roE m r q n f g i)] (M1 := mX2_grow) eX1_become_127 mf_X2_grow lk_X1_66 (hK _ (by decide) (by decide)) (ev_grow (c := (cyE m r q n f g c set i).2.1) hK hX hGf (hK _ (by decide) (by decide)) (by decide) (by decide) (show (cyE m r q n f g c set i).1 + 1 < 64 by omega) hroE (fun j _ => he1 j) (fun j hj => h1 j (by omega))) (by decide) (by decide) (by decide) (Nat.le_of_ble_eq_true rfl) rfl (fun A3 h3 => ?_)
          obtain ⟨o3, v3, w3⟩ := h3
          refine q_aload_n eX1_become_130 rfl ?_
          refine q_dup eX1_become_131 rfl ?_
          refine q_getfield eX1_become_132 gf_X1_15 (hK _ (by decide) (by decide)) (by decide) (by first | assumption | exact up2_eq _ _ _ _ | exact Eq.trans (up2_ne (by decide)) (up2_eq _ _ _ _) | exact Eq.trans (up2_ne (by decide)) (Eq.trans (up2_ne (by decide)) (up2_eq _ _ _ _)) | exact Eq.trans (up2_ne (by decide)) (Eq.trans (up2_ne (by decide)) (Eq.trans (up2_ne (by decide)) (up2_eq _ _ _ _))) | exact Eq.trans (up2_ne (by decide)) (Eq.trans (up2_ne (by decide)) (Eq.trans (up2_ne (by decide)) (Eq.trans (up2_ne (by decide)) (up2_eq _ _ _ _)))) | exact Eq.trans (up2_ne (by decide)) (Eq.trans (up2_ne (by decide)) (Eq.trans (up2_ne (by decide)) (Eq.trans (up2_ne (by decide)) (Eq.trans (up2_ne (by decide)) (up2_eq _ _ _ _))))) | exact Eq.trans (up2_ne (by decide)) (Eq.trans (up2_ne (by decide)) (Eq.trans (up2_ne (by decide)) (Eq.trans (up2_ne (by decide)) (Eq.trans (up2_ne (by decide)) (Eq.trans (up2_ne (by decide)) (up2_eq _ _ _ _))))))) ?_
          refine q_iconst eX1_become_135 ?_
          refine q_iadd eX1_become_136 ?_
          refine q_putfield eX1_become_137 pf_X1_15 (hK _ (by decide) (by decide)) (by decide) (FT_i rfl) ?_
          refine q_goto (tgt := 163) eX1_become_140 (by decide) ?_
          refine q_iinc eX1_become_163 rfl (by decide) rfl ?_
          refine q_goto (tgt := 63) eX1_become_166 (by decide) ?_
          first
          | (rw [up2_up2]
             have hs : selE c set i := ⟨by omega, c110⟩
             rw [cy_yes hs] at ih1
             refine ih1 A3 _ _ (by omega) (ho.trans (o3.mono (by simp))) (fun j hj => ?_) (fun j hj => ?_)
             · show _ = if j ≤ (cyE m r q n f g c set i).1 + 1 then gwE m r f (cyE m r q n f g c set i).2.1 (roE m r q n f g i) j else (cyE m r q n f g c set i).2.1 j
               by_cases hj2 : j ≤ (cyE m r q n f g c set i).1 + 1
               · rw [if_pos hj2]; exact v3 j hj2
               · rw [if_neg hj2, w3 j (by omega)]; exact h1 j hj
             · rw [o3 29 (by decide)]; exact h2 j hj)
          | (have hs : ¬ selE c set i := by
               rintro ⟨q1, q2⟩
               first
               | exact absurd q1 (by omega)
               | exact c110 q2
             rw [cy_no hs] at ih1
             refine ih1 A3 _ _ (by omega) (ho.trans (o3.mono (by simp))) (fun j hj => ?_) (fun j hj => ?_)
             · rw [o3 28 (by decide)]; exact h1 j hj
             · show _ = if j ≤ (i - (cyE m r q n f g c set i).1) + 1 then gwE m r f (cyE m r q n f g c set i).2.2 (roE m r q n f g i) j else (cyE m r q n f g c set i).2.2 j
               by_cases hj2 : j ≤ (i - (cyE m r q n f g c set i).1) + 1
               · rw [if_pos hj2]; exact v3 j hj2
               · rw [if_neg hj2, w3 j (by omega)]; exact h2 j hj)
set_option maxRecDepth 20000 in
theorem ev_cyclic {p e r q N n : Nat} {m set : Int} {f : Nat → Int} {g : Int} {lg c : Nat → Int} {F : HF} {A : HA} {al : AL} (hK : KX al) (hX : XF F) (hT : GT p e r q N m f g lg F A) (hn1 : 1 ≤ n) (hn63 : n ≤ 63) (hn : F 24 0 = vI n) (hc : ∀ j, j < 63 → A 25 j = c j) (hcp : ∀ j, j < n → 0 ≤ c j ∧ c j ≤ 62) (hset : InR set) : QE 4 0 0 mX1_become [vA 27, vA 24, vI set] F A al (PCY F al n (cyE m r q n f g c set n).1 (swE m (n - (cyE m r q n f g c set n).1)) (fun A2 => Off [13, 14, 15, 28, 29] A A2 ∧ (∀ j, j < 64 → A2 28 j = (cyE m r q n f g c set n).2.1 j) ∧ ∀ j, j < 64 → A2 29 j = (cyE m r q n f g c set n).2.2 j)) := by
  refine QE.mk (by decide +kernel) (Nat.le_of_ble_eq_true rfl) ?_
  obtain ⟨hG, hp, he, hq, hN, hg, ⟨hp2, hp7, he1, he4, hme, hqe, hq3, hNm, hgE⟩, hP, hL, hI⟩ := id hT
  obtain ⟨hm, hr, hf, hm2, hr1, hr6, hN4⟩ := id hG
  have hm4 := hG.m4
  have hq2 := hT.q2
  have hX1 := (hX.up (v := vI n) (show plainF xrefs 27 1 = true by decide)).up (v := vI 0) (show plainF xrefs 27 2 = true by decide)
  have eq1 : (q : Int) - 1 = ((q - 1 : Nat) : Int) := by omega
  have hq' : up2 (up2 F 27 1 (vI n)) 27 2 (vI 0) 2 4 = vI q := by rw [up2_row (by decide), up2_row (by decide)]; exact hq
  refine q_aload_n eX1_become_0 rfl ?_
  refine q_aload_n eX1_become_1 rfl ?_
  refine q_getfield eX1_become_2 gf_X1_35 (hK _ (by decide) (by decide)) (by decide) (by assumption) ?_
  refine q_putfield eX1_become_5 pf_X1_9 (hK _ (by decide) (by decide)) (by decide) (FT_i rfl) ?_
  refine q_aload_n eX1_become_8 rfl ?_
  refine q_iconst eX1_become_9 ?_
  refine q_putfield eX1_become_10 pf_X1_15 (hK _ (by decide) (by decide)) (by decide) (FT_i rfl) ?_
  refine q_aload_n eX1_become_13 rfl ?_
  refine q_getfield eX1_become_14 gf_X1_24 (hK _ (by decide) (by decide)) (by decide) (xf_27_5 hX1) ?_
  refine q_iconst eX1_become_17 ?_
  refine q_callSV [vA 28, vI 0] (M1 := mJ7_fill_53178) eX1_become_18 mf_J7_fill_53178 lk_X1_38 (ev_fill (hK _ (by decide) (by decide)) (by decide)) (by decide) (by decide) (by decide) (Nat.le_of_ble_eq_true rfl) rfl (fun A1 h1 => ?_)
  obtain ⟨o1, v1⟩ := h1
  refine q_aload_n eX1_become_21 rfl ?_
  refine q_getfield eX1_become_22 gf_X1_28 (hK _ (by decide) (by decide)) (by decide) (xf_27_6 hX1) ?_
  refine q_iconst eX1_become_25 ?_
  refine q_callSV [vA 29, vI 0] (M1 := mJ7_fill_53178) eX1_become_26 mf_J7_fill_53178 lk_X1_38 (ev_fill (hK _ (by decide) (by decide)) (by decide)) (by decide) (by decide) (by decide) (Nat.le_of_ble_eq_true rfl) rfl (fun A2 h2 => ?_)
  obtain ⟨o2, v2⟩ := h2
  refine q_aload_n eX1_become_29 rfl ?_
  refine q_getfield eX1_become_30 gf_X1_24 (hK _ (by decide) (by decide)) (by decide) (xf_27_5 hX1) ?_
  refine q_iconst eX1_become_33 ?_
  refine q_iconst eX1_become_34 ?_
  refine q_iast eX1_become_35 (hK _ (by decide) (by decide)) (by omega) (by omega) ?_
  refine q_aload_n eX1_become_36 rfl ?_
  refine q_getfield eX1_become_37 gf_X1_28 (hK _ (by decide) (by decide)) (by decide) (xf_27_6 hX1) ?_
  refine q_iconst eX1_become_40 ?_
  refine q_iconst eX1_become_41 ?_
  refine q_iast eX1_become_42 (hK _ (by decide) (by decide)) (by omega) (by omega) ?_
  refine q_aload_n eX1_become_43 rfl ?_
  refine q_getfield eX1_become_44 gf_X1_31 (hK _ (by decide) (by decide)) (by decide) (xf_27_0 hX1) ?_
  refine q_getfield eX1_become_47 gf_X1_44 (hK _ (by decide) (by decide)) (by decide) (by assumption) ?_
  refine q_iconst eX1_become_50 ?_
  refine q_isub eX1_become_51 ?_
  refine q_aload_n eX1_become_52 rfl ?_
  refine q_getfield eX1_become_53 gf_X1_9 (hK _ (by decide) (by decide)) (by decide) (by first | assumption | exact up2_eq _ _ _ _ | exact Eq.trans (up2_ne (by decide)) (up2_eq _ _ _ _) | exact Eq.trans (up2_ne (by decide)) (Eq.trans (up2_ne (by decide)) (up2_eq _ _ _ _)) | exact Eq.trans (up2_ne (by decide)) (Eq.trans (up2_ne (by decide)) (Eq.trans (up2_ne (by decide)) (up2_eq _ _ _ _))) | exact Eq.trans (up2_ne (by decide)) (Eq.trans (up2_ne (by decide)) (Eq.trans (up2_ne (by decide)) (Eq.trans (up2_ne (by decide)) (up2_eq _ _ _ _)))) | exact Eq.trans (up2_ne (by decide)) (Eq.trans (up2_ne (by decide)) (Eq.trans (up2_ne (by decide)) (Eq.trans (up2_ne (by decide)) (Eq.trans (up2_ne (by decide)) (up2_eq _ _ _ _))))) | exact Eq.trans (up2_ne (by decide)) (Eq.trans (up2_ne (by decide)) (Eq.trans (up2_ne (by decide)) (Eq.trans (up2_ne (by decide)) (Eq.trans (up2_ne (by decide)) (Eq.trans (up2_ne (by decide)) (up2_eq _ _ _ _))))))) ?_
  rw [eq1]
  refine q_callSP [vI (q - 1 : Nat), vI n] (M1 := mX7_quotient) eX1_become_56 mf_X7_quotient lk_X1_49 (ev_quotP (by omega) (by omega) (by omega) (by omega)) (by decide) (by decide) (by decide) (Nat.le_of_ble_eq_true rfl) rfl ?_
  rw [show ((q - 1 : Nat) : Int) / n = ((q - 1) / n : Nat) by simp]
  refine q_istore_n eX1_become_59 (by decide) rfl ?_
  refine q_iconst eX1_become_60 ?_
  refine q_istore eX1_become_61 (by decide) rfl ?_
  exact lp_cyclic (A0 := A) hK hX hT hn1 hn63 hc hcp hset n 0 _ _ _ (by omega) (((o1.mono (by simp)).trans (o2.mono (by simp))).trans ((Off.up (a := 28) (by simp)).trans (Off.up (a := 29) (by simp)))) (fun j hj => by
    rw [up2_row (by decide), up2_at]
    show (if j = 0 then (1 : Int) else A2 28 j) = if j = 0 then (1 : Int) else 0
    by_cases hj0 : j = 0
    · rw [if_pos hj0, if_pos hj0]
    · rw [if_neg hj0, if_neg hj0, o2 28 (by decide)]; exact v1 j hj) (fun j hj => by
    rw [up2_at, up2_row (by decide)]
    show (if j = 0 then (1 : Int) else A2 29 j) = if j = 0 then (1 : Int) else 0
    by_cases hj0 : j = 0
    · rw [if_pos hj0, if_pos hj0]
    · rw [if_neg hj0, if_neg hj0]; exact v2 j hj)
