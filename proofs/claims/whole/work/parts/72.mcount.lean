/-! the model: counting; roots, zeros, within -/
def foE (P : Nat → Bool) (i : Int) (y : Nat) : Int := if 0 ≤ i ∧ i < ctn P y then nth P y i.toNat else -1
def CNT (P : Nat → Bool) (i : Int) (y : Nat) (F : HF) : Prop := F 44 30 = vI (ctn P y : Nat) ∧ F 44 31 = vI i ∧ F 44 32 = vI (foE P i y)
theorem nth_nn {P : Nat → Bool} : ∀ (y j : Nat), j < ctn P y → 0 ≤ nth P y j ∧ nth P y j < y
  | 0, j, h => absurd h (by show ¬ j < 0; omega)
  | y + 1, j, h => by
    by_cases hp : P y = true
    · rw [ctn_yes hp] at h
      rw [nth_yes hp]
      split
      · omega
      · have := nth_nn (P := P) y j (by omega)
        omega
    · rw [ctn_no hp] at h
      rw [nth_no hp]
      have := nth_nn (P := P) y j h
      omega
theorem fo_yes {P : Nat → Bool} {i : Int} {y : Nat} (hp : P y = true) : foE P i (y + 1) = if ((ctn P y : Nat) : Int) = i then (y : Int) else foE P i y := by
  unfold foE
  rw [ctn_yes hp]
  by_cases h : ((ctn P y : Nat) : Int) = i
  · rw [if_pos h, if_pos ⟨by omega, by omega⟩, nth_yes hp, if_pos (by omega)]
  · rw [if_neg h]
    by_cases h2 : 0 ≤ i ∧ i < ctn P y
    · rw [if_pos h2, if_pos ⟨h2.1, by omega⟩, nth_yes hp, if_neg (by omega)]
    · rw [if_neg h2, if_neg (by omega)]
theorem fo_no {P : Nat → Bool} {i : Int} {y : Nat} (hp : ¬ P y = true) : foE P i (y + 1) = foE P i y := by
  unfold foE
  rw [ctn_no hp, nth_no hp]
theorem CNT.no {P : Nat → Bool} {i : Int} {y : Nat} {F : HF} (h : CNT P i y F) (hp : ¬ P y = true) : CNT P i (y + 1) F := by
  unfold CNT
  rw [ctn_no hp, fo_no hp]
  exact h
theorem CNT.off {P : Nat → Bool} {i : Int} {y : Nat} {F F' : HF} (h : CNT P i y F) (hF : ∀ k, k ∈ [30, 31, 32] → F' 44 k = F 44 k) : CNT P i y F' := ⟨(hF 30 (by decide)).trans h.1, (hF 31 (by decide)).trans h.2.1, (hF 32 (by decide)).trans h.2.2⟩
theorem fo_R {P : Nat → Bool} {i : Int} {y : Nat} (hy : y ≤ 4096) : -1 ≤ foE P i y ∧ foE P i y ≤ 4096 := by
  unfold foE
  split
  · next h =>
    have := nth_nn (P := P) y i.toNat (by omega)
    omega
  · omega
def C3 : List (Nat × Nat) := [(44, 30), (44, 31), (44, 32)]
set_option maxRecDepth 20000 in
theorem mo_begins {i : Int} {P : Nat → Bool} {F : HF} {A : HA} {al : AL} (hK : KM al) : QE 0 0 0 mX12_begins [vA 44, vI i] F A al (fun o F' A' al' => o = .inl none ∧ al' = al ∧ A' = A ∧ FOff C3 F F' ∧ CNT P i 0 F') := by
  refine QE.mk (by decide +kernel) (Nat.le_of_ble_eq_true rfl) ?_
  refine q_aload_n eX12_begins_0 rfl ?_
  refine q_iconst eX12_begins_1 ?_
  refine q_putfield eX12_begins_2 pf_X12_352 (hK _ (by decide) (by decide)) (by decide) (FT_i rfl) ?_
  refine q_aload_n eX12_begins_5 rfl ?_
  refine q_iload_n eX12_begins_6 rfl ?_
  refine q_putfield eX12_begins_7 pf_X12_355 (hK _ (by decide) (by decide)) (by decide) (FT_i rfl) ?_
  refine q_aload_n eX12_begins_10 rfl ?_
  refine q_iconst eX12_begins_11 ?_
  refine q_putfield eX12_begins_12 pf_X12_358 (hK _ (by decide) (by decide)) (by decide) (FT_i rfl) ?_
  refine q_retV eX12_begins_15 rfl (by decide) (by decide) ?_
  refine ⟨rfl, rfl, rfl, ((FOff.up (by decide)).trans (FOff.up (by decide))).trans (FOff.up (by decide)), ?_, ?_, ?_⟩
  · exact Eq.trans (up2_ne (by decide)) (Eq.trans (up2_ne (by decide)) (up2_eq _ _ _ _))
  · exact Eq.trans (up2_ne (by decide)) (up2_eq _ _ _ _)
  · exact (up2_eq _ _ _ _).trans (congrArg vI (if_neg (by show ¬ (0 ≤ i ∧ i < ((0 : Nat) : Int)); omega)).symm)
set_option maxRecDepth 20000 in
theorem mo_counts {i : Int} {y : Nat} {P : Nat → Bool} {F : HF} {A : HA} {al : AL} (hK : KM al) (h : CNT P i y F) (hp : P y = true) (hy : y ≤ 4096) (hi : InR i) : QE 0 0 0 mX12_counts [vA 44, vI y] F A al (fun o F' A' al' => o = .inl none ∧ al' = al ∧ A' = A ∧ FOff C3 F F' ∧ CNT P i (y + 1) F') := by
  refine QE.mk (by decide +kernel) (Nat.le_of_ble_eq_true rfl) ?_
  obtain ⟨h30, h31, h32⟩ := h
  have hct := ctn_le P y
  refine q_aload_n eX12_counts_0 rfl ?_
  refine q_getfield eX12_counts_1 gf_X12_352 (hK _ (by decide) (by decide)) (by decide) (by first | assumption) ?_
  refine q_aload_n eX12_counts_4 rfl ?_
  refine q_getfield eX12_counts_5 gf_X12_355 (hK _ (by decide) (by decide)) (by decide) (by first | assumption) ?_
  refine q_icmp_ne (tgt := 16) eX12_counts_8 (by decide) (by first | assumption | exact ⟨by omega, by omega⟩) (by first | assumption | exact ⟨by omega, by omega⟩) (fun c8 => ?_) (fun c8 => ?_)
  · refine q_aload_n eX12_counts_16 rfl ?_
    refine q_dup eX12_counts_17 rfl ?_
    refine q_getfield eX12_counts_18 gf_X12_352 (hK _ (by decide) (by decide)) (by decide) (by first | exact h30 | exact (up2_ne (by decide)).trans h30) ?_
    refine q_iconst eX12_counts_21 ?_
    refine q_iadd eX12_counts_22 ?_
    refine q_putfield eX12_counts_23 pf_X12_352 (hK _ (by decide) (by decide)) (by decide) (FT_i rfl) ?_
    refine q_retV eX12_counts_26 rfl (by decide) (by decide) ?_
    first
    | (refine ⟨rfl, rfl, rfl, FOff.up (by decide), ?_, ?_, ?_⟩
       · rw [ctn_yes hp]; exact up2_eq _ _ _ _
       · exact (up2_ne (by decide)).trans h31
       · rw [fo_yes hp, if_neg c8]; exact (up2_ne (by decide)).trans h32)
    | (refine ⟨rfl, rfl, rfl, (FOff.up (by decide)).trans (FOff.up (by decide)), ?_, ?_, ?_⟩
       · rw [ctn_yes hp]; exact up2_eq _ _ _ _
       · exact (up2_ne (by decide)).trans ((up2_ne (by decide)).trans h31)
       · rw [fo_yes hp, if_pos c8]; exact (up2_ne (by decide)).trans (up2_eq _ _ _ _))
  · refine q_aload_n eX12_counts_11 rfl ?_
    refine q_iload_n eX12_counts_12 rfl ?_
    refine q_putfield eX12_counts_13 pf_X12_358 (hK _ (by decide) (by decide)) (by decide) (FT_i rfl) ?_
    refine q_aload_n eX12_counts_16 rfl ?_
    refine q_dup eX12_counts_17 rfl ?_
    refine q_getfield eX12_counts_18 gf_X12_352 (hK _ (by decide) (by decide)) (by decide) (by first | exact h30 | exact (up2_ne (by decide)).trans h30) ?_
    refine q_iconst eX12_counts_21 ?_
    refine q_iadd eX12_counts_22 ?_
    refine q_putfield eX12_counts_23 pf_X12_352 (hK _ (by decide) (by decide)) (by decide) (FT_i rfl) ?_
    refine q_retV eX12_counts_26 rfl (by decide) (by decide) ?_
    first
    | (refine ⟨rfl, rfl, rfl, FOff.up (by decide), ?_, ?_, ?_⟩
       · rw [ctn_yes hp]; exact up2_eq _ _ _ _
       · exact (up2_ne (by decide)).trans h31
       · rw [fo_yes hp, if_neg c8]; exact (up2_ne (by decide)).trans h32)
    | (refine ⟨rfl, rfl, rfl, (FOff.up (by decide)).trans (FOff.up (by decide)), ?_, ?_, ?_⟩
       · rw [ctn_yes hp]; exact up2_eq _ _ _ _
       · exact (up2_ne (by decide)).trans ((up2_ne (by decide)).trans h31)
       · rw [fo_yes hp, if_pos c8]; exact (up2_ne (by decide)).trans (up2_eq _ _ _ _))
set_option maxRecDepth 20000 in
theorem mo_told {i : Int} {N : Nat} {P : Nat → Bool} {F : HF} {A : HA} {al : AL} (hK : KM al) (h : CNT P i N F) (ht : F 44 0 = vI 0) (hN : N ≤ 4096) (hi : InR i) (hi1 : -1 ≤ i) : QE 2 0 0 mX12_told [vA 44] F A al (fun o F' A' al' => o = .inl (some ((mo1 (ctn P N) (nth P N) i).getD 0)) ∧ F' 44 0 = vI (thE (mo1 (ctn P N) (nth P N) i)) ∧ al' = al ∧ A' = A ∧ FOff [(44, 0)] F F') := by
  refine QE.mk (by decide +kernel) (Nat.le_of_ble_eq_true rfl) ?_
  obtain ⟨h30, h31, h32⟩ := h
  have hct := ctn_le P N
  have hfr := fo_R (P := P) (i := i) hN
  refine q_aload_n eX12_told_0 rfl ?_
  refine q_getfield eX12_told_1 gf_X12_355 (hK _ (by decide) (by decide)) (by decide) (by first | assumption) ?_
  refine q_iconst eX12_told_4 ?_
  refine q_icmp_ne (tgt := 13) eX12_told_5 (by decide) (by first | assumption | exact ⟨by omega, by omega⟩) (by first | assumption | exact ⟨by omega, by omega⟩) (fun c5 => ?_) (fun c5 => ?_)
  · refine q_aload_n eX12_told_13 rfl ?_
    refine q_aload_n eX12_told_14 rfl ?_
    refine q_getfield eX12_told_15 gf_X12_358 (hK _ (by decide) (by decide)) (by decide) (by first | assumption) ?_
    refine q_iconst eX12_told_18 ?_
    refine q_icmp_eq (tgt := 26) eX12_told_19 (by decide) (by first | assumption | exact ⟨by omega, by omega⟩) (by first | assumption | exact ⟨by omega, by omega⟩) (fun c19 => ?_) (fun c19 => ?_)
    · refine q_iconst eX12_told_26 ?_
      refine q_iconst eX12_told_27 ?_
      refine q_right0 eX12_told_28 lk_X12_304 hK ht (by decide) (by decide) (by decide) (Nat.le_of_ble_eq_true rfl) ?_
      refine q_if_eq (tgt := 41) eX12_told_31 (by decide) (by first | assumption | exact ⟨by omega, by omega⟩) (fun c31 => ?_) (fun c31 => ?_)
      · refine q_iconst eX12_told_41 ?_
        refine q_retI eX12_told_42 rfl (by decide) (by decide) ?_
        first
        | (have hin : 0 ≤ i ∧ i < ctn P N := by
             refine Classical.byContradiction fun hc => c19 ?_
             unfold foE
             rw [if_neg hc]
           have e : mo1 (ctn P N) (nth P N) i = some (foE P i N) := by
             unfold mo1 foE
             rw [if_neg (by omega), if_pos hin, if_pos hin]
           rw [e]
           exact ⟨rfl, ht, rfl, rfl, FOff.rfl'⟩)
        | (have hin : ¬ (0 ≤ i ∧ i < ctn P N) := by
             intro hc
             have h9 := nth_nn (P := P) N i.toNat (by omega)
             unfold foE at c19
             rw [if_pos hc] at c19
             omega
           have e : mo1 (ctn P N) (nth P N) i = none := by
             unfold mo1
             rw [if_neg (by omega), if_neg hin]
           rw [e]
           exact ⟨rfl, up2_eq _ _ _ _, rfl, rfl, FOff.up (by decide)⟩)
      · exact absurd rfl c31
    · refine q_iconst eX12_told_22 ?_
      refine q_goto (tgt := 27) eX12_told_23 (by decide) ?_
      refine q_iconst eX12_told_27 ?_
      refine q_right1 eX12_told_28 lk_X12_304 hK ht (by decide) (by decide) (by decide) (Nat.le_of_ble_eq_true rfl) ?_
      refine q_if_eq (tgt := 41) eX12_told_31 (by decide) (by first | assumption | exact ⟨by omega, by omega⟩) (fun c31 => ?_) (fun c31 => ?_)
      · exact absurd c31 (by decide)
      · refine q_aload_n eX12_told_34 rfl ?_
        refine q_getfield eX12_told_35 gf_X12_358 (hK _ (by decide) (by decide)) (by decide) (by first | assumption) ?_
        refine q_goto (tgt := 42) eX12_told_38 (by decide) ?_
        refine q_retI eX12_told_42 rfl (by decide) (by decide) ?_
        first
        | (have hin : 0 ≤ i ∧ i < ctn P N := by
             refine Classical.byContradiction fun hc => c19 ?_
             unfold foE
             rw [if_neg hc]
           have e : mo1 (ctn P N) (nth P N) i = some (foE P i N) := by
             unfold mo1 foE
             rw [if_neg (by omega), if_pos hin, if_pos hin]
           rw [e]
           exact ⟨rfl, ht, rfl, rfl, FOff.rfl'⟩)
        | (have hin : ¬ (0 ≤ i ∧ i < ctn P N) := by
             intro hc
             have h9 := nth_nn (P := P) N i.toNat (by omega)
             unfold foE at c19
             rw [if_pos hc] at c19
             omega
           have e : mo1 (ctn P N) (nth P N) i = none := by
             unfold mo1
             rw [if_neg (by omega), if_neg hin]
           rw [e]
           exact ⟨rfl, up2_eq _ _ _ _, rfl, rfl, FOff.up (by decide)⟩)
  · refine q_aload_n eX12_told_8 rfl ?_
    refine q_getfield eX12_told_9 gf_X12_352 (hK _ (by decide) (by decide)) (by decide) (by first | assumption) ?_
    refine q_retI eX12_told_12 rfl (by decide) (by decide) ?_
    have e : mo1 (ctn P N) (nth P N) i = some ((ctn P N : Nat) : Int) := if_pos (by omega)
    rw [e]
    exact ⟨rfl, ht, rfl, rfl, FOff.rfl'⟩
set_option maxRecDepth 20000 in
theorem lp_mroots {x i : Int} {t : Nat} {p e r q N : Nat} {m : Int} {f : Nat → Int} {g : Int} {rt lg pl_ tp mk ck : Nat → Int} {len n dg : Nat} {fp set : Int} {w : Option (Nat → Int)} {S : List Int} {F F1 : HF} {A : HA} {al : AL} (hK : KM al) (h0 : MI p e r q N m f g rt lg pl_ len tp fp n set dg mk ck w S F1 A) (ht00 : F1 44 0 = vI 0) (hoF0 : FOff SCF F F1) (hx : El m r x) (ht : t ≤ 30) (hi : InR i) (hi1 : -1 ≤ i) : ∀ (k y : Nat) (F2 : HF) (A2 : HA), y + k = N → FOff C3 F1 F2 → Off [51, 52, 53, 54] A A2 → CNT (fun y => decide (pw m r f y t = x)) i y F2 →
    QW mX12_roots 7 0 0 (PMP (mo1 (ctn (fun y => decide (pw m r f y t = x)) N) (nth (fun y => decide (pw m r f y t = x)) N) i) F A al) 0 0 53 [some (vA 44), some (vI x), some (vI t), some (vI i), some (vI y)] [] F2 A2 al := by
  intro k
  induction k with
  | zero =>
    intro y F2 A2 hy hof ho hcn
    have h := h0.off (hof.mono (l' := SCF) (by decide)) (ho.mono (l' := SCA) (by decide)) (by decide) (by decide) (by decide)
    have ht0 : F2 44 0 = vI 0 := (hof 44 0 (by decide)).trans ht00
    obtain ⟨⟨hX, hT, h3r, hMH⟩, h2, ⟨hl0, hl1, hta⟩, h4, ⟨⟨h51, h52, h53⟩, h5m, h5c, ⟨hn1, hn63, hnq, hs0, hs1⟩, hdn⟩, h7, ⟨⟨h81, h82⟩, h83⟩⟩ := id h
    obtain ⟨hG, hp, he, hq, hN, hg, ⟨hp2, hp7, he1, he4, hme, hqe, hq3, hNm, hgE⟩, hP, hL, hR⟩ := id hT
    obtain ⟨hm, hr, hf, hm2, hr1, hr6, hN4⟩ := id hG
    have hm4 := hG.m4
    have hq2 := hT.q2
    have hN9 : (N : Int) ≤ 4096 := by rw [hNm]; exact hN4
    have hE : ∀ x : Int, 0 ≤ x ∧ x ≤ (N : Int) - 1 → El m r x := fun x h => ⟨h.1, by rw [← hNm]; omega⟩
    have hNp : 1 ≤ N := by have := el_one (m := m) (r := r) hm2 hr1; have := this.2; omega
    have e9 : y = N := by omega
    subst e9
    refine q_iload eX12_roots_53 rfl ?_
    refine q_aload_n eX12_roots_55 rfl ?_
    refine q_getfield eX12_roots_56 gf_X12_28 (hK _ (by decide) (by decide)) (by decide) (by first | assumption) ?_
    refine q_icmp_ge (tgt := 86) eX12_roots_59 (by decide) (by first | assumption | exact ⟨by omega, by omega⟩) (by first | assumption | exact ⟨by omega, by omega⟩) (fun c59 => ?_) (fun c59 => ?_)
    · refine q_aload_n eX12_roots_86 rfl ?_
      refine q_callV [] (M1 := mX12_told) eX12_roots_87 mf_X12_told lk_X12_369 (hK _ (by decide) (by decide)) (mo_told hK hcn ht0 (by omega) hi hi1) (by intro E F A al h; cases h.1) (by decide) (by decide) (by decide) (Nat.le_of_ble_eq_true rfl) (st := []) rfl (fun v9 F9 A9 al9 h9 => ?_)
      obtain ⟨e9, t9, rfl, rfl, f9⟩ := h9
      obtain rfl := Sum.inl.inj e9
      refine q_retI eX12_roots_90 rfl (by decide) (by decide) ?_
      exact ⟨rfl, t9, rfl, (hoF0.trans (hof.mono (by decide))).trans (f9.mono (by decide)), ho.mono (by decide)⟩
    · exact absurd c59 (by omega)
  | succ k ih =>
    intro y F2 A2 hy hof ho hcn
    have h := h0.off (hof.mono (l' := SCF) (by decide)) (ho.mono (l' := SCA) (by decide)) (by decide) (by decide) (by decide)
    have ht0 : F2 44 0 = vI 0 := (hof 44 0 (by decide)).trans ht00
    obtain ⟨⟨hX, hT, h3r, hMH⟩, h2, ⟨hl0, hl1, hta⟩, h4, ⟨⟨h51, h52, h53⟩, h5m, h5c, ⟨hn1, hn63, hnq, hs0, hs1⟩, hdn⟩, h7, ⟨⟨h81, h82⟩, h83⟩⟩ := id h
    obtain ⟨hG, hp, he, hq, hN, hg, ⟨hp2, hp7, he1, he4, hme, hqe, hq3, hNm, hgE⟩, hP, hL, hR⟩ := id hT
    obtain ⟨hm, hr, hf, hm2, hr1, hr6, hN4⟩ := id hG
    have hm4 := hG.m4
    have hq2 := hT.q2
    have hN9 : (N : Int) ≤ 4096 := by rw [hNm]; exact hN4
    have hE : ∀ x : Int, 0 ≤ x ∧ x ≤ (N : Int) - 1 → El m r x := fun x h => ⟨h.1, by rw [← hNm]; omega⟩
    have hNp : 1 ≤ N := by have := el_one (m := m) (r := r) hm2 hr1; have := this.2; omega
    have hyE := el_nat (i := y) hNm (by omega)
    have hpe := (pw_el (f := f) hm2 hr1 (y : Int) t).lt hN4
    have hxl := hx.lt hN4
    refine q_iload eX12_roots_53 rfl ?_
    refine q_aload_n eX12_roots_55 rfl ?_
    refine q_getfield eX12_roots_56 gf_X12_28 (hK _ (by decide) (by decide)) (by decide) (by first | assumption) ?_
    refine q_icmp_ge (tgt := 86) eX12_roots_59 (by decide) (by first | assumption | exact ⟨by omega, by omega⟩) (by first | assumption | exact ⟨by omega, by omega⟩) (fun c59 => ?_) (fun c59 => ?_)
    · exact absurd c59 (by omega)
    · refine q_aload_n eX12_roots_62 rfl ?_
      refine q_iload eX12_roots_63 rfl ?_
      refine q_iload_n eX12_roots_65 rfl ?_
      refine q_i2l eX12_roots_66 (by exact ⟨by omega, by omega⟩) ?_
      refine q_callVQ [vI y, vJ t] (M1 := mX12_raised) eX12_roots_67 mf_X12_raised lk_X12_147 (hK _ (by decide) (by decide)) (mo_raised hK hX hG hyE (by omega)) (by decide) (by decide) (by decide) (Nat.le_of_ble_eq_true rfl) rfl (fun A3 h3 => ?_)
      refine q_iload_n eX12_roots_70 rfl ?_
      refine q_icmp_ne (tgt := 80) eX12_roots_71 (by decide) (by first | assumption | exact ⟨by omega, by omega⟩) (by first | assumption | exact ⟨by omega, by omega⟩) (fun c71 => ?_) (fun c71 => ?_)
      · refine q_iinc eX12_roots_80 rfl (by decide) rfl ?_
        refine q_goto (tgt := 53) eX12_roots_83 (by decide) ?_
        first
        | exact ih (y + 1) _ _ (by omega) (hof.trans f9) (ho.trans (h3.mono (by decide))) cn9
        | exact ih (y + 1) F2 _ (by omega) hof (ho.trans (h3.mono (by decide))) (hcn.no (fun hc => c71 (of_decide_eq_true hc)))
      · have hys : (fun y => decide (pw m r f y t = x)) y = true := decide_eq_true (c71)
        refine q_aload_n eX12_roots_74 rfl ?_
        refine q_iload eX12_roots_75 rfl ?_
        refine q_callV [vI y] (M1 := mX12_counts) eX12_roots_77 mf_X12_counts lk_X12_366 (hK _ (by decide) (by decide)) (mo_counts hK hcn hys (by omega) hi) (by intro E F A al h; cases h.1) (by decide) (by decide) (by decide) (Nat.le_of_ble_eq_true rfl) (st := []) rfl (fun v9 F9 A9 al9 h9 => ?_)
        obtain ⟨e9, rfl, rfl, f9, cn9⟩ := h9
        obtain rfl := Sum.inl.inj e9
        refine q_iinc eX12_roots_80 rfl (by decide) rfl ?_
        refine q_goto (tgt := 53) eX12_roots_83 (by decide) ?_
        first
        | exact ih (y + 1) _ _ (by omega) (hof.trans f9) (ho.trans (h3.mono (by decide))) cn9
        | exact ih (y + 1) F2 _ (by omega) hof (ho.trans (h3.mono (by decide))) (hcn.no (fun hc => c71 (of_decide_eq_true hc)))
set_option maxRecDepth 20000 in
theorem mo_roots {x k i : Int} {p e r q N : Nat} {m : Int} {f : Nat → Int} {g : Int} {rt lg pl_ tp mk ck : Nat → Int} {len n dg : Nat} {fp set : Int} {w : Option (Nat → Int)} {S : List Int} {F : HF} {A : HA} {al : AL} (hK : KM al) (h0 : MI p e r q N m f g rt lg pl_ len tp fp n set dg mk ck w S F A) (hx : InR x) (hk : InR k) (hi : InR i) : QE 7 0 0 mX12_roots [vA 44, vI x, vI k, vI i] F A al (PMP (if (0 ≤ x ∧ x ≤ (N : Int) - 1) ∧ (1 ≤ k ∧ k ≤ 30) ∧ -1 ≤ i then mo1 (ctn (fun y => decide (pw m r f y k.toNat = x)) N) (nth (fun y => decide (pw m r f y k.toNat = x)) N) i else none) F A al) := by
  refine QE.mk (by decide +kernel) (Nat.le_of_ble_eq_true rfl) ?_
  have hx_1 := hx.1
  have hx_2 := hx.2
  have hk_1 := hk.1
  have hk_2 := hk.2
  have hi_1 := hi.1
  have hi_2 := hi.2
  have h := h0.t0
  generalize hF0 : up2 F 44 0 (vI 0) = F1 at h
  have ht0 : F1 44 0 = vI 0 := by rw [← hF0]; exact up2_eq _ _ _ _
  have hoF : FOff SCF F F1 := by rw [← hF0]; exact FOff.up (by decide)
  obtain ⟨⟨hX, hT, h3r, hMH⟩, h2, ⟨hl0, hl1, hta⟩, h4, ⟨⟨h51, h52, h53⟩, h5m, h5c, ⟨hn1, hn63, hnq, hs0, hs1⟩, hdn⟩, h7, ⟨⟨h81, h82⟩, h83⟩⟩ := id h
  obtain ⟨hG, hp, he, hq, hN, hg, ⟨hp2, hp7, he1, he4, hme, hqe, hq3, hNm, hgE⟩, hP, hL, hR⟩ := id hT
  obtain ⟨hm, hr, hf, hm2, hr1, hr6, hN4⟩ := id hG
  have hm4 := hG.m4
  have hq2 := hT.q2
  have hN9 : (N : Int) ≤ 4096 := by rw [hNm]; exact hN4
  have hE : ∀ x : Int, 0 ≤ x ∧ x ≤ (N : Int) - 1 → El m r x := fun x h => ⟨h.1, by rw [← hNm]; omega⟩
  have hNp : 1 ≤ N := by have := el_one (m := m) (r := r) hm2 hr1; have := this.2; omega
  refine q_aload_n eX12_roots_0 rfl ?_
  refine q_iconst eX12_roots_1 ?_
  refine q_putfield eX12_roots_2 pf_X12_1 (hK _ (by decide) (by decide)) (by decide) (FT_i rfl) ?_
  rw [hF0]
  refine q_aload_n eX12_roots_5 rfl ?_
  refine q_aload_n eX12_roots_6 rfl ?_
  refine q_iload_n eX12_roots_7 rfl ?_
  refine q_callVP [vI x] (M1 := mX12_isElement) eX12_roots_8 mf_X12_isElement lk_X12_311 (hK _ (by decide) (by decide)) (mo_isElement hK hN hNp (by omega) hx) (by decide) (by decide) (by decide) (Nat.le_of_ble_eq_true rfl) rfl ?_
  refine q_if_eq (tgt := 35) eX12_roots_11 (by decide) ir_ite (fun c11 => ?_) (fun c11 => ?_)
  · refine q_iconst eX12_roots_35 ?_
    refine q_iconst eX12_roots_36 ?_
    refine q_right0 eX12_roots_37 lk_X12_304 hK ht0 (by decide) (by decide) (by decide) (Nat.le_of_ble_eq_true rfl) ?_
    refine q_if_ne (tgt := 45) eX12_roots_40 (by decide) (by first | assumption | exact ⟨by omega, by omega⟩) (fun c40 => ?_) (fun c40 => ?_)
    · exact absurd rfl c40
    · refine q_iconst eX12_roots_43 ?_
      refine q_retI eX12_roots_44 rfl (by decide) (by decide) ?_
      refine PMP_t ?_ hoF Off.rfl'
      first | rw [if_neg (fun hc => i0 c11 hc.1)] | rw [if_neg (fun hc => i0 c23 hc.2.1)] | rw [if_neg (by rintro ⟨-, -, hc⟩; omega)]
  · refine q_iload_n eX12_roots_14 rfl ?_
    refine q_i2l eX12_roots_15 (by first | assumption | exact ⟨by omega, by omega⟩) ?_
    refine q_lconst (v := 1) eX12_roots_16 (by decide +kernel) ?_
    refine q_ldc2 eX12_roots_17 kc_X12_361 ?_
    refine q_callSP [vJ (k), vJ (1), vJ (30)] (M1 := mX12_isIn) eX12_roots_20 mf_X12_isIn lk_X12_206 (mo_isIn (by exact ⟨by omega, by omega⟩) (by exact ⟨by omega, by omega⟩) (by exact ⟨by omega, by omega⟩)) (by decide) (by decide) (by decide) (Nat.le_of_ble_eq_true rfl) rfl ?_
    refine q_if_eq (tgt := 35) eX12_roots_23 (by decide) ir_ite (fun c23 => ?_) (fun c23 => ?_)
    · refine q_iconst eX12_roots_35 ?_
      refine q_iconst eX12_roots_36 ?_
      refine q_right0 eX12_roots_37 lk_X12_304 hK ht0 (by decide) (by decide) (by decide) (Nat.le_of_ble_eq_true rfl) ?_
      refine q_if_ne (tgt := 45) eX12_roots_40 (by decide) (by first | assumption | exact ⟨by omega, by omega⟩) (fun c40 => ?_) (fun c40 => ?_)
      · exact absurd rfl c40
      · refine q_iconst eX12_roots_43 ?_
        refine q_retI eX12_roots_44 rfl (by decide) (by decide) ?_
        refine PMP_t ?_ hoF Off.rfl'
        first | rw [if_neg (fun hc => i0 c11 hc.1)] | rw [if_neg (fun hc => i0 c23 hc.2.1)] | rw [if_neg (by rintro ⟨-, -, hc⟩; omega)]
    · refine q_iload_n eX12_roots_26 rfl ?_
      refine q_iconst eX12_roots_27 ?_
      refine q_icmp_lt (tgt := 35) eX12_roots_28 (by decide) (by first | assumption | exact ⟨by omega, by omega⟩) (by first | assumption | exact ⟨by omega, by omega⟩) (fun c28 => ?_) (fun c28 => ?_)
      · refine q_iconst eX12_roots_35 ?_
        refine q_iconst eX12_roots_36 ?_
        refine q_right0 eX12_roots_37 lk_X12_304 hK ht0 (by decide) (by decide) (by decide) (Nat.le_of_ble_eq_true rfl) ?_
        refine q_if_ne (tgt := 45) eX12_roots_40 (by decide) (by first | assumption | exact ⟨by omega, by omega⟩) (fun c40 => ?_) (fun c40 => ?_)
        · exact absurd rfl c40
        · refine q_iconst eX12_roots_43 ?_
          refine q_retI eX12_roots_44 rfl (by decide) (by decide) ?_
          refine PMP_t ?_ hoF Off.rfl'
          first | rw [if_neg (fun hc => i0 c11 hc.1)] | rw [if_neg (fun hc => i0 c23 hc.2.1)] | rw [if_neg (by rintro ⟨-, -, hc⟩; omega)]
      · refine q_iconst eX12_roots_31 ?_
        refine q_goto (tgt := 36) eX12_roots_32 (by decide) ?_
        refine q_iconst eX12_roots_36 ?_
        refine q_right1 eX12_roots_37 lk_X12_304 hK ht0 (by decide) (by decide) (by decide) (Nat.le_of_ble_eq_true rfl) ?_
        refine q_if_ne (tgt := 45) eX12_roots_40 (by decide) (by first | assumption | exact ⟨by omega, by omega⟩) (fun c40 => ?_) (fun c40 => ?_)
        · have hk23 := i1 c23
          obtain ⟨t, rfl⟩ : ∃ t : Nat, k = t := ⟨k.toNat, by omega⟩
          rw [if_pos ⟨i1 c11, hk23, by omega⟩]
          refine q_aload_n eX12_roots_45 rfl ?_
          refine q_iload_n eX12_roots_46 rfl ?_
          refine q_callV [vI i] (M1 := mX12_begins) eX12_roots_47 mf_X12_begins lk_X12_363 (hK _ (by decide) (by decide)) (mo_begins (P := (fun y => decide (pw m r f y t = x))) hK) (by intro E F A al h; cases h.1) (by decide) (by decide) (by decide) (Nat.le_of_ble_eq_true rfl) (st := []) rfl (fun v9 F9 A9 al9 h9 => ?_)
          obtain ⟨e9, rfl, rfl, f9, cn9⟩ := h9
          obtain rfl := Sum.inl.inj e9
          refine q_iconst eX12_roots_50 ?_
          refine q_istore eX12_roots_51 (by decide) rfl ?_
          exact lp_mroots (t := t) (x := x) hK h ht0 hoF (hE x (i1 c11)) (by omega) hi (by omega) N 0 F9 A9 (by omega) f9 Off.rfl' cn9
        · exact absurd c40 (by decide)
set_option maxRecDepth 20000 in
theorem lp_mwithin {i : Int} {t : Nat} {p e r q N : Nat} {m : Int} {f : Nat → Int} {g : Int} {rt lg pl_ tp mk ck : Nat → Int} {len n dg : Nat} {fp set : Int} {w : Option (Nat → Int)} {S : List Int} {F F1 : HF} {A : HA} {al : AL} (hK : KM al) (h0 : MI p e r q N m f g rt lg pl_ len tp fp n set dg mk ck w S F1 A) (ht00 : F1 44 0 = vI 0) (hoF0 : FOff SCF F F1) (ht : t ≤ 6) (hi : InR i) (hi1 : -1 ≤ i) : ∀ (k y : Nat) (F2 : HF) (A2 : HA), y + k = N → FOff C3 F1 F2 → Off [51, 52, 53, 54] A A2 → CNT (fun y => decide (mvMn p e r q m f g rt lg y (t % r) = y)) i y F2 →
    QW mX12_within 7 0 0 (PMP (mo1 (ctn (fun y => decide (mvMn p e r q m f g rt lg y (t % r) = y)) N) (nth (fun y => decide (mvMn p e r q m f g rt lg y (t % r) = y)) N) i) F A al) 0 0 46 [some (vA 44), some (vI t), some (vI i), some (vI y)] [] F2 A2 al := by
  intro k
  induction k with
  | zero =>
    intro y F2 A2 hy hof ho hcn
    have h := h0.off (hof.mono (l' := SCF) (by decide)) (ho.mono (l' := SCA) (by decide)) (by decide) (by decide) (by decide)
    have ht0 : F2 44 0 = vI 0 := (hof 44 0 (by decide)).trans ht00
    obtain ⟨⟨hX, hT, h3r, hMH⟩, h2, ⟨hl0, hl1, hta⟩, h4, ⟨⟨h51, h52, h53⟩, h5m, h5c, ⟨hn1, hn63, hnq, hs0, hs1⟩, hdn⟩, h7, ⟨⟨h81, h82⟩, h83⟩⟩ := id h
    obtain ⟨hG, hp, he, hq, hN, hg, ⟨hp2, hp7, he1, he4, hme, hqe, hq3, hNm, hgE⟩, hP, hL, hR⟩ := id hT
    obtain ⟨hm, hr, hf, hm2, hr1, hr6, hN4⟩ := id hG
    have hm4 := hG.m4
    have hq2 := hT.q2
    have hN9 : (N : Int) ≤ 4096 := by rw [hNm]; exact hN4
    have hE : ∀ x : Int, 0 ≤ x ∧ x ≤ (N : Int) - 1 → El m r x := fun x h => ⟨h.1, by rw [← hNm]; omega⟩
    have hNp : 1 ≤ N := by have := el_one (m := m) (r := r) hm2 hr1; have := this.2; omega
    have e9 : y = N := by omega
    subst e9
    refine q_iload_n eX12_within_46 rfl ?_
    refine q_aload_n eX12_within_47 rfl ?_
    refine q_getfield eX12_within_48 gf_X12_28 (hK _ (by decide) (by decide)) (by decide) (by first | assumption) ?_
    refine q_icmp_ge (tgt := 75) eX12_within_51 (by decide) (by first | assumption | exact ⟨by omega, by omega⟩) (by first | assumption | exact ⟨by omega, by omega⟩) (fun c51 => ?_) (fun c51 => ?_)
    · refine q_aload_n eX12_within_75 rfl ?_
      refine q_callV [] (M1 := mX12_told) eX12_within_76 mf_X12_told lk_X12_369 (hK _ (by decide) (by decide)) (mo_told hK hcn ht0 (by omega) hi hi1) (by intro E F A al h; cases h.1) (by decide) (by decide) (by decide) (Nat.le_of_ble_eq_true rfl) (st := []) rfl (fun v9 F9 A9 al9 h9 => ?_)
      obtain ⟨e9, t9, rfl, rfl, f9⟩ := h9
      obtain rfl := Sum.inl.inj e9
      refine q_retI eX12_within_79 rfl (by decide) (by decide) ?_
      exact ⟨rfl, t9, rfl, (hoF0.trans (hof.mono (by decide))).trans (f9.mono (by decide)), ho.mono (by decide)⟩
    · exact absurd c51 (by omega)
  | succ k ih =>
    intro y F2 A2 hy hof ho hcn
    have h := h0.off (hof.mono (l' := SCF) (by decide)) (ho.mono (l' := SCA) (by decide)) (by decide) (by decide) (by decide)
    have ht0 : F2 44 0 = vI 0 := (hof 44 0 (by decide)).trans ht00
    obtain ⟨⟨hX, hT, h3r, hMH⟩, h2, ⟨hl0, hl1, hta⟩, h4, ⟨⟨h51, h52, h53⟩, h5m, h5c, ⟨hn1, hn63, hnq, hs0, hs1⟩, hdn⟩, h7, ⟨⟨h81, h82⟩, h83⟩⟩ := id h
    obtain ⟨hG, hp, he, hq, hN, hg, ⟨hp2, hp7, he1, he4, hme, hqe, hq3, hNm, hgE⟩, hP, hL, hR⟩ := id hT
    obtain ⟨hm, hr, hf, hm2, hr1, hr6, hN4⟩ := id hG
    have hm4 := hG.m4
    have hq2 := hT.q2
    have hN9 : (N : Int) ≤ 4096 := by rw [hNm]; exact hN4
    have hE : ∀ x : Int, 0 ≤ x ∧ x ≤ (N : Int) - 1 → El m r x := fun x h => ⟨h.1, by rw [← hNm]; omega⟩
    have hNp : 1 ≤ N := by have := el_one (m := m) (r := r) hm2 hr1; have := this.2; omega
    have hyE := el_nat (i := y) hNm (by omega)
    have hpe := (mvMn_el (p := p) (e := e) (q := q) (f := f) (g := g) (rt := rt) (lg := lg) (show 0 < m by omega) hyE (t % r)).lt hN4
    refine q_iload_n eX12_within_46 rfl ?_
    refine q_aload_n eX12_within_47 rfl ?_
    refine q_getfield eX12_within_48 gf_X12_28 (hK _ (by decide) (by decide)) (by decide) (by first | assumption) ?_
    refine q_icmp_ge (tgt := 75) eX12_within_51 (by decide) (by first | assumption | exact ⟨by omega, by omega⟩) (by first | assumption | exact ⟨by omega, by omega⟩) (fun c51 => ?_) (fun c51 => ?_)
    · exact absurd c51 (by omega)
    · refine q_aload_n eX12_within_54 rfl ?_
      refine q_iload_n eX12_within_55 rfl ?_
      refine q_iload_n eX12_within_56 rfl ?_
      refine q_callVQ [vI y, vI t] (M1 := mX12_movedTimes) eX12_within_57 mf_X12_movedTimes lk_X12_201 (hK _ (by decide) (by decide)) (mo_movedTimes hK hX hT hyE (by omega)) (by decide) (by decide) (by decide) (Nat.le_of_ble_eq_true rfl) rfl (fun A3 h3 => ?_)
      refine q_iload_n eX12_within_60 rfl ?_
      refine q_icmp_ne (tgt := 69) eX12_within_61 (by decide) (by first | assumption | exact ⟨by omega, by omega⟩) (by first | assumption | exact ⟨by omega, by omega⟩) (fun c61 => ?_) (fun c61 => ?_)
      · refine q_iinc eX12_within_69 rfl (by decide) rfl ?_
        refine q_goto (tgt := 46) eX12_within_72 (by decide) ?_
        first
        | exact ih (y + 1) _ _ (by omega) (hof.trans f9) (ho.trans (h3.mono (by decide))) cn9
        | exact ih (y + 1) F2 _ (by omega) hof (ho.trans (h3.mono (by decide))) (hcn.no (fun hc => c61 (of_decide_eq_true hc)))
      · have hys : (fun y => decide (mvMn p e r q m f g rt lg y (t % r) = y)) y = true := decide_eq_true (c61)
        refine q_aload_n eX12_within_64 rfl ?_
        refine q_iload_n eX12_within_65 rfl ?_
        refine q_callV [vI y] (M1 := mX12_counts) eX12_within_66 mf_X12_counts lk_X12_366 (hK _ (by decide) (by decide)) (mo_counts hK hcn hys (by omega) hi) (by intro E F A al h; cases h.1) (by decide) (by decide) (by decide) (Nat.le_of_ble_eq_true rfl) (st := []) rfl (fun v9 F9 A9 al9 h9 => ?_)
        obtain ⟨e9, rfl, rfl, f9, cn9⟩ := h9
        obtain rfl := Sum.inl.inj e9
        refine q_iinc eX12_within_69 rfl (by decide) rfl ?_
        refine q_goto (tgt := 46) eX12_within_72 (by decide) ?_
        first
        | exact ih (y + 1) _ _ (by omega) (hof.trans f9) (ho.trans (h3.mono (by decide))) cn9
        | exact ih (y + 1) F2 _ (by omega) hof (ho.trans (h3.mono (by decide))) (hcn.no (fun hc => c61 (of_decide_eq_true hc)))
set_option maxRecDepth 20000 in
theorem mo_within {k i : Int} {p e r q N : Nat} {m : Int} {f : Nat → Int} {g : Int} {rt lg pl_ tp mk ck : Nat → Int} {len n dg : Nat} {fp set : Int} {w : Option (Nat → Int)} {S : List Int} {F : HF} {A : HA} {al : AL} (hK : KM al) (h0 : MI p e r q N m f g rt lg pl_ len tp fp n set dg mk ck w S F A) (hk : InR k) (hi : InR i) : QE 7 0 0 mX12_within [vA 44, vI k, vI i] F A al (PMP (if 1 ≤ k ∧ (r : Int) % k = 0 ∧ -1 ≤ i then mo1 (ctn (fun y => decide (mvMn p e r q m f g rt lg y (k.toNat % r) = y)) N) (nth (fun y => decide (mvMn p e r q m f g rt lg y (k.toNat % r) = y)) N) i else none) F A al) := by
  refine QE.mk (by decide +kernel) (Nat.le_of_ble_eq_true rfl) ?_
  have hk_1 := hk.1
  have hk_2 := hk.2
  have hi_1 := hi.1
  have hi_2 := hi.2
  have h := h0.t0
  generalize hF0 : up2 F 44 0 (vI 0) = F1 at h
  have ht0 : F1 44 0 = vI 0 := by rw [← hF0]; exact up2_eq _ _ _ _
  have hoF : FOff SCF F F1 := by rw [← hF0]; exact FOff.up (by decide)
  obtain ⟨⟨hX, hT, h3r, hMH⟩, h2, ⟨hl0, hl1, hta⟩, h4, ⟨⟨h51, h52, h53⟩, h5m, h5c, ⟨hn1, hn63, hnq, hs0, hs1⟩, hdn⟩, h7, ⟨⟨h81, h82⟩, h83⟩⟩ := id h
  obtain ⟨hG, hp, he, hq, hN, hg, ⟨hp2, hp7, he1, he4, hme, hqe, hq3, hNm, hgE⟩, hP, hL, hR⟩ := id hT
  obtain ⟨hm, hr, hf, hm2, hr1, hr6, hN4⟩ := id hG
  have hm4 := hG.m4
  have hq2 := hT.q2
  have hN9 : (N : Int) ≤ 4096 := by rw [hNm]; exact hN4
  have hE : ∀ x : Int, 0 ≤ x ∧ x ≤ (N : Int) - 1 → El m r x := fun x h => ⟨h.1, by rw [← hNm]; omega⟩
  have hNp : 1 ≤ N := by have := el_one (m := m) (r := r) hm2 hr1; have := this.2; omega
  refine q_aload_n eX12_within_0 rfl ?_
  refine q_iconst eX12_within_1 ?_
  refine q_putfield eX12_within_2 pf_X12_1 (hK _ (by decide) (by decide)) (by decide) (FT_i rfl) ?_
  rw [hF0]
  refine q_aload_n eX12_within_5 rfl ?_
  refine q_iload_n eX12_within_6 rfl ?_
  refine q_iconst eX12_within_7 ?_
  refine q_icmp_lt (tgt := 29) eX12_within_8 (by decide) (by first | assumption | exact ⟨by omega, by omega⟩) (by first | assumption | exact ⟨by omega, by omega⟩) (fun c8 => ?_) (fun c8 => ?_)
  · refine q_iconst eX12_within_29 ?_
    refine q_iconst eX12_within_30 ?_
    refine q_right0 eX12_within_31 lk_X12_304 hK ht0 (by decide) (by decide) (by decide) (Nat.le_of_ble_eq_true rfl) ?_
    refine q_if_ne (tgt := 39) eX12_within_34 (by decide) (by first | assumption | exact ⟨by omega, by omega⟩) (fun c34 => ?_) (fun c34 => ?_)
    · exact absurd rfl c34
    · refine q_iconst eX12_within_37 ?_
      refine q_retI eX12_within_38 rfl (by decide) (by decide) ?_
      refine PMP_t ?_ hoF Off.rfl'
      first | rw [if_neg (by rintro ⟨hc, -⟩; omega)] | rw [if_neg (fun hc => c17 hc.2.1)] | rw [if_neg (by rintro ⟨-, -, hc⟩; omega)]
  · refine q_aload_n eX12_within_11 rfl ?_
    refine q_getfield eX12_within_12 gf_X12_19 (hK _ (by decide) (by decide)) (by decide) (by first | assumption) ?_
    refine q_iload_n eX12_within_15 rfl ?_
    refine q_irem eX12_within_16 (by omega) (by omega) (by omega) (by omega) ?_
    have hrk : InR ((r : Int) % k) := by
      have h1 := Int.emod_nonneg (r : Int) (b := k) (by omega)
      have h2 := Int.emod_lt_of_pos (r : Int) (b := k) (by omega)
      exact ⟨by omega, by omega⟩
    refine q_if_ne (tgt := 29) eX12_within_17 (by decide) hrk (fun c17 => ?_) (fun c17 => ?_)
    · refine q_iconst eX12_within_29 ?_
      refine q_iconst eX12_within_30 ?_
      refine q_right0 eX12_within_31 lk_X12_304 hK ht0 (by decide) (by decide) (by decide) (Nat.le_of_ble_eq_true rfl) ?_
      refine q_if_ne (tgt := 39) eX12_within_34 (by decide) (by first | assumption | exact ⟨by omega, by omega⟩) (fun c34 => ?_) (fun c34 => ?_)
      · exact absurd rfl c34
      · refine q_iconst eX12_within_37 ?_
        refine q_retI eX12_within_38 rfl (by decide) (by decide) ?_
        refine PMP_t ?_ hoF Off.rfl'
        first | rw [if_neg (by rintro ⟨hc, -⟩; omega)] | rw [if_neg (fun hc => c17 hc.2.1)] | rw [if_neg (by rintro ⟨-, -, hc⟩; omega)]
    · refine q_iload_n eX12_within_20 rfl ?_
      refine q_iconst eX12_within_21 ?_
      refine q_icmp_lt (tgt := 29) eX12_within_22 (by decide) (by first | assumption | exact ⟨by omega, by omega⟩) (by first | assumption | exact ⟨by omega, by omega⟩) (fun c22 => ?_) (fun c22 => ?_)
      · refine q_iconst eX12_within_29 ?_
        refine q_iconst eX12_within_30 ?_
        refine q_right0 eX12_within_31 lk_X12_304 hK ht0 (by decide) (by decide) (by decide) (Nat.le_of_ble_eq_true rfl) ?_
        refine q_if_ne (tgt := 39) eX12_within_34 (by decide) (by first | assumption | exact ⟨by omega, by omega⟩) (fun c34 => ?_) (fun c34 => ?_)
        · exact absurd rfl c34
        · refine q_iconst eX12_within_37 ?_
          refine q_retI eX12_within_38 rfl (by decide) (by decide) ?_
          refine PMP_t ?_ hoF Off.rfl'
          first | rw [if_neg (by rintro ⟨hc, -⟩; omega)] | rw [if_neg (fun hc => c17 hc.2.1)] | rw [if_neg (by rintro ⟨-, -, hc⟩; omega)]
      · refine q_iconst eX12_within_25 ?_
        refine q_goto (tgt := 30) eX12_within_26 (by decide) ?_
        refine q_iconst eX12_within_30 ?_
        refine q_right1 eX12_within_31 lk_X12_304 hK ht0 (by decide) (by decide) (by decide) (Nat.le_of_ble_eq_true rfl) ?_
        refine q_if_ne (tgt := 39) eX12_within_34 (by decide) (by first | assumption | exact ⟨by omega, by omega⟩) (fun c34 => ?_) (fun c34 => ?_)
        · have hkr : k ≤ r := by
            refine Classical.byContradiction fun hc => ?_
            rw [Int.emod_eq_of_lt (by omega) (by omega)] at c17
            omega
          obtain ⟨t, rfl⟩ : ∃ t : Nat, k = t := ⟨k.toNat, by omega⟩
          rw [if_pos ⟨by omega, c17, by omega⟩]
          refine q_aload_n eX12_within_39 rfl ?_
          refine q_iload_n eX12_within_40 rfl ?_
          refine q_callV [vI i] (M1 := mX12_begins) eX12_within_41 mf_X12_begins lk_X12_363 (hK _ (by decide) (by decide)) (mo_begins (P := (fun y => decide (mvMn p e r q m f g rt lg y (t % r) = y))) hK) (by intro E F A al h; cases h.1) (by decide) (by decide) (by decide) (Nat.le_of_ble_eq_true rfl) (st := []) rfl (fun v9 F9 A9 al9 h9 => ?_)
          obtain ⟨e9, rfl, rfl, f9, cn9⟩ := h9
          obtain rfl := Sum.inl.inj e9
          refine q_iconst eX12_within_44 ?_
          refine q_istore_n eX12_within_45 (by decide) rfl ?_
          exact lp_mwithin (t := t) hK h ht0 hoF (by omega) hi (by omega) N 0 F9 A9 (by omega) f9 Off.rfl' cn9
        · exact absurd c34 (by decide)
set_option maxRecDepth 20000 in
theorem lp_mhorner {i : Int} {t y : Nat} {RRR : Option Int} {AA : HA} {p e r q N : Nat} {m : Int} {f : Nat → Int} {g : Int} {rt lg pl_ tp mk ck : Nat → Int} {len n dg : Nat} {fp set : Int} {w : Option (Nat → Int)} {S : List Int} {F F2 : HF} {A : HA} {al : AL} (hK : KM al) (h0 : MI p e r q N m f g rt lg pl_ len tp fp n set dg mk ck w S F2 A) (ht : t < 8) (hyE : El m r y) (out : ∀ (A3 : HA) (l5 : Option LV), Off [51, 52, 53] A A3 → QW mX12_zeros 7 0 0 (PMP RRR F AA al) 0 0 90 [some (vA 44), some (vI t), some (vI i), some (vI y), some (vI (hzE m r f pl_ y t (t + 1))), l5] [] F2 A3 al) : ∀ (s k : Nat) (A2 : HA) (v : Int), v = (s : Int) - 1 → s + k = t + 1 → Off [51, 52, 53] A A2 →
    QW mX12_zeros 7 0 0 (PMP RRR F AA al) 0 0 58 [some (vA 44), some (vI t), some (vI i), some (vI y), some (vI (hzE m r f pl_ y t k)), some (vI v)] [] F2 A2 al := by
  intro s
  induction s with
  | zero =>
    intro k A2 v hv hs ho
    subst hv
    have ek : k = t + 1 := by omega
    subst ek
    refine q_iload eX12_zeros_58 rfl ?_
    refine q_if_lt (tgt := 90) eX12_zeros_60 (by decide) (by first | assumption | exact ⟨by omega, by omega⟩) (fun c60 => ?_) (fun c60 => ?_)
    · exact out A2 _ ho
    · exact absurd c60 (by omega)
  | succ s ih =>
    intro k A2 v hv hs ho
    subst hv
    have h := h0.off (FOff.rfl' (l := SCF)) (ho.mono (l' := SCA) (by decide)) (by decide) (by decide) (by decide)
    obtain ⟨⟨hX, hT, h3r, hMH⟩, h2, ⟨hl0, hl1, hta⟩, h4, ⟨⟨h51, h52, h53⟩, h5m, h5c, ⟨hn1, hn63, hnq, hs0, hs1⟩, hdn⟩, h7, ⟨⟨h81, h82⟩, h83⟩⟩ := id h
    obtain ⟨hG, hp, he, hq, hN, hg, ⟨hp2, hp7, he1, he4, hme, hqe, hq3, hNm, hgE⟩, hP, hL, hR⟩ := id hT
    obtain ⟨hm, hr, hf, hm2, hr1, hr6, hN4⟩ := id hG
    have hm4 := hG.m4
    have hq2 := hT.q2
    have hN9 : (N : Int) ≤ 4096 := by rw [hNm]; exact hN4
    have hE : ∀ x : Int, 0 ≤ x ∧ x ≤ (N : Int) - 1 → El m r x := fun x h => ⟨h.1, by rw [← hNm]; omega⟩
    have hNp : 1 ≤ N := by have := el_one (m := m) (r := r) hm2 hr1; have := this.2; omega
    have e0 : ((s + 1 : Nat) : Int) - 1 = (s : Int) := by omega
    rw [e0]
    have hze := hz_el (m := m) (r := r) (f := f) (c := pl_) (by omega) (y : Int) t k
    obtain ⟨hp1, hp2'⟩ := h2 s (by omega)
    have hs9 : hzE m r f pl_ y t (k + 1) = pl m r (tm m r f (hzE m r f pl_ y t k) y) (pl_ (t - k)) := rfl
    have ets : t - k = s := by omega
    rw [ets] at hs9
    have hb := ih (k + 1)
    rw [hs9] at hb
    refine q_iload eX12_zeros_58 rfl ?_
    refine q_if_lt (tgt := 90) eX12_zeros_60 (by decide) (by first | assumption | exact ⟨by omega, by omega⟩) (fun c60 => ?_) (fun c60 => ?_)
    · exact absurd c60 (by omega)
    · refine q_aload_n eX12_zeros_63 rfl ?_
      refine q_aload_n eX12_zeros_64 rfl ?_
      refine q_iload eX12_zeros_65 rfl ?_
      refine q_iload_n eX12_zeros_67 rfl ?_
      refine q_callVQ [vI (hzE m r f pl_ y t k), vI y] (M1 := mX12_times) eX12_zeros_68 mf_X12_times lk_X12_132 (hK _ (by decide) (by decide)) (mo_times hK hX hG hze hyE) (by decide) (by decide) (by decide) (Nat.le_of_ble_eq_true rfl) rfl (fun A3 h3 => ?_)
      refine q_aload_n eX12_zeros_71 rfl ?_
      refine q_getfield eX12_zeros_72 gf_X12_44 (hK _ (by decide) (by decide)) (by decide) (mr_44_12 hX) ?_
      refine q_iload eX12_zeros_75 rfl ?_
      refine q_iald eX12_zeros_77 (hK _ (by decide) (by decide)) (by omega) (by omega) ?_
      rw [show A3 49 (s : Int).toNat = pl_ s from (congrFun (h3 49 (by decide)) s).trans hp1]
      refine q_iconst eX12_zeros_78 ?_
      refine q_callVQ [vI (tm m r f (hzE m r f pl_ y t k) y), vI (pl_ s), vI 1] (M1 := mX12_added) eX12_zeros_79 mf_X12_added lk_X12_175 (hK _ (by decide) (by decide)) (mo_plus hK hX (hG.off h3 (by decide)) (tm_el (by omega) _ _) hp2') (by decide) (by decide) (by decide) (Nat.le_of_ble_eq_true rfl) rfl (fun A4 h4 => ?_)
      refine q_istore eX12_zeros_82 (by decide) rfl ?_
      refine q_iinc eX12_zeros_84 rfl (by decide) rfl ?_
      refine q_goto (tgt := 58) eX12_zeros_87 (by decide) ?_
      exact hb A4 _ (by omega) (by omega) ((ho.trans h3).trans (h4.mono (by simp)))
set_option maxRecDepth 20000 in
theorem lp_mzeros {i : Int} {t : Nat} {p e r q N : Nat} {m : Int} {f : Nat → Int} {g : Int} {rt lg pl_ tp mk ck : Nat → Int} {len n dg : Nat} {fp set : Int} {w : Option (Nat → Int)} {S : List Int} {F F1 : HF} {A : HA} {al : AL} (hK : KM al) (h0 : MI p e r q N m f g rt lg pl_ len tp fp n set dg mk ck w S F1 A) (ht00 : F1 44 0 = vI 0) (hoF0 : FOff SCF F F1) (ht : t < 8) (hi : InR i) (hi1 : -1 ≤ i) : ∀ (k y : Nat) (F2 : HF) (A2 : HA) (l4 l5 : Option LV), y + k = N → FOff C3 F1 F2 → Off [51, 52, 53] A A2 → CNT (fun y => decide (hzE m r f pl_ y t (t + 1) = 0)) i y F2 →
    QW mX12_zeros 7 0 0 (PMP (mo1 (ctn (fun y => decide (hzE m r f pl_ y t (t + 1) = 0)) N) (nth (fun y => decide (hzE m r f pl_ y t (t + 1) = 0)) N) i) F A al) 0 0 44 [some (vA 44), some (vI t), some (vI i), some (vI y), l4, l5] [] F2 A2 al := by
  intro k
  induction k with
  | zero =>
    intro y F2 A2 l4 l5  hy hof ho hcn
    have h := h0.off (hof.mono (l' := SCF) (by decide)) (ho.mono (l' := SCA) (by decide)) (by decide) (by decide) (by decide)
    have ht0 : F2 44 0 = vI 0 := (hof 44 0 (by decide)).trans ht00
    obtain ⟨⟨hX, hT, h3r, hMH⟩, h2, ⟨hl0, hl1, hta⟩, h4, ⟨⟨h51, h52, h53⟩, h5m, h5c, ⟨hn1, hn63, hnq, hs0, hs1⟩, hdn⟩, h7, ⟨⟨h81, h82⟩, h83⟩⟩ := id h
    obtain ⟨hG, hp, he, hq, hN, hg, ⟨hp2, hp7, he1, he4, hme, hqe, hq3, hNm, hgE⟩, hP, hL, hR⟩ := id hT
    obtain ⟨hm, hr, hf, hm2, hr1, hr6, hN4⟩ := id hG
    have hm4 := hG.m4
    have hq2 := hT.q2
    have hN9 : (N : Int) ≤ 4096 := by rw [hNm]; exact hN4
    have hE : ∀ x : Int, 0 ≤ x ∧ x ≤ (N : Int) - 1 → El m r x := fun x h => ⟨h.1, by rw [← hNm]; omega⟩
    have hNp : 1 ≤ N := by have := el_one (m := m) (r := r) hm2 hr1; have := this.2; omega
    have e9 : y = N := by omega
    subst e9
    refine q_iload_n eX12_zeros_44 rfl ?_
    refine q_aload_n eX12_zeros_45 rfl ?_
    refine q_getfield eX12_zeros_46 gf_X12_28 (hK _ (by decide) (by decide)) (by decide) (by first | assumption) ?_
    refine q_icmp_ge (tgt := 106) eX12_zeros_49 (by decide) (by first | assumption | exact ⟨by omega, by omega⟩) (by first | assumption | exact ⟨by omega, by omega⟩) (fun c49 => ?_) (fun c49 => ?_)
    · refine q_aload_n eX12_zeros_106 rfl ?_
      refine q_callV [] (M1 := mX12_told) eX12_zeros_107 mf_X12_told lk_X12_369 (hK _ (by decide) (by decide)) (mo_told hK hcn ht0 (by omega) hi hi1) (by intro E F A al h; cases h.1) (by decide) (by decide) (by decide) (Nat.le_of_ble_eq_true rfl) (st := []) rfl (fun v9 F9 A9 al9 h9 => ?_)
      obtain ⟨e9, t9, rfl, rfl, f9⟩ := h9
      obtain rfl := Sum.inl.inj e9
      refine q_retI eX12_zeros_110 rfl (by decide) (by decide) ?_
      exact ⟨rfl, t9, rfl, (hoF0.trans (hof.mono (by decide))).trans (f9.mono (by decide)), ho.mono (by decide)⟩
    · exact absurd c49 (by omega)
  | succ k ih =>
    intro y F2 A2 l4 l5  hy hof ho hcn
    have h := h0.off (hof.mono (l' := SCF) (by decide)) (ho.mono (l' := SCA) (by decide)) (by decide) (by decide) (by decide)
    have ht0 : F2 44 0 = vI 0 := (hof 44 0 (by decide)).trans ht00
    obtain ⟨⟨hX, hT, h3r, hMH⟩, h2, ⟨hl0, hl1, hta⟩, h4, ⟨⟨h51, h52, h53⟩, h5m, h5c, ⟨hn1, hn63, hnq, hs0, hs1⟩, hdn⟩, h7, ⟨⟨h81, h82⟩, h83⟩⟩ := id h
    obtain ⟨hG, hp, he, hq, hN, hg, ⟨hp2, hp7, he1, he4, hme, hqe, hq3, hNm, hgE⟩, hP, hL, hR⟩ := id hT
    obtain ⟨hm, hr, hf, hm2, hr1, hr6, hN4⟩ := id hG
    have hm4 := hG.m4
    have hq2 := hT.q2
    have hN9 : (N : Int) ≤ 4096 := by rw [hNm]; exact hN4
    have hE : ∀ x : Int, 0 ≤ x ∧ x ≤ (N : Int) - 1 → El m r x := fun x h => ⟨h.1, by rw [← hNm]; omega⟩
    have hNp : 1 ≤ N := by have := el_one (m := m) (r := r) hm2 hr1; have := this.2; omega
    have hyE := el_nat (i := y) hNm (by omega)
    have hpe := (hz_el (m := m) (r := r) (f := f) (c := pl_) (by omega) (y : Int) t (t + 1)).lt hN4
    refine q_iload_n eX12_zeros_44 rfl ?_
    refine q_aload_n eX12_zeros_45 rfl ?_
    refine q_getfield eX12_zeros_46 gf_X12_28 (hK _ (by decide) (by decide)) (by decide) (by first | assumption) ?_
    refine q_icmp_ge (tgt := 106) eX12_zeros_49 (by decide) (by first | assumption | exact ⟨by omega, by omega⟩) (by first | assumption | exact ⟨by omega, by omega⟩) (fun c49 => ?_) (fun c49 => ?_)
    · exact absurd c49 (by omega)
    · refine q_iconst eX12_zeros_52 ?_
      refine q_istore eX12_zeros_53 (by decide) rfl ?_
      refine q_iload_n eX12_zeros_55 rfl ?_
      refine q_istore eX12_zeros_56 (by decide) rfl ?_
      refine lp_mhorner (i := i) (RRR := mo1 (ctn (fun y => decide (hzE m r f pl_ y t (t + 1) = 0)) N) (nth (fun y => decide (hzE m r f pl_ y t (t + 1) = 0)) N) i) (F := F) (AA := A) hK h ht hyE (fun A3 l5 o3 => ?_) (t + 1) 0 A2 _ (by omega) (by omega) Off.rfl'
      refine q_iload eX12_zeros_90 rfl ?_
      refine q_if_ne (tgt := 100) eX12_zeros_92 (by decide) (by first | assumption | exact ⟨by omega, by omega⟩) (fun c92 => ?_) (fun c92 => ?_)
      · refine q_iinc eX12_zeros_100 rfl (by decide) rfl ?_
        refine q_goto (tgt := 44) eX12_zeros_103 (by decide) ?_
        first
        | exact ih (y + 1) _ _ _ _ (by omega) (hof.trans f9) (ho.trans (o3.mono (by decide))) cn9
        | exact ih (y + 1) F2 _ _ _ (by omega) hof (ho.trans (o3.mono (by decide))) (hcn.no (fun hc => c92 (of_decide_eq_true hc)))
      · have hys : (fun y => decide (hzE m r f pl_ y t (t + 1) = 0)) y = true := decide_eq_true c92
        refine q_aload_n eX12_zeros_95 rfl ?_
        refine q_iload_n eX12_zeros_96 rfl ?_
        refine q_callV [vI y] (M1 := mX12_counts) eX12_zeros_97 mf_X12_counts lk_X12_366 (hK _ (by decide) (by decide)) (mo_counts hK hcn hys (by omega) hi) (by intro E F A al h; cases h.1) (by decide) (by decide) (by decide) (Nat.le_of_ble_eq_true rfl) (st := []) rfl (fun v9 F9 A9 al9 h9 => ?_)
        obtain ⟨e9, rfl, rfl, f9, cn9⟩ := h9
        obtain rfl := Sum.inl.inj e9
        refine q_iinc eX12_zeros_100 rfl (by decide) rfl ?_
        refine q_goto (tgt := 44) eX12_zeros_103 (by decide) ?_
        first
        | exact ih (y + 1) _ _ _ _ (by omega) (hof.trans f9) (ho.trans (o3.mono (by decide))) cn9
        | exact ih (y + 1) F2 _ _ _ (by omega) hof (ho.trans (o3.mono (by decide))) (hcn.no (fun hc => c92 (of_decide_eq_true hc)))
set_option maxRecDepth 20000 in
theorem mo_zeros {k i : Int} {p e r q N : Nat} {m : Int} {f : Nat → Int} {g : Int} {rt lg pl_ tp mk ck : Nat → Int} {len n dg : Nat} {fp set : Int} {w : Option (Nat → Int)} {S : List Int} {F : HF} {A : HA} {al : AL} (hK : KM al) (h0 : MI p e r q N m f g rt lg pl_ len tp fp n set dg mk ck w S F A) (hk : InR k) (hi : InR i) : QE 7 0 0 mX12_zeros [vA 44, vI k, vI i] F A al (PMP (if (0 ≤ k ∧ k ≤ 7) ∧ -1 ≤ i then mo1 (ctn (fun y => decide (hzE m r f pl_ y k.toNat (k.toNat + 1) = 0)) N) (nth (fun y => decide (hzE m r f pl_ y k.toNat (k.toNat + 1) = 0)) N) i else none) F A al) := by
  refine QE.mk (by decide +kernel) (Nat.le_of_ble_eq_true rfl) ?_
  have hk_1 := hk.1
  have hk_2 := hk.2
  have hi_1 := hi.1
  have hi_2 := hi.2
  have h := h0.t0
  generalize hF0 : up2 F 44 0 (vI 0) = F1 at h
  have ht0 : F1 44 0 = vI 0 := by rw [← hF0]; exact up2_eq _ _ _ _
  have hoF : FOff SCF F F1 := by rw [← hF0]; exact FOff.up (by decide)
  obtain ⟨⟨hX, hT, h3r, hMH⟩, h2, ⟨hl0, hl1, hta⟩, h4, ⟨⟨h51, h52, h53⟩, h5m, h5c, ⟨hn1, hn63, hnq, hs0, hs1⟩, hdn⟩, h7, ⟨⟨h81, h82⟩, h83⟩⟩ := id h
  obtain ⟨hG, hp, he, hq, hN, hg, ⟨hp2, hp7, he1, he4, hme, hqe, hq3, hNm, hgE⟩, hP, hL, hR⟩ := id hT
  obtain ⟨hm, hr, hf, hm2, hr1, hr6, hN4⟩ := id hG
  have hm4 := hG.m4
  have hq2 := hT.q2
  have hN9 : (N : Int) ≤ 4096 := by rw [hNm]; exact hN4
  have hE : ∀ x : Int, 0 ≤ x ∧ x ≤ (N : Int) - 1 → El m r x := fun x h => ⟨h.1, by rw [← hNm]; omega⟩
  have hNp : 1 ≤ N := by have := el_one (m := m) (r := r) hm2 hr1; have := this.2; omega
  refine q_aload_n eX12_zeros_0 rfl ?_
  refine q_iconst eX12_zeros_1 ?_
  refine q_putfield eX12_zeros_2 pf_X12_1 (hK _ (by decide) (by decide)) (by decide) (FT_i rfl) ?_
  rw [hF0]
  refine q_aload_n eX12_zeros_5 rfl ?_
  refine q_iload_n eX12_zeros_6 rfl ?_
  refine q_i2l eX12_zeros_7 (by first | assumption | exact ⟨by omega, by omega⟩) ?_
  refine q_lconst (v := 0) eX12_zeros_8 (by decide +kernel) ?_
  refine q_ldc2 eX12_zeros_9 kc_X12_302 ?_
  refine q_callSP [vJ (k), vJ (0), vJ (7)] (M1 := mX12_isIn) eX12_zeros_12 mf_X12_isIn lk_X12_206 (mo_isIn (by exact ⟨by omega, by omega⟩) (by exact ⟨by omega, by omega⟩) (by exact ⟨by omega, by omega⟩)) (by decide) (by decide) (by decide) (Nat.le_of_ble_eq_true rfl) rfl ?_
  refine q_if_eq (tgt := 27) eX12_zeros_15 (by decide) ir_ite (fun c15 => ?_) (fun c15 => ?_)
  · refine q_iconst eX12_zeros_27 ?_
    refine q_iconst eX12_zeros_28 ?_
    refine q_right0 eX12_zeros_29 lk_X12_304 hK ht0 (by decide) (by decide) (by decide) (Nat.le_of_ble_eq_true rfl) ?_
    refine q_if_ne (tgt := 37) eX12_zeros_32 (by decide) (by first | assumption | exact ⟨by omega, by omega⟩) (fun c32 => ?_) (fun c32 => ?_)
    · exact absurd rfl c32
    · refine q_iconst eX12_zeros_35 ?_
      refine q_retI eX12_zeros_36 rfl (by decide) (by decide) ?_
      refine PMP_t ?_ hoF Off.rfl'
      first | rw [if_neg (fun hc => i0 c15 hc.1)] | rw [if_neg (by rintro ⟨-, hc⟩; omega)]
  · refine q_iload_n eX12_zeros_18 rfl ?_
    refine q_iconst eX12_zeros_19 ?_
    refine q_icmp_lt (tgt := 27) eX12_zeros_20 (by decide) (by first | assumption | exact ⟨by omega, by omega⟩) (by first | assumption | exact ⟨by omega, by omega⟩) (fun c20 => ?_) (fun c20 => ?_)
    · refine q_iconst eX12_zeros_27 ?_
      refine q_iconst eX12_zeros_28 ?_
      refine q_right0 eX12_zeros_29 lk_X12_304 hK ht0 (by decide) (by decide) (by decide) (Nat.le_of_ble_eq_true rfl) ?_
      refine q_if_ne (tgt := 37) eX12_zeros_32 (by decide) (by first | assumption | exact ⟨by omega, by omega⟩) (fun c32 => ?_) (fun c32 => ?_)
      · exact absurd rfl c32
      · refine q_iconst eX12_zeros_35 ?_
        refine q_retI eX12_zeros_36 rfl (by decide) (by decide) ?_
        refine PMP_t ?_ hoF Off.rfl'
        first | rw [if_neg (fun hc => i0 c15 hc.1)] | rw [if_neg (by rintro ⟨-, hc⟩; omega)]
    · refine q_iconst eX12_zeros_23 ?_
      refine q_goto (tgt := 28) eX12_zeros_24 (by decide) ?_
      refine q_iconst eX12_zeros_28 ?_
      refine q_right1 eX12_zeros_29 lk_X12_304 hK ht0 (by decide) (by decide) (by decide) (Nat.le_of_ble_eq_true rfl) ?_
      refine q_if_ne (tgt := 37) eX12_zeros_32 (by decide) (by first | assumption | exact ⟨by omega, by omega⟩) (fun c32 => ?_) (fun c32 => ?_)
      · have hk15 := i1 c15
        obtain ⟨t, rfl⟩ : ∃ t : Nat, k = t := ⟨k.toNat, by omega⟩
        rw [if_pos ⟨hk15, by omega⟩]
        refine q_aload_n eX12_zeros_37 rfl ?_
        refine q_iload_n eX12_zeros_38 rfl ?_
        refine q_callV [vI i] (M1 := mX12_begins) eX12_zeros_39 mf_X12_begins lk_X12_363 (hK _ (by decide) (by decide)) (mo_begins (P := (fun y => decide (hzE m r f pl_ y t (t + 1) = 0))) hK) (by intro E F A al h; cases h.1) (by decide) (by decide) (by decide) (Nat.le_of_ble_eq_true rfl) (st := []) rfl (fun v9 F9 A9 al9 h9 => ?_)
        obtain ⟨e9, rfl, rfl, f9, cn9⟩ := h9
        obtain rfl := Sum.inl.inj e9
        refine q_iconst eX12_zeros_42 ?_
        refine q_istore_n eX12_zeros_43 (by decide) rfl ?_
        exact lp_mzeros (t := t) hK h ht0 hoF (by omega) hi (by omega) N 0 F9 A9 _ _ (by omega) f9 Off.rfl' cn9
      · exact absurd c32 (by decide)
