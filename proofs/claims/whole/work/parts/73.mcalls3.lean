/-! the model: units, many, coefficient, number, fault, said -/
set_option maxRecDepth 20000 in
theorem lp_munits {t : Nat} {p e r q N : Nat} {m : Int} {f : Nat → Int} {g : Int} {rt lg pl_ tp mk ck : Nat → Int} {len n dg : Nat} {fp set : Int} {w : Option (Nat → Int)} {S : List Int} {F F1 : HF} {A : HA} {al : AL} (hK : KM al) (h0 : MI p e r q N m f g rt lg pl_ len tp fp n set dg mk ck w S F1 A) (ht0 : F1 44 0 = vI 0) (hoF : FOff SCF F F1) (ht : t ≤ 9999) : ∀ (k x : Nat) (A2 : HA), x + k + 1 = N → Off [51, 52, 53] A A2 →
    QW mX12_units 5 0 0 (PMP (some (ctn (fun x => decide (low p r m ((x : Int) + 1) ≠ 0) && decide (pw m r f ((x : Int) + 1) t = 1)) (N - 1) : Nat)) F A al) 0 0 28 [some (vA 44), some (vI t), some (vI (ctn (fun x => decide (low p r m ((x : Int) + 1) ≠ 0) && decide (pw m r f ((x : Int) + 1) t = 1)) x : Nat)), some (vI ((x : Int) + 1))] [] F1 A2 al := by
  intro k
  induction k with
  | zero =>
    intro x A2 hx ho
    have h := h0.off (FOff.rfl' (l := SCF)) (ho.mono (l' := SCA) (by decide)) (by decide) (by decide) (by decide)
    obtain ⟨⟨hX, hT, h3r, hMH⟩, h2, ⟨hl0, hl1, hta⟩, h4, ⟨⟨h51, h52, h53⟩, h5m, h5c, ⟨hn1, hn63, hnq, hs0, hs1⟩, hdn⟩, h7, ⟨⟨h81, h82⟩, h83⟩⟩ := id h
    obtain ⟨hG, hp, he, hq, hN, hg, ⟨hp2, hp7, he1, he4, hme, hqe, hq3, hNm, hgE⟩, hP, hL, hR⟩ := id hT
    obtain ⟨hm, hr, hf, hm2, hr1, hr6, hN4⟩ := id hG
    have hm4 := hG.m4
    have hq2 := hT.q2
    have hN9 : (N : Int) ≤ 4096 := by rw [hNm]; exact hN4
    have hE : ∀ x : Int, 0 ≤ x ∧ x ≤ (N : Int) - 1 → El m r x := fun x h => ⟨h.1, by rw [← hNm]; omega⟩
    have hNp : 1 ≤ N := by have := el_one (m := m) (r := r) hm2 hr1; have := this.2; omega
    have e9 : x = N - 1 := by omega
    subst e9
    refine q_iload_n eX12_units_28 rfl ?_
    refine q_aload_n eX12_units_29 rfl ?_
    refine q_getfield eX12_units_30 gf_X12_28 (hK _ (by decide) (by decide)) (by decide) (by first | assumption) ?_
    refine q_icmp_ge (tgt := 69) eX12_units_33 (by decide) (by first | assumption | exact ⟨by omega, by omega⟩) (by first | assumption | exact ⟨by omega, by omega⟩) (fun c33 => ?_) (fun c33 => ?_)
    · refine q_iload_n eX12_units_69 rfl ?_
      refine q_retI eX12_units_70 rfl (by decide) (by decide) ?_
      exact PMP_r rfl ht0 hoF (ho.mono (by decide))
    · exact absurd c33 (by omega)
  | succ k ih =>
    intro x A2 hx ho
    have h := h0.off (FOff.rfl' (l := SCF)) (ho.mono (l' := SCA) (by decide)) (by decide) (by decide) (by decide)
    obtain ⟨⟨hX, hT, h3r, hMH⟩, h2, ⟨hl0, hl1, hta⟩, h4, ⟨⟨h51, h52, h53⟩, h5m, h5c, ⟨hn1, hn63, hnq, hs0, hs1⟩, hdn⟩, h7, ⟨⟨h81, h82⟩, h83⟩⟩ := id h
    obtain ⟨hG, hp, he, hq, hN, hg, ⟨hp2, hp7, he1, he4, hme, hqe, hq3, hNm, hgE⟩, hP, hL, hR⟩ := id hT
    obtain ⟨hm, hr, hf, hm2, hr1, hr6, hN4⟩ := id hG
    have hm4 := hG.m4
    have hq2 := hT.q2
    have hN9 : (N : Int) ≤ 4096 := by rw [hNm]; exact hN4
    have hE : ∀ x : Int, 0 ≤ x ∧ x ≤ (N : Int) - 1 → El m r x := fun x h => ⟨h.1, by rw [← hNm]; omega⟩
    have hNp : 1 ≤ N := by have := el_one (m := m) (r := r) hm2 hr1; have := this.2; omega
    have hyE : El m r ((x : Int) + 1) := ⟨by omega, by rw [← hNm]; omega⟩
    have hpe := (pw_el (f := f) hm2 hr1 ((x : Int) + 1) t).lt hN4
    have hct := ctn_le (fun x => decide (low p r m ((x : Int) + 1) ≠ 0) && decide (pw m r f ((x : Int) + 1) t = 1)) x
    have hb := ih (x + 1)
    refine q_iload_n eX12_units_28 rfl ?_
    refine q_aload_n eX12_units_29 rfl ?_
    refine q_getfield eX12_units_30 gf_X12_28 (hK _ (by decide) (by decide)) (by decide) (by first | assumption) ?_
    refine q_icmp_ge (tgt := 69) eX12_units_33 (by decide) (by first | assumption | exact ⟨by omega, by omega⟩) (by first | assumption | exact ⟨by omega, by omega⟩) (fun c33 => ?_) (fun c33 => ?_)
    · exact absurd c33 (by omega)
    · refine q_iload_n eX12_units_36 rfl ?_
      refine q_aload_n eX12_units_37 rfl ?_
      refine q_iload_n eX12_units_38 rfl ?_
      refine q_callVP [vI ((x : Int) + 1)] (M1 := mX12_isUnit) eX12_units_39 mf_X12_isUnit lk_X12_290 (hK _ (by decide) (by decide)) (mo_isUnit hK hX hT hyE) (by decide) (by decide) (by decide) (Nat.le_of_ble_eq_true rfl) rfl ?_
      refine q_if_eq (tgt := 60) eX12_units_42 (by decide) ir_iten (fun c42 => ?_) (fun c42 => ?_)
      · refine q_iconst eX12_units_60 ?_
        refine q_iadd eX12_units_61 ?_
        refine q_istore_n eX12_units_62 (by decide) rfl ?_
        refine q_iinc eX12_units_63 rfl (by decide) rfl ?_
        refine q_goto (tgt := 28) eX12_units_66 (by decide) ?_
        first
        | (rw [ctn_no (by rw [Bool.and_eq_true, decide_eq_true_eq, decide_eq_true_eq]; exact fun hc => hc.1 (i0n c42))] at hb
           rw [Int.add_zero]
           exact hb A2 (by omega) ho)
        | (rw [ctn_no (by rw [Bool.and_eq_true, decide_eq_true_eq, decide_eq_true_eq]; exact fun hc => c53 hc.2)] at hb
           rw [Int.add_zero]
           exact hb A3 (by omega) (ho.trans h3))
        | (rw [ctn_yes (by rw [Bool.and_eq_true, decide_eq_true_eq, decide_eq_true_eq]; exact ⟨i1n c42, c53⟩)] at hb
           exact hb A3 (by omega) (ho.trans h3))
      · refine q_aload_n eX12_units_45 rfl ?_
        refine q_iload_n eX12_units_46 rfl ?_
        refine q_iload_n eX12_units_47 rfl ?_
        refine q_i2l eX12_units_48 (by exact ⟨by omega, by omega⟩) ?_
        refine q_callVQ [vI ((x : Int) + 1), vJ t] (M1 := mX12_raised) eX12_units_49 mf_X12_raised lk_X12_147 (hK _ (by decide) (by decide)) (mo_raised hK hX hG hyE (by omega)) (by decide) (by decide) (by decide) (Nat.le_of_ble_eq_true rfl) rfl (fun A3 h3 => ?_)
        refine q_iconst eX12_units_52 ?_
        refine q_icmp_ne (tgt := 60) eX12_units_53 (by decide) (by first | assumption | exact ⟨by omega, by omega⟩) (by first | assumption | exact ⟨by omega, by omega⟩) (fun c53 => ?_) (fun c53 => ?_)
        · refine q_iconst eX12_units_60 ?_
          refine q_iadd eX12_units_61 ?_
          refine q_istore_n eX12_units_62 (by decide) rfl ?_
          refine q_iinc eX12_units_63 rfl (by decide) rfl ?_
          refine q_goto (tgt := 28) eX12_units_66 (by decide) ?_
          first
          | (rw [ctn_no (by rw [Bool.and_eq_true, decide_eq_true_eq, decide_eq_true_eq]; exact fun hc => hc.1 (i0n c42))] at hb
             rw [Int.add_zero]
             exact hb A2 (by omega) ho)
          | (rw [ctn_no (by rw [Bool.and_eq_true, decide_eq_true_eq, decide_eq_true_eq]; exact fun hc => c53 hc.2)] at hb
             rw [Int.add_zero]
             exact hb A3 (by omega) (ho.trans h3))
          | (rw [ctn_yes (by rw [Bool.and_eq_true, decide_eq_true_eq, decide_eq_true_eq]; exact ⟨i1n c42, c53⟩)] at hb
             exact hb A3 (by omega) (ho.trans h3))
        · refine q_iconst eX12_units_56 ?_
          refine q_goto (tgt := 61) eX12_units_57 (by decide) ?_
          refine q_iadd eX12_units_61 ?_
          refine q_istore_n eX12_units_62 (by decide) rfl ?_
          refine q_iinc eX12_units_63 rfl (by decide) rfl ?_
          refine q_goto (tgt := 28) eX12_units_66 (by decide) ?_
          first
          | (rw [ctn_no (by rw [Bool.and_eq_true, decide_eq_true_eq, decide_eq_true_eq]; exact fun hc => hc.1 (i0n c42))] at hb
             rw [Int.add_zero]
             exact hb A2 (by omega) ho)
          | (rw [ctn_no (by rw [Bool.and_eq_true, decide_eq_true_eq, decide_eq_true_eq]; exact fun hc => c53 hc.2)] at hb
             rw [Int.add_zero]
             exact hb A3 (by omega) (ho.trans h3))
          | (rw [ctn_yes (by rw [Bool.and_eq_true, decide_eq_true_eq, decide_eq_true_eq]; exact ⟨i1n c42, c53⟩)] at hb
             exact hb A3 (by omega) (ho.trans h3))
set_option maxRecDepth 20000 in
theorem mo_units {k : Int} {p e r q N : Nat} {m : Int} {f : Nat → Int} {g : Int} {rt lg pl_ tp mk ck : Nat → Int} {len n dg : Nat} {fp set : Int} {w : Option (Nat → Int)} {S : List Int} {F : HF} {A : HA} {al : AL} (hK : KM al) (h0 : MI p e r q N m f g rt lg pl_ len tp fp n set dg mk ck w S F A) (hk : InR k) : QE 5 0 0 mX12_units [vA 44, vI k] F A al (PMP (if 1 ≤ k ∧ k ≤ 9999 then some (ctn (fun x => decide (low p r m ((x : Int) + 1) ≠ 0) && decide (pw m r f ((x : Int) + 1) k.toNat = 1)) (N - 1) : Nat) else none) F A al) := by
  refine QE.mk (by decide +kernel) (Nat.le_of_ble_eq_true rfl) ?_
  have hk_1 := hk.1
  have hk_2 := hk.2
  have h := h0.t0
  generalize hF0 : up2 F 44 0 (vI 0) = F1 at h
  have ht0 : F1 44 0 = vI 0 := by rw [← hF0]; exact up2_eq _ _ _ _
  have hoF : FOff SCF F F1 := by rw [← hF0]; exact FOff.up (by decide)
  obtain ⟨⟨hX, hT, h3r, hMH⟩, h2, ⟨hl0, hl1, hta⟩, h4, ⟨⟨h51, h52, h53⟩, h5m, h5c, ⟨hn1, hn63, hnq, hs0, hs1⟩, hdn⟩, h7, ⟨⟨h81, h82⟩, h83⟩⟩ := id h
  obtain ⟨hG, hp, he, hq, hN, hg, ⟨hp2, hp7, he1, he4, hme, hqe, hq3, hNm, hgE⟩, hP, hL, hR⟩ := id hT
  obtain ⟨hm, hr, hf, hm2, hr1, hr6, hN4⟩ := id hG
  have hm4 := hG.m4
  have hq2 := hT.q2
  have hN9 : (N : Int) ≤ 4096 := by rw [hNm]; exact hN4
  have hE : ∀ x : Int, 0 ≤ x ∧ x ≤ (N : Int) - 1 → El m r x := fun x h => ⟨h.1, by rw [← hNm]; omega⟩
  have hNp : 1 ≤ N := by have := el_one (m := m) (r := r) hm2 hr1; have := this.2; omega
  refine q_aload_n eX12_units_0 rfl ?_
  refine q_iconst eX12_units_1 ?_
  refine q_putfield eX12_units_2 pf_X12_1 (hK _ (by decide) (by decide)) (by decide) (FT_i rfl) ?_
  rw [hF0]
  refine q_aload_n eX12_units_5 rfl ?_
  refine q_iload_n eX12_units_6 rfl ?_
  refine q_i2l eX12_units_7 (by first | assumption | exact ⟨by omega, by omega⟩) ?_
  refine q_lconst (v := 1) eX12_units_8 (by decide +kernel) ?_
  refine q_ldc2 eX12_units_9 kc_X12_372 ?_
  refine q_callSP [vJ (k), vJ (1), vJ (9999)] (M1 := mX12_isIn) eX12_units_12 mf_X12_isIn lk_X12_206 (mo_isIn (by exact ⟨by omega, by omega⟩) (by exact ⟨by omega, by omega⟩) (by exact ⟨by omega, by omega⟩)) (by decide) (by decide) (by decide) (Nat.le_of_ble_eq_true rfl) rfl ?_
  refine q_iconst eX12_units_15 ?_
  refine q_rightX eX12_units_16 lk_X12_304 hK ht0 (by decide) (by decide) (by decide) (Nat.le_of_ble_eq_true rfl) ir_ite (fun n16 => ?_) (fun n16 => ?_)
  · have hni := i0 n16
    refine q_if_ne (tgt := 24) eX12_units_19 (by decide) (by first | assumption | exact ⟨by omega, by omega⟩) (fun c19 => ?_) (fun c19 => ?_)
    · exact absurd rfl c19
    · refine q_iconst eX12_units_22 ?_
      refine q_retI eX12_units_23 rfl (by decide) (by decide) ?_
      refine PMP_t ?_ hoF Off.rfl'
      rw [if_neg hni]
  · have hin := i1 n16
    obtain ⟨t, rfl⟩ : ∃ t : Nat, k = t := ⟨k.toNat, by omega⟩
    rw [if_pos hin]
    refine q_if_ne (tgt := 24) eX12_units_19 (by decide) (by first | assumption | exact ⟨by omega, by omega⟩) (fun c19 => ?_) (fun c19 => ?_)
    · refine q_iconst eX12_units_24 ?_
      refine q_istore_n eX12_units_25 (by decide) rfl ?_
      refine q_iconst eX12_units_26 ?_
      refine q_istore_n eX12_units_27 (by decide) rfl ?_
      exact lp_munits (t := t) hK h ht0 hoF (by omega) (N - 1) 0 A (by omega) Off.rfl'
    · exact absurd c19 (by decide)
def mnP (p e r q : Nat) (m : Int) (f : Nat → Int) (g : Int) (rt lg : Nat → Int) (what : Int) (v : Nat) (x : Nat) : Bool :=
  if what = 0 then decide ((lvM p r m x 0 e : Nat) = v) else if what = 1 then decide (trM p e r q m f g rt lg x r = v) else if what = 2 then decide (nmM p e r q m f g rt lg x r = v) else decide (mvMn p e r q m f g rt lg x (v % r) = x)
theorem lvM_le {p r : Nat} {m x : Int} : ∀ (k n : Nat), lvM p r m x n k ≤ n + k
  | 0, n => Nat.le_refl _
  | k + 1, n => by
    unfold lvM
    split
    · have := lvM_le (p := p) (r := r) (m := m) (x := x) k (n + 1)
      omega
    · omega
set_option maxRecDepth 20000 in
theorem lp_mmany {what : Int} {v : Nat} {p e r q N : Nat} {m : Int} {f : Nat → Int} {g : Int} {rt lg pl_ tp mk ck : Nat → Int} {len n dg : Nat} {fp set : Int} {w : Option (Nat → Int)} {S : List Int} {F F1 : HF} {A : HA} {al : AL} (hK : KM al) (h0 : MI p e r q N m f g rt lg pl_ len tp fp n set dg mk ck w S F1 A) (ht0 : F1 44 0 = vI 0) (hoF : FOff SCF F F1) (hw : InR what) (hv : v < 2147483648) : ∀ (k x : Nat) (A2 : HA) (l5 : Option LV), x + k = N → Off [51, 52, 53, 54] A A2 →
    QW mX12_many 8 0 0 (PMP (some (ctn (mnP p e r q m f g rt lg what v) N : Nat)) F A al) 0 0 41 [some (vA 44), some (vI what), some (vI v), some (vI (ctn (mnP p e r q m f g rt lg what v) x : Nat)), some (vI x), l5] [] F1 A2 al := by
  intro k
  induction k with
  | zero =>
    intro x A2 l5 hx ho
    have h := h0.off (FOff.rfl' (l := SCF)) (ho.mono (l' := SCA) (by decide)) (by decide) (by decide) (by decide)
    obtain ⟨⟨hX, hT, h3r, hMH⟩, h2, ⟨hl0, hl1, hta⟩, h4, ⟨⟨h51, h52, h53⟩, h5m, h5c, ⟨hn1, hn63, hnq, hs0, hs1⟩, hdn⟩, h7, ⟨⟨h81, h82⟩, h83⟩⟩ := id h
    obtain ⟨hG, hp, he, hq, hN, hg, ⟨hp2, hp7, he1, he4, hme, hqe, hq3, hNm, hgE⟩, hP, hL, hR⟩ := id hT
    obtain ⟨hm, hr, hf, hm2, hr1, hr6, hN4⟩ := id hG
    have hm4 := hG.m4
    have hq2 := hT.q2
    have hN9 : (N : Int) ≤ 4096 := by rw [hNm]; exact hN4
    have hE : ∀ x : Int, 0 ≤ x ∧ x ≤ (N : Int) - 1 → El m r x := fun x h => ⟨h.1, by rw [← hNm]; omega⟩
    have hNp : 1 ≤ N := by have := el_one (m := m) (r := r) hm2 hr1; have := this.2; omega
    have e9 : x = N := by omega
    subst e9
    refine q_iload eX12_many_41 rfl ?_
    refine q_aload_n eX12_many_43 rfl ?_
    refine q_getfield eX12_many_44 gf_X12_28 (hK _ (by decide) (by decide)) (by decide) (by first | assumption) ?_
    refine q_icmp_ge (tgt := 156) eX12_many_47 (by decide) (by first | assumption | exact ⟨by omega, by omega⟩) (by first | assumption | exact ⟨by omega, by omega⟩) (fun c47 => ?_) (fun c47 => ?_)
    · refine q_iload_n eX12_many_156 rfl ?_
      refine q_retI eX12_many_157 rfl (by decide) (by decide) ?_
      exact PMP_r rfl ht0 hoF (ho.mono (by decide))
    · exact absurd c47 (by omega)
  | succ k ih =>
    intro x A2 l5 hx ho
    have h := h0.off (FOff.rfl' (l := SCF)) (ho.mono (l' := SCA) (by decide)) (by decide) (by decide) (by decide)
    obtain ⟨⟨hX, hT, h3r, hMH⟩, h2, ⟨hl0, hl1, hta⟩, h4, ⟨⟨h51, h52, h53⟩, h5m, h5c, ⟨hn1, hn63, hnq, hs0, hs1⟩, hdn⟩, h7, ⟨⟨h81, h82⟩, h83⟩⟩ := id h
    obtain ⟨hG, hp, he, hq, hN, hg, ⟨hp2, hp7, he1, he4, hme, hqe, hq3, hNm, hgE⟩, hP, hL, hR⟩ := id hT
    obtain ⟨hm, hr, hf, hm2, hr1, hr6, hN4⟩ := id hG
    have hm4 := hG.m4
    have hq2 := hT.q2
    have hN9 : (N : Int) ≤ 4096 := by rw [hNm]; exact hN4
    have hE : ∀ x : Int, 0 ≤ x ∧ x ≤ (N : Int) - 1 → El m r x := fun x h => ⟨h.1, by rw [← hNm]; omega⟩
    have hNp : 1 ≤ N := by have := el_one (m := m) (r := r) hm2 hr1; have := this.2; omega
    have hyE := el_nat (i := x) hNm (by omega)
    have hlv := lvM_le (p := p) (r := r) (m := m) (x := (x : Int)) e 0
    have htr := (trM_el (p := p) (e := e) (q := q) (f := f) (g := g) (rt := rt) (lg := lg) (x := (x : Int)) (r := r) (show 0 < m by omega) r).lt hN4
    have hnr := (nmM_el (p := p) (e := e) (q := q) (f := f) (g := g) (rt := rt) (lg := lg) (x := (x : Int)) hm2 (show 0 < r by omega) r).lt hN4
    have hmv := (mvMn_el (p := p) (e := e) (q := q) (f := f) (g := g) (rt := rt) (lg := lg) (show 0 < m by omega) hyE (v % r)).lt hN4
    have hct := ctn_le (mnP p e r q m f g rt lg what v) x
    have tail : ∀ (A3 : HA) (b : Int) (l5 : Option LV), Off [51, 52, 53, 54] A A3 → (b = 1 ∧ (mnP p e r q m f g rt lg what v) x = true ∨ b = 0 ∧ ¬ (mnP p e r q m f g rt lg what v) x = true) →
        QW mX12_many 8 0 0 (PMP (some (ctn (mnP p e r q m f g rt lg what v) N : Nat)) F A al) 0 0 135 [some (vA 44), some (vI what), some (vI v), some (vI (ctn (mnP p e r q m f g rt lg what v) x : Nat)), some (vI x), l5] [vI b] F1 A3 al := by
      intro A3 b l5 ho3 hbv
      have hb := ih (x + 1) A3 (some (vI b)) (by omega) ho3
      rcases hbv with ⟨rfl, hy⟩ | ⟨rfl, hy⟩
      · rw [ctn_yes hy] at hb
        refine q_istore eX12_many_135 (by decide) rfl ?_
        refine q_iload_n eX12_many_137 rfl ?_
        refine q_iload eX12_many_138 rfl ?_
        refine q_if_eq (tgt := 147) eX12_many_140 (by decide) (by first | assumption | exact ⟨by omega, by omega⟩) (fun c140 => ?_) (fun c140 => ?_)
        · exact absurd c140 (by decide)
        · refine q_iconst eX12_many_143 ?_
          refine q_goto (tgt := 148) eX12_many_144 (by decide) ?_
          refine q_iadd eX12_many_148 ?_
          refine q_istore_n eX12_many_149 (by decide) rfl ?_
          refine q_iinc eX12_many_150 rfl (by decide) rfl ?_
          refine q_goto (tgt := 41) eX12_many_153 (by decide) ?_
          exact hb
      · rw [ctn_no hy] at hb
        refine q_istore eX12_many_135 (by decide) rfl ?_
        refine q_iload_n eX12_many_137 rfl ?_
        refine q_iload eX12_many_138 rfl ?_
        refine q_if_eq (tgt := 147) eX12_many_140 (by decide) (by first | assumption | exact ⟨by omega, by omega⟩) (fun c140 => ?_) (fun c140 => ?_)
        · refine q_iconst eX12_many_147 ?_
          refine q_iadd eX12_many_148 ?_
          refine q_istore_n eX12_many_149 (by decide) rfl ?_
          refine q_iinc eX12_many_150 rfl (by decide) rfl ?_
          refine q_goto (tgt := 41) eX12_many_153 (by decide) ?_
          rw [Int.add_zero]
          exact hb
        · exact absurd rfl c140
    refine q_iload eX12_many_41 rfl ?_
    refine q_aload_n eX12_many_43 rfl ?_
    refine q_getfield eX12_many_44 gf_X12_28 (hK _ (by decide) (by decide)) (by decide) (by first | assumption) ?_
    refine q_icmp_ge (tgt := 156) eX12_many_47 (by decide) (by first | assumption | exact ⟨by omega, by omega⟩) (by first | assumption | exact ⟨by omega, by omega⟩) (fun c47 => ?_) (fun c47 => ?_)
    · exact absurd c47 (by omega)
    · refine q_iload_n eX12_many_50 rfl ?_
      refine q_if_ne (tgt := 72) eX12_many_51 (by decide) (by first | assumption | exact ⟨by omega, by omega⟩) (fun c51 => ?_) (fun c51 => ?_)
      · refine q_iload_n eX12_many_72 rfl ?_
        refine q_iconst eX12_many_73 ?_
        refine q_icmp_ne (tgt := 95) eX12_many_74 (by decide) (by first | assumption | exact ⟨by omega, by omega⟩) (by first | assumption | exact ⟨by omega, by omega⟩) (fun c74 => ?_) (fun c74 => ?_)
        · refine q_iload_n eX12_many_95 rfl ?_
          refine q_iconst eX12_many_96 ?_
          refine q_icmp_ne (tgt := 118) eX12_many_97 (by decide) (by first | assumption | exact ⟨by omega, by omega⟩) (by first | assumption | exact ⟨by omega, by omega⟩) (fun c97 => ?_) (fun c97 => ?_)
          · refine q_aload_n eX12_many_118 rfl ?_
            refine q_iload eX12_many_119 rfl ?_
            refine q_iload_n eX12_many_121 rfl ?_
            refine q_callVQ [vI x, vI v] (M1 := mX12_movedTimes) eX12_many_122 mf_X12_movedTimes lk_X12_201 (hK _ (by decide) (by decide)) (mo_movedTimes hK hX hT hyE hv) (by decide) (by decide) (by decide) (Nat.le_of_ble_eq_true rfl) rfl (fun A3 h3 => ?_)
            refine q_iload eX12_many_125 rfl ?_
            refine q_icmp_ne (tgt := 134) eX12_many_127 (by decide) (by first | assumption | exact ⟨by omega, by omega⟩) (by first | assumption | exact ⟨by omega, by omega⟩) (fun c127 => ?_) (fun c127 => ?_)
            · refine q_iconst eX12_many_134 ?_
              refine tail A3 _ _ (ho.trans (h3.mono (by decide))) ?_
              unfold mnP
              first
              | (rw [if_pos c51, decide_eq_true_eq]
                 first | exact Or.inl ⟨rfl, by omega⟩ | exact Or.inr ⟨rfl, by omega⟩)
              | (rw [if_neg c51, if_pos c74, decide_eq_true_eq]
                 first | exact Or.inl ⟨rfl, c84⟩ | exact Or.inr ⟨rfl, c84⟩)
              | (rw [if_neg c51, if_neg c74, if_pos c97, decide_eq_true_eq]
                 first | exact Or.inl ⟨rfl, c107⟩ | exact Or.inr ⟨rfl, c107⟩)
              | (rw [if_neg c51, if_neg c74, if_neg c97, decide_eq_true_eq]
                 first | exact Or.inl ⟨rfl, c127⟩ | exact Or.inr ⟨rfl, c127⟩)
            · refine q_iconst eX12_many_130 ?_
              refine q_goto (tgt := 135) eX12_many_131 (by decide) ?_
              refine tail A3 _ _ (ho.trans (h3.mono (by decide))) ?_
              unfold mnP
              first
              | (rw [if_pos c51, decide_eq_true_eq]
                 first | exact Or.inl ⟨rfl, by omega⟩ | exact Or.inr ⟨rfl, by omega⟩)
              | (rw [if_neg c51, if_pos c74, decide_eq_true_eq]
                 first | exact Or.inl ⟨rfl, c84⟩ | exact Or.inr ⟨rfl, c84⟩)
              | (rw [if_neg c51, if_neg c74, if_pos c97, decide_eq_true_eq]
                 first | exact Or.inl ⟨rfl, c107⟩ | exact Or.inr ⟨rfl, c107⟩)
              | (rw [if_neg c51, if_neg c74, if_neg c97, decide_eq_true_eq]
                 first | exact Or.inl ⟨rfl, c127⟩ | exact Or.inr ⟨rfl, c127⟩)
          · refine q_aload_n eX12_many_100 rfl ?_
            refine q_iload eX12_many_101 rfl ?_
            refine q_callVQ [vI x] (M1 := mX12_normOf) eX12_many_103 mf_X12_normOf lk_X12_341 (hK _ (by decide) (by decide)) (mo_norm hK hX hT hyE) (by decide) (by decide) (by decide) (Nat.le_of_ble_eq_true rfl) rfl (fun A3 h3 => ?_)
            refine q_iload_n eX12_many_106 rfl ?_
            refine q_icmp_ne (tgt := 114) eX12_many_107 (by decide) (by first | assumption | exact ⟨by omega, by omega⟩) (by first | assumption | exact ⟨by omega, by omega⟩) (fun c107 => ?_) (fun c107 => ?_)
            · refine q_iconst eX12_many_114 ?_
              refine q_goto (tgt := 135) eX12_many_115 (by decide) ?_
              refine tail A3 _ _ (ho.trans (h3.mono (by decide))) ?_
              unfold mnP
              first
              | (rw [if_pos c51, decide_eq_true_eq]
                 first | exact Or.inl ⟨rfl, by omega⟩ | exact Or.inr ⟨rfl, by omega⟩)
              | (rw [if_neg c51, if_pos c74, decide_eq_true_eq]
                 first | exact Or.inl ⟨rfl, c84⟩ | exact Or.inr ⟨rfl, c84⟩)
              | (rw [if_neg c51, if_neg c74, if_pos c97, decide_eq_true_eq]
                 first | exact Or.inl ⟨rfl, c107⟩ | exact Or.inr ⟨rfl, c107⟩)
              | (rw [if_neg c51, if_neg c74, if_neg c97, decide_eq_true_eq]
                 first | exact Or.inl ⟨rfl, c127⟩ | exact Or.inr ⟨rfl, c127⟩)
            · refine q_iconst eX12_many_110 ?_
              refine q_goto (tgt := 135) eX12_many_111 (by decide) ?_
              refine tail A3 _ _ (ho.trans (h3.mono (by decide))) ?_
              unfold mnP
              first
              | (rw [if_pos c51, decide_eq_true_eq]
                 first | exact Or.inl ⟨rfl, by omega⟩ | exact Or.inr ⟨rfl, by omega⟩)
              | (rw [if_neg c51, if_pos c74, decide_eq_true_eq]
                 first | exact Or.inl ⟨rfl, c84⟩ | exact Or.inr ⟨rfl, c84⟩)
              | (rw [if_neg c51, if_neg c74, if_pos c97, decide_eq_true_eq]
                 first | exact Or.inl ⟨rfl, c107⟩ | exact Or.inr ⟨rfl, c107⟩)
              | (rw [if_neg c51, if_neg c74, if_neg c97, decide_eq_true_eq]
                 first | exact Or.inl ⟨rfl, c127⟩ | exact Or.inr ⟨rfl, c127⟩)
        · refine q_aload_n eX12_many_77 rfl ?_
          refine q_iload eX12_many_78 rfl ?_
          refine q_callVQ [vI x] (M1 := mX12_traceOf) eX12_many_80 mf_X12_traceOf lk_X12_338 (hK _ (by decide) (by decide)) (mo_trace hK hX hT hyE) (by decide) (by decide) (by decide) (Nat.le_of_ble_eq_true rfl) rfl (fun A3 h3 => ?_)
          refine q_iload_n eX12_many_83 rfl ?_
          refine q_icmp_ne (tgt := 91) eX12_many_84 (by decide) (by first | assumption | exact ⟨by omega, by omega⟩) (by first | assumption | exact ⟨by omega, by omega⟩) (fun c84 => ?_) (fun c84 => ?_)
          · refine q_iconst eX12_many_91 ?_
            refine q_goto (tgt := 135) eX12_many_92 (by decide) ?_
            refine tail A3 _ _ (ho.trans (h3.mono (by decide))) ?_
            unfold mnP
            first
            | (rw [if_pos c51, decide_eq_true_eq]
               first | exact Or.inl ⟨rfl, by omega⟩ | exact Or.inr ⟨rfl, by omega⟩)
            | (rw [if_neg c51, if_pos c74, decide_eq_true_eq]
               first | exact Or.inl ⟨rfl, c84⟩ | exact Or.inr ⟨rfl, c84⟩)
            | (rw [if_neg c51, if_neg c74, if_pos c97, decide_eq_true_eq]
               first | exact Or.inl ⟨rfl, c107⟩ | exact Or.inr ⟨rfl, c107⟩)
            | (rw [if_neg c51, if_neg c74, if_neg c97, decide_eq_true_eq]
               first | exact Or.inl ⟨rfl, c127⟩ | exact Or.inr ⟨rfl, c127⟩)
          · refine q_iconst eX12_many_87 ?_
            refine q_goto (tgt := 135) eX12_many_88 (by decide) ?_
            refine tail A3 _ _ (ho.trans (h3.mono (by decide))) ?_
            unfold mnP
            first
            | (rw [if_pos c51, decide_eq_true_eq]
               first | exact Or.inl ⟨rfl, by omega⟩ | exact Or.inr ⟨rfl, by omega⟩)
            | (rw [if_neg c51, if_pos c74, decide_eq_true_eq]
               first | exact Or.inl ⟨rfl, c84⟩ | exact Or.inr ⟨rfl, c84⟩)
            | (rw [if_neg c51, if_neg c74, if_pos c97, decide_eq_true_eq]
               first | exact Or.inl ⟨rfl, c107⟩ | exact Or.inr ⟨rfl, c107⟩)
            | (rw [if_neg c51, if_neg c74, if_neg c97, decide_eq_true_eq]
               first | exact Or.inl ⟨rfl, c127⟩ | exact Or.inr ⟨rfl, c127⟩)
      · refine q_aload_n eX12_many_54 rfl ?_
        refine q_iload eX12_many_55 rfl ?_
        refine q_callVQ [vI x] (M1 := mX12_levelOf) eX12_many_57 mf_X12_levelOf lk_X12_335 (hK _ (by decide) (by decide)) (mo_levelOf hK hX hT hyE) (by decide) (by decide) (by decide) (Nat.le_of_ble_eq_true rfl) rfl (fun A3 h3 => ?_)
        refine q_iload_n eX12_many_60 rfl ?_
        refine q_icmp_ne (tgt := 68) eX12_many_61 (by decide) (by first | assumption | exact ⟨by omega, by omega⟩) (by first | assumption | exact ⟨by omega, by omega⟩) (fun c61 => ?_) (fun c61 => ?_)
        · refine q_iconst eX12_many_68 ?_
          refine q_goto (tgt := 135) eX12_many_69 (by decide) ?_
          refine tail A3 _ _ (ho.trans (h3.mono (by decide))) ?_
          unfold mnP
          first
          | (rw [if_pos c51, decide_eq_true_eq]
             first | exact Or.inl ⟨rfl, by omega⟩ | exact Or.inr ⟨rfl, by omega⟩)
          | (rw [if_neg c51, if_pos c74, decide_eq_true_eq]
             first | exact Or.inl ⟨rfl, c84⟩ | exact Or.inr ⟨rfl, c84⟩)
          | (rw [if_neg c51, if_neg c74, if_pos c97, decide_eq_true_eq]
             first | exact Or.inl ⟨rfl, c107⟩ | exact Or.inr ⟨rfl, c107⟩)
          | (rw [if_neg c51, if_neg c74, if_neg c97, decide_eq_true_eq]
             first | exact Or.inl ⟨rfl, c127⟩ | exact Or.inr ⟨rfl, c127⟩)
        · refine q_iconst eX12_many_64 ?_
          refine q_goto (tgt := 135) eX12_many_65 (by decide) ?_
          refine tail A3 _ _ (ho.trans (h3.mono (by decide))) ?_
          unfold mnP
          first
          | (rw [if_pos c51, decide_eq_true_eq]
             first | exact Or.inl ⟨rfl, by omega⟩ | exact Or.inr ⟨rfl, by omega⟩)
          | (rw [if_neg c51, if_pos c74, decide_eq_true_eq]
             first | exact Or.inl ⟨rfl, c84⟩ | exact Or.inr ⟨rfl, c84⟩)
          | (rw [if_neg c51, if_neg c74, if_pos c97, decide_eq_true_eq]
             first | exact Or.inl ⟨rfl, c107⟩ | exact Or.inr ⟨rfl, c107⟩)
          | (rw [if_neg c51, if_neg c74, if_neg c97, decide_eq_true_eq]
             first | exact Or.inl ⟨rfl, c127⟩ | exact Or.inr ⟨rfl, c127⟩)
set_option maxRecDepth 20000 in
theorem mo_many {what v : Int} {p e r q N : Nat} {m : Int} {f : Nat → Int} {g : Int} {rt lg pl_ tp mk ck : Nat → Int} {len n dg : Nat} {fp set : Int} {w : Option (Nat → Int)} {S : List Int} {F : HF} {A : HA} {al : AL} (hK : KM al) (h0 : MI p e r q N m f g rt lg pl_ len tp fp n set dg mk ck w S F A) (hw : InR what) (hv : InR v) : QE 8 0 0 mX12_many [vA 44, vI what, vI v] F A al (PMP (if (0 ≤ what ∧ what ≤ 3) ∧ 0 ≤ v then some (ctn (mnP p e r q m f g rt lg what v.toNat) N : Nat) else none) F A al) := by
  refine QE.mk (by decide +kernel) (Nat.le_of_ble_eq_true rfl) ?_
  have hw_1 := hw.1
  have hw_2 := hw.2
  have hv_1 := hv.1
  have hv_2 := hv.2
  have h := h0.t0
  generalize hF0 : up2 F 44 0 (vI 0) = F1 at h
  have ht0 : F1 44 0 = vI 0 := by rw [← hF0]; exact up2_eq _ _ _ _
  have hoF : FOff SCF F F1 := by rw [← hF0]; exact FOff.up (by decide)
  obtain ⟨⟨hX, hT, h3r, hMH⟩, h2, ⟨hl0, hl1, hta⟩, h4, ⟨⟨h51, h52, h53⟩, h5m, h5c, ⟨hn1, hn63, hnq, hs0, hs1⟩, hdn⟩, h7, ⟨⟨h81, h82⟩, h83⟩⟩ := id h
  obtain ⟨hG, hp, he, hq, hN, hg, ⟨hp2, hp7, he1, he4, hme, hqe, hq3, hNm, hgE⟩, hP, hL, hR⟩ := id hT
  obtain ⟨hm, hr, hf, hm2, hr1, hr6, hN4⟩ := id hG
  have hm4 := hG.m4
  have hq2 := hT.q2
  have hN9 : (N : Int) ≤ 4096 := by rw [hNm]; exact hN4
  have hE : ∀ x : Int, 0 ≤ x ∧ x ≤ (N : Int) - 1 → El m r x := fun x h => ⟨h.1, by rw [← hNm]; omega⟩
  have hNp : 1 ≤ N := by have := el_one (m := m) (r := r) hm2 hr1; have := this.2; omega
  refine q_aload_n eX12_many_0 rfl ?_
  refine q_iconst eX12_many_1 ?_
  refine q_putfield eX12_many_2 pf_X12_1 (hK _ (by decide) (by decide)) (by decide) (FT_i rfl) ?_
  rw [hF0]
  refine q_aload_n eX12_many_5 rfl ?_
  refine q_iload_n eX12_many_6 rfl ?_
  refine q_i2l eX12_many_7 (by first | assumption | exact ⟨by omega, by omega⟩) ?_
  refine q_lconst (v := 0) eX12_many_8 (by decide +kernel) ?_
  refine q_ldc2 eX12_many_9 kc_X12_331 ?_
  refine q_callSP [vJ (what), vJ (0), vJ (3)] (M1 := mX12_isIn) eX12_many_12 mf_X12_isIn lk_X12_206 (mo_isIn (by exact ⟨by omega, by omega⟩) (by exact ⟨by omega, by omega⟩) (by exact ⟨by omega, by omega⟩)) (by decide) (by decide) (by decide) (Nat.le_of_ble_eq_true rfl) rfl ?_
  refine q_if_eq (tgt := 26) eX12_many_15 (by decide) ir_ite (fun c15 => ?_) (fun c15 => ?_)
  · refine q_iconst eX12_many_26 ?_
    refine q_iconst eX12_many_27 ?_
    refine q_right0 eX12_many_28 lk_X12_304 hK ht0 (by decide) (by decide) (by decide) (Nat.le_of_ble_eq_true rfl) ?_
    refine q_if_ne (tgt := 36) eX12_many_31 (by decide) (by first | assumption | exact ⟨by omega, by omega⟩) (fun c31 => ?_) (fun c31 => ?_)
    · exact absurd rfl c31
    · refine q_iconst eX12_many_34 ?_
      refine q_retI eX12_many_35 rfl (by decide) (by decide) ?_
      refine PMP_t ?_ hoF Off.rfl'
      first | rw [if_neg (fun hc => i0 c15 hc.1)] | rw [if_neg (by rintro ⟨-, hc⟩; omega)]
  · refine q_iload_n eX12_many_18 rfl ?_
    refine q_if_lt (tgt := 26) eX12_many_19 (by decide) (by first | assumption | exact ⟨by omega, by omega⟩) (fun c19 => ?_) (fun c19 => ?_)
    · refine q_iconst eX12_many_26 ?_
      refine q_iconst eX12_many_27 ?_
      refine q_right0 eX12_many_28 lk_X12_304 hK ht0 (by decide) (by decide) (by decide) (Nat.le_of_ble_eq_true rfl) ?_
      refine q_if_ne (tgt := 36) eX12_many_31 (by decide) (by first | assumption | exact ⟨by omega, by omega⟩) (fun c31 => ?_) (fun c31 => ?_)
      · exact absurd rfl c31
      · refine q_iconst eX12_many_34 ?_
        refine q_retI eX12_many_35 rfl (by decide) (by decide) ?_
        refine PMP_t ?_ hoF Off.rfl'
        first | rw [if_neg (fun hc => i0 c15 hc.1)] | rw [if_neg (by rintro ⟨-, hc⟩; omega)]
    · refine q_iconst eX12_many_22 ?_
      refine q_goto (tgt := 27) eX12_many_23 (by decide) ?_
      refine q_iconst eX12_many_27 ?_
      refine q_right1 eX12_many_28 lk_X12_304 hK ht0 (by decide) (by decide) (by decide) (Nat.le_of_ble_eq_true rfl) ?_
      refine q_if_ne (tgt := 36) eX12_many_31 (by decide) (by first | assumption | exact ⟨by omega, by omega⟩) (fun c31 => ?_) (fun c31 => ?_)
      · obtain ⟨t, rfl⟩ : ∃ t : Nat, v = t := ⟨v.toNat, by omega⟩
        rw [if_pos ⟨i1 c15, by omega⟩]
        refine q_iconst eX12_many_36 ?_
        refine q_istore_n eX12_many_37 (by decide) rfl ?_
        refine q_iconst eX12_many_38 ?_
        refine q_istore eX12_many_39 (by decide) rfl ?_
        exact lp_mmany (v := t) hK h ht0 hoF hw (by omega) N 0 A none (by omega) Off.rfl'
      · exact absurd c31 (by decide)
set_option maxRecDepth 20000 in
theorem mo_coefficient {which i : Int} {p e r q N : Nat} {m : Int} {f : Nat → Int} {g : Int} {rt lg pl_ tp mk ck : Nat → Int} {len n dg : Nat} {fp set : Int} {w : Option (Nat → Int)} {S : List Int} {F : HF} {A : HA} {al : AL} (hK : KM al) (h0 : MI p e r q N m f g rt lg pl_ len tp fp n set dg mk ck w S F A) (hw : InR which) (hi : InR i) : QE 2 0 0 mX12_coefficient [vA 44, vI which, vI i] F A al (PMP (if 0 ≤ which ∧ which ≤ 1 then (if which = 0 then (if -1 ≤ i ∧ i ≤ (dg : Int) then some (if i = -1 then (dg : Int) else mk i.toNat) else none) else (if -1 ≤ i ∧ i ≤ (n : Int) - dg then some (if i = -1 then (n : Int) - dg else ck i.toNat) else none)) else none) F A al) := by
  refine QE.mk (by decide +kernel) (Nat.le_of_ble_eq_true rfl) ?_
  have hw_1 := hw.1
  have hw_2 := hw.2
  have hi_1 := hi.1
  have hi_2 := hi.2
  have h := h0.t0
  generalize hF0 : up2 F 44 0 (vI 0) = F1 at h
  have ht0 : F1 44 0 = vI 0 := by rw [← hF0]; exact up2_eq _ _ _ _
  have hoF : FOff SCF F F1 := by rw [← hF0]; exact FOff.up (by decide)
  obtain ⟨⟨hX, hT, h3r, hMH⟩, h2, ⟨hl0, hl1, hta⟩, h4, ⟨⟨h51, h52, h53⟩, h5m, h5c, ⟨hn1, hn63, hnq, hs0, hs1⟩, hdn⟩, h7, ⟨⟨h81, h82⟩, h83⟩⟩ := id h
  obtain ⟨hG, hp, he, hq, hN, hg, ⟨hp2, hp7, he1, he4, hme, hqe, hq3, hNm, hgE⟩, hP, hL, hR⟩ := id hT
  obtain ⟨hm, hr, hf, hm2, hr1, hr6, hN4⟩ := id hG
  have hm4 := hG.m4
  have hq2 := hT.q2
  have hN9 : (N : Int) ≤ 4096 := by rw [hNm]; exact hN4
  have hE : ∀ x : Int, 0 ≤ x ∧ x ≤ (N : Int) - 1 → El m r x := fun x h => ⟨h.1, by rw [← hNm]; omega⟩
  have hNp : 1 ≤ N := by have := el_one (m := m) (r := r) hm2 hr1; have := this.2; omega
  refine q_aload_n eX12_coefficient_0 rfl ?_
  refine q_iconst eX12_coefficient_1 ?_
  refine q_putfield eX12_coefficient_2 pf_X12_1 (hK _ (by decide) (by decide)) (by decide) (FT_i rfl) ?_
  rw [hF0]
  by_cases hw0 : which = 0
  · refine q_iload_n eX12_coefficient_5 rfl ?_
    refine q_if_ne (tgt := 16) eX12_coefficient_6 (by decide) (by first | assumption | exact ⟨by omega, by omega⟩) (fun c6 => ?_) (fun c6 => ?_)
    · exact absurd hw0 c6
    · refine q_aload_n eX12_coefficient_9 rfl ?_
      refine q_getfield eX12_coefficient_10 gf_X12_322 (hK _ (by decide) (by decide)) (by decide) (by first | assumption) ?_
      refine q_goto (tgt := 25) eX12_coefficient_13 (by decide) ?_
      refine q_istore_n eX12_coefficient_25 (by decide) rfl ?_
      refine q_aload_n eX12_coefficient_26 rfl ?_
      refine q_iload_n eX12_coefficient_27 rfl ?_
      refine q_i2l eX12_coefficient_28 (by first | assumption | exact ⟨by omega, by omega⟩) ?_
      refine q_lconst (v := 0) eX12_coefficient_29 (by decide +kernel) ?_
      refine q_lconst (v := 1) eX12_coefficient_30 (by decide +kernel) ?_
      refine q_callSP [vJ (which), vJ (0), vJ (1)] (M1 := mX12_isIn) eX12_coefficient_31 mf_X12_isIn lk_X12_206 (mo_isIn (by exact ⟨by omega, by omega⟩) (by exact ⟨by omega, by omega⟩) (by exact ⟨by omega, by omega⟩)) (by decide) (by decide) (by decide) (Nat.le_of_ble_eq_true rfl) rfl ?_
      refine q_if_eq (tgt := 54) eX12_coefficient_34 (by decide) ir_ite (fun c34 => ?_) (fun c34 => ?_)
      · refine q_iconst eX12_coefficient_54 ?_
        refine q_iconst eX12_coefficient_55 ?_
        refine q_right0 eX12_coefficient_56 lk_X12_304 hK ht0 (by decide) (by decide) (by decide) (Nat.le_of_ble_eq_true rfl) ?_
        refine q_if_ne (tgt := 64) eX12_coefficient_59 (by decide) (by first | assumption | exact ⟨by omega, by omega⟩) (fun c59 => ?_) (fun c59 => ?_)
        · exact absurd rfl c59
        · refine q_iconst eX12_coefficient_62 ?_
          refine q_retI eX12_coefficient_63 rfl (by decide) (by decide) ?_
          refine PMP_t ?_ hoF Off.rfl'
          first | rw [if_neg (i0 c34)] | rw [if_pos (i1 c34), if_pos hw0, if_neg (i0 c47)]
      · refine q_iload_n eX12_coefficient_37 rfl ?_
        refine q_i2l eX12_coefficient_38 (by first | assumption | exact ⟨by omega, by omega⟩) ?_
        refine q_ldc2 eX12_coefficient_39 kc_X12_350 ?_
        refine q_iload_n eX12_coefficient_42 rfl ?_
        refine q_i2l eX12_coefficient_43 (by first | assumption | exact ⟨by omega, by omega⟩) ?_
        refine q_callSP [vJ (i), vJ (-1), vJ (dg)] (M1 := mX12_isIn) eX12_coefficient_44 mf_X12_isIn lk_X12_206 (mo_isIn (by exact ⟨by omega, by omega⟩) (by exact ⟨by omega, by omega⟩) (by exact ⟨by omega, by omega⟩)) (by decide) (by decide) (by decide) (Nat.le_of_ble_eq_true rfl) rfl ?_
        refine q_if_eq (tgt := 54) eX12_coefficient_47 (by decide) ir_ite (fun c47 => ?_) (fun c47 => ?_)
        · refine q_iconst eX12_coefficient_54 ?_
          refine q_iconst eX12_coefficient_55 ?_
          refine q_right0 eX12_coefficient_56 lk_X12_304 hK ht0 (by decide) (by decide) (by decide) (Nat.le_of_ble_eq_true rfl) ?_
          refine q_if_ne (tgt := 64) eX12_coefficient_59 (by decide) (by first | assumption | exact ⟨by omega, by omega⟩) (fun c59 => ?_) (fun c59 => ?_)
          · exact absurd rfl c59
          · refine q_iconst eX12_coefficient_62 ?_
            refine q_retI eX12_coefficient_63 rfl (by decide) (by decide) ?_
            refine PMP_t ?_ hoF Off.rfl'
            first | rw [if_neg (i0 c34)] | rw [if_pos (i1 c34), if_pos hw0, if_neg (i0 c47)]
        · refine q_iconst eX12_coefficient_50 ?_
          refine q_goto (tgt := 55) eX12_coefficient_51 (by decide) ?_
          refine q_iconst eX12_coefficient_55 ?_
          refine q_right1 eX12_coefficient_56 lk_X12_304 hK ht0 (by decide) (by decide) (by decide) (Nat.le_of_ble_eq_true rfl) ?_
          refine q_if_ne (tgt := 64) eX12_coefficient_59 (by decide) (by first | assumption | exact ⟨by omega, by omega⟩) (fun c59 => ?_) (fun c59 => ?_)
          · refine q_iload_n eX12_coefficient_64 rfl ?_
            refine q_iconst eX12_coefficient_65 ?_
            refine q_icmp_ne (tgt := 73) eX12_coefficient_66 (by decide) (by first | assumption | exact ⟨by omega, by omega⟩) (by first | assumption | exact ⟨by omega, by omega⟩) (fun c66 => ?_) (fun c66 => ?_)
            · refine q_iload_n eX12_coefficient_73 rfl ?_
              refine q_if_ne (tgt := 86) eX12_coefficient_74 (by decide) (by first | assumption | exact ⟨by omega, by omega⟩) (fun c74 => ?_) (fun c74 => ?_)
              · exact absurd hw0 c74
              · refine q_aload_n eX12_coefficient_77 rfl ?_
                refine q_getfield eX12_coefficient_78 gf_X12_72 (hK _ (by decide) (by decide)) (by decide) (mr_44_36 hX) ?_
                refine q_iload_n eX12_coefficient_81 rfl ?_
                refine q_iald eX12_coefficient_82 (hK _ (by decide) (by decide)) (by have := i1 c47; omega) (by have := i1 c47; omega) ?_
                refine q_goto (tgt := 92) eX12_coefficient_83 (by decide) ?_
                refine q_retI eX12_coefficient_92 rfl (by decide) (by decide) ?_
                refine PMP_r ?_ ht0 hoF Off.rfl'
                rw [if_pos (i1 c34), if_pos hw0, if_pos (i1 c47)]
                first | rw [if_pos c66] | (rw [if_neg c66]; exact congrArg some (h5m _ (by have := i1 c47; omega)).symm)
            · refine q_iload_n eX12_coefficient_69 rfl ?_
              refine q_goto (tgt := 92) eX12_coefficient_70 (by decide) ?_
              refine q_retI eX12_coefficient_92 rfl (by decide) (by decide) ?_
              refine PMP_r ?_ ht0 hoF Off.rfl'
              rw [if_pos (i1 c34), if_pos hw0, if_pos (i1 c47)]
              first | rw [if_pos c66] | (rw [if_neg c66]; exact congrArg some (h5m _ (by have := i1 c47; omega)).symm)
          · exact absurd c59 (by decide)
  · refine q_iload_n eX12_coefficient_5 rfl ?_
    refine q_if_ne (tgt := 16) eX12_coefficient_6 (by decide) (by first | assumption | exact ⟨by omega, by omega⟩) (fun c6 => ?_) (fun c6 => ?_)
    · refine q_aload_n eX12_coefficient_16 rfl ?_
      refine q_getfield eX12_coefficient_17 gf_X12_69 (hK _ (by decide) (by decide)) (by decide) (by first | assumption) ?_
      refine q_aload_n eX12_coefficient_20 rfl ?_
      refine q_getfield eX12_coefficient_21 gf_X12_322 (hK _ (by decide) (by decide)) (by decide) (by first | assumption) ?_
      refine q_isub eX12_coefficient_24 ?_
      refine q_istore_n eX12_coefficient_25 (by decide) rfl ?_
      refine q_aload_n eX12_coefficient_26 rfl ?_
      refine q_iload_n eX12_coefficient_27 rfl ?_
      refine q_i2l eX12_coefficient_28 (by first | assumption | exact ⟨by omega, by omega⟩) ?_
      refine q_lconst (v := 0) eX12_coefficient_29 (by decide +kernel) ?_
      refine q_lconst (v := 1) eX12_coefficient_30 (by decide +kernel) ?_
      refine q_callSP [vJ (which), vJ (0), vJ (1)] (M1 := mX12_isIn) eX12_coefficient_31 mf_X12_isIn lk_X12_206 (mo_isIn (by exact ⟨by omega, by omega⟩) (by exact ⟨by omega, by omega⟩) (by exact ⟨by omega, by omega⟩)) (by decide) (by decide) (by decide) (Nat.le_of_ble_eq_true rfl) rfl ?_
      refine q_if_eq (tgt := 54) eX12_coefficient_34 (by decide) ir_ite (fun c34 => ?_) (fun c34 => ?_)
      · refine q_iconst eX12_coefficient_54 ?_
        refine q_iconst eX12_coefficient_55 ?_
        refine q_right0 eX12_coefficient_56 lk_X12_304 hK ht0 (by decide) (by decide) (by decide) (Nat.le_of_ble_eq_true rfl) ?_
        refine q_if_ne (tgt := 64) eX12_coefficient_59 (by decide) (by first | assumption | exact ⟨by omega, by omega⟩) (fun c59 => ?_) (fun c59 => ?_)
        · exact absurd rfl c59
        · refine q_iconst eX12_coefficient_62 ?_
          refine q_retI eX12_coefficient_63 rfl (by decide) (by decide) ?_
          refine PMP_t ?_ hoF Off.rfl'
          first | rw [if_neg (i0 c34)] | rw [if_pos (i1 c34), if_neg hw0, if_neg (i0 c47)]
      · refine q_iload_n eX12_coefficient_37 rfl ?_
        refine q_i2l eX12_coefficient_38 (by first | assumption | exact ⟨by omega, by omega⟩) ?_
        refine q_ldc2 eX12_coefficient_39 kc_X12_350 ?_
        refine q_iload_n eX12_coefficient_42 rfl ?_
        refine q_i2l eX12_coefficient_43 (by first | assumption | exact ⟨by omega, by omega⟩) ?_
        refine q_callSP [vJ (i), vJ (-1), vJ ((n : Int) - dg)] (M1 := mX12_isIn) eX12_coefficient_44 mf_X12_isIn lk_X12_206 (mo_isIn (by exact ⟨by omega, by omega⟩) (by exact ⟨by omega, by omega⟩) (by exact ⟨by omega, by omega⟩)) (by decide) (by decide) (by decide) (Nat.le_of_ble_eq_true rfl) rfl ?_
        refine q_if_eq (tgt := 54) eX12_coefficient_47 (by decide) ir_ite (fun c47 => ?_) (fun c47 => ?_)
        · refine q_iconst eX12_coefficient_54 ?_
          refine q_iconst eX12_coefficient_55 ?_
          refine q_right0 eX12_coefficient_56 lk_X12_304 hK ht0 (by decide) (by decide) (by decide) (Nat.le_of_ble_eq_true rfl) ?_
          refine q_if_ne (tgt := 64) eX12_coefficient_59 (by decide) (by first | assumption | exact ⟨by omega, by omega⟩) (fun c59 => ?_) (fun c59 => ?_)
          · exact absurd rfl c59
          · refine q_iconst eX12_coefficient_62 ?_
            refine q_retI eX12_coefficient_63 rfl (by decide) (by decide) ?_
            refine PMP_t ?_ hoF Off.rfl'
            first | rw [if_neg (i0 c34)] | rw [if_pos (i1 c34), if_neg hw0, if_neg (i0 c47)]
        · refine q_iconst eX12_coefficient_50 ?_
          refine q_goto (tgt := 55) eX12_coefficient_51 (by decide) ?_
          refine q_iconst eX12_coefficient_55 ?_
          refine q_right1 eX12_coefficient_56 lk_X12_304 hK ht0 (by decide) (by decide) (by decide) (Nat.le_of_ble_eq_true rfl) ?_
          refine q_if_ne (tgt := 64) eX12_coefficient_59 (by decide) (by first | assumption | exact ⟨by omega, by omega⟩) (fun c59 => ?_) (fun c59 => ?_)
          · refine q_iload_n eX12_coefficient_64 rfl ?_
            refine q_iconst eX12_coefficient_65 ?_
            refine q_icmp_ne (tgt := 73) eX12_coefficient_66 (by decide) (by first | assumption | exact ⟨by omega, by omega⟩) (by first | assumption | exact ⟨by omega, by omega⟩) (fun c66 => ?_) (fun c66 => ?_)
            · refine q_iload_n eX12_coefficient_73 rfl ?_
              refine q_if_ne (tgt := 86) eX12_coefficient_74 (by decide) (by first | assumption | exact ⟨by omega, by omega⟩) (fun c74 => ?_) (fun c74 => ?_)
              · refine q_aload_n eX12_coefficient_86 rfl ?_
                refine q_getfield eX12_coefficient_87 gf_X12_75 (hK _ (by decide) (by decide)) (by decide) (mr_44_37 hX) ?_
                refine q_iload_n eX12_coefficient_90 rfl ?_
                refine q_iald eX12_coefficient_91 (hK _ (by decide) (by decide)) (by have := i1 c47; omega) (by have := i1 c47; omega) ?_
                refine q_retI eX12_coefficient_92 rfl (by decide) (by decide) ?_
                refine PMP_r ?_ ht0 hoF Off.rfl'
                rw [if_pos (i1 c34), if_neg hw0, if_pos (i1 c47)]
                first | rw [if_pos c66] | (rw [if_neg c66]; exact congrArg some (h5c _ (by have := i1 c47; omega)).symm)
              · exact absurd c74 hw0
            · refine q_iload_n eX12_coefficient_69 rfl ?_
              refine q_goto (tgt := 92) eX12_coefficient_70 (by decide) ?_
              refine q_retI eX12_coefficient_92 rfl (by decide) (by decide) ?_
              refine PMP_r ?_ ht0 hoF Off.rfl'
              rw [if_pos (i1 c34), if_neg hw0, if_pos (i1 c47)]
              first | rw [if_pos c66] | (rw [if_neg c66]; exact congrArg some (h5c _ (by have := i1 c47; omega)).symm)
          · exact absurd c59 (by decide)
    · exact absurd c6 hw0
set_option maxRecDepth 20000 in
theorem mo_fault {p e r q N : Nat} {m : Int} {f : Nat → Int} {g : Int} {rt lg pl_ tp mk ck : Nat → Int} {len n dg : Nat} {fp set : Int} {w : Option (Nat → Int)} {S : List Int} {F : HF} {A : HA} {al : AL} (hK : KM al) (h0 : MI p e r q N m f g rt lg pl_ len tp fp n set dg mk ck w S F A) : QE 0 0 0 mX12_fault [vA 44] F A al (PMP (some fp) F A al) := by
  refine QE.mk (by decide +kernel) (Nat.le_of_ble_eq_true rfl) ?_
  have h := h0.t0
  generalize hF0 : up2 F 44 0 (vI 0) = F1 at h
  have ht0 : F1 44 0 = vI 0 := by rw [← hF0]; exact up2_eq _ _ _ _
  have hoF : FOff SCF F F1 := by rw [← hF0]; exact FOff.up (by decide)
  obtain ⟨⟨hX, hT, h3r, hMH⟩, h2, ⟨hl0, hl1, hta⟩, h4, ⟨⟨h51, h52, h53⟩, h5m, h5c, ⟨hn1, hn63, hnq, hs0, hs1⟩, hdn⟩, h7, ⟨⟨h81, h82⟩, h83⟩⟩ := id h
  obtain ⟨hG, hp, he, hq, hN, hg, ⟨hp2, hp7, he1, he4, hme, hqe, hq3, hNm, hgE⟩, hP, hL, hR⟩ := id hT
  obtain ⟨hm, hr, hf, hm2, hr1, hr6, hN4⟩ := id hG
  have hm4 := hG.m4
  have hq2 := hT.q2
  have hN9 : (N : Int) ≤ 4096 := by rw [hNm]; exact hN4
  have hE : ∀ x : Int, 0 ≤ x ∧ x ≤ (N : Int) - 1 → El m r x := fun x h => ⟨h.1, by rw [← hNm]; omega⟩
  have hNp : 1 ≤ N := by have := el_one (m := m) (r := r) hm2 hr1; have := this.2; omega
  refine q_aload_n eX12_fault_0 rfl ?_
  refine q_iconst eX12_fault_1 ?_
  refine q_putfield eX12_fault_2 pf_X12_1 (hK _ (by decide) (by decide)) (by decide) (FT_i rfl) ?_
  rw [hF0]
  refine q_aload_n eX12_fault_5 rfl ?_
  refine q_getfield eX12_fault_6 gf_X12_66 (hK _ (by decide) (by decide)) (by decide) (by first | assumption | exact h4.1) ?_
  refine q_retI eX12_fault_9 rfl (by decide) (by decide) ?_
  exact PMP_r rfl ht0 hoF Off.rfl'
set_option maxRecDepth 20000 in
theorem mo_said {i : Int} {p e r q N : Nat} {m : Int} {f : Nat → Int} {g : Int} {rt lg pl_ tp mk ck : Nat → Int} {len n dg : Nat} {fp set : Int} {w : Option (Nat → Int)} {S : List Int} {F : HF} {A : HA} {al : AL} (hK : KM al) (h0 : MI p e r q N m f g rt lg pl_ len tp fp n set dg mk ck w S F A) (hi : InR i) : QE 2 0 0 mX12_said [vA 44, vI i] F A al (PMP (some (if 0 ≤ i ∧ i ≤ (S.length : Int) - 1 then S.getD i.toNat 0 else -1)) F A al) := by
  refine QE.mk (by decide +kernel) (Nat.le_of_ble_eq_true rfl) ?_
  have hi_1 := hi.1
  have hi_2 := hi.2
  have h := h0.t0
  generalize hF0 : up2 F 44 0 (vI 0) = F1 at h
  have ht0 : F1 44 0 = vI 0 := by rw [← hF0]; exact up2_eq _ _ _ _
  have hoF : FOff SCF F F1 := by rw [← hF0]; exact FOff.up (by decide)
  obtain ⟨⟨hX, hT, h3r, hMH⟩, h2, ⟨hl0, hl1, hta⟩, h4, ⟨⟨h51, h52, h53⟩, h5m, h5c, ⟨hn1, hn63, hnq, hs0, hs1⟩, hdn⟩, h7, ⟨⟨h81, h82⟩, h83⟩⟩ := id h
  obtain ⟨hG, hp, he, hq, hN, hg, ⟨hp2, hp7, he1, he4, hme, hqe, hq3, hNm, hgE⟩, hP, hL, hR⟩ := id hT
  obtain ⟨hm, hr, hf, hm2, hr1, hr6, hN4⟩ := id hG
  have hm4 := hG.m4
  have hq2 := hT.q2
  have hN9 : (N : Int) ≤ 4096 := by rw [hNm]; exact hN4
  have hE : ∀ x : Int, 0 ≤ x ∧ x ≤ (N : Int) - 1 → El m r x := fun x h => ⟨h.1, by rw [← hNm]; omega⟩
  have hNp : 1 ≤ N := by have := el_one (m := m) (r := r) hm2 hr1; have := this.2; omega
  refine q_aload_n eX12_said_0 rfl ?_
  refine q_iconst eX12_said_1 ?_
  refine q_putfield eX12_said_2 pf_X12_1 (hK _ (by decide) (by decide)) (by decide) (FT_i rfl) ?_
  rw [hF0]
  refine q_iload_n eX12_said_5 rfl ?_
  refine q_i2l eX12_said_6 (by first | assumption | exact ⟨by omega, by omega⟩) ?_
  refine q_lconst (v := 0) eX12_said_7 (by decide +kernel) ?_
  refine q_aload_n eX12_said_8 rfl ?_
  refine q_getfield eX12_said_9 gf_X12_437 (hK _ (by decide) (by decide)) (by decide) (by first | assumption) ?_
  refine q_iconst eX12_said_12 ?_
  refine q_isub eX12_said_13 ?_
  refine q_i2l eX12_said_14 (by first | assumption | exact ⟨by omega, by omega⟩) ?_
  refine q_callSP [vJ (i), vJ (0), vJ ((S.length : Int) - 1)] (M1 := mX12_isIn) eX12_said_15 mf_X12_isIn lk_X12_206 (mo_isIn (by exact ⟨by omega, by omega⟩) (by exact ⟨by omega, by omega⟩) (by exact ⟨by omega, by omega⟩)) (by decide) (by decide) (by decide) (Nat.le_of_ble_eq_true rfl) rfl ?_
  refine q_if_eq (tgt := 30) eX12_said_18 (by decide) ir_ite (fun c18 => ?_) (fun c18 => ?_)
  · refine q_iconst eX12_said_30 ?_
    refine q_retI eX12_said_31 rfl (by decide) (by decide) ?_
    refine PMP_r ?_ ht0 hoF Off.rfl'
    first
    | (rw [if_pos hi18]; exact congrArg some (h82 t (by omega)).symm)
    | (rw [if_neg (i0 c18)])
  · have hi18 := i1 c18
    obtain ⟨t, rfl⟩ : ∃ t : Nat, i = t := ⟨i.toNat, by omega⟩
    refine q_aload_n eX12_said_21 rfl ?_
    refine q_getfield eX12_said_22 gf_X12_99 (hK _ (by decide) (by decide)) (by decide) (mr_44_51 hX) ?_
    refine q_iload_n eX12_said_25 rfl ?_
    refine q_bald eX12_said_26 (hK _ (by decide) (by decide)) (by omega) (by omega) ?_
    refine q_goto (tgt := 31) eX12_said_27 (by decide) ?_
    refine q_retI eX12_said_31 rfl (by decide) (by decide) ?_
    refine PMP_r ?_ ht0 hoF Off.rfl'
    first
    | (rw [if_pos hi18]; exact congrArg some (h82 t (by omega)).symm)
    | (rw [if_neg (i0 c18)])
def numM (n : Nat) (w : Option (Nat → Int)) (i : Int) : Option Int := match w with
  | none => none
  | some bt => if 0 ≤ i ∧ i ≤ (n : Int) - 1 then some (bt i.toNat) else none
set_option maxRecDepth 20000 in
theorem mo_number {i : Int} {p e r q N : Nat} {m : Int} {f : Nat → Int} {g : Int} {rt lg pl_ tp mk ck : Nat → Int} {len n dg : Nat} {fp set : Int} {w : Option (Nat → Int)} {S : List Int} {F : HF} {A : HA} {al : AL} (hK : KM al) (h0 : MI p e r q N m f g rt lg pl_ len tp fp n set dg mk ck w S F A) (hi : InR i) : QE 2 0 0 mX12_number [vA 44, vI i] F A al (PMP (numM n w i) F A al) := by
  refine QE.mk (by decide +kernel) (Nat.le_of_ble_eq_true rfl) ?_
  have hi_1 := hi.1
  have hi_2 := hi.2
  have h := h0.t0
  generalize hF0 : up2 F 44 0 (vI 0) = F1 at h
  have ht0 : F1 44 0 = vI 0 := by rw [← hF0]; exact up2_eq _ _ _ _
  have hoF : FOff SCF F F1 := by rw [← hF0]; exact FOff.up (by decide)
  obtain ⟨⟨hX, hT, h3r, hMH⟩, h2, ⟨hl0, hl1, hta⟩, h4, ⟨⟨h51, h52, h53⟩, h5m, h5c, ⟨hn1, hn63, hnq, hs0, hs1⟩, hdn⟩, h7, ⟨⟨h81, h82⟩, h83⟩⟩ := id h
  obtain ⟨hG, hp, he, hq, hN, hg, ⟨hp2, hp7, he1, he4, hme, hqe, hq3, hNm, hgE⟩, hP, hL, hR⟩ := id hT
  obtain ⟨hm, hr, hf, hm2, hr1, hr6, hN4⟩ := id hG
  have hm4 := hG.m4
  have hq2 := hT.q2
  have hN9 : (N : Int) ≤ 4096 := by rw [hNm]; exact hN4
  have hE : ∀ x : Int, 0 ≤ x ∧ x ≤ (N : Int) - 1 → El m r x := fun x h => ⟨h.1, by rw [← hNm]; omega⟩
  have hNp : 1 ≤ N := by have := el_one (m := m) (r := r) hm2 hr1; have := this.2; omega
  refine q_aload_n eX12_number_0 rfl ?_
  refine q_iconst eX12_number_1 ?_
  refine q_putfield eX12_number_2 pf_X12_1 (hK _ (by decide) (by decide)) (by decide) (FT_i rfl) ?_
  rw [hF0]
  cases w with
  | none =>
    have hw : F1 44 45 = vI 0 := h7
    refine q_aload_n eX12_number_5 rfl ?_
    refine q_aload_n eX12_number_6 rfl ?_
    refine q_getfield eX12_number_7 gf_X12_160 (hK _ (by decide) (by decide)) (by decide) (by first | assumption) ?_
    refine q_if_eq (tgt := 33) eX12_number_10 (by decide) (by first | assumption | exact ⟨by omega, by omega⟩) (fun c10 => ?_) (fun c10 => ?_)
    · refine q_iconst eX12_number_33 ?_
      refine q_iconst eX12_number_34 ?_
      refine q_right0 eX12_number_35 lk_X12_304 hK ht0 (by decide) (by decide) (by decide) (Nat.le_of_ble_eq_true rfl) ?_
      refine q_if_eq (tgt := 50) eX12_number_38 (by decide) (by first | assumption | exact ⟨by omega, by omega⟩) (fun c38 => ?_) (fun c38 => ?_)
      · refine q_iconst eX12_number_50 ?_
        refine q_retI eX12_number_51 rfl (by decide) (by decide) ?_
        exact PMP_t rfl hoF Off.rfl'
      · exact absurd rfl c38
    · exact absurd rfl c10
  | some bt =>
    obtain ⟨hw, hbt⟩ := id h7
    refine q_aload_n eX12_number_5 rfl ?_
    refine q_aload_n eX12_number_6 rfl ?_
    refine q_getfield eX12_number_7 gf_X12_160 (hK _ (by decide) (by decide)) (by decide) (by first | assumption) ?_
    refine q_if_eq (tgt := 33) eX12_number_10 (by decide) (by first | assumption | exact ⟨by omega, by omega⟩) (fun c10 => ?_) (fun c10 => ?_)
    · exact absurd c10 (by decide)
    · refine q_iload_n eX12_number_13 rfl ?_
      refine q_i2l eX12_number_14 (by first | assumption | exact ⟨by omega, by omega⟩) ?_
      refine q_lconst (v := 0) eX12_number_15 (by decide +kernel) ?_
      refine q_aload_n eX12_number_16 rfl ?_
      refine q_getfield eX12_number_17 gf_X12_69 (hK _ (by decide) (by decide)) (by decide) (by first | assumption) ?_
      refine q_iconst eX12_number_20 ?_
      refine q_isub eX12_number_21 ?_
      refine q_i2l eX12_number_22 (by first | assumption | exact ⟨by omega, by omega⟩) ?_
      refine q_callSP [vJ (i), vJ (0), vJ ((n : Int) - 1)] (M1 := mX12_isIn) eX12_number_23 mf_X12_isIn lk_X12_206 (mo_isIn (by exact ⟨by omega, by omega⟩) (by exact ⟨by omega, by omega⟩) (by exact ⟨by omega, by omega⟩)) (by decide) (by decide) (by decide) (Nat.le_of_ble_eq_true rfl) rfl ?_
      refine q_if_eq (tgt := 33) eX12_number_26 (by decide) ir_ite (fun c26 => ?_) (fun c26 => ?_)
      · refine q_iconst eX12_number_33 ?_
        refine q_iconst eX12_number_34 ?_
        refine q_right0 eX12_number_35 lk_X12_304 hK ht0 (by decide) (by decide) (by decide) (Nat.le_of_ble_eq_true rfl) ?_
        refine q_if_eq (tgt := 50) eX12_number_38 (by decide) (by first | assumption | exact ⟨by omega, by omega⟩) (fun c38 => ?_) (fun c38 => ?_)
        · refine q_iconst eX12_number_50 ?_
          refine q_retI eX12_number_51 rfl (by decide) (by decide) ?_
          first
          | (refine PMP_t ?_ hoF Off.rfl'
             show (if 0 ≤ i ∧ i ≤ (n : Int) - 1 then some (bt i.toNat) else none) = none
             rw [if_neg (i0 c26)])
          | (refine PMP_r ?_ ht0 hoF Off.rfl'
             show (if 0 ≤ (t : Int) ∧ (t : Int) ≤ (n : Int) - 1 then some (bt t) else none) = some (A 62 t)
             rw [if_pos hi26, (hbt t (by omega)).1])
        · exact absurd rfl c38
      · refine q_iconst eX12_number_29 ?_
        refine q_goto (tgt := 34) eX12_number_30 (by decide) ?_
        refine q_iconst eX12_number_34 ?_
        refine q_right1 eX12_number_35 lk_X12_304 hK ht0 (by decide) (by decide) (by decide) (Nat.le_of_ble_eq_true rfl) ?_
        refine q_if_eq (tgt := 50) eX12_number_38 (by decide) (by first | assumption | exact ⟨by omega, by omega⟩) (fun c38 => ?_) (fun c38 => ?_)
        · exact absurd c38 (by decide)
        · have hi26 := i1 c26
          obtain ⟨t, rfl⟩ : ∃ t : Nat, i = t := ⟨i.toNat, by omega⟩
          refine q_aload_n eX12_number_41 rfl ?_
          refine q_getfield eX12_number_42 gf_X12_90 (hK _ (by decide) (by decide)) (by decide) (mr_44_44 hX) ?_
          refine q_iload_n eX12_number_45 rfl ?_
          refine q_iald eX12_number_46 (hK _ (by decide) (by decide)) (by omega) (by omega) ?_
          refine q_goto (tgt := 51) eX12_number_47 (by decide) ?_
          refine q_retI eX12_number_51 rfl (by decide) (by decide) ?_
          first
          | (refine PMP_t ?_ hoF Off.rfl'
             show (if 0 ≤ i ∧ i ≤ (n : Int) - 1 then some (bt i.toNat) else none) = none
             rw [if_neg (i0 c26)])
          | (refine PMP_r ?_ ht0 hoF Off.rfl'
             show (if 0 ≤ (t : Int) ∧ (t : Int) ≤ (n : Int) - 1 then some (bt t) else none) = some (A 62 t)
             rw [if_pos hi26, (hbt t (by omega)).1])
