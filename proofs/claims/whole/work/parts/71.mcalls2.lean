/-! the model: element, of, digit, whole, sum -/
def elmM (p r q N : Nat) (m : Int) (f : Nat → Int) (how x y : Int) : Option Int :=
  if (0 ≤ how ∧ how ≤ 3) ∧ (0 ≤ x ∧ x ≤ (N : Int) - 1) ∧ (0 ≤ y ∧ y ≤ (N : Int) - 1) ∧ (how < 3 ∨ low p r m y ≠ 0) then some (if how = 0 then pl m r x y else if how = 1 then mi m r x y else if how = 2 then tm m r f x y else tm m r f x (pw m r f y (umE N q - 1))) else none
set_option maxRecDepth 20000 in
theorem mo_element {how x y : Int} {p e r q N : Nat} {m : Int} {f : Nat → Int} {g : Int} {rt lg pl_ tp mk ck : Nat → Int} {len n dg : Nat} {fp set : Int} {w : Option (Nat → Int)} {S : List Int} {F : HF} {A : HA} {al : AL} (hK : KM al) (h0 : MI p e r q N m f g rt lg pl_ len tp fp n set dg mk ck w S F A) (hh : InR how) (hx : InR x) (hy : InR y) : QE 5 0 0 mX12_element [vA 44, vI how, vI x, vI y] F A al (PMP (elmM p r q N m f how x y) F A al) := by
  refine QE.mk (by decide +kernel) (Nat.le_of_ble_eq_true rfl) ?_
  have hh_1 := hh.1
  have hh_2 := hh.2
  have hx_1 := hx.1
  have hx_2 := hx.2
  have hy_1 := hy.1
  have hy_2 := hy.2
  have h := h0.t0
  generalize hF0 : up2 F 44 0 (vI 0) = F1 at h
  have ht0 : F1 44 0 = vI 0 := by rw [← hF0]; exact up2_eq _ _ _ _
  have hoF : FOff SCF F F1 := by rw [← hF0]; exact FOff.up (by decide)
  obtain ⟨⟨hX, hT, h3r, hMH⟩, h2, ⟨hl0, hl1, hta⟩, h4, ⟨⟨h51, h52, h53⟩, h5m, h5c, ⟨hn1, hn63, hnq, hs0, hs1⟩, hdn⟩, h7, ⟨⟨h81, h82⟩, h83⟩⟩ := id h
  obtain ⟨hG, hp, he, hq, hN, hg, ⟨hp2, hp7, he1, he4, hme, hqe, hq3, hNm, hgE⟩, hP, hL, hR⟩ := id hT
  obtain ⟨hm, hr, hf, hm2, hr1, hr6, hN4⟩ := id hG
  have hm4 := hG.m4
  have hq2 := hT.q2
  have hN9 : (N : Int) ≤ 4096 := by rw [hNm]; exact hN4
  have hE : ∀ x : Int, 0 ≤ x ∧ x ≤ (N : Int) - 1 → El m r x := fun x h => ⟨h.1, by rw [← hNm]; omega⟩
  have hNp : 1 ≤ N := by have := el_one (m := m) (r := r) hm2 hr1; have := this.2; omega
  refine q_aload_n eX12_element_0 rfl ?_
  refine q_iconst eX12_element_1 ?_
  refine q_putfield eX12_element_2 pf_X12_1 (hK _ (by decide) (by decide)) (by decide) (FT_i rfl) ?_
  rw [hF0]
  refine q_aload_n eX12_element_5 rfl ?_
  refine q_iload_n eX12_element_6 rfl ?_
  refine q_i2l eX12_element_7 (by first | assumption | exact ⟨by omega, by omega⟩) ?_
  refine q_lconst (v := 0) eX12_element_8 (by decide +kernel) ?_
  refine q_ldc2 eX12_element_9 kc_X12_331 ?_
  refine q_callSP [vJ (how), vJ (0), vJ (3)] (M1 := mX12_isIn) eX12_element_12 mf_X12_isIn lk_X12_206 (mo_isIn (by exact ⟨by omega, by omega⟩) (by exact ⟨by omega, by omega⟩) (by exact ⟨by omega, by omega⟩)) (by decide) (by decide) (by decide) (Nat.le_of_ble_eq_true rfl) rfl ?_
  refine q_if_eq (tgt := 51) eX12_element_15 (by decide) ir_ite (fun c15 => ?_) (fun c15 => ?_)
  · refine q_iconst eX12_element_51 ?_
    refine q_iconst eX12_element_52 ?_
    refine q_right0 eX12_element_53 lk_X12_304 hK ht0 (by decide) (by decide) (by decide) (Nat.le_of_ble_eq_true rfl) ?_
    refine q_if_ne (tgt := 61) eX12_element_56 (by decide) (by first | assumption | exact ⟨by omega, by omega⟩) (fun c56 => ?_) (fun c56 => ?_)
    · exact absurd rfl c56
    · refine q_iconst eX12_element_59 ?_
      refine q_retI eX12_element_60 rfl (by decide) (by decide) ?_
      refine PMP_t ?_ hoF Off.rfl'
      unfold elmM
      first | rw [if_neg (fun hc => i0 c15 hc.1)] | rw [if_neg (fun hc => i0 c23 hc.2.1)] | rw [if_neg (fun hc => i0 c31 hc.2.2.1)] | rw [if_neg (by
          rintro ⟨-, -, -, hc | hc⟩
          · omega
          · exact hc (i0n c44))]
  · refine q_aload_n eX12_element_18 rfl ?_
    refine q_iload_n eX12_element_19 rfl ?_
    refine q_callVP [vI x] (M1 := mX12_isElement) eX12_element_20 mf_X12_isElement lk_X12_311 (hK _ (by decide) (by decide)) (mo_isElement hK hN hNp (by omega) hx) (by decide) (by decide) (by decide) (Nat.le_of_ble_eq_true rfl) rfl ?_
    refine q_if_eq (tgt := 51) eX12_element_23 (by decide) ir_ite (fun c23 => ?_) (fun c23 => ?_)
    · refine q_iconst eX12_element_51 ?_
      refine q_iconst eX12_element_52 ?_
      refine q_right0 eX12_element_53 lk_X12_304 hK ht0 (by decide) (by decide) (by decide) (Nat.le_of_ble_eq_true rfl) ?_
      refine q_if_ne (tgt := 61) eX12_element_56 (by decide) (by first | assumption | exact ⟨by omega, by omega⟩) (fun c56 => ?_) (fun c56 => ?_)
      · exact absurd rfl c56
      · refine q_iconst eX12_element_59 ?_
        refine q_retI eX12_element_60 rfl (by decide) (by decide) ?_
        refine PMP_t ?_ hoF Off.rfl'
        unfold elmM
        first | rw [if_neg (fun hc => i0 c15 hc.1)] | rw [if_neg (fun hc => i0 c23 hc.2.1)] | rw [if_neg (fun hc => i0 c31 hc.2.2.1)] | rw [if_neg (by
            rintro ⟨-, -, -, hc | hc⟩
            · omega
            · exact hc (i0n c44))]
    · refine q_aload_n eX12_element_26 rfl ?_
      refine q_iload_n eX12_element_27 rfl ?_
      refine q_callVP [vI y] (M1 := mX12_isElement) eX12_element_28 mf_X12_isElement lk_X12_311 (hK _ (by decide) (by decide)) (mo_isElement hK hN hNp (by omega) hy) (by decide) (by decide) (by decide) (Nat.le_of_ble_eq_true rfl) rfl ?_
      refine q_if_eq (tgt := 51) eX12_element_31 (by decide) ir_ite (fun c31 => ?_) (fun c31 => ?_)
      · refine q_iconst eX12_element_51 ?_
        refine q_iconst eX12_element_52 ?_
        refine q_right0 eX12_element_53 lk_X12_304 hK ht0 (by decide) (by decide) (by decide) (Nat.le_of_ble_eq_true rfl) ?_
        refine q_if_ne (tgt := 61) eX12_element_56 (by decide) (by first | assumption | exact ⟨by omega, by omega⟩) (fun c56 => ?_) (fun c56 => ?_)
        · exact absurd rfl c56
        · refine q_iconst eX12_element_59 ?_
          refine q_retI eX12_element_60 rfl (by decide) (by decide) ?_
          refine PMP_t ?_ hoF Off.rfl'
          unfold elmM
          first | rw [if_neg (fun hc => i0 c15 hc.1)] | rw [if_neg (fun hc => i0 c23 hc.2.1)] | rw [if_neg (fun hc => i0 c31 hc.2.2.1)] | rw [if_neg (by
              rintro ⟨-, -, -, hc | hc⟩
              · omega
              · exact hc (i0n c44))]
      · refine q_iload_n eX12_element_34 rfl ?_
        refine q_iconst eX12_element_35 ?_
        refine q_icmp_lt (tgt := 47) eX12_element_36 (by decide) (by first | assumption | exact ⟨by omega, by omega⟩) (by first | assumption | exact ⟨by omega, by omega⟩) (fun c36 => ?_) (fun c36 => ?_)
        · refine q_iconst eX12_element_47 ?_
          refine q_goto (tgt := 52) eX12_element_48 (by decide) ?_
          refine q_iconst eX12_element_52 ?_
          refine q_right1 eX12_element_53 lk_X12_304 hK ht0 (by decide) (by decide) (by decide) (Nat.le_of_ble_eq_true rfl) ?_
          refine q_if_ne (tgt := 61) eX12_element_56 (by decide) (by first | assumption | exact ⟨by omega, by omega⟩) (fun c56 => ?_) (fun c56 => ?_)
          · refine q_iload_n eX12_element_61 rfl ?_
            by_cases w0 : how = 0
            · refine q_tableIn (off := 26) (tgt := 88) eX12_element_62 hh (by omega) (by omega) (by rw [w0]; decide) (by decide) ?_
              subst w0
              refine q_aload_n eX12_element_88 rfl ?_
              refine q_iload_n eX12_element_89 rfl ?_
              refine q_iload_n eX12_element_90 rfl ?_
              refine q_iconst eX12_element_91 ?_
              refine q_callVQ [vI x, vI y, vI 1] (M1 := mX12_added) eX12_element_92 mf_X12_added lk_X12_175 (hK _ (by decide) (by decide)) (mo_plus hK hX hG (hE x (i1 c23)) (hE y (i1 c31))) (by decide) (by decide) (by decide) (Nat.le_of_ble_eq_true rfl) rfl (fun A3 h3 => ?_)
              refine q_retI eX12_element_95 rfl (by decide) (by decide) ?_
              refine PMP_r ?_ ht0 hoF (h3.mono (by decide))
              unfold elmM
              rw [if_pos ⟨i1 c15, i1 c23, i1 c31, by first | exact Or.inl (by omega) | exact Or.inr (i1n c44)⟩]
              rfl
            by_cases w1 : how = 1
            · refine q_tableIn (off := 34) (tgt := 96) eX12_element_62 hh (by omega) (by omega) (by rw [w1]; decide) (by decide) ?_
              subst w1
              refine q_aload_n eX12_element_96 rfl ?_
              refine q_iload_n eX12_element_97 rfl ?_
              refine q_iload_n eX12_element_98 rfl ?_
              refine q_iconst eX12_element_99 ?_
              refine q_callVQ [vI x, vI y, vI (-1)] (M1 := mX12_added) eX12_element_100 mf_X12_added lk_X12_175 (hK _ (by decide) (by decide)) (mo_minus hK hX hG (hE x (i1 c23)) (hE y (i1 c31))) (by decide) (by decide) (by decide) (Nat.le_of_ble_eq_true rfl) rfl (fun A3 h3 => ?_)
              refine q_retI eX12_element_103 rfl (by decide) (by decide) ?_
              refine PMP_r ?_ ht0 hoF (h3.mono (by decide))
              unfold elmM
              rw [if_pos ⟨i1 c15, i1 c23, i1 c31, by first | exact Or.inl (by omega) | exact Or.inr (i1n c44)⟩]
              rfl
            by_cases w2 : how = 2
            · refine q_tableIn (off := 42) (tgt := 104) eX12_element_62 hh (by omega) (by omega) (by rw [w2]; decide) (by decide) ?_
              subst w2
              refine q_aload_n eX12_element_104 rfl ?_
              refine q_iload_n eX12_element_105 rfl ?_
              refine q_iload_n eX12_element_106 rfl ?_
              refine q_callVQ [vI x, vI y] (M1 := mX12_times) eX12_element_107 mf_X12_times lk_X12_132 (hK _ (by decide) (by decide)) (mo_times hK hX hG (hE x (i1 c23)) (hE y (i1 c31))) (by decide) (by decide) (by decide) (Nat.le_of_ble_eq_true rfl) rfl (fun A3 h3 => ?_)
              refine q_retI eX12_element_110 rfl (by decide) (by decide) ?_
              refine PMP_r ?_ ht0 hoF (h3.mono (by decide))
              unfold elmM
              rw [if_pos ⟨i1 c15, i1 c23, i1 c31, by first | exact Or.inl (by omega) | exact Or.inr (i1n c44)⟩]
              rfl
            refine q_tableOut (tgt := 111) eX12_element_62 hh (by omega) (by decide) ?_
            refine q_aload_n eX12_element_111 rfl ?_
            refine q_iload_n eX12_element_112 rfl ?_
            refine q_aload_n eX12_element_113 rfl ?_
            refine q_iload_n eX12_element_114 rfl ?_
            refine q_callVQ [vI y] (M1 := mX12_inverse) eX12_element_115 mf_X12_inverse lk_X12_293 (hK _ (by decide) (by decide)) (mo_inverse hK hX hT (hE y (i1 c31)) hMH.1) (by decide) (by decide) (by decide) (Nat.le_of_ble_eq_true rfl) rfl (fun A3 h3 => ?_)
            refine q_callVQ [vI x, vI (pw m r f y (umE N q - 1))] (M1 := mX12_times) eX12_element_118 mf_X12_times lk_X12_132 (hK _ (by decide) (by decide)) (mo_times hK hX (hG.off h3 (by decide)) (hE x (i1 c23)) (pw_el hm2 hr1 y _)) (by decide) (by decide) (by decide) (Nat.le_of_ble_eq_true rfl) rfl (fun A4 h4 => ?_)
            refine q_retI eX12_element_121 rfl (by decide) (by decide) ?_
            refine PMP_r ?_ ht0 hoF ((h3.mono (by decide)).trans (h4.mono (by decide)))
            unfold elmM
            rw [if_pos ⟨i1 c15, i1 c23, i1 c31, by first | exact Or.inl (by omega) | exact Or.inr (i1n c44)⟩]
            rw [if_neg (by omega), if_neg (by omega), if_neg (by omega)]
          · exact absurd c56 (by decide)
        · refine q_aload_n eX12_element_39 rfl ?_
          refine q_iload_n eX12_element_40 rfl ?_
          refine q_callVP [vI y] (M1 := mX12_isUnit) eX12_element_41 mf_X12_isUnit lk_X12_290 (hK _ (by decide) (by decide)) (mo_isUnit hK hX hT (hE y (i1 c31))) (by decide) (by decide) (by decide) (Nat.le_of_ble_eq_true rfl) rfl ?_
          refine q_if_eq (tgt := 51) eX12_element_44 (by decide) ir_iten (fun c44 => ?_) (fun c44 => ?_)
          · refine q_iconst eX12_element_51 ?_
            refine q_iconst eX12_element_52 ?_
            refine q_right0 eX12_element_53 lk_X12_304 hK ht0 (by decide) (by decide) (by decide) (Nat.le_of_ble_eq_true rfl) ?_
            refine q_if_ne (tgt := 61) eX12_element_56 (by decide) (by first | assumption | exact ⟨by omega, by omega⟩) (fun c56 => ?_) (fun c56 => ?_)
            · exact absurd rfl c56
            · refine q_iconst eX12_element_59 ?_
              refine q_retI eX12_element_60 rfl (by decide) (by decide) ?_
              refine PMP_t ?_ hoF Off.rfl'
              unfold elmM
              first | rw [if_neg (fun hc => i0 c15 hc.1)] | rw [if_neg (fun hc => i0 c23 hc.2.1)] | rw [if_neg (fun hc => i0 c31 hc.2.2.1)] | rw [if_neg (by
                  rintro ⟨-, -, -, hc | hc⟩
                  · omega
                  · exact hc (i0n c44))]
          · refine q_iconst eX12_element_47 ?_
            refine q_goto (tgt := 52) eX12_element_48 (by decide) ?_
            refine q_iconst eX12_element_52 ?_
            refine q_right1 eX12_element_53 lk_X12_304 hK ht0 (by decide) (by decide) (by decide) (Nat.le_of_ble_eq_true rfl) ?_
            refine q_if_ne (tgt := 61) eX12_element_56 (by decide) (by first | assumption | exact ⟨by omega, by omega⟩) (fun c56 => ?_) (fun c56 => ?_)
            · refine q_iload_n eX12_element_61 rfl ?_
              by_cases w0 : how = 0
              · refine q_tableIn (off := 26) (tgt := 88) eX12_element_62 hh (by omega) (by omega) (by rw [w0]; decide) (by decide) ?_
                subst w0
                refine q_aload_n eX12_element_88 rfl ?_
                refine q_iload_n eX12_element_89 rfl ?_
                refine q_iload_n eX12_element_90 rfl ?_
                refine q_iconst eX12_element_91 ?_
                refine q_callVQ [vI x, vI y, vI 1] (M1 := mX12_added) eX12_element_92 mf_X12_added lk_X12_175 (hK _ (by decide) (by decide)) (mo_plus hK hX hG (hE x (i1 c23)) (hE y (i1 c31))) (by decide) (by decide) (by decide) (Nat.le_of_ble_eq_true rfl) rfl (fun A3 h3 => ?_)
                refine q_retI eX12_element_95 rfl (by decide) (by decide) ?_
                refine PMP_r ?_ ht0 hoF (h3.mono (by decide))
                unfold elmM
                rw [if_pos ⟨i1 c15, i1 c23, i1 c31, by first | exact Or.inl (by omega) | exact Or.inr (i1n c44)⟩]
                rfl
              by_cases w1 : how = 1
              · refine q_tableIn (off := 34) (tgt := 96) eX12_element_62 hh (by omega) (by omega) (by rw [w1]; decide) (by decide) ?_
                subst w1
                refine q_aload_n eX12_element_96 rfl ?_
                refine q_iload_n eX12_element_97 rfl ?_
                refine q_iload_n eX12_element_98 rfl ?_
                refine q_iconst eX12_element_99 ?_
                refine q_callVQ [vI x, vI y, vI (-1)] (M1 := mX12_added) eX12_element_100 mf_X12_added lk_X12_175 (hK _ (by decide) (by decide)) (mo_minus hK hX hG (hE x (i1 c23)) (hE y (i1 c31))) (by decide) (by decide) (by decide) (Nat.le_of_ble_eq_true rfl) rfl (fun A3 h3 => ?_)
                refine q_retI eX12_element_103 rfl (by decide) (by decide) ?_
                refine PMP_r ?_ ht0 hoF (h3.mono (by decide))
                unfold elmM
                rw [if_pos ⟨i1 c15, i1 c23, i1 c31, by first | exact Or.inl (by omega) | exact Or.inr (i1n c44)⟩]
                rfl
              by_cases w2 : how = 2
              · refine q_tableIn (off := 42) (tgt := 104) eX12_element_62 hh (by omega) (by omega) (by rw [w2]; decide) (by decide) ?_
                subst w2
                refine q_aload_n eX12_element_104 rfl ?_
                refine q_iload_n eX12_element_105 rfl ?_
                refine q_iload_n eX12_element_106 rfl ?_
                refine q_callVQ [vI x, vI y] (M1 := mX12_times) eX12_element_107 mf_X12_times lk_X12_132 (hK _ (by decide) (by decide)) (mo_times hK hX hG (hE x (i1 c23)) (hE y (i1 c31))) (by decide) (by decide) (by decide) (Nat.le_of_ble_eq_true rfl) rfl (fun A3 h3 => ?_)
                refine q_retI eX12_element_110 rfl (by decide) (by decide) ?_
                refine PMP_r ?_ ht0 hoF (h3.mono (by decide))
                unfold elmM
                rw [if_pos ⟨i1 c15, i1 c23, i1 c31, by first | exact Or.inl (by omega) | exact Or.inr (i1n c44)⟩]
                rfl
              refine q_tableOut (tgt := 111) eX12_element_62 hh (by omega) (by decide) ?_
              refine q_aload_n eX12_element_111 rfl ?_
              refine q_iload_n eX12_element_112 rfl ?_
              refine q_aload_n eX12_element_113 rfl ?_
              refine q_iload_n eX12_element_114 rfl ?_
              refine q_callVQ [vI y] (M1 := mX12_inverse) eX12_element_115 mf_X12_inverse lk_X12_293 (hK _ (by decide) (by decide)) (mo_inverse hK hX hT (hE y (i1 c31)) hMH.1) (by decide) (by decide) (by decide) (Nat.le_of_ble_eq_true rfl) rfl (fun A3 h3 => ?_)
              refine q_callVQ [vI x, vI (pw m r f y (umE N q - 1))] (M1 := mX12_times) eX12_element_118 mf_X12_times lk_X12_132 (hK _ (by decide) (by decide)) (mo_times hK hX (hG.off h3 (by decide)) (hE x (i1 c23)) (pw_el hm2 hr1 y _)) (by decide) (by decide) (by decide) (Nat.le_of_ble_eq_true rfl) rfl (fun A4 h4 => ?_)
              refine q_retI eX12_element_121 rfl (by decide) (by decide) ?_
              refine PMP_r ?_ ht0 hoF ((h3.mono (by decide)).trans (h4.mono (by decide)))
              unfold elmM
              rw [if_pos ⟨i1 c15, i1 c23, i1 c31, by first | exact Or.inl (by omega) | exact Or.inr (i1n c44)⟩]
              rw [if_neg (by omega), if_neg (by omega), if_neg (by omega)]
            · exact absurd c56 (by decide)
def ofuM (p r q N : Nat) (m : Int) (f rt : Nat → Int) (x what : Int) : Int := if what = 6 then tm m r f x (pw m r f (rt (low p r m x)) (umE N q - 1)) else if what = 7 then (odM m r f N x : Nat) else pw m r f x (umE N q - 1)
set_option maxRecDepth 20000 in
theorem mo_ofUnit {x what : Int} {p e r q N : Nat} {m : Int} {f : Nat → Int} {g : Int} {rt lg : Nat → Int} {F : HF} {A : HA} {al : AL} (hK : KM al) (hX : MR F) (hT : GY p e r q N m f g rt lg F A) (hMH : MH p e r q N m f) (hx : El m r x) (hw : InR what) (hu : low p r m x ≠ 0) : QE 5 0 0 mX12_ofUnit [vA 44, vI x, vI what] F A al (PQ (ofuM p r q N m f rt x what) F al (fun A2 => Off [51, 52, 53] A A2)) := by
  refine QE.mk (by decide +kernel) (Nat.le_of_ble_eq_true rfl) ?_
  obtain ⟨-, -, L, hL1, hL4, hL9⟩ := id hMH
  have hod := hL9 x hx hu
  have hodl := Nat.le_of_dvd (by omega) hod.2.2.2
  obtain ⟨hG, hp, he, hq, hN, hg, ⟨hp2, hp7, he1, he4, hme, hqe, hq3, hNm, hgE⟩, hP, hL, hR⟩ := id hT
  obtain ⟨hm, hr, hf, hm2, hr1, hr6, hN4⟩ := id hG
  have hm4 := hG.m4
  have hq2 := hT.q2
  have hN9 : (N : Int) ≤ 4096 := by rw [hNm]; exact hN4
  have hlt : low p r m x < q := by rw [hqe]; exact low_lt (show 0 < p by omega)
  refine q_iload_n eX12_ofUnit_0 rfl ?_
  refine q_bipush eX12_ofUnit_1 (by decide +kernel) ?_
  refine q_icmp_ne (tgt := 21) eX12_ofUnit_3 (by decide) (by first | assumption | exact ⟨by omega, by omega⟩) (by first | assumption | exact ⟨by omega, by omega⟩) (fun c3 => ?_) (fun c3 => ?_)
  · refine q_iload_n eX12_ofUnit_21 rfl ?_
    refine q_bipush eX12_ofUnit_22 (by decide +kernel) ?_
    refine q_icmp_ne (tgt := 35) eX12_ofUnit_24 (by decide) (by first | assumption | exact ⟨by omega, by omega⟩) (by first | assumption | exact ⟨by omega, by omega⟩) (fun c24 => ?_) (fun c24 => ?_)
    · refine q_aload_n eX12_ofUnit_35 rfl ?_
      refine q_iload_n eX12_ofUnit_36 rfl ?_
      refine q_callVQ [vI x] (M1 := mX12_inverse) eX12_ofUnit_37 mf_X12_inverse lk_X12_293 (hK _ (by decide) (by decide)) (mo_inverse hK hX hT hx hMH.1) (by decide) (by decide) (by decide) (Nat.le_of_ble_eq_true rfl) rfl (fun A3 h3 => ?_)
      refine q_retI eX12_ofUnit_40 rfl (by decide) (by decide) ?_
      first
      | exact ⟨by unfold ofuM; rw [if_neg c3, if_pos c24], rfl, rfl, h3⟩
      | exact ⟨by unfold ofuM; rw [if_neg c3, if_neg c24], rfl, rfl, h3⟩
    · refine q_aload_n eX12_ofUnit_27 rfl ?_
      refine q_iload_n eX12_ofUnit_28 rfl ?_
      refine q_callVQ [vI x] (M1 := mX12_orderOf) eX12_ofUnit_29 mf_X12_orderOf lk_X12_314 (hK _ (by decide) (by decide)) (mo_orderOf (K := odM m r f N x) hK hX hT hx hod.1 hod.2.1 hod.2.2.1 (by omega)) (by decide) (by decide) (by decide) (Nat.le_of_ble_eq_true rfl) rfl (fun A3 h3 => ?_)
      refine q_goto (tgt := 40) eX12_ofUnit_32 (by decide) ?_
      refine q_retI eX12_ofUnit_40 rfl (by decide) (by decide) ?_
      first
      | exact ⟨by unfold ofuM; rw [if_neg c3, if_pos c24], rfl, rfl, h3⟩
      | exact ⟨by unfold ofuM; rw [if_neg c3, if_neg c24], rfl, rfl, h3⟩
  · refine q_aload_n eX12_ofUnit_6 rfl ?_
    refine q_iload_n eX12_ofUnit_7 rfl ?_
    refine q_aload_n eX12_ofUnit_8 rfl ?_
    refine q_aload_n eX12_ofUnit_9 rfl ?_
    refine q_iload_n eX12_ofUnit_10 rfl ?_
    refine q_callVP [vI x] (M1 := mX12_rootOf) eX12_ofUnit_11 mf_X12_rootOf lk_X12_185 (hK _ (by decide) (by decide)) (mo_rootOf hK hX hT hx) (by decide) (by decide) (by decide) (Nat.le_of_ble_eq_true rfl) rfl ?_
    refine q_callVQ [vI (rt (low p r m x))] (M1 := mX12_inverse) eX12_ofUnit_14 mf_X12_inverse lk_X12_293 (hK _ (by decide) (by decide)) (mo_inverse hK hX hT (hR _ hlt).2 hMH.1) (by decide) (by decide) (by decide) (Nat.le_of_ble_eq_true rfl) rfl (fun A3 h3 => ?_)
    refine q_callVQ [vI x, vI (pw m r f (rt (low p r m x)) (umE N q - 1))] (M1 := mX12_times) eX12_ofUnit_17 mf_X12_times lk_X12_132 (hK _ (by decide) (by decide)) (mo_times hK hX (hG.off h3 (by decide)) hx (pw_el hm2 hr1 _ _)) (by decide) (by decide) (by decide) (Nat.le_of_ble_eq_true rfl) rfl (fun A4 h4 => ?_)
    refine q_retI eX12_ofUnit_20 rfl (by decide) (by decide) ?_
    exact ⟨by unfold ofuM; rw [if_pos c3], rfl, rfl, h3.trans h4⟩
def ofM (p e r q N : Nat) (m : Int) (f : Nat → Int) (g : Int) (rt lg : Nat → Int) (x what : Int) : Option Int :=
  if (0 ≤ x ∧ x ≤ (N : Int) - 1) ∧ 0 ≤ what ∧ what ≤ 8 then some (if what = 0 then (lvM p r m x 0 e : Nat) else if what = 1 then rt (low p r m x) else if what = 2 then mvM p e r q m f g rt lg x else if what = 3 then trM p e r q m f g rt lg x r else if what = 4 then nmM p e r q m f g rt lg x r else if what = 5 then (wiM r (fun d => decide (mvMn p e r q m f g rt lg x (d % r) = x)) 1 (r - 1) : Nat) else if low p r m x = 0 then -1 else ofuM p r q N m f rt x what) else none
set_option maxRecDepth 20000 in
theorem mo_of {x what : Int} {p e r q N : Nat} {m : Int} {f : Nat → Int} {g : Int} {rt lg pl_ tp mk ck : Nat → Int} {len n dg : Nat} {fp set : Int} {w : Option (Nat → Int)} {S : List Int} {F : HF} {A : HA} {al : AL} (hK : KM al) (h0 : MI p e r q N m f g rt lg pl_ len tp fp n set dg mk ck w S F A) (hx : InR x) (hw : InR what) : QE 7 0 0 mX12_of [vA 44, vI x, vI what] F A al (PMP (ofM p e r q N m f g rt lg x what) F A al) := by
  refine QE.mk (by decide +kernel) (Nat.le_of_ble_eq_true rfl) ?_
  have hx_1 := hx.1
  have hx_2 := hx.2
  have hw_1 := hw.1
  have hw_2 := hw.2
  have h := h0.t0
  generalize hF0 : up2 F 44 0 (vI 0) = F1 at h
  have ht0 : F1 44 0 = vI 0 := by rw [← hF0]; exact up2_eq _ _ _ _
  have hoF : FOff SCF F F1 := by rw [← hF0]; exact FOff.up (by decide)
  obtain ⟨⟨hX, hT, h3r, hMH⟩, h2, ⟨hl0, hl1, hta⟩, h4, ⟨⟨h51, h52, h53⟩, h5m, h5c, ⟨hn1, hn63, hnq, hs0, hs1⟩, hdn⟩, h7, ⟨⟨h81, h82⟩, h83⟩⟩ := id h
  obtain ⟨hG, hp, he, hq, hN, hg, ⟨hp2, hp7, he1, he4, hme, hqe, hq3, hNm, hgE⟩, hP, hL, hR⟩ := id hT
  obtain ⟨hm, hr, hf, hm2, hr1, hr6, hN4⟩ := id hG
  have hm4 := hG.m4
  have hq2 := hT.q2
  have hN9 : (N : Int) ≤ 4096 := by rw [hNm]; exact hN4
  have hE : ∀ x : Int, 0 ≤ x ∧ x ≤ (N : Int) - 1 → El m r x := fun x h => ⟨h.1, by rw [← hNm]; omega⟩
  have hNp : 1 ≤ N := by have := el_one (m := m) (r := r) hm2 hr1; have := this.2; omega
  refine q_aload_n eX12_of_0 rfl ?_
  refine q_iconst eX12_of_1 ?_
  refine q_putfield eX12_of_2 pf_X12_1 (hK _ (by decide) (by decide)) (by decide) (FT_i rfl) ?_
  rw [hF0]
  refine q_aload_n eX12_of_5 rfl ?_
  refine q_aload_n eX12_of_6 rfl ?_
  refine q_iload_n eX12_of_7 rfl ?_
  refine q_callVP [vI x] (M1 := mX12_isElement) eX12_of_8 mf_X12_isElement lk_X12_311 (hK _ (by decide) (by decide)) (mo_isElement hK hN hNp (by omega) hx) (by decide) (by decide) (by decide) (Nat.le_of_ble_eq_true rfl) rfl ?_
  refine q_if_eq (tgt := 30) eX12_of_11 (by decide) ir_ite (fun c11 => ?_) (fun c11 => ?_)
  · refine q_iconst eX12_of_30 ?_
    refine q_iconst eX12_of_31 ?_
    refine q_right0 eX12_of_32 lk_X12_304 hK ht0 (by decide) (by decide) (by decide) (Nat.le_of_ble_eq_true rfl) ?_
    refine q_if_ne (tgt := 40) eX12_of_35 (by decide) (by first | assumption | exact ⟨by omega, by omega⟩) (fun c35 => ?_) (fun c35 => ?_)
    · exact absurd rfl c35
    · refine q_iconst eX12_of_38 ?_
      refine q_retI eX12_of_39 rfl (by decide) (by decide) ?_
      refine PMP_t ?_ hoF Off.rfl'
      unfold ofM
      first | rw [if_neg (fun hc => i0 c11 hc.1)] | rw [if_neg (fun hc => i0 c23 hc.2)]
  · refine q_iload_n eX12_of_14 rfl ?_
    refine q_i2l eX12_of_15 (by first | assumption | exact ⟨by omega, by omega⟩) ?_
    refine q_lconst (v := 0) eX12_of_16 (by decide +kernel) ?_
    refine q_ldc2 eX12_of_17 kc_X12_333 ?_
    refine q_callSP [vJ (what), vJ (0), vJ (8)] (M1 := mX12_isIn) eX12_of_20 mf_X12_isIn lk_X12_206 (mo_isIn (by exact ⟨by omega, by omega⟩) (by exact ⟨by omega, by omega⟩) (by exact ⟨by omega, by omega⟩)) (by decide) (by decide) (by decide) (Nat.le_of_ble_eq_true rfl) rfl ?_
    refine q_if_eq (tgt := 30) eX12_of_23 (by decide) ir_ite (fun c23 => ?_) (fun c23 => ?_)
    · refine q_iconst eX12_of_30 ?_
      refine q_iconst eX12_of_31 ?_
      refine q_right0 eX12_of_32 lk_X12_304 hK ht0 (by decide) (by decide) (by decide) (Nat.le_of_ble_eq_true rfl) ?_
      refine q_if_ne (tgt := 40) eX12_of_35 (by decide) (by first | assumption | exact ⟨by omega, by omega⟩) (fun c35 => ?_) (fun c35 => ?_)
      · exact absurd rfl c35
      · refine q_iconst eX12_of_38 ?_
        refine q_retI eX12_of_39 rfl (by decide) (by decide) ?_
        refine PMP_t ?_ hoF Off.rfl'
        unfold ofM
        first | rw [if_neg (fun hc => i0 c11 hc.1)] | rw [if_neg (fun hc => i0 c23 hc.2)]
    · refine q_iconst eX12_of_26 ?_
      refine q_goto (tgt := 31) eX12_of_27 (by decide) ?_
      refine q_iconst eX12_of_31 ?_
      refine q_right1 eX12_of_32 lk_X12_304 hK ht0 (by decide) (by decide) (by decide) (Nat.le_of_ble_eq_true rfl) ?_
      refine q_if_ne (tgt := 40) eX12_of_35 (by decide) (by first | assumption | exact ⟨by omega, by omega⟩) (fun c35 => ?_) (fun c35 => ?_)
      · refine q_iload_n eX12_of_40 rfl ?_
        by_cases w0 : what = 0
        · refine q_tableIn (off := 39) (tgt := 80) eX12_of_41 hw (by omega) (by omega) (by rw [w0]; decide) (by decide) ?_
          subst w0
          refine q_aload_n eX12_of_80 rfl ?_
          refine q_iload_n eX12_of_81 rfl ?_
          refine q_callVQ [vI x] (M1 := mX12_levelOf) eX12_of_82 mf_X12_levelOf lk_X12_335 (hK _ (by decide) (by decide)) (mo_levelOf hK hX hT (hE x (i1 c11))) (by decide) (by decide) (by decide) (Nat.le_of_ble_eq_true rfl) rfl (fun A3 h3 => ?_)
          refine q_retI eX12_of_85 rfl (by decide) (by decide) ?_
          refine PMP_r ?_ ht0 hoF (h3.mono (by decide))
          unfold ofM
          rw [if_pos ⟨i1 c11, i1 c23⟩]
          rfl
        by_cases w1 : what = 1
        · refine q_tableIn (off := 45) (tgt := 86) eX12_of_41 hw (by omega) (by omega) (by rw [w1]; decide) (by decide) ?_
          subst w1
          refine q_aload_n eX12_of_86 rfl ?_
          refine q_iload_n eX12_of_87 rfl ?_
          refine q_callVP [vI x] (M1 := mX12_rootOf) eX12_of_88 mf_X12_rootOf lk_X12_185 (hK _ (by decide) (by decide)) (mo_rootOf hK hX hT (hE x (i1 c11))) (by decide) (by decide) (by decide) (Nat.le_of_ble_eq_true rfl) rfl ?_
          refine q_retI eX12_of_91 rfl (by decide) (by decide) ?_
          refine PMP_r ?_ ht0 hoF (Off.rfl')
          unfold ofM
          rw [if_pos ⟨i1 c11, i1 c23⟩]
          rfl
        by_cases w2 : what = 2
        · refine q_tableIn (off := 51) (tgt := 92) eX12_of_41 hw (by omega) (by omega) (by rw [w2]; decide) (by decide) ?_
          subst w2
          refine q_aload_n eX12_of_92 rfl ?_
          refine q_iload_n eX12_of_93 rfl ?_
          refine q_callVQ [vI x] (M1 := mX12_moved) eX12_of_94 mf_X12_moved lk_X12_198 (hK _ (by decide) (by decide)) (mo_moved hK hX hT (hE x (i1 c11))) (by decide) (by decide) (by decide) (Nat.le_of_ble_eq_true rfl) rfl (fun A3 h3 => ?_)
          refine q_retI eX12_of_97 rfl (by decide) (by decide) ?_
          refine PMP_r ?_ ht0 hoF (h3.mono (by decide))
          unfold ofM
          rw [if_pos ⟨i1 c11, i1 c23⟩]
          rfl
        by_cases w3 : what = 3
        · refine q_tableIn (off := 57) (tgt := 98) eX12_of_41 hw (by omega) (by omega) (by rw [w3]; decide) (by decide) ?_
          subst w3
          refine q_aload_n eX12_of_98 rfl ?_
          refine q_iload_n eX12_of_99 rfl ?_
          refine q_callVQ [vI x] (M1 := mX12_traceOf) eX12_of_100 mf_X12_traceOf lk_X12_338 (hK _ (by decide) (by decide)) (mo_trace hK hX hT (hE x (i1 c11))) (by decide) (by decide) (by decide) (Nat.le_of_ble_eq_true rfl) rfl (fun A3 h3 => ?_)
          refine q_retI eX12_of_103 rfl (by decide) (by decide) ?_
          refine PMP_r ?_ ht0 hoF (h3.mono (by decide))
          unfold ofM
          rw [if_pos ⟨i1 c11, i1 c23⟩]
          rfl
        by_cases w4 : what = 4
        · refine q_tableIn (off := 63) (tgt := 104) eX12_of_41 hw (by omega) (by omega) (by rw [w4]; decide) (by decide) ?_
          subst w4
          refine q_aload_n eX12_of_104 rfl ?_
          refine q_iload_n eX12_of_105 rfl ?_
          refine q_callVQ [vI x] (M1 := mX12_normOf) eX12_of_106 mf_X12_normOf lk_X12_341 (hK _ (by decide) (by decide)) (mo_norm hK hX hT (hE x (i1 c11))) (by decide) (by decide) (by decide) (Nat.le_of_ble_eq_true rfl) rfl (fun A3 h3 => ?_)
          refine q_retI eX12_of_109 rfl (by decide) (by decide) ?_
          refine PMP_r ?_ ht0 hoF (h3.mono (by decide))
          unfold ofM
          rw [if_pos ⟨i1 c11, i1 c23⟩]
          rfl
        by_cases w5 : what = 5
        · refine q_tableIn (off := 69) (tgt := 110) eX12_of_41 hw (by omega) (by omega) (by rw [w5]; decide) (by decide) ?_
          subst w5
          refine q_aload_n eX12_of_110 rfl ?_
          refine q_iload_n eX12_of_111 rfl ?_
          refine q_callVQ [vI x] (M1 := mX12_withinOf) eX12_of_112 mf_X12_withinOf lk_X12_344 (hK _ (by decide) (by decide)) (mo_withinOf hK hX hT (hE x (i1 c11))) (by decide) (by decide) (by decide) (Nat.le_of_ble_eq_true rfl) rfl (fun A3 h3 => ?_)
          refine q_retI eX12_of_115 rfl (by decide) (by decide) ?_
          refine PMP_r ?_ ht0 hoF (h3.mono (by decide))
          unfold ofM
          rw [if_pos ⟨i1 c11, i1 c23⟩]
          rfl
        refine q_tableOut (tgt := 116) eX12_of_41 hw (by omega) (by decide) ?_
        refine q_aload_n eX12_of_116 rfl ?_
        refine q_iload_n eX12_of_117 rfl ?_
        refine q_callVP [vI x] (M1 := mX12_isUnit) eX12_of_118 mf_X12_isUnit lk_X12_290 (hK _ (by decide) (by decide)) (mo_isUnit hK hX hT (hE x (i1 c11))) (by decide) (by decide) (by decide) (Nat.le_of_ble_eq_true rfl) rfl ?_
        refine q_if_eq (tgt := 133) eX12_of_121 (by decide) ir_iten (fun c121 => ?_) (fun c121 => ?_)
        · refine q_iconst eX12_of_133 ?_
          refine q_retI eX12_of_134 rfl (by decide) (by decide) ?_
          first
          | (refine PMP_r ?_ ht0 hoF (h3.mono (by decide))
             unfold ofM
             rw [if_pos ⟨i1 c11, i1 c23⟩]
             repeat rw [if_neg (by omega)]
             try rw [if_neg (i1n c121)])
          | (refine PMP_r ?_ ht0 hoF Off.rfl'
             unfold ofM
             rw [if_pos ⟨i1 c11, i1 c23⟩]
             repeat rw [if_neg (by omega)]
             rw [if_pos (i0n c121)])
        · refine q_aload_n eX12_of_124 rfl ?_
          refine q_iload_n eX12_of_125 rfl ?_
          refine q_iload_n eX12_of_126 rfl ?_
          refine q_callVQ [vI x, vI what] (M1 := mX12_ofUnit) eX12_of_127 mf_X12_ofUnit lk_X12_347 (hK _ (by decide) (by decide)) (mo_ofUnit hK hX hT hMH (hE x (i1 c11)) hw (i1n c121)) (by decide) (by decide) (by decide) (Nat.le_of_ble_eq_true rfl) rfl (fun A3 h3 => ?_)
          refine q_goto (tgt := 134) eX12_of_130 (by decide) ?_
          refine q_retI eX12_of_134 rfl (by decide) (by decide) ?_
          first
          | (refine PMP_r ?_ ht0 hoF (h3.mono (by decide))
             unfold ofM
             rw [if_pos ⟨i1 c11, i1 c23⟩]
             repeat rw [if_neg (by omega)]
             try rw [if_neg (i1n c121)])
          | (refine PMP_r ?_ ht0 hoF Off.rfl'
             unfold ofM
             rw [if_pos ⟨i1 c11, i1 c23⟩]
             repeat rw [if_neg (by omega)]
             rw [if_pos (i0n c121)])
      · exact absurd c35 (by decide)
set_option maxRecDepth 20000 in
theorem mo_digit {x i : Int} {p e r q N : Nat} {m : Int} {f : Nat → Int} {g : Int} {rt lg pl_ tp mk ck : Nat → Int} {len n dg : Nat} {fp set : Int} {w : Option (Nat → Int)} {S : List Int} {F : HF} {A : HA} {al : AL} (hK : KM al) (h0 : MI p e r q N m f g rt lg pl_ len tp fp n set dg mk ck w S F A) (hx : InR x) (hi : InR i) : QE 3 0 0 mX12_digit [vA 44, vI x, vI i] F A al (PMP (if (0 ≤ x ∧ x ≤ (N : Int) - 1) ∧ 0 ≤ i ∧ i ≤ (e : Int) - 1 then some (ddM p r m rt lg x i.toNat) else none) F A al) := by
  refine QE.mk (by decide +kernel) (Nat.le_of_ble_eq_true rfl) ?_
  have hx_1 := hx.1
  have hx_2 := hx.2
  have hi_1 := hi.1
  have hi_2 := hi.2
  have h := h0.t0
  generalize hF0 : up2 F 44 0 (vI 0) = F1 at h
  have ht0 : F1 44 0 = vI 0 := by rw [← hF0]; exact up2_eq _ _ _ _
  have hoF : FOff SCF F F1 := by rw [← hF0]; exact FOff.up (by decide)
  obtain ⟨⟨hX, hT, h3r, hMH⟩, h2, ⟨hl0, hl1, hta⟩, h4, ⟨⟨h51, h52, h53⟩, h5m, h5c, ⟨hn1, hn63, hnq, hs0, hs1⟩, hdn⟩, h7, ⟨⟨h81, h82⟩, h83⟩⟩ := id h
  obtain ⟨hG, hp, he, hq, hN, hg, ⟨hp2, hp7, he1, he4, hme, hqe, hq3, hNm, hgE⟩, hP, hL, hR⟩ := id hT
  obtain ⟨hm, hr, hf, hm2, hr1, hr6, hN4⟩ := id hG
  have hm4 := hG.m4
  have hq2 := hT.q2
  have hN9 : (N : Int) ≤ 4096 := by rw [hNm]; exact hN4
  have hE : ∀ x : Int, 0 ≤ x ∧ x ≤ (N : Int) - 1 → El m r x := fun x h => ⟨h.1, by rw [← hNm]; omega⟩
  have hNp : 1 ≤ N := by have := el_one (m := m) (r := r) hm2 hr1; have := this.2; omega
  refine q_aload_n eX12_digit_0 rfl ?_
  refine q_iconst eX12_digit_1 ?_
  refine q_putfield eX12_digit_2 pf_X12_1 (hK _ (by decide) (by decide)) (by decide) (FT_i rfl) ?_
  rw [hF0]
  refine q_aload_n eX12_digit_5 rfl ?_
  refine q_aload_n eX12_digit_6 rfl ?_
  refine q_iload_n eX12_digit_7 rfl ?_
  refine q_callVP [vI x] (M1 := mX12_isElement) eX12_digit_8 mf_X12_isElement lk_X12_311 (hK _ (by decide) (by decide)) (mo_isElement hK hN hNp (by omega) hx) (by decide) (by decide) (by decide) (Nat.le_of_ble_eq_true rfl) rfl ?_
  refine q_if_eq (tgt := 34) eX12_digit_11 (by decide) ir_ite (fun c11 => ?_) (fun c11 => ?_)
  · refine q_iconst eX12_digit_34 ?_
    refine q_iconst eX12_digit_35 ?_
    refine q_right0 eX12_digit_36 lk_X12_304 hK ht0 (by decide) (by decide) (by decide) (Nat.le_of_ble_eq_true rfl) ?_
    refine q_if_ne (tgt := 44) eX12_digit_39 (by decide) (by first | assumption | exact ⟨by omega, by omega⟩) (fun c39 => ?_) (fun c39 => ?_)
    · exact absurd rfl c39
    · refine q_iconst eX12_digit_42 ?_
      refine q_retI eX12_digit_43 rfl (by decide) (by decide) ?_
      refine PMP_t ?_ hoF Off.rfl'
      first | rw [if_neg (fun hc => i0 c11 hc.1)] | rw [if_neg (fun hc => i0 c27 hc.2)]
  · refine q_iload_n eX12_digit_14 rfl ?_
    refine q_i2l eX12_digit_15 (by first | assumption | exact ⟨by omega, by omega⟩) ?_
    refine q_lconst (v := 0) eX12_digit_16 (by decide +kernel) ?_
    refine q_aload_n eX12_digit_17 rfl ?_
    refine q_getfield eX12_digit_18 gf_X12_16 (hK _ (by decide) (by decide)) (by decide) (by first | assumption) ?_
    refine q_iconst eX12_digit_21 ?_
    refine q_isub eX12_digit_22 ?_
    refine q_i2l eX12_digit_23 (by first | assumption | exact ⟨by omega, by omega⟩) ?_
    refine q_callSP [vJ (i), vJ (0), vJ ((e : Int) - 1)] (M1 := mX12_isIn) eX12_digit_24 mf_X12_isIn lk_X12_206 (mo_isIn (by exact ⟨by omega, by omega⟩) (by exact ⟨by omega, by omega⟩) (by exact ⟨by omega, by omega⟩)) (by decide) (by decide) (by decide) (Nat.le_of_ble_eq_true rfl) rfl ?_
    refine q_if_eq (tgt := 34) eX12_digit_27 (by decide) ir_ite (fun c27 => ?_) (fun c27 => ?_)
    · refine q_iconst eX12_digit_34 ?_
      refine q_iconst eX12_digit_35 ?_
      refine q_right0 eX12_digit_36 lk_X12_304 hK ht0 (by decide) (by decide) (by decide) (Nat.le_of_ble_eq_true rfl) ?_
      refine q_if_ne (tgt := 44) eX12_digit_39 (by decide) (by first | assumption | exact ⟨by omega, by omega⟩) (fun c39 => ?_) (fun c39 => ?_)
      · exact absurd rfl c39
      · refine q_iconst eX12_digit_42 ?_
        refine q_retI eX12_digit_43 rfl (by decide) (by decide) ?_
        refine PMP_t ?_ hoF Off.rfl'
        first | rw [if_neg (fun hc => i0 c11 hc.1)] | rw [if_neg (fun hc => i0 c27 hc.2)]
    · refine q_iconst eX12_digit_30 ?_
      refine q_goto (tgt := 35) eX12_digit_31 (by decide) ?_
      refine q_iconst eX12_digit_35 ?_
      refine q_right1 eX12_digit_36 lk_X12_304 hK ht0 (by decide) (by decide) (by decide) (Nat.le_of_ble_eq_true rfl) ?_
      refine q_if_ne (tgt := 44) eX12_digit_39 (by decide) (by first | assumption | exact ⟨by omega, by omega⟩) (fun c39 => ?_) (fun c39 => ?_)
      · obtain ⟨t, rfl⟩ : ∃ t : Nat, i = t := ⟨i.toNat, by have := i1 c27; omega⟩
        have hi27 := i1 c27
        refine q_aload_n eX12_digit_44 rfl ?_
        refine q_iload_n eX12_digit_45 rfl ?_
        refine q_callVV [vI x] (M1 := mX12_laysDigits) eX12_digit_46 mf_X12_laysDigits lk_X12_191 (hK _ (by decide) (by decide)) (mo_laysDigits hK hX hT (hE x (i1 c11))) (by decide) (by decide) (by decide) (Nat.le_of_ble_eq_true rfl) rfl (fun A3 h3 => ?_)
        obtain ⟨o3, v3⟩ := h3
        refine q_aload_n eX12_digit_49 rfl ?_
        refine q_getfield eX12_digit_50 gf_X12_59 (hK _ (by decide) (by decide)) (by decide) (mr_44_17 hX) ?_
        refine q_iload_n eX12_digit_53 rfl ?_
        refine q_iald eX12_digit_54 (hK _ (by decide) (by decide)) (by omega) (by omega) ?_
        refine q_retI eX12_digit_55 rfl (by decide) (by decide) ?_
        refine PMP_r ?_ ht0 hoF (o3.mono (by decide))
        rw [if_pos ⟨i1 c11, i1 c27⟩]
        exact congrArg some (v3 t (by omega)).symm
      · exact absurd c39 (by decide)
set_option maxRecDepth 20000 in
theorem mo_sum {k i : Int} {p e r q N : Nat} {m : Int} {f : Nat → Int} {g : Int} {rt lg pl_ tp mk ck : Nat → Int} {len n dg : Nat} {fp set : Int} {w : Option (Nat → Int)} {S : List Int} {F : HF} {A : HA} {al : AL} (hK : KM al) (h0 : MI p e r q N m f g rt lg pl_ len tp fp n set dg mk ck w S F A) (hk : InR k) (hi : InR i) : QE 3 0 0 mX12_sum [vA 44, vI k, vI i] F A al (PMP (if (0 ≤ k ∧ k ≤ (q : Int) - 2) ∧ 0 ≤ i ∧ i ≤ (e : Int) - 1 then some (ddM p r m rt lg (pl m r 1 (pw m r f g k.toNat)) i.toNat) else none) F A al) := by
  refine QE.mk (by decide +kernel) (Nat.le_of_ble_eq_true rfl) ?_
  have hk_1 := hk.1
  have hk_2 := hk.2
  have hi_1 := hi.1
  have hi_2 := hi.2
  have h := h0.t0
  generalize hF0 : up2 F 44 0 (vI 0) = F1 at h
  have ht0 : F1 44 0 = vI 0 := by rw [← hF0]; exact up2_eq _ _ _ _
  have hoF : FOff SCF F F1 := by rw [← hF0]; exact FOff.up (by decide)
  obtain ⟨⟨hX, hT, h3r, hMH⟩, h2, ⟨hl0, hl1, hta⟩, h4, ⟨⟨h51, h52, h53⟩, h5m, h5c, ⟨hn1, hn63, hnq, hs0, hs1⟩, hdn⟩, h7, ⟨⟨h81, h82⟩, h83⟩⟩ := id h
  obtain ⟨hG, hp, he, hq, hN, hg, ⟨hp2, hp7, he1, he4, hme, hqe, hq3, hNm, hgE⟩, hP, hL, hR⟩ := id hT
  obtain ⟨hm, hr, hf, hm2, hr1, hr6, hN4⟩ := id hG
  have hm4 := hG.m4
  have hq2 := hT.q2
  have hN9 : (N : Int) ≤ 4096 := by rw [hNm]; exact hN4
  have hE : ∀ x : Int, 0 ≤ x ∧ x ≤ (N : Int) - 1 → El m r x := fun x h => ⟨h.1, by rw [← hNm]; omega⟩
  have hNp : 1 ≤ N := by have := el_one (m := m) (r := r) hm2 hr1; have := this.2; omega
  refine q_aload_n eX12_sum_0 rfl ?_
  refine q_iconst eX12_sum_1 ?_
  refine q_putfield eX12_sum_2 pf_X12_1 (hK _ (by decide) (by decide)) (by decide) (FT_i rfl) ?_
  rw [hF0]
  refine q_aload_n eX12_sum_5 rfl ?_
  refine q_iload_n eX12_sum_6 rfl ?_
  refine q_i2l eX12_sum_7 (by first | assumption | exact ⟨by omega, by omega⟩) ?_
  refine q_lconst (v := 0) eX12_sum_8 (by decide +kernel) ?_
  refine q_aload_n eX12_sum_9 rfl ?_
  refine q_getfield eX12_sum_10 gf_X12_25 (hK _ (by decide) (by decide)) (by decide) (by first | assumption) ?_
  refine q_iconst eX12_sum_13 ?_
  refine q_isub eX12_sum_14 ?_
  refine q_i2l eX12_sum_15 (by first | assumption | exact ⟨by omega, by omega⟩) ?_
  refine q_callSP [vJ (k), vJ (0), vJ ((q : Int) - 2)] (M1 := mX12_isIn) eX12_sum_16 mf_X12_isIn lk_X12_206 (mo_isIn (by exact ⟨by omega, by omega⟩) (by exact ⟨by omega, by omega⟩) (by exact ⟨by omega, by omega⟩)) (by decide) (by decide) (by decide) (Nat.le_of_ble_eq_true rfl) rfl ?_
  refine q_if_eq (tgt := 42) eX12_sum_19 (by decide) ir_ite (fun c19 => ?_) (fun c19 => ?_)
  · refine q_iconst eX12_sum_42 ?_
    refine q_iconst eX12_sum_43 ?_
    refine q_right0 eX12_sum_44 lk_X12_304 hK ht0 (by decide) (by decide) (by decide) (Nat.le_of_ble_eq_true rfl) ?_
    refine q_if_ne (tgt := 52) eX12_sum_47 (by decide) (by first | assumption | exact ⟨by omega, by omega⟩) (fun c47 => ?_) (fun c47 => ?_)
    · exact absurd rfl c47
    · refine q_iconst eX12_sum_50 ?_
      refine q_retI eX12_sum_51 rfl (by decide) (by decide) ?_
      refine PMP_t ?_ hoF Off.rfl'
      first | rw [if_neg (fun hc => i0 c19 hc.1)] | rw [if_neg (fun hc => i0 c35 hc.2)]
  · refine q_iload_n eX12_sum_22 rfl ?_
    refine q_i2l eX12_sum_23 (by first | assumption | exact ⟨by omega, by omega⟩) ?_
    refine q_lconst (v := 0) eX12_sum_24 (by decide +kernel) ?_
    refine q_aload_n eX12_sum_25 rfl ?_
    refine q_getfield eX12_sum_26 gf_X12_16 (hK _ (by decide) (by decide)) (by decide) (by first | assumption) ?_
    refine q_iconst eX12_sum_29 ?_
    refine q_isub eX12_sum_30 ?_
    refine q_i2l eX12_sum_31 (by first | assumption | exact ⟨by omega, by omega⟩) ?_
    refine q_callSP [vJ (i), vJ (0), vJ ((e : Int) - 1)] (M1 := mX12_isIn) eX12_sum_32 mf_X12_isIn lk_X12_206 (mo_isIn (by exact ⟨by omega, by omega⟩) (by exact ⟨by omega, by omega⟩) (by exact ⟨by omega, by omega⟩)) (by decide) (by decide) (by decide) (Nat.le_of_ble_eq_true rfl) rfl ?_
    refine q_if_eq (tgt := 42) eX12_sum_35 (by decide) ir_ite (fun c35 => ?_) (fun c35 => ?_)
    · refine q_iconst eX12_sum_42 ?_
      refine q_iconst eX12_sum_43 ?_
      refine q_right0 eX12_sum_44 lk_X12_304 hK ht0 (by decide) (by decide) (by decide) (Nat.le_of_ble_eq_true rfl) ?_
      refine q_if_ne (tgt := 52) eX12_sum_47 (by decide) (by first | assumption | exact ⟨by omega, by omega⟩) (fun c47 => ?_) (fun c47 => ?_)
      · exact absurd rfl c47
      · refine q_iconst eX12_sum_50 ?_
        refine q_retI eX12_sum_51 rfl (by decide) (by decide) ?_
        refine PMP_t ?_ hoF Off.rfl'
        first | rw [if_neg (fun hc => i0 c19 hc.1)] | rw [if_neg (fun hc => i0 c35 hc.2)]
    · refine q_iconst eX12_sum_38 ?_
      refine q_goto (tgt := 43) eX12_sum_39 (by decide) ?_
      refine q_iconst eX12_sum_43 ?_
      refine q_right1 eX12_sum_44 lk_X12_304 hK ht0 (by decide) (by decide) (by decide) (Nat.le_of_ble_eq_true rfl) ?_
      refine q_if_ne (tgt := 52) eX12_sum_47 (by decide) (by first | assumption | exact ⟨by omega, by omega⟩) (fun c47 => ?_) (fun c47 => ?_)
      · have hk19 := i1 c19
        have hi35 := i1 c35
        obtain ⟨t, rfl⟩ : ∃ t : Nat, k = t := ⟨k.toNat, by omega⟩
        obtain ⟨u, rfl⟩ : ∃ u : Nat, i = u := ⟨i.toNat, by omega⟩
        refine q_aload_n eX12_sum_52 rfl ?_
        refine q_aload_n eX12_sum_53 rfl ?_
        refine q_iconst eX12_sum_54 ?_
        refine q_aload_n eX12_sum_55 rfl ?_
        refine q_getfield eX12_sum_56 gf_X12_41 (hK _ (by decide) (by decide)) (by decide) (mr_44_10 hX) ?_
        refine q_iload_n eX12_sum_59 rfl ?_
        refine q_iald eX12_sum_60 (hK _ (by decide) (by decide)) (by omega) (by omega) ?_
        rw [show A 48 (t : Int).toNat = pw m r f g t from hP t (by omega)]
        refine q_iconst eX12_sum_61 ?_
        refine q_callVQ [vI 1, vI (pw m r f g t), vI 1] (M1 := mX12_added) eX12_sum_62 mf_X12_added lk_X12_175 (hK _ (by decide) (by decide)) (mo_plus hK hX hG (el_one hm2 hr1) (pw_el hm2 hr1 g t)) (by decide) (by decide) (by decide) (Nat.le_of_ble_eq_true rfl) rfl (fun A4 h4 => ?_)
        refine q_callVV [vI (pl m r 1 (pw m r f g t))] (M1 := mX12_laysDigits) eX12_sum_65 mf_X12_laysDigits lk_X12_191 (hK _ (by decide) (by decide)) (mo_laysDigits hK hX (hT.off h4 (by decide) (by decide) (by decide) (by decide)) (pl_el (by omega) _ _)) (by decide) (by decide) (by decide) (Nat.le_of_ble_eq_true rfl) rfl (fun A3 h3 => ?_)
        obtain ⟨o3, v3⟩ := h3
        refine q_aload_n eX12_sum_68 rfl ?_
        refine q_getfield eX12_sum_69 gf_X12_59 (hK _ (by decide) (by decide)) (by decide) (mr_44_17 hX) ?_
        refine q_iload_n eX12_sum_72 rfl ?_
        refine q_iald eX12_sum_73 (hK _ (by decide) (by decide)) (by omega) (by omega) ?_
        refine q_retI eX12_sum_74 rfl (by decide) (by decide) ?_
        refine PMP_r ?_ ht0 hoF ((h4.mono (by decide)).trans (o3.mono (by decide)))
        rw [if_pos ⟨i1 c19, i1 c35⟩]
        exact congrArg some (v3 u (by omega)).symm
      · exact absurd c47 (by decide)
def whD (d0 d1 d2 d3 : Int) (i : Nat) : Int := if i = 0 then d0 else if i = 1 then d1 else if i = 2 then d2 else d3
def whC (e q : Nat) (d : Nat → Int) (i : Nat) : Prop := -1 ≤ d i ∧ d i ≤ (if i < e then (q : Int) - 2 else -1)
def whB (e q : Nat) (d : Nat → Int) (k : Nat) : Bool := decide (∀ i, i < k → -1 ≤ d i ∧ d i ≤ (if i < e then (q : Int) - 2 else -1))
set_option maxRecDepth 20000 in
theorem lp_mwhole {d0 d1 d2 d3 : Int} {p e r q N : Nat} {m : Int} {f : Nat → Int} {g : Int} {rt lg pl_ tp mk ck : Nat → Int} {len n dg : Nat} {fp set : Int} {w : Option (Nat → Int)} {S : List Int} {F F1 : HF} {A : HA} {al : AL} (hK : KM al) (h : MI p e r q N m f g rt lg pl_ len tp fp n set dg mk ck w S F1 A) (ht0 : F1 44 0 = vI 0) (hoF : FOff SCF F F1) (hd : ∀ i, InR (whD d0 d1 d2 d3 i)) : ∀ (k i : Nat) (A2 : HA) (l7 : Option LV), i + k = 4 → Off [54] A A2 → (∀ j, j < i → A2 54 j = whD d0 d1 d2 d3 j) →
    QW mX12_whole 4 0 0 (PMP (if whB e q (whD d0 d1 d2 d3) 4 = true then some (jnM p r q m f g (whD d0 d1 d2 d3) 1 e) else none) F A al) 0 0 11 [some (vA 44), some (vI d0), some (vI d1), some (vI d2), some (vI d3), some (vI (if whB e q (whD d0 d1 d2 d3) i = true then 1 else 0)), some (vI i), l7] [] F1 A2 al := by
  obtain ⟨⟨hX, hT, h3r, hMH⟩, h2, ⟨hl0, hl1, hta⟩, h4, ⟨⟨h51, h52, h53⟩, h5m, h5c, ⟨hn1, hn63, hnq, hs0, hs1⟩, hdn⟩, h7, ⟨⟨h81, h82⟩, h83⟩⟩ := id h
  obtain ⟨hG, hp, he, hq, hN, hg, ⟨hp2, hp7, he1, he4, hme, hqe, hq3, hNm, hgE⟩, hP, hL, hR⟩ := id hT
  obtain ⟨hm, hr, hf, hm2, hr1, hr6, hN4⟩ := id hG
  have hm4 := hG.m4
  have hq2 := hT.q2
  have hN9 : (N : Int) ≤ 4096 := by rw [hNm]; exact hN4
  have hE : ∀ x : Int, 0 ≤ x ∧ x ≤ (N : Int) - 1 → El m r x := fun x h => ⟨h.1, by rw [← hNm]; omega⟩
  have hNp : 1 ≤ N := by have := el_one (m := m) (r := r) hm2 hr1; have := this.2; omega
  intro k
  induction k with
  | zero =>
    intro i A2 l7 hi ho h1
    have ei : i = 4 := by omega
    subst ei
    refine q_iload eX12_whole_11 rfl ?_
    refine q_iconst eX12_whole_13 ?_
    refine q_icmp_ge (tgt := 111) eX12_whole_14 (by decide) (by first | assumption | exact ⟨by omega, by omega⟩) (by first | assumption | exact ⟨by omega, by omega⟩) (fun c14 => ?_) (fun c14 => ?_)
    · refine q_aload_n eX12_whole_111 rfl ?_
      refine q_iload eX12_whole_112 rfl ?_
      refine q_iconst eX12_whole_114 ?_
      refine q_rightX eX12_whole_115 lk_X12_304 hK ht0 (by decide) (by decide) (by decide) (Nat.le_of_ble_eq_true rfl) ir_ite (fun n115 => ?_) (fun n115 => ?_)
      · refine q_if_eq (tgt := 129) eX12_whole_118 (by decide) (by first | assumption | exact ⟨by omega, by omega⟩) (fun c118 => ?_) (fun c118 => ?_)
        · refine q_iconst eX12_whole_129 ?_
          refine q_retI eX12_whole_130 rfl (by decide) (by decide) ?_
          first
          | (refine PMP_t ?_ hoF (ho.mono (by decide))
             rw [if_neg (i0 n115)])
          | (refine PMP_r ?_ ht0 hoF ((ho.mono (by decide)).trans (h3.mono (by decide)))
             rw [if_pos (i1 n115)])
        · exact absurd rfl c118
      · refine q_if_eq (tgt := 129) eX12_whole_118 (by decide) (by first | assumption | exact ⟨by omega, by omega⟩) (fun c118 => ?_) (fun c118 => ?_)
        · exact absurd c118 (by decide)
        · refine q_aload_n eX12_whole_121 rfl ?_
          refine q_iconst eX12_whole_122 ?_
          refine q_callVQ [vI 1] (M1 := mX12_joined) eX12_whole_123 mf_X12_joined lk_X12_195 (hK _ (by decide) (by decide)) (mo_joined (d := whD d0 d1 d2 d3) (b := 1) hK hX (hT.off ho (by decide) (by decide) (by decide) (by decide)) (by decide) (fun i hi => ⟨h1 i (by omega), by have := (of_decide_eq_true (i1 n115)) i (by omega); rw [if_pos hi] at this; omega⟩)) (by decide) (by decide) (by decide) (Nat.le_of_ble_eq_true rfl) rfl (fun A3 h3 => ?_)
          refine q_goto (tgt := 130) eX12_whole_126 (by decide) ?_
          refine q_retI eX12_whole_130 rfl (by decide) (by decide) ?_
          first
          | (refine PMP_t ?_ hoF (ho.mono (by decide))
             rw [if_neg (i0 n115)])
          | (refine PMP_r ?_ ht0 hoF ((ho.mono (by decide)).trans (h3.mono (by decide)))
             rw [if_pos (i1 n115)])
    · exact absurd c14 (by omega)
  | succ k ih =>
    intro i A2 l7 hi ho h1
    have hdi := hd i
    have hdi1 := hdi.1
    have hdi2 := hdi.2
    have hb := ih (i + 1)
    -- d is told; then what is asked of it
    have tail : ∀ (A3 : HA) (l7 : Option LV), A3 = A2 → QW mX12_whole 4 0 0 (PMP (if whB e q (whD d0 d1 d2 d3) 4 = true then some (jnM p r q m f g (whD d0 d1 d2 d3) 1 e) else none) F A al) 0 0 48 [some (vA 44), some (vI d0), some (vI d1), some (vI d2), some (vI d3), some (vI (if whB e q (whD d0 d1 d2 d3) i = true then 1 else 0)), some (vI i), l7] [vI (whD d0 d1 d2 d3 i)] F1 A3 al := by
      intro A3 l7 hA3
      subst hA3
      have hst : whB e q (whD d0 d1 d2 d3) (i + 1) = true ↔ whB e q (whD d0 d1 d2 d3) i = true ∧ -1 ≤ whD d0 d1 d2 d3 i ∧ whD d0 d1 d2 d3 i ≤ (if i < e then (q : Int) - 2 else -1) := by
        unfold whB
        rw [decide_eq_true_eq, decide_eq_true_eq]
        refine ⟨fun hh => ⟨fun j hj => hh j (by omega), hh i (by omega)⟩, fun hh j hj => ?_⟩
        by_cases he : j = i
        · rw [he]; exact hh.2
        · exact hh.1 j (by omega)
      refine q_istore eX12_whole_48 (by decide) rfl ?_
      refine q_iload eX12_whole_50 rfl ?_
      refine q_if_eq (tgt := 93) eX12_whole_52 (by decide) ir_ite (fun c52 => ?_) (fun c52 => ?_)
      · refine q_iconst eX12_whole_93 ?_
        refine q_istore eX12_whole_94 (by decide) rfl ?_
        refine q_aload_n eX12_whole_96 rfl ?_
        refine q_getfield eX12_whole_97 gf_X12_59 (hK _ (by decide) (by decide)) (by decide) (mr_44_17 hX) ?_
        refine q_iload eX12_whole_100 rfl ?_
        refine q_iload eX12_whole_102 rfl ?_
        refine q_iast eX12_whole_104 (hK _ (by decide) (by decide)) (by omega) (by omega) ?_
        refine q_iinc eX12_whole_105 rfl (by decide) rfl ?_
        refine q_goto (tgt := 11) eX12_whole_108 (by decide) ?_
        refine (fun hh => ?_) (hb (up2 A3 54 i (whD d0 d1 d2 d3 i)) (some (vI (whD d0 d1 d2 d3 i))) (by omega) (ho.trans (Off.up (by simp))) (fun j hj => by
          rw [up2_at]
          split
          · next he => rw [show j = i from he]
          · next hne => exact h1 j (by have : j ≠ i := hne; omega)))
        first
        | (rw [if_pos (hst.mpr ⟨i1 c52, i1 c86⟩)] at hh
           exact hh)
        | (rw [if_neg (fun hc => i0 c86 (hst.mp hc).2)] at hh
           exact hh)
        | (rw [if_neg (fun hc => i0 c52 (hst.mp hc).1)] at hh
           exact hh)
      · refine q_iload eX12_whole_55 rfl ?_
        refine q_i2l eX12_whole_57 (by first | assumption | exact ⟨by omega, by omega⟩) ?_
        refine q_ldc2 eX12_whole_58 kc_X12_350 ?_
        refine q_iload eX12_whole_61 rfl ?_
        refine q_aload_n eX12_whole_63 rfl ?_
        refine q_getfield eX12_whole_64 gf_X12_16 (hK _ (by decide) (by decide)) (by decide) (by first | assumption) ?_
        refine q_icmp_ge (tgt := 80) eX12_whole_67 (by decide) (by first | assumption | exact ⟨by omega, by omega⟩) (by first | assumption | exact ⟨by omega, by omega⟩) (fun c67 => ?_) (fun c67 => ?_)
        · refine q_ldc2 eX12_whole_80 kc_X12_350 ?_
          first
          | (refine q_callSP [vJ (whD d0 d1 d2 d3 i), vJ (-1), vJ ((q : Int) - 2)] (M1 := mX12_isIn) eX12_whole_83 mf_X12_isIn lk_X12_206 (mo_isIn (by exact ⟨by omega, by omega⟩) (by exact ⟨by omega, by omega⟩) (by exact ⟨by omega, by omega⟩)) (by decide) (by decide) (by decide) (Nat.le_of_ble_eq_true rfl) rfl ?_; rw [show (q : Int) - 2 = (if i < e then (q : Int) - 2 else -1) from (if_pos (by omega)).symm])
          | (refine q_callSP [vJ (whD d0 d1 d2 d3 i), vJ (-1), vJ (-1)] (M1 := mX12_isIn) eX12_whole_83 mf_X12_isIn lk_X12_206 (mo_isIn (by exact ⟨by omega, by omega⟩) (by exact ⟨by omega, by omega⟩) (by exact ⟨by omega, by omega⟩)) (by decide) (by decide) (by decide) (Nat.le_of_ble_eq_true rfl) rfl ?_; rw [show vI (if -1 ≤ whD d0 d1 d2 d3 i ∧ whD d0 d1 d2 d3 i ≤ -1 then 1 else 0) = vI (if -1 ≤ whD d0 d1 d2 d3 i ∧ whD d0 d1 d2 d3 i ≤ (if i < e then (q : Int) - 2 else -1) then 1 else 0) by rw [if_neg (show ¬ i < e by omega)]])
          refine q_if_eq (tgt := 93) eX12_whole_86 (by decide) ir_ite (fun c86 => ?_) (fun c86 => ?_)
          · refine q_iconst eX12_whole_93 ?_
            refine q_istore eX12_whole_94 (by decide) rfl ?_
            refine q_aload_n eX12_whole_96 rfl ?_
            refine q_getfield eX12_whole_97 gf_X12_59 (hK _ (by decide) (by decide)) (by decide) (mr_44_17 hX) ?_
            refine q_iload eX12_whole_100 rfl ?_
            refine q_iload eX12_whole_102 rfl ?_
            refine q_iast eX12_whole_104 (hK _ (by decide) (by decide)) (by omega) (by omega) ?_
            refine q_iinc eX12_whole_105 rfl (by decide) rfl ?_
            refine q_goto (tgt := 11) eX12_whole_108 (by decide) ?_
            refine (fun hh => ?_) (hb (up2 A3 54 i (whD d0 d1 d2 d3 i)) (some (vI (whD d0 d1 d2 d3 i))) (by omega) (ho.trans (Off.up (by simp))) (fun j hj => by
              rw [up2_at]
              split
              · next he => rw [show j = i from he]
              · next hne => exact h1 j (by have : j ≠ i := hne; omega)))
            first
            | (rw [if_pos (hst.mpr ⟨i1 c52, i1 c86⟩)] at hh
               exact hh)
            | (rw [if_neg (fun hc => i0 c86 (hst.mp hc).2)] at hh
               exact hh)
            | (rw [if_neg (fun hc => i0 c52 (hst.mp hc).1)] at hh
               exact hh)
          · refine q_iconst eX12_whole_89 ?_
            refine q_goto (tgt := 94) eX12_whole_90 (by decide) ?_
            refine q_istore eX12_whole_94 (by decide) rfl ?_
            refine q_aload_n eX12_whole_96 rfl ?_
            refine q_getfield eX12_whole_97 gf_X12_59 (hK _ (by decide) (by decide)) (by decide) (mr_44_17 hX) ?_
            refine q_iload eX12_whole_100 rfl ?_
            refine q_iload eX12_whole_102 rfl ?_
            refine q_iast eX12_whole_104 (hK _ (by decide) (by decide)) (by omega) (by omega) ?_
            refine q_iinc eX12_whole_105 rfl (by decide) rfl ?_
            refine q_goto (tgt := 11) eX12_whole_108 (by decide) ?_
            refine (fun hh => ?_) (hb (up2 A3 54 i (whD d0 d1 d2 d3 i)) (some (vI (whD d0 d1 d2 d3 i))) (by omega) (ho.trans (Off.up (by simp))) (fun j hj => by
              rw [up2_at]
              split
              · next he => rw [show j = i from he]
              · next hne => exact h1 j (by have : j ≠ i := hne; omega)))
            first
            | (rw [if_pos (hst.mpr ⟨i1 c52, i1 c86⟩)] at hh
               exact hh)
            | (rw [if_neg (fun hc => i0 c86 (hst.mp hc).2)] at hh
               exact hh)
            | (rw [if_neg (fun hc => i0 c52 (hst.mp hc).1)] at hh
               exact hh)
        · refine q_aload_n eX12_whole_70 rfl ?_
          refine q_getfield eX12_whole_71 gf_X12_25 (hK _ (by decide) (by decide)) (by decide) (by first | assumption) ?_
          refine q_iconst eX12_whole_74 ?_
          refine q_isub eX12_whole_75 ?_
          refine q_i2l eX12_whole_76 (by first | assumption | exact ⟨by omega, by omega⟩) ?_
          refine q_goto (tgt := 83) eX12_whole_77 (by decide) ?_
          first
          | (refine q_callSP [vJ (whD d0 d1 d2 d3 i), vJ (-1), vJ ((q : Int) - 2)] (M1 := mX12_isIn) eX12_whole_83 mf_X12_isIn lk_X12_206 (mo_isIn (by exact ⟨by omega, by omega⟩) (by exact ⟨by omega, by omega⟩) (by exact ⟨by omega, by omega⟩)) (by decide) (by decide) (by decide) (Nat.le_of_ble_eq_true rfl) rfl ?_; rw [show (q : Int) - 2 = (if i < e then (q : Int) - 2 else -1) from (if_pos (by omega)).symm])
          | (refine q_callSP [vJ (whD d0 d1 d2 d3 i), vJ (-1), vJ (-1)] (M1 := mX12_isIn) eX12_whole_83 mf_X12_isIn lk_X12_206 (mo_isIn (by exact ⟨by omega, by omega⟩) (by exact ⟨by omega, by omega⟩) (by exact ⟨by omega, by omega⟩)) (by decide) (by decide) (by decide) (Nat.le_of_ble_eq_true rfl) rfl ?_; rw [show vI (if -1 ≤ whD d0 d1 d2 d3 i ∧ whD d0 d1 d2 d3 i ≤ -1 then 1 else 0) = vI (if -1 ≤ whD d0 d1 d2 d3 i ∧ whD d0 d1 d2 d3 i ≤ (if i < e then (q : Int) - 2 else -1) then 1 else 0) by rw [if_neg (show ¬ i < e by omega)]])
          refine q_if_eq (tgt := 93) eX12_whole_86 (by decide) ir_ite (fun c86 => ?_) (fun c86 => ?_)
          · refine q_iconst eX12_whole_93 ?_
            refine q_istore eX12_whole_94 (by decide) rfl ?_
            refine q_aload_n eX12_whole_96 rfl ?_
            refine q_getfield eX12_whole_97 gf_X12_59 (hK _ (by decide) (by decide)) (by decide) (mr_44_17 hX) ?_
            refine q_iload eX12_whole_100 rfl ?_
            refine q_iload eX12_whole_102 rfl ?_
            refine q_iast eX12_whole_104 (hK _ (by decide) (by decide)) (by omega) (by omega) ?_
            refine q_iinc eX12_whole_105 rfl (by decide) rfl ?_
            refine q_goto (tgt := 11) eX12_whole_108 (by decide) ?_
            refine (fun hh => ?_) (hb (up2 A3 54 i (whD d0 d1 d2 d3 i)) (some (vI (whD d0 d1 d2 d3 i))) (by omega) (ho.trans (Off.up (by simp))) (fun j hj => by
              rw [up2_at]
              split
              · next he => rw [show j = i from he]
              · next hne => exact h1 j (by have : j ≠ i := hne; omega)))
            first
            | (rw [if_pos (hst.mpr ⟨i1 c52, i1 c86⟩)] at hh
               exact hh)
            | (rw [if_neg (fun hc => i0 c86 (hst.mp hc).2)] at hh
               exact hh)
            | (rw [if_neg (fun hc => i0 c52 (hst.mp hc).1)] at hh
               exact hh)
          · refine q_iconst eX12_whole_89 ?_
            refine q_goto (tgt := 94) eX12_whole_90 (by decide) ?_
            refine q_istore eX12_whole_94 (by decide) rfl ?_
            refine q_aload_n eX12_whole_96 rfl ?_
            refine q_getfield eX12_whole_97 gf_X12_59 (hK _ (by decide) (by decide)) (by decide) (mr_44_17 hX) ?_
            refine q_iload eX12_whole_100 rfl ?_
            refine q_iload eX12_whole_102 rfl ?_
            refine q_iast eX12_whole_104 (hK _ (by decide) (by decide)) (by omega) (by omega) ?_
            refine q_iinc eX12_whole_105 rfl (by decide) rfl ?_
            refine q_goto (tgt := 11) eX12_whole_108 (by decide) ?_
            refine (fun hh => ?_) (hb (up2 A3 54 i (whD d0 d1 d2 d3 i)) (some (vI (whD d0 d1 d2 d3 i))) (by omega) (ho.trans (Off.up (by simp))) (fun j hj => by
              rw [up2_at]
              split
              · next he => rw [show j = i from he]
              · next hne => exact h1 j (by have : j ≠ i := hne; omega)))
            first
            | (rw [if_pos (hst.mpr ⟨i1 c52, i1 c86⟩)] at hh
               exact hh)
            | (rw [if_neg (fun hc => i0 c86 (hst.mp hc).2)] at hh
               exact hh)
            | (rw [if_neg (fun hc => i0 c52 (hst.mp hc).1)] at hh
               exact hh)
    refine q_iload eX12_whole_11 rfl ?_
    refine q_iconst eX12_whole_13 ?_
    refine q_icmp_ge (tgt := 111) eX12_whole_14 (by decide) (by first | assumption | exact ⟨by omega, by omega⟩) (by first | assumption | exact ⟨by omega, by omega⟩) (fun c14 => ?_) (fun c14 => ?_)
    · exact absurd c14 (by omega)
    · refine q_iload eX12_whole_17 rfl ?_
      refine q_if_ne (tgt := 26) eX12_whole_19 (by decide) (by first | assumption | exact ⟨by omega, by omega⟩) (fun c19 => ?_) (fun c19 => ?_)
      · refine q_iload eX12_whole_26 rfl ?_
        refine q_iconst eX12_whole_28 ?_
        refine q_icmp_ne (tgt := 36) eX12_whole_29 (by decide) (by first | assumption | exact ⟨by omega, by omega⟩) (by first | assumption | exact ⟨by omega, by omega⟩) (fun c29 => ?_) (fun c29 => ?_)
        · refine q_iload eX12_whole_36 rfl ?_
          refine q_iconst eX12_whole_38 ?_
          refine q_icmp_ne (tgt := 46) eX12_whole_39 (by decide) (by first | assumption | exact ⟨by omega, by omega⟩) (by first | assumption | exact ⟨by omega, by omega⟩) (fun c39 => ?_) (fun c39 => ?_)
          · refine q_iload eX12_whole_46 rfl ?_
            first
            | (have e9 : whD d0 d1 d2 d3 i = d0 := by unfold whD; rw [if_pos (by omega)]
               have t9 := tail A2 l7 rfl
               rw [e9] at t9
               exact t9)
            | (have e9 : whD d0 d1 d2 d3 i = d1 := by unfold whD; rw [if_neg (by omega), if_pos (by omega)]
               have t9 := tail A2 l7 rfl
               rw [e9] at t9
               exact t9)
            | (have e9 : whD d0 d1 d2 d3 i = d2 := by unfold whD; rw [if_neg (by omega), if_neg (by omega), if_pos (by omega)]
               have t9 := tail A2 l7 rfl
               rw [e9] at t9
               exact t9)
            | (have e9 : whD d0 d1 d2 d3 i = d3 := by unfold whD; rw [if_neg (by omega), if_neg (by omega), if_neg (by omega)]
               have t9 := tail A2 l7 rfl
               rw [e9] at t9
               exact t9)
          · refine q_iload_n eX12_whole_42 rfl ?_
            refine q_goto (tgt := 48) eX12_whole_43 (by decide) ?_
            first
            | (have e9 : whD d0 d1 d2 d3 i = d0 := by unfold whD; rw [if_pos (by omega)]
               have t9 := tail A2 l7 rfl
               rw [e9] at t9
               exact t9)
            | (have e9 : whD d0 d1 d2 d3 i = d1 := by unfold whD; rw [if_neg (by omega), if_pos (by omega)]
               have t9 := tail A2 l7 rfl
               rw [e9] at t9
               exact t9)
            | (have e9 : whD d0 d1 d2 d3 i = d2 := by unfold whD; rw [if_neg (by omega), if_neg (by omega), if_pos (by omega)]
               have t9 := tail A2 l7 rfl
               rw [e9] at t9
               exact t9)
            | (have e9 : whD d0 d1 d2 d3 i = d3 := by unfold whD; rw [if_neg (by omega), if_neg (by omega), if_neg (by omega)]
               have t9 := tail A2 l7 rfl
               rw [e9] at t9
               exact t9)
        · refine q_iload_n eX12_whole_32 rfl ?_
          refine q_goto (tgt := 48) eX12_whole_33 (by decide) ?_
          first
          | (have e9 : whD d0 d1 d2 d3 i = d0 := by unfold whD; rw [if_pos (by omega)]
             have t9 := tail A2 l7 rfl
             rw [e9] at t9
             exact t9)
          | (have e9 : whD d0 d1 d2 d3 i = d1 := by unfold whD; rw [if_neg (by omega), if_pos (by omega)]
             have t9 := tail A2 l7 rfl
             rw [e9] at t9
             exact t9)
          | (have e9 : whD d0 d1 d2 d3 i = d2 := by unfold whD; rw [if_neg (by omega), if_neg (by omega), if_pos (by omega)]
             have t9 := tail A2 l7 rfl
             rw [e9] at t9
             exact t9)
          | (have e9 : whD d0 d1 d2 d3 i = d3 := by unfold whD; rw [if_neg (by omega), if_neg (by omega), if_neg (by omega)]
             have t9 := tail A2 l7 rfl
             rw [e9] at t9
             exact t9)
      · refine q_iload_n eX12_whole_22 rfl ?_
        refine q_goto (tgt := 48) eX12_whole_23 (by decide) ?_
        first
        | (have e9 : whD d0 d1 d2 d3 i = d0 := by unfold whD; rw [if_pos (by omega)]
           have t9 := tail A2 l7 rfl
           rw [e9] at t9
           exact t9)
        | (have e9 : whD d0 d1 d2 d3 i = d1 := by unfold whD; rw [if_neg (by omega), if_pos (by omega)]
           have t9 := tail A2 l7 rfl
           rw [e9] at t9
           exact t9)
        | (have e9 : whD d0 d1 d2 d3 i = d2 := by unfold whD; rw [if_neg (by omega), if_neg (by omega), if_pos (by omega)]
           have t9 := tail A2 l7 rfl
           rw [e9] at t9
           exact t9)
        | (have e9 : whD d0 d1 d2 d3 i = d3 := by unfold whD; rw [if_neg (by omega), if_neg (by omega), if_neg (by omega)]
           have t9 := tail A2 l7 rfl
           rw [e9] at t9
           exact t9)
set_option maxRecDepth 20000 in
theorem mo_whole {d0 d1 d2 d3 : Int} {p e r q N : Nat} {m : Int} {f : Nat → Int} {g : Int} {rt lg pl_ tp mk ck : Nat → Int} {len n dg : Nat} {fp set : Int} {w : Option (Nat → Int)} {S : List Int} {F : HF} {A : HA} {al : AL} (hK : KM al) (h0 : MI p e r q N m f g rt lg pl_ len tp fp n set dg mk ck w S F A) (hd0 : InR d0) (hd1 : InR d1) (hd2 : InR d2) (hd3 : InR d3) : QE 4 0 0 mX12_whole [vA 44, vI d0, vI d1, vI d2, vI d3] F A al (PMP (if whB e q (whD d0 d1 d2 d3) 4 = true then some (jnM p r q m f g (whD d0 d1 d2 d3) 1 e) else none) F A al) := by
  refine QE.mk (by decide +kernel) (Nat.le_of_ble_eq_true rfl) ?_
  have hd0_1 := hd0.1
  have hd0_2 := hd0.2
  have hd1_1 := hd1.1
  have hd1_2 := hd1.2
  have hd2_1 := hd2.1
  have hd2_2 := hd2.2
  have hd3_1 := hd3.1
  have hd3_2 := hd3.2
  have h := h0.t0
  generalize hF0 : up2 F 44 0 (vI 0) = F1 at h
  have ht0 : F1 44 0 = vI 0 := by rw [← hF0]; exact up2_eq _ _ _ _
  have hoF : FOff SCF F F1 := by rw [← hF0]; exact FOff.up (by decide)
  obtain ⟨⟨hX, hT, h3r, hMH⟩, h2, ⟨hl0, hl1, hta⟩, h4, ⟨⟨h51, h52, h53⟩, h5m, h5c, ⟨hn1, hn63, hnq, hs0, hs1⟩, hdn⟩, h7, ⟨⟨h81, h82⟩, h83⟩⟩ := id h
  obtain ⟨hG, hp, he, hq, hN, hg, ⟨hp2, hp7, he1, he4, hme, hqe, hq3, hNm, hgE⟩, hP, hL, hR⟩ := id hT
  obtain ⟨hm, hr, hf, hm2, hr1, hr6, hN4⟩ := id hG
  have hm4 := hG.m4
  have hq2 := hT.q2
  have hN9 : (N : Int) ≤ 4096 := by rw [hNm]; exact hN4
  have hE : ∀ x : Int, 0 ≤ x ∧ x ≤ (N : Int) - 1 → El m r x := fun x h => ⟨h.1, by rw [← hNm]; omega⟩
  have hNp : 1 ≤ N := by have := el_one (m := m) (r := r) hm2 hr1; have := this.2; omega
  refine q_aload_n eX12_whole_0 rfl ?_
  refine q_iconst eX12_whole_1 ?_
  refine q_putfield eX12_whole_2 pf_X12_1 (hK _ (by decide) (by decide)) (by decide) (FT_i rfl) ?_
  rw [hF0]
  refine q_iconst eX12_whole_5 ?_
  refine q_istore eX12_whole_6 (by decide) rfl ?_
  refine q_iconst eX12_whole_8 ?_
  refine q_istore eX12_whole_9 (by decide) rfl ?_
  have hh := lp_mwhole (F := F) (d0 := d0) (d1 := d1) (d2 := d2) (d3 := d3) hK h ht0 hoF (fun i => by unfold whD; repeat' split
                                                                                                      all_goals assumption) 4 0 A none (by omega) Off.rfl' (fun j hj => by omega)
  rw [if_pos (show whB e q (whD d0 d1 d2 d3) 0 = true from decide_eq_true (fun i hi => absurd hi (by omega)))] at hh
  exact hh
