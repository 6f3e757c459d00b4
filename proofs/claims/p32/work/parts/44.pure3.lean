/-! RootedRing: digit, whole, sum, units, many, coefficient, number, rest, mend, fault, said -/
set_option maxRecDepth 20000 in
theorem ev_digit {x i : Int} {p e r q N : Nat} {m : Int} {f : Nat → Int} {g : Int} {lg pl_ tp mk ck : Nat → Int} {len n dg : Nat} {fp set : Int} {w : Option (Nat → Int)} {S : List Int} {F : HF} {A : HA} {al : AL} (hK : KX al) (h : XI p e r q N m f g lg pl_ len tp fp n set dg mk ck w S F A) (hx : InR x) (hi : InR i) : QE 7 1 6 mX11_digit [vA 1, vI x, vI i] F A al (PXP eN (if (0 ≤ x ∧ x < (N : Int)) ∧ 0 ≤ i ∧ i < (e : Int) then some (rl p r m lg (dlE p r m f g lg x i.toNat)) else none) F A al) := by
  refine QE.mk (by decide +kernel) (Nat.le_of_ble_eq_true rfl) ?_
  have hx_1 := hx.1
  have hx_2 := hx.2
  have hi_1 := hi.1
  have hi_2 := hi.2
  obtain ⟨⟨hX, hT, h3r, hMK⟩, h2, ⟨hl0, hl1, hta⟩, h4, ⟨⟨h51, h52, h53, h54⟩, h5m, h5c, ⟨hn1, hn63, hnq, hs0, hs1⟩, h5e⟩, h6, h7, ⟨⟨h81, h82⟩, h83⟩⟩ := id h
  obtain ⟨hG, hp, he, hq, hN, hg, ⟨hp2, hp7, he1, he4, hme, hqe, hq3, hNm, hgE⟩, hP, hL, hI⟩ := id hT
  obtain ⟨hm, hr, hf, hm2, hr1, hr6, hN4⟩ := id hG
  have hm4 := hG.m4
  have hq2 := hT.q2
  have hN9 : (N : Int) ≤ 4096 := by rw [hNm]; exact hN4
  have hdn : dg ≤ n := by
    have := cy_le (m := m) (r := r) (q := q) (n := n) (f := f) (g := g) (c := (paE p n n).1) (set := set) n
    rw [h5e] at this
    exact this
  have hE : ∀ x : Int, 0 ≤ x ∧ x < (N : Int) → El m r x := fun x h => ⟨h.1, by rw [← hNm]; exact h.2⟩
  refine q_aload_n eX11_digit_0 rfl ?_
  refine q_getfield eX11_digit_1 gf_X11_10 (hK _ (by decide) (by decide)) (by decide) (xf_1_0 hX) ?_
  refine q_iload_n eX11_digit_4 rfl ?_
  refine q_callVP [vI x] (M1 := mX2_has) eX11_digit_5 mf_X2_has lk_X11_113 (hK _ (by decide) (by decide)) (ev_has hK hN (by exact ⟨by omega, by omega⟩) hx) (by decide) (by decide) (by decide) (Nat.le_of_ble_eq_true rfl) rfl ?_
  refine q_if_eq (tgt := 30) eX11_digit_8 (by decide) ir_ite (fun c8 => ?_) (fun c8 => ?_)
  · refine q_iconst eX11_digit_30 ?_
    refine q_need0 rfl eX11_digit_31 lk_X11_117 (by decide) (by decide) (by decide) ?_
    refine PXP_t ?_ Off.rfl'
    first | rw [if_neg (fun hc => i0 c8 hc.1)] | rw [if_neg (by rintro ⟨-, h1, h2⟩; omega)]
  · refine q_iload_n eX11_digit_11 rfl ?_
    refine q_if_lt (tgt := 30) eX11_digit_12 (by decide) (by first | assumption | exact ⟨by omega, by omega⟩) (fun c12 => ?_) (fun c12 => ?_)
    · refine q_iconst eX11_digit_30 ?_
      refine q_need0 rfl eX11_digit_31 lk_X11_117 (by decide) (by decide) (by decide) ?_
      refine PXP_t ?_ Off.rfl'
      first | rw [if_neg (fun hc => i0 c8 hc.1)] | rw [if_neg (by rintro ⟨-, h1, h2⟩; omega)]
    · refine q_iload_n eX11_digit_15 rfl ?_
      refine q_aload_n eX11_digit_16 rfl ?_
      refine q_getfield eX11_digit_17 gf_X11_10 (hK _ (by decide) (by decide)) (by decide) (xf_1_0 hX) ?_
      refine q_getfield eX11_digit_20 gf_X11_134 (hK _ (by decide) (by decide)) (by decide) (by first | assumption) ?_
      refine q_icmp_ge (tgt := 30) eX11_digit_23 (by decide) (by first | assumption | exact ⟨by omega, by omega⟩) (by first | assumption | exact ⟨by omega, by omega⟩) (fun c23 => ?_) (fun c23 => ?_)
      · refine q_iconst eX11_digit_30 ?_
        refine q_need0 rfl eX11_digit_31 lk_X11_117 (by decide) (by decide) (by decide) ?_
        refine PXP_t ?_ Off.rfl'
        first | rw [if_neg (fun hc => i0 c8 hc.1)] | rw [if_neg (by rintro ⟨-, h1, h2⟩; omega)]
      · refine q_iconst eX11_digit_26 ?_
        refine q_goto (tgt := 31) eX11_digit_27 (by decide) ?_
        refine q_need1 rfl eX11_digit_31 lk_X11_117 (by decide) (by decide) (by decide) ?_
        obtain ⟨t, rfl⟩ : ∃ t : Nat, i = t := ⟨i.toNat, by omega⟩
        refine q_aload_n eX11_digit_34 rfl ?_
        refine q_getfield eX11_digit_35 gf_X11_10 (hK _ (by decide) (by decide)) (by decide) (xf_1_0 hX) ?_
        refine q_iload_n eX11_digit_38 rfl ?_
        refine q_iload_n eX11_digit_39 rfl ?_
        refine q_callVP [vI x, vI t] (M1 := mX2_digitLog) eX11_digit_40 mf_X2_digitLog lk_X11_211 (hK _ (by decide) (by decide)) (ev_digitLog hK hX hT (hE x (i1 c8)) (by omega)) (by decide) (by decide) (by decide) (Nat.le_of_ble_eq_true rfl) rfl ?_
        refine q_retI eX11_digit_43 rfl (by decide) (by decide) ?_
        refine PXP_r ?_ Off.rfl'
        rw [if_pos ⟨i1 c8, by omega, by omega⟩]
        rfl
def whE (p r : Nat) (m : Int) (f : Nat → Int) (g d0 d1 d2 d3 : Int) : Int := wdE p r m f g (wdE p r m f g (wdE p r m f g (wdE p r m f g 0 0 d0) 1 d1) 2 d2) 3 d3
theorem wd_el {p r i : Nat} {m : Int} {f : Nat → Int} {g x log : Int} (hm : 0 < m) (hx : El m r x) : El m r (wdE p r m f g x i log) := by
  unfold wdE
  split
  · exact hx
  · exact un_range hm _ _
theorem csq {d i : Int} {e q : Nat} (h : d = -1 ∨ i < (e : Int) ∧ 0 ≤ d ∧ d ≤ (q : Int) - 2) : d = -1 ∨ 0 ≤ d ∧ d < (q : Int) - 1 := by omega
set_option maxRecDepth 20000 in
theorem ev_whole {d0 d1 d2 d3 : Int} {p e r q N : Nat} {m : Int} {f : Nat → Int} {g : Int} {lg pl_ tp mk ck : Nat → Int} {len n dg : Nat} {fp set : Int} {w : Option (Nat → Int)} {S : List Int} {F : HF} {A : HA} {al : AL} (hK : KX al) (h : XI p e r q N m f g lg pl_ len tp fp n set dg mk ck w S F A) (hd0 : InR d0) (hd1 : InR d1) (hd2 : InR d2) (hd3 : InR d3) : QE 7 1 6 mX11_whole [vA 1, vI d0, vI d1, vI d2, vI d3] F A al (PXP eN (if (d0 = -1 ∨ 0 < (e : Int) ∧ 0 ≤ d0 ∧ d0 ≤ (q : Int) - 2) ∧ (d1 = -1 ∨ 1 < (e : Int) ∧ 0 ≤ d1 ∧ d1 ≤ (q : Int) - 2) ∧ (d2 = -1 ∨ 2 < (e : Int) ∧ 0 ≤ d2 ∧ d2 ≤ (q : Int) - 2) ∧ (d3 = -1 ∨ 3 < (e : Int) ∧ 0 ≤ d3 ∧ d3 ≤ (q : Int) - 2) then some (whE p r m f g d0 d1 d2 d3) else none) F A al) := by
  refine QE.mk (by decide +kernel) (Nat.le_of_ble_eq_true rfl) ?_
  have hd0_1 := hd0.1
  have hd0_2 := hd0.2
  have hd1_1 := hd1.1
  have hd1_2 := hd1.2
  have hd2_1 := hd2.1
  have hd2_2 := hd2.2
  have hd3_1 := hd3.1
  have hd3_2 := hd3.2
  obtain ⟨⟨hX, hT, h3r, hMK⟩, h2, ⟨hl0, hl1, hta⟩, h4, ⟨⟨h51, h52, h53, h54⟩, h5m, h5c, ⟨hn1, hn63, hnq, hs0, hs1⟩, h5e⟩, h6, h7, ⟨⟨h81, h82⟩, h83⟩⟩ := id h
  obtain ⟨hG, hp, he, hq, hN, hg, ⟨hp2, hp7, he1, he4, hme, hqe, hq3, hNm, hgE⟩, hP, hL, hI⟩ := id hT
  obtain ⟨hm, hr, hf, hm2, hr1, hr6, hN4⟩ := id hG
  have hm4 := hG.m4
  have hq2 := hT.q2
  have hN9 : (N : Int) ≤ 4096 := by rw [hNm]; exact hN4
  have hdn : dg ≤ n := by
    have := cy_le (m := m) (r := r) (q := q) (n := n) (f := f) (g := g) (c := (paE p n n).1) (set := set) n
    rw [h5e] at this
    exact this
  have hE : ∀ x : Int, 0 ≤ x ∧ x < (N : Int) → El m r x := fun x h => ⟨h.1, by rw [← hNm]; exact h.2⟩
  have hm0 : 0 < m := by omega
  refine q_aload_n eX11_whole_0 rfl ?_
  refine q_iload_n eX11_whole_1 rfl ?_
  refine q_iconst eX11_whole_2 ?_
  refine q_callVP [vI d0, vI 0] (M1 := mX11_canStand) eX11_whole_3 mf_X11_canStand lk_X11_214 (hK _ (by decide) (by decide)) (ev_canStand hK hX he he4 hq hq3 hd0 ⟨by decide, by decide⟩) (by decide) (by decide) (by decide) (Nat.le_of_ble_eq_true rfl) rfl ?_
  refine q_if_eq (tgt := 41) eX11_whole_6 (by decide) ir_ite (fun c6 => ?_) (fun c6 => ?_)
  · refine q_iconst eX11_whole_41 ?_
    refine q_need0 rfl eX11_whole_42 lk_X11_117 (by decide) (by decide) (by decide) ?_
    refine PXP_t ?_ Off.rfl'
    first | rw [if_neg (fun hc => i0 c6 hc.1)] | rw [if_neg (fun hc => i0 c15 hc.2.1)] | rw [if_neg (fun hc => i0 c24 hc.2.2.1)] | rw [if_neg (fun hc => i0 c34 hc.2.2.2)]
  · refine q_aload_n eX11_whole_9 rfl ?_
    refine q_iload_n eX11_whole_10 rfl ?_
    refine q_iconst eX11_whole_11 ?_
    refine q_callVP [vI d1, vI 1] (M1 := mX11_canStand) eX11_whole_12 mf_X11_canStand lk_X11_214 (hK _ (by decide) (by decide)) (ev_canStand hK hX he he4 hq hq3 hd1 ⟨by decide, by decide⟩) (by decide) (by decide) (by decide) (Nat.le_of_ble_eq_true rfl) rfl ?_
    refine q_if_eq (tgt := 41) eX11_whole_15 (by decide) ir_ite (fun c15 => ?_) (fun c15 => ?_)
    · refine q_iconst eX11_whole_41 ?_
      refine q_need0 rfl eX11_whole_42 lk_X11_117 (by decide) (by decide) (by decide) ?_
      refine PXP_t ?_ Off.rfl'
      first | rw [if_neg (fun hc => i0 c6 hc.1)] | rw [if_neg (fun hc => i0 c15 hc.2.1)] | rw [if_neg (fun hc => i0 c24 hc.2.2.1)] | rw [if_neg (fun hc => i0 c34 hc.2.2.2)]
    · refine q_aload_n eX11_whole_18 rfl ?_
      refine q_iload_n eX11_whole_19 rfl ?_
      refine q_iconst eX11_whole_20 ?_
      refine q_callVP [vI d2, vI 2] (M1 := mX11_canStand) eX11_whole_21 mf_X11_canStand lk_X11_214 (hK _ (by decide) (by decide)) (ev_canStand hK hX he he4 hq hq3 hd2 ⟨by decide, by decide⟩) (by decide) (by decide) (by decide) (Nat.le_of_ble_eq_true rfl) rfl ?_
      refine q_if_eq (tgt := 41) eX11_whole_24 (by decide) ir_ite (fun c24 => ?_) (fun c24 => ?_)
      · refine q_iconst eX11_whole_41 ?_
        refine q_need0 rfl eX11_whole_42 lk_X11_117 (by decide) (by decide) (by decide) ?_
        refine PXP_t ?_ Off.rfl'
        first | rw [if_neg (fun hc => i0 c6 hc.1)] | rw [if_neg (fun hc => i0 c15 hc.2.1)] | rw [if_neg (fun hc => i0 c24 hc.2.2.1)] | rw [if_neg (fun hc => i0 c34 hc.2.2.2)]
      · refine q_aload_n eX11_whole_27 rfl ?_
        refine q_iload eX11_whole_28 rfl ?_
        refine q_iconst eX11_whole_30 ?_
        refine q_callVP [vI d3, vI 3] (M1 := mX11_canStand) eX11_whole_31 mf_X11_canStand lk_X11_214 (hK _ (by decide) (by decide)) (ev_canStand hK hX he he4 hq hq3 hd3 ⟨by decide, by decide⟩) (by decide) (by decide) (by decide) (Nat.le_of_ble_eq_true rfl) rfl ?_
        refine q_if_eq (tgt := 41) eX11_whole_34 (by decide) ir_ite (fun c34 => ?_) (fun c34 => ?_)
        · refine q_iconst eX11_whole_41 ?_
          refine q_need0 rfl eX11_whole_42 lk_X11_117 (by decide) (by decide) (by decide) ?_
          refine PXP_t ?_ Off.rfl'
          first | rw [if_neg (fun hc => i0 c6 hc.1)] | rw [if_neg (fun hc => i0 c15 hc.2.1)] | rw [if_neg (fun hc => i0 c24 hc.2.2.1)] | rw [if_neg (fun hc => i0 c34 hc.2.2.2)]
        · refine q_iconst eX11_whole_37 ?_
          refine q_goto (tgt := 42) eX11_whole_38 (by decide) ?_
          refine q_need1 rfl eX11_whole_42 lk_X11_117 (by decide) (by decide) (by decide) ?_
          have hw1 := wd_el (p := p) (f := f) (g := g) (i := 0) (log := d0) hm0 (el_zero (r := r) hm0)
          have hw2 := wd_el (p := p) (f := f) (g := g) (i := 1) (log := d1) hm0 hw1
          have hw3 := wd_el (p := p) (f := f) (g := g) (i := 2) (log := d2) hm0 hw2
          refine q_aload_n eX11_whole_45 rfl ?_
          refine q_getfield eX11_whole_46 gf_X11_10 (hK _ (by decide) (by decide)) (by decide) (xf_1_0 hX) ?_
          refine q_iconst eX11_whole_49 ?_
          refine q_iconst eX11_whole_50 ?_
          refine q_iload_n eX11_whole_51 rfl ?_
          refine q_callVP [vI 0, vI 0, vI d0] (M1 := mX2_withDigit) eX11_whole_52 mf_X2_withDigit lk_X11_218 (hK _ (by decide) (by decide)) (ev_withDigit (i := 0) hK hX hT (el_zero hm0) (by decide) (csq (i1 c6))) (by decide) (by decide) (by decide) (Nat.le_of_ble_eq_true rfl) rfl ?_
          refine q_istore eX11_whole_55 (by decide) rfl ?_
          refine q_aload_n eX11_whole_57 rfl ?_
          refine q_getfield eX11_whole_58 gf_X11_10 (hK _ (by decide) (by decide)) (by decide) (xf_1_0 hX) ?_
          refine q_iload eX11_whole_61 rfl ?_
          refine q_iconst eX11_whole_63 ?_
          refine q_iload_n eX11_whole_64 rfl ?_
          refine q_callVP [vI (wdE p r m f g 0 0 d0), vI 1, vI d1] (M1 := mX2_withDigit) eX11_whole_65 mf_X2_withDigit lk_X11_218 (hK _ (by decide) (by decide)) (ev_withDigit (i := 1) hK hX hT hw1 (by decide) (csq (i1 c15))) (by decide) (by decide) (by decide) (Nat.le_of_ble_eq_true rfl) rfl ?_
          refine q_istore eX11_whole_68 (by decide) rfl ?_
          refine q_aload_n eX11_whole_70 rfl ?_
          refine q_getfield eX11_whole_71 gf_X11_10 (hK _ (by decide) (by decide)) (by decide) (xf_1_0 hX) ?_
          refine q_iload eX11_whole_74 rfl ?_
          refine q_iconst eX11_whole_76 ?_
          refine q_iload_n eX11_whole_77 rfl ?_
          refine q_callVP [vI (wdE p r m f g (wdE p r m f g 0 0 d0) 1 d1), vI 2, vI d2] (M1 := mX2_withDigit) eX11_whole_78 mf_X2_withDigit lk_X11_218 (hK _ (by decide) (by decide)) (ev_withDigit (i := 2) hK hX hT hw2 (by decide) (csq (i1 c24))) (by decide) (by decide) (by decide) (Nat.le_of_ble_eq_true rfl) rfl ?_
          refine q_istore eX11_whole_81 (by decide) rfl ?_
          refine q_aload_n eX11_whole_83 rfl ?_
          refine q_getfield eX11_whole_84 gf_X11_10 (hK _ (by decide) (by decide)) (by decide) (xf_1_0 hX) ?_
          refine q_iload eX11_whole_87 rfl ?_
          refine q_iconst eX11_whole_89 ?_
          refine q_iload eX11_whole_90 rfl ?_
          refine q_callVP [vI (wdE p r m f g (wdE p r m f g (wdE p r m f g 0 0 d0) 1 d1) 2 d2), vI 3, vI d3] (M1 := mX2_withDigit) eX11_whole_92 mf_X2_withDigit lk_X11_218 (hK _ (by decide) (by decide)) (ev_withDigit (i := 3) hK hX hT hw3 (by decide) (csq (i1 c34))) (by decide) (by decide) (by decide) (Nat.le_of_ble_eq_true rfl) rfl ?_
          refine q_retI eX11_whole_95 rfl (by decide) (by decide) ?_
          refine PXP_r ?_ Off.rfl'
          rw [if_pos ⟨i1 c6, i1 c15, i1 c24, i1 c34⟩]
          rfl
set_option maxRecDepth 20000 in
theorem ev_sum {k i : Int} {p e r q N : Nat} {m : Int} {f : Nat → Int} {g : Int} {lg pl_ tp mk ck : Nat → Int} {len n dg : Nat} {fp set : Int} {w : Option (Nat → Int)} {S : List Int} {F : HF} {A : HA} {al : AL} (hK : KX al) (h : XI p e r q N m f g lg pl_ len tp fp n set dg mk ck w S F A) (hk : InR k) (hi : InR i) : QE 7 1 6 mX11_sum [vA 1, vI k, vI i] F A al (PXP eN (if (0 ≤ k ∧ k ≤ (q : Int) - 2) ∧ 0 ≤ i ∧ i < (e : Int) then some (rl p r m lg (dlE p r m f g lg (pl m r 1 (pw m r f g k.toNat)) i.toNat)) else none) F A al) := by
  refine QE.mk (by decide +kernel) (Nat.le_of_ble_eq_true rfl) ?_
  have hk_1 := hk.1
  have hk_2 := hk.2
  have hi_1 := hi.1
  have hi_2 := hi.2
  obtain ⟨⟨hX, hT, h3r, hMK⟩, h2, ⟨hl0, hl1, hta⟩, h4, ⟨⟨h51, h52, h53, h54⟩, h5m, h5c, ⟨hn1, hn63, hnq, hs0, hs1⟩, h5e⟩, h6, h7, ⟨⟨h81, h82⟩, h83⟩⟩ := id h
  obtain ⟨hG, hp, he, hq, hN, hg, ⟨hp2, hp7, he1, he4, hme, hqe, hq3, hNm, hgE⟩, hP, hL, hI⟩ := id hT
  obtain ⟨hm, hr, hf, hm2, hr1, hr6, hN4⟩ := id hG
  have hm4 := hG.m4
  have hq2 := hT.q2
  have hN9 : (N : Int) ≤ 4096 := by rw [hNm]; exact hN4
  have hdn : dg ≤ n := by
    have := cy_le (m := m) (r := r) (q := q) (n := n) (f := f) (g := g) (c := (paE p n n).1) (set := set) n
    rw [h5e] at this
    exact this
  have hE : ∀ x : Int, 0 ≤ x ∧ x < (N : Int) → El m r x := fun x h => ⟨h.1, by rw [← hNm]; exact h.2⟩
  refine q_iload_n eX11_sum_0 rfl ?_
  refine q_if_lt (tgt := 36) eX11_sum_1 (by decide) (by first | assumption | exact ⟨by omega, by omega⟩) (fun c1 => ?_) (fun c1 => ?_)
  · refine q_iconst eX11_sum_36 ?_
    refine q_need0 rfl eX11_sum_37 lk_X11_117 (by decide) (by decide) (by decide) ?_
    refine PXP_t ?_ Off.rfl'
    rw [if_neg (by omega)]
  · refine q_iload_n eX11_sum_4 rfl ?_
    refine q_aload_n eX11_sum_5 rfl ?_
    refine q_getfield eX11_sum_6 gf_X11_10 (hK _ (by decide) (by decide)) (by decide) (xf_1_0 hX) ?_
    refine q_getfield eX11_sum_9 gf_X11_143 (hK _ (by decide) (by decide)) (by decide) (by first | assumption) ?_
    refine q_iconst eX11_sum_12 ?_
    refine q_isub eX11_sum_13 ?_
    refine q_icmp_gt (tgt := 36) eX11_sum_14 (by decide) (by first | assumption | exact ⟨by omega, by omega⟩) (by first | assumption | exact ⟨by omega, by omega⟩) (fun c14 => ?_) (fun c14 => ?_)
    · refine q_iconst eX11_sum_36 ?_
      refine q_need0 rfl eX11_sum_37 lk_X11_117 (by decide) (by decide) (by decide) ?_
      refine PXP_t ?_ Off.rfl'
      rw [if_neg (by omega)]
    · refine q_iload_n eX11_sum_17 rfl ?_
      refine q_if_lt (tgt := 36) eX11_sum_18 (by decide) (by first | assumption | exact ⟨by omega, by omega⟩) (fun c18 => ?_) (fun c18 => ?_)
      · refine q_iconst eX11_sum_36 ?_
        refine q_need0 rfl eX11_sum_37 lk_X11_117 (by decide) (by decide) (by decide) ?_
        refine PXP_t ?_ Off.rfl'
        rw [if_neg (by omega)]
      · refine q_iload_n eX11_sum_21 rfl ?_
        refine q_aload_n eX11_sum_22 rfl ?_
        refine q_getfield eX11_sum_23 gf_X11_10 (hK _ (by decide) (by decide)) (by decide) (xf_1_0 hX) ?_
        refine q_getfield eX11_sum_26 gf_X11_134 (hK _ (by decide) (by decide)) (by decide) (by first | assumption) ?_
        refine q_icmp_ge (tgt := 36) eX11_sum_29 (by decide) (by first | assumption | exact ⟨by omega, by omega⟩) (by first | assumption | exact ⟨by omega, by omega⟩) (fun c29 => ?_) (fun c29 => ?_)
        · refine q_iconst eX11_sum_36 ?_
          refine q_need0 rfl eX11_sum_37 lk_X11_117 (by decide) (by decide) (by decide) ?_
          refine PXP_t ?_ Off.rfl'
          rw [if_neg (by omega)]
        · refine q_iconst eX11_sum_32 ?_
          refine q_goto (tgt := 37) eX11_sum_33 (by decide) ?_
          refine q_need1 rfl eX11_sum_37 lk_X11_117 (by decide) (by decide) (by decide) ?_
          obtain ⟨t, rfl⟩ : ∃ t : Nat, k = t := ⟨k.toNat, by omega⟩
          obtain ⟨u, rfl⟩ : ∃ u : Nat, i = u := ⟨i.toNat, by omega⟩
          refine q_aload_n eX11_sum_40 rfl ?_
          refine q_getfield eX11_sum_41 gf_X11_10 (hK _ (by decide) (by decide)) (by decide) (xf_1_0 hX) ?_
          refine q_aload_n eX11_sum_44 rfl ?_
          refine q_getfield eX11_sum_45 gf_X11_10 (hK _ (by decide) (by decide)) (by decide) (xf_1_0 hX) ?_
          refine q_iconst eX11_sum_48 ?_
          refine q_aload_n eX11_sum_49 rfl ?_
          refine q_getfield eX11_sum_50 gf_X11_10 (hK _ (by decide) (by decide)) (by decide) (xf_1_0 hX) ?_
          refine q_getfield eX11_sum_53 gf_X11_222 (hK _ (by decide) (by decide)) (by decide) (xf_2_8 hX) ?_
          refine q_iload_n eX11_sum_56 rfl ?_
          refine q_callSP [vA 4, vI t] (M1 := mX7_at) eX11_sum_57 mf_X7_at lk_X11_121 (ev_atN (hK _ (by decide) (by decide)) (show t < 3125 by omega) (by decide)) (by decide) (by decide) (by decide) (Nat.le_of_ble_eq_true rfl) rfl ?_
          rw [hP t (by omega)]
          refine q_callVP [vI 1, vI (pw m r f g t)] (M1 := mX2_plus) eX11_sum_60 mf_X2_plus lk_X11_172 (hK _ (by decide) (by decide)) (ev_plus hK hX hG (el_one hm2 hr1) (pw_el hm2 hr1 g t)) (by decide) (by decide) (by decide) (Nat.le_of_ble_eq_true rfl) rfl ?_
          refine q_iload_n eX11_sum_63 rfl ?_
          refine q_callVP [vI (pl m r 1 (pw m r f g t)), vI u] (M1 := mX2_digitLog) eX11_sum_64 mf_X2_digitLog lk_X11_211 (hK _ (by decide) (by decide)) (ev_digitLog hK hX hT (pl_el (by omega) _ _) (by omega)) (by decide) (by decide) (by decide) (Nat.le_of_ble_eq_true rfl) rfl ?_
          refine q_retI eX11_sum_67 rfl (by decide) (by decide) ?_
          refine PXP_r ?_ Off.rfl'
          rw [if_pos (by omega)]
          rfl
def coeE (n dg : Nat) (mk ck : Nat → Int) (which i : Int) : Option Int :=
  if which = 0 then (if i = -1 then some dg else if 0 ≤ i ∧ i ≤ (dg : Int) then some (mk i.toNat) else none) else if which = 1 then (if i = -1 then some ((n : Int) - dg) else if 0 ≤ i ∧ i ≤ (n : Int) - dg then some (ck i.toNat) else none) else none
set_option maxRecDepth 20000 in
theorem ev_coefficient {which i : Int} {p e r q N : Nat} {m : Int} {f : Nat → Int} {g : Int} {lg pl_ tp mk ck : Nat → Int} {len n dg : Nat} {fp set : Int} {w : Option (Nat → Int)} {S : List Int} {F : HF} {A : HA} {al : AL} (hK : KX al) (h : XI p e r q N m f g lg pl_ len tp fp n set dg mk ck w S F A) (hw : InR which) (hi : InR i) : QE 7 2 12 mX11_coefficient [vA 1, vI which, vI i] F A al (PXP eN (coeE n dg mk ck which i) F A al) := by
  refine QE.mk (by decide +kernel) (Nat.le_of_ble_eq_true rfl) ?_
  have hw_1 := hw.1
  have hw_2 := hw.2
  have hi_1 := hi.1
  have hi_2 := hi.2
  obtain ⟨⟨hX, hT, h3r, hMK⟩, h2, ⟨hl0, hl1, hta⟩, h4, ⟨⟨h51, h52, h53, h54⟩, h5m, h5c, ⟨hn1, hn63, hnq, hs0, hs1⟩, h5e⟩, h6, h7, ⟨⟨h81, h82⟩, h83⟩⟩ := id h
  obtain ⟨hG, hp, he, hq, hN, hg, ⟨hp2, hp7, he1, he4, hme, hqe, hq3, hNm, hgE⟩, hP, hL, hI⟩ := id hT
  obtain ⟨hm, hr, hf, hm2, hr1, hr6, hN4⟩ := id hG
  have hm4 := hG.m4
  have hq2 := hT.q2
  have hN9 : (N : Int) ≤ 4096 := by rw [hNm]; exact hN4
  have hdn : dg ≤ n := by
    have := cy_le (m := m) (r := r) (q := q) (n := n) (f := f) (g := g) (c := (paE p n n).1) (set := set) n
    rw [h5e] at this
    exact this
  have hE : ∀ x : Int, 0 ≤ x ∧ x < (N : Int) → El m r x := fun x h => ⟨h.1, by rw [← hNm]; exact h.2⟩
  by_cases hw0 : which = 0
  · refine q_iload_n eX11_coefficient_0 rfl ?_
    refine q_if_eq (tgt := 9) eX11_coefficient_1 (by decide) (by first | assumption | exact ⟨by omega, by omega⟩) (fun c1 => ?_) (fun c1 => ?_)
    · refine q_iconst eX11_coefficient_9 ?_
      refine q_goto (tgt := 14) eX11_coefficient_10 (by decide) ?_
      refine q_need1 rfl eX11_coefficient_14 lk_X11_117 (by decide) (by decide) (by decide) ?_
      refine q_iload_n eX11_coefficient_17 rfl ?_
      refine q_if_ne (tgt := 31) eX11_coefficient_18 (by decide) (by first | assumption | exact ⟨by omega, by omega⟩) (fun c18 => ?_) (fun c18 => ?_)
      · exact absurd hw0 c18
      · refine q_aload_n eX11_coefficient_21 rfl ?_
        refine q_getfield eX11_coefficient_22 gf_X11_58 (hK _ (by decide) (by decide)) (by decide) (xf_1_7 hX) ?_
        refine q_getfield eX11_coefficient_25 gf_X11_277 (hK _ (by decide) (by decide)) (by decide) (by first | assumption) ?_
        refine q_goto (tgt := 46) eX11_coefficient_28 (by decide) ?_
        refine q_istore_n eX11_coefficient_46 (by decide) rfl ?_
        refine q_iload_n eX11_coefficient_47 rfl ?_
        refine q_iconst eX11_coefficient_48 ?_
        refine q_icmp_ne (tgt := 54) eX11_coefficient_49 (by decide) (by first | assumption | exact ⟨by omega, by omega⟩) (by first | assumption | exact ⟨by omega, by omega⟩) (fun c49 => ?_) (fun c49 => ?_)
        · refine q_iload_n eX11_coefficient_54 rfl ?_
          refine q_if_lt (tgt := 67) eX11_coefficient_55 (by decide) (by first | assumption | exact ⟨by omega, by omega⟩) (fun c55 => ?_) (fun c55 => ?_)
          · refine q_iconst eX11_coefficient_67 ?_
            refine q_need0 rfl eX11_coefficient_68 lk_X11_117 (by decide) (by decide) (by decide) ?_
            refine PXP_t ?_ Off.rfl'
            unfold coeE
            first | rw [if_neg (by omega), if_neg (by omega)] | rw [if_pos (by omega), if_neg (by omega), if_neg (by omega)] | rw [if_neg (by omega), if_pos (by omega), if_neg (by omega), if_neg (by omega)]
          · refine q_iload_n eX11_coefficient_58 rfl ?_
            refine q_iload_n eX11_coefficient_59 rfl ?_
            refine q_icmp_gt (tgt := 67) eX11_coefficient_60 (by decide) (by first | assumption | exact ⟨by omega, by omega⟩) (by first | assumption | exact ⟨by omega, by omega⟩) (fun c60 => ?_) (fun c60 => ?_)
            · refine q_iconst eX11_coefficient_67 ?_
              refine q_need0 rfl eX11_coefficient_68 lk_X11_117 (by decide) (by decide) (by decide) ?_
              refine PXP_t ?_ Off.rfl'
              unfold coeE
              first | rw [if_neg (by omega), if_neg (by omega)] | rw [if_pos (by omega), if_neg (by omega), if_neg (by omega)] | rw [if_neg (by omega), if_pos (by omega), if_neg (by omega), if_neg (by omega)]
            · refine q_iconst eX11_coefficient_63 ?_
              refine q_goto (tgt := 68) eX11_coefficient_64 (by decide) ?_
              refine q_need1 rfl eX11_coefficient_68 lk_X11_117 (by decide) (by decide) (by decide) ?_
              refine q_iload_n eX11_coefficient_71 rfl ?_
              refine q_if_ne (tgt := 85) eX11_coefficient_72 (by decide) (by first | assumption | exact ⟨by omega, by omega⟩) (fun c72 => ?_) (fun c72 => ?_)
              · exact absurd hw0 c72
              · refine q_aload_n eX11_coefficient_75 rfl ?_
                refine q_getfield eX11_coefficient_76 gf_X11_58 (hK _ (by decide) (by decide)) (by decide) (xf_1_7 hX) ?_
                refine q_getfield eX11_coefficient_79 gf_X11_280 (hK _ (by decide) (by decide)) (by decide) (xf_27_5 hX) ?_
                refine q_goto (tgt := 92) eX11_coefficient_82 (by decide) ?_
                obtain ⟨t, rfl⟩ : ∃ t : Nat, i = t := ⟨i.toNat, by omega⟩
                refine q_iload_n eX11_coefficient_92 rfl ?_
                refine q_callSP [vA 28, vI t] (M1 := mX7_at) eX11_coefficient_93 mf_X7_at lk_X11_121 (ev_atN (hK _ (by decide) (by decide)) (show t < 64 by omega) (by decide)) (by decide) (by decide) (by decide) (Nat.le_of_ble_eq_true rfl) rfl ?_
                rw [h5m t (by omega)]
                refine q_retI eX11_coefficient_96 rfl (by decide) (by decide) ?_
                refine PXP_r ?_ Off.rfl'
                unfold coeE
                first | (rw [if_pos (by omega), if_neg (by omega), if_pos (by omega)]; rfl) | (rw [if_neg (by omega), if_pos (by omega), if_neg (by omega), if_pos (by omega)]; rfl)
        · refine q_iload_n eX11_coefficient_52 rfl ?_
          refine q_retI eX11_coefficient_53 rfl (by decide) (by decide) ?_
          refine PXP_r ?_ Off.rfl'
          unfold coeE
          first | rw [if_pos (by omega), if_pos (by omega)] | rw [if_neg (by omega), if_pos (by omega), if_pos (by omega)]
    · exact absurd hw0 c1
  · refine q_iload_n eX11_coefficient_0 rfl ?_
    refine q_if_eq (tgt := 9) eX11_coefficient_1 (by decide) (by first | assumption | exact ⟨by omega, by omega⟩) (fun c1 => ?_) (fun c1 => ?_)
    · exact absurd c1 hw0
    · refine q_iload_n eX11_coefficient_4 rfl ?_
      refine q_iconst eX11_coefficient_5 ?_
      refine q_icmp_ne (tgt := 13) eX11_coefficient_6 (by decide) (by first | assumption | exact ⟨by omega, by omega⟩) (by first | assumption | exact ⟨by omega, by omega⟩) (fun c6 => ?_) (fun c6 => ?_)
      · refine q_iconst eX11_coefficient_13 ?_
        refine q_need0 rfl eX11_coefficient_14 lk_X11_117 (by decide) (by decide) (by decide) ?_
        refine PXP_t ?_ Off.rfl'
        unfold coeE
        first | rw [if_neg (by omega), if_neg (by omega)] | rw [if_pos (by omega), if_neg (by omega), if_neg (by omega)] | rw [if_neg (by omega), if_pos (by omega), if_neg (by omega), if_neg (by omega)]
      · refine q_iconst eX11_coefficient_9 ?_
        refine q_goto (tgt := 14) eX11_coefficient_10 (by decide) ?_
        refine q_need1 rfl eX11_coefficient_14 lk_X11_117 (by decide) (by decide) (by decide) ?_
        refine q_iload_n eX11_coefficient_17 rfl ?_
        refine q_if_ne (tgt := 31) eX11_coefficient_18 (by decide) (by first | assumption | exact ⟨by omega, by omega⟩) (fun c18 => ?_) (fun c18 => ?_)
        · refine q_aload_n eX11_coefficient_31 rfl ?_
          refine q_getfield eX11_coefficient_32 gf_X11_58 (hK _ (by decide) (by decide)) (by decide) (xf_1_7 hX) ?_
          refine q_getfield eX11_coefficient_35 gf_X11_153 (hK _ (by decide) (by decide)) (by decide) (by first | assumption) ?_
          refine q_aload_n eX11_coefficient_38 rfl ?_
          refine q_getfield eX11_coefficient_39 gf_X11_58 (hK _ (by decide) (by decide)) (by decide) (xf_1_7 hX) ?_
          refine q_getfield eX11_coefficient_42 gf_X11_277 (hK _ (by decide) (by decide)) (by decide) (by first | assumption) ?_
          refine q_isub eX11_coefficient_45 ?_
          refine q_istore_n eX11_coefficient_46 (by decide) rfl ?_
          refine q_iload_n eX11_coefficient_47 rfl ?_
          refine q_iconst eX11_coefficient_48 ?_
          refine q_icmp_ne (tgt := 54) eX11_coefficient_49 (by decide) (by first | assumption | exact ⟨by omega, by omega⟩) (by first | assumption | exact ⟨by omega, by omega⟩) (fun c49 => ?_) (fun c49 => ?_)
          · refine q_iload_n eX11_coefficient_54 rfl ?_
            refine q_if_lt (tgt := 67) eX11_coefficient_55 (by decide) (by first | assumption | exact ⟨by omega, by omega⟩) (fun c55 => ?_) (fun c55 => ?_)
            · refine q_iconst eX11_coefficient_67 ?_
              refine q_need0 rfl eX11_coefficient_68 lk_X11_117 (by decide) (by decide) (by decide) ?_
              refine PXP_t ?_ Off.rfl'
              unfold coeE
              first | rw [if_neg (by omega), if_neg (by omega)] | rw [if_pos (by omega), if_neg (by omega), if_neg (by omega)] | rw [if_neg (by omega), if_pos (by omega), if_neg (by omega), if_neg (by omega)]
            · refine q_iload_n eX11_coefficient_58 rfl ?_
              refine q_iload_n eX11_coefficient_59 rfl ?_
              refine q_icmp_gt (tgt := 67) eX11_coefficient_60 (by decide) (by first | assumption | exact ⟨by omega, by omega⟩) (by first | assumption | exact ⟨by omega, by omega⟩) (fun c60 => ?_) (fun c60 => ?_)
              · refine q_iconst eX11_coefficient_67 ?_
                refine q_need0 rfl eX11_coefficient_68 lk_X11_117 (by decide) (by decide) (by decide) ?_
                refine PXP_t ?_ Off.rfl'
                unfold coeE
                first | rw [if_neg (by omega), if_neg (by omega)] | rw [if_pos (by omega), if_neg (by omega), if_neg (by omega)] | rw [if_neg (by omega), if_pos (by omega), if_neg (by omega), if_neg (by omega)]
              · refine q_iconst eX11_coefficient_63 ?_
                refine q_goto (tgt := 68) eX11_coefficient_64 (by decide) ?_
                refine q_need1 rfl eX11_coefficient_68 lk_X11_117 (by decide) (by decide) (by decide) ?_
                refine q_iload_n eX11_coefficient_71 rfl ?_
                refine q_if_ne (tgt := 85) eX11_coefficient_72 (by decide) (by first | assumption | exact ⟨by omega, by omega⟩) (fun c72 => ?_) (fun c72 => ?_)
                · refine q_aload_n eX11_coefficient_85 rfl ?_
                  refine q_getfield eX11_coefficient_86 gf_X11_58 (hK _ (by decide) (by decide)) (by decide) (xf_1_7 hX) ?_
                  refine q_getfield eX11_coefficient_89 gf_X11_283 (hK _ (by decide) (by decide)) (by decide) (xf_27_6 hX) ?_
                  obtain ⟨t, rfl⟩ : ∃ t : Nat, i = t := ⟨i.toNat, by omega⟩
                  refine q_iload_n eX11_coefficient_92 rfl ?_
                  refine q_callSP [vA 29, vI t] (M1 := mX7_at) eX11_coefficient_93 mf_X7_at lk_X11_121 (ev_atN (hK _ (by decide) (by decide)) (show t < 64 by omega) (by decide)) (by decide) (by decide) (by decide) (Nat.le_of_ble_eq_true rfl) rfl ?_
                  rw [h5c t (by omega)]
                  refine q_retI eX11_coefficient_96 rfl (by decide) (by decide) ?_
                  refine PXP_r ?_ Off.rfl'
                  unfold coeE
                  first | (rw [if_pos (by omega), if_neg (by omega), if_pos (by omega)]; rfl) | (rw [if_neg (by omega), if_pos (by omega), if_neg (by omega), if_pos (by omega)]; rfl)
                · exact absurd c72 hw0
          · refine q_iload_n eX11_coefficient_52 rfl ?_
            refine q_retI eX11_coefficient_53 rfl (by decide) (by decide) ?_
            refine PXP_r ?_ Off.rfl'
            unfold coeE
            first | rw [if_pos (by omega), if_pos (by omega)] | rw [if_neg (by omega), if_pos (by omega), if_pos (by omega)]
        · exact absurd c18 hw0
