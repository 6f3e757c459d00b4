/-! RootedRing: count, modulus, element, of, digit, whole, sum, units, many -/
def cntE (p e r q N : Nat) (m : Int) (f : Nat → Int) (g : Int) (lg : Nat → Int) (len n dg : Nat) (what : Int) : Option Int :=
  if what = 0 then some p else if what = 1 then some e else if what = 2 then some r else if what = 3 then some m else if what = 4 then some q else if what = 5 then some N else if what = 6 then some ((N : Int) - (N : Int) / q) else if what = 7 then some g else if what = 8 then some n else if what = 9 then some (n - dg : Nat) else if what = 10 then some len else if what = 11 then some (dvE r : Nat) else if what = 12 then some (((q : Int) - 1) * (coE p e r N m f lg : Nat)) else none
set_option maxRecDepth 20000 in
theorem ev_cnt {what : Int} {p e r q N : Nat} {m : Int} {f : Nat → Int} {g : Int} {lg pl_ tp mk ck : Nat → Int} {len n dg : Nat} {fp set : Int} {w : Option (Nat → Int)} {S : List Int} {F : HF} {A : HA} {al : AL} (hK : KX al) (h : XI p e r q N m f g lg pl_ len tp fp n set dg mk ck w S F A) (hx : InR what) : QE 7 1 6 mX11_count [vA 1, vI what] F A al (PXP eN (cntE p e r q N m f g lg len n dg what) F A al) := by
  refine QE.mk (by decide +kernel) (Nat.le_of_ble_eq_true rfl) ?_
  obtain ⟨⟨hX, hT, h3r, hMK⟩, h2, ⟨hl0, hl1, hta⟩, h4, ⟨⟨h51, h52, h53, h54⟩, h5m, h5c, ⟨hn1, hn63, hnq, hs0, hs1⟩, h5e⟩, h6, h7, ⟨⟨h81, h82⟩, h83⟩⟩ := id h
  obtain ⟨hG, hp, he, hq, hN, hg, ⟨hp2, hp7, he1, he4, hme, hqe, hq3, hNm, hgE⟩, hP, hL, hI⟩ := id hT
  obtain ⟨hm, hr, hf, hm2, hr1, hr6, hN4⟩ := id hG
  have hm4 := hG.m4
  have hq2 := hT.q2
  have hN9 : (N : Int) ≤ 4096 := by rw [hNm]; exact hN4
  have hdn : dg ≤ n := by
    have := cy_le (m := m) (r := r) (q := q) (n := n) (f := f) (g := g) (c := (paE p n n).1) (set := set) n
    rw [h5e] at this
    exact this
  have hE : ∀ x : Int, 0 ≤ x ∧ x < (N : Int) → El m r x := fun x h => ⟨h.1, by rw [← hNm]; exact h.2⟩
  refine q_iload_n eX11_count_0 rfl ?_
  by_cases w0 : what = 0
  · refine q_tableIn (off := 67) (tgt := 68) eX11_count_1 hx (by omega) (by omega) (by rw [w0]; decide) (by decide) ?_
    subst w0
    refine q_aload_n eX11_count_68 rfl ?_
    refine q_getfield eX11_count_69 gf_X11_10 (hK _ (by decide) (by decide)) (by decide) (xf_1_0 hX) ?_
    refine q_getfield eX11_count_72 gf_X11_131 (hK _ (by decide) (by decide)) (by decide) (by first | assumption) ?_
    refine q_retI eX11_count_75 rfl (by decide) (by decide) ?_
    exact PXP_r rfl Off.rfl'
  by_cases w1 : what = 1
  · refine q_tableIn (off := 75) (tgt := 76) eX11_count_1 hx (by omega) (by omega) (by rw [w1]; decide) (by decide) ?_
    subst w1
    refine q_aload_n eX11_count_76 rfl ?_
    refine q_getfield eX11_count_77 gf_X11_10 (hK _ (by decide) (by decide)) (by decide) (xf_1_0 hX) ?_
    refine q_getfield eX11_count_80 gf_X11_134 (hK _ (by decide) (by decide)) (by decide) (by first | assumption) ?_
    refine q_retI eX11_count_83 rfl (by decide) (by decide) ?_
    exact PXP_r rfl Off.rfl'
  by_cases w2 : what = 2
  · refine q_tableIn (off := 83) (tgt := 84) eX11_count_1 hx (by omega) (by omega) (by rw [w2]; decide) (by decide) ?_
    subst w2
    refine q_aload_n eX11_count_84 rfl ?_
    refine q_getfield eX11_count_85 gf_X11_10 (hK _ (by decide) (by decide)) (by decide) (xf_1_0 hX) ?_
    refine q_getfield eX11_count_88 gf_X11_137 (hK _ (by decide) (by decide)) (by decide) (by first | assumption) ?_
    refine q_retI eX11_count_91 rfl (by decide) (by decide) ?_
    exact PXP_r rfl Off.rfl'
  by_cases w3 : what = 3
  · refine q_tableIn (off := 91) (tgt := 92) eX11_count_1 hx (by omega) (by omega) (by rw [w3]; decide) (by decide) ?_
    subst w3
    refine q_aload_n eX11_count_92 rfl ?_
    refine q_getfield eX11_count_93 gf_X11_10 (hK _ (by decide) (by decide)) (by decide) (xf_1_0 hX) ?_
    refine q_getfield eX11_count_96 gf_X11_140 (hK _ (by decide) (by decide)) (by decide) (by first | assumption) ?_
    refine q_retI eX11_count_99 rfl (by decide) (by decide) ?_
    exact PXP_r rfl Off.rfl'
  by_cases w4 : what = 4
  · refine q_tableIn (off := 99) (tgt := 100) eX11_count_1 hx (by omega) (by omega) (by rw [w4]; decide) (by decide) ?_
    subst w4
    refine q_aload_n eX11_count_100 rfl ?_
    refine q_getfield eX11_count_101 gf_X11_10 (hK _ (by decide) (by decide)) (by decide) (xf_1_0 hX) ?_
    refine q_getfield eX11_count_104 gf_X11_143 (hK _ (by decide) (by decide)) (by decide) (by first | assumption) ?_
    refine q_retI eX11_count_107 rfl (by decide) (by decide) ?_
    exact PXP_r rfl Off.rfl'
  by_cases w5 : what = 5
  · refine q_tableIn (off := 107) (tgt := 108) eX11_count_1 hx (by omega) (by omega) (by rw [w5]; decide) (by decide) ?_
    subst w5
    refine q_aload_n eX11_count_108 rfl ?_
    refine q_getfield eX11_count_109 gf_X11_10 (hK _ (by decide) (by decide)) (by decide) (xf_1_0 hX) ?_
    refine q_getfield eX11_count_112 gf_X11_85 (hK _ (by decide) (by decide)) (by decide) (by first | assumption) ?_
    refine q_retI eX11_count_115 rfl (by decide) (by decide) ?_
    exact PXP_r rfl Off.rfl'
  by_cases w6 : what = 6
  · refine q_tableIn (off := 115) (tgt := 116) eX11_count_1 hx (by omega) (by omega) (by rw [w6]; decide) (by decide) ?_
    subst w6
    refine q_aload_n eX11_count_116 rfl ?_
    refine q_getfield eX11_count_117 gf_X11_10 (hK _ (by decide) (by decide)) (by decide) (xf_1_0 hX) ?_
    refine q_getfield eX11_count_120 gf_X11_85 (hK _ (by decide) (by decide)) (by decide) (by first | assumption) ?_
    refine q_aload_n eX11_count_123 rfl ?_
    refine q_getfield eX11_count_124 gf_X11_10 (hK _ (by decide) (by decide)) (by decide) (xf_1_0 hX) ?_
    refine q_getfield eX11_count_127 gf_X11_85 (hK _ (by decide) (by decide)) (by decide) (by first | assumption) ?_
    refine q_aload_n eX11_count_130 rfl ?_
    refine q_getfield eX11_count_131 gf_X11_10 (hK _ (by decide) (by decide)) (by decide) (xf_1_0 hX) ?_
    refine q_getfield eX11_count_134 gf_X11_143 (hK _ (by decide) (by decide)) (by decide) (by first | assumption) ?_
    refine q_callSP [vI N, vI q] (M1 := mX7_quotient) eX11_count_137 mf_X7_quotient lk_X11_146 (ev_quotP (by omega) (by omega) (by omega) (by omega)) (by decide) (by decide) (by decide) (Nat.le_of_ble_eq_true rfl) rfl ?_
    refine q_isub eX11_count_140 ?_
    refine q_retI eX11_count_141 rfl (by decide) (by decide) ?_
    exact PXP_r rfl Off.rfl'
  by_cases w7 : what = 7
  · refine q_tableIn (off := 141) (tgt := 142) eX11_count_1 hx (by omega) (by omega) (by rw [w7]; decide) (by decide) ?_
    subst w7
    refine q_aload_n eX11_count_142 rfl ?_
    refine q_getfield eX11_count_143 gf_X11_10 (hK _ (by decide) (by decide)) (by decide) (xf_1_0 hX) ?_
    refine q_getfield eX11_count_146 gf_X11_150 (hK _ (by decide) (by decide)) (by decide) (by first | assumption) ?_
    refine q_retI eX11_count_149 rfl (by decide) (by decide) ?_
    exact PXP_r rfl Off.rfl'
  by_cases w8 : what = 8
  · refine q_tableIn (off := 149) (tgt := 150) eX11_count_1 hx (by omega) (by omega) (by rw [w8]; decide) (by decide) ?_
    subst w8
    refine q_aload_n eX11_count_150 rfl ?_
    refine q_getfield eX11_count_151 gf_X11_58 (hK _ (by decide) (by decide)) (by decide) (xf_1_7 hX) ?_
    refine q_getfield eX11_count_154 gf_X11_153 (hK _ (by decide) (by decide)) (by decide) (by first | assumption) ?_
    refine q_retI eX11_count_157 rfl (by decide) (by decide) ?_
    exact PXP_r rfl Off.rfl'
  by_cases w9 : what = 9
  · refine q_tableIn (off := 157) (tgt := 158) eX11_count_1 hx (by omega) (by omega) (by rw [w9]; decide) (by decide) ?_
    subst w9
    refine q_aload_n eX11_count_158 rfl ?_
    refine q_getfield eX11_count_159 gf_X11_58 (hK _ (by decide) (by decide)) (by decide) (xf_1_7 hX) ?_
    refine q_getfield eX11_count_162 gf_X11_156 (hK _ (by decide) (by decide)) (by decide) (by first | assumption) ?_
    refine q_retI eX11_count_165 rfl (by decide) (by decide) ?_
    exact PXP_r rfl Off.rfl'
  by_cases w10 : what = 10
  · refine q_tableIn (off := 165) (tgt := 166) eX11_count_1 hx (by omega) (by omega) (by rw [w10]; decide) (by decide) ?_
    subst w10
    refine q_aload_n eX11_count_166 rfl ?_
    refine q_getfield eX11_count_167 gf_X11_26 (hK _ (by decide) (by decide)) (by decide) (xf_1_3 hX) ?_
    refine q_getfield eX11_count_170 gf_X11_89 (hK _ (by decide) (by decide)) (by decide) (by first | assumption) ?_
    refine q_retI eX11_count_173 rfl (by decide) (by decide) ?_
    exact PXP_r rfl Off.rfl'
  by_cases w11 : what = 11
  · refine q_tableIn (off := 173) (tgt := 174) eX11_count_1 hx (by omega) (by omega) (by rw [w11]; decide) (by decide) ?_
    subst w11
    refine q_aload_n eX11_count_174 rfl ?_
    refine q_getfield eX11_count_175 gf_X11_10 (hK _ (by decide) (by decide)) (by decide) (xf_1_0 hX) ?_
    refine q_getfield eX11_count_178 gf_X11_137 (hK _ (by decide) (by decide)) (by decide) (by first | assumption) ?_
    refine q_callSP [vI r] (M1 := mX11_divisors) eX11_count_181 mf_X11_divisors lk_X11_159 (ev_divisors hr6) (by decide) (by decide) (by decide) (Nat.le_of_ble_eq_true rfl) rfl ?_
    refine q_retI eX11_count_184 rfl (by decide) (by decide) ?_
    exact PXP_r rfl Off.rfl'
  by_cases w12 : what = 12
  · refine q_tableIn (off := 184) (tgt := 185) eX11_count_1 hx (by omega) (by omega) (by rw [w12]; decide) (by decide) ?_
    subst w12
    refine q_aload_n eX11_count_185 rfl ?_
    refine q_getfield eX11_count_186 gf_X11_10 (hK _ (by decide) (by decide)) (by decide) (xf_1_0 hX) ?_
    refine q_callVQ [] (M1 := mX2_commonOrder) eX11_count_189 mf_X2_commonOrder lk_X11_162 (hK _ (by decide) (by decide)) (ev_commonOrder hK hX hT) (by decide) (by decide) (by decide) (Nat.le_of_ble_eq_true rfl) rfl (fun A3 h3 => ?_)
    refine q_retI eX11_count_192 rfl (by decide) (by decide) ?_
    exact PXP_r rfl h3.s34
  refine q_tableOut (tgt := 193) eX11_count_1 hx (by omega) (by decide) ?_
  refine q_throw0 rfl rfl (by decide +kernel) cl_n in_n th_n th_ot_n (by decide) eX11_count_193 eX11_count_196 eX11_count_197 eX11_count_200 (by decide) (by decide) (by decide) ?_
  refine PXP_t ?_ Off.rfl'
  unfold cntE
  repeat rw [if_neg (by omega)]
def elmE (p e r q N : Nat) (m : Int) (f : Nat → Int) (lg : Nat → Int) (how x y : Int) : Option Int :=
  if (0 ≤ x ∧ x < (N : Int)) ∧ 0 ≤ y ∧ y < (N : Int) then (if how = 0 then some (pl m r x y) else if how = 1 then some (mi m r x y) else if how = 2 then some (tm m r f x y) else if how = 3 then (if rl p r m lg y = -1 then none else some (tm m r f x (pw m r f y (ivN p e q)))) else none) else none
set_option maxRecDepth 20000 in
theorem ev_element {how x y : Int} {p e r q N : Nat} {m : Int} {f : Nat → Int} {g : Int} {lg pl_ tp mk ck : Nat → Int} {len n dg : Nat} {fp set : Int} {w : Option (Nat → Int)} {S : List Int} {F : HF} {A : HA} {al : AL} (hK : KX al) (h : XI p e r q N m f g lg pl_ len tp fp n set dg mk ck w S F A) (hh : InR how) (hx : InR x) (hy : InR y) : QE 7 2 12 mX11_element [vA 1, vI how, vI x, vI y] F A al (PXP eN (elmE p e r q N m f lg how x y) F A al) := by
  refine QE.mk (by decide +kernel) (Nat.le_of_ble_eq_true rfl) ?_
  obtain ⟨⟨hX, hT, h3r, hMK⟩, h2, ⟨hl0, hl1, hta⟩, h4, ⟨⟨h51, h52, h53, h54⟩, h5m, h5c, ⟨hn1, hn63, hnq, hs0, hs1⟩, h5e⟩, h6, h7, ⟨⟨h81, h82⟩, h83⟩⟩ := id h
  obtain ⟨hG, hp, he, hq, hN, hg, ⟨hp2, hp7, he1, he4, hme, hqe, hq3, hNm, hgE⟩, hP, hL, hI⟩ := id hT
  obtain ⟨hm, hr, hf, hm2, hr1, hr6, hN4⟩ := id hG
  have hm4 := hG.m4
  have hq2 := hT.q2
  have hN9 : (N : Int) ≤ 4096 := by rw [hNm]; exact hN4
  have hdn : dg ≤ n := by
    have := cy_le (m := m) (r := r) (q := q) (n := n) (f := f) (g := g) (c := (paE p n n).1) (set := set) n
    rw [h5e] at this
    exact this
  have hE : ∀ x : Int, 0 ≤ x ∧ x < (N : Int) → El m r x := fun x h => ⟨h.1, by rw [← hNm]; exact h.2⟩
  refine q_aload_n eX11_element_0 rfl ?_
  refine q_getfield eX11_element_1 gf_X11_10 (hK _ (by decide) (by decide)) (by decide) (xf_1_0 hX) ?_
  refine q_iload_n eX11_element_4 rfl ?_
  refine q_callVP [vI x] (M1 := mX2_has) eX11_element_5 mf_X2_has lk_X11_113 (hK _ (by decide) (by decide)) (ev_has hK hN (by exact ⟨by omega, by omega⟩) hx) (by decide) (by decide) (by decide) (Nat.le_of_ble_eq_true rfl) rfl ?_
  refine q_if_eq (tgt := 26) eX11_element_8 (by decide) ir_ite (fun c8 => ?_) (fun c8 => ?_)
  · refine q_iconst eX11_element_26 ?_
    refine q_need0 rfl eX11_element_27 lk_X11_117 (by decide) (by decide) (by decide) ?_
    refine PXP_t ?_ Off.rfl'
    unfold elmE
    first | rw [if_neg (fun hc => i0 c8 hc.1)] | rw [if_neg (fun hc => i0 c19 hc.2)]
  · refine q_aload_n eX11_element_11 rfl ?_
    refine q_getfield eX11_element_12 gf_X11_10 (hK _ (by decide) (by decide)) (by decide) (xf_1_0 hX) ?_
    refine q_iload_n eX11_element_15 rfl ?_
    refine q_callVP [vI y] (M1 := mX2_has) eX11_element_16 mf_X2_has lk_X11_113 (hK _ (by decide) (by decide)) (ev_has hK hN (by exact ⟨by omega, by omega⟩) hy) (by decide) (by decide) (by decide) (Nat.le_of_ble_eq_true rfl) rfl ?_
    refine q_if_eq (tgt := 26) eX11_element_19 (by decide) ir_ite (fun c19 => ?_) (fun c19 => ?_)
    · refine q_iconst eX11_element_26 ?_
      refine q_need0 rfl eX11_element_27 lk_X11_117 (by decide) (by decide) (by decide) ?_
      refine PXP_t ?_ Off.rfl'
      unfold elmE
      first | rw [if_neg (fun hc => i0 c8 hc.1)] | rw [if_neg (fun hc => i0 c19 hc.2)]
    · refine q_iconst eX11_element_22 ?_
      refine q_goto (tgt := 27) eX11_element_23 (by decide) ?_
      refine q_need1 rfl eX11_element_27 lk_X11_117 (by decide) (by decide) (by decide) ?_
      refine q_iload_n eX11_element_30 rfl ?_
      by_cases w0 : how = 0
      · refine q_tableIn (off := 29) (tgt := 60) eX11_element_31 hh (by omega) (by omega) (by rw [w0]; decide) (by decide) ?_
        subst w0
        refine q_aload_n eX11_element_60 rfl ?_
        refine q_getfield eX11_element_61 gf_X11_10 (hK _ (by decide) (by decide)) (by decide) (xf_1_0 hX) ?_
        refine q_iload_n eX11_element_64 rfl ?_
        refine q_iload_n eX11_element_65 rfl ?_
        refine q_callVP [vI x, vI y] (M1 := mX2_plus) eX11_element_66 mf_X2_plus lk_X11_172 (hK _ (by decide) (by decide)) (ev_plus hK hX hG (hE x (i1 c8)) (hE y (i1 c19))) (by decide) (by decide) (by decide) (Nat.le_of_ble_eq_true rfl) rfl ?_
        refine q_retI eX11_element_69 rfl (by decide) (by decide) ?_
        refine PXP_r ?_ Off.rfl'
        unfold elmE
        rw [if_pos ⟨i1 c8, i1 c19⟩]
        rfl
      by_cases w1 : how = 1
      · refine q_tableIn (off := 39) (tgt := 70) eX11_element_31 hh (by omega) (by omega) (by rw [w1]; decide) (by decide) ?_
        subst w1
        refine q_aload_n eX11_element_70 rfl ?_
        refine q_getfield eX11_element_71 gf_X11_10 (hK _ (by decide) (by decide)) (by decide) (xf_1_0 hX) ?_
        refine q_iload_n eX11_element_74 rfl ?_
        refine q_iload_n eX11_element_75 rfl ?_
        refine q_callVP [vI x, vI y] (M1 := mX2_minus) eX11_element_76 mf_X2_minus lk_X11_175 (hK _ (by decide) (by decide)) (ev_minus hK hX hG (hE x (i1 c8)) (hE y (i1 c19))) (by decide) (by decide) (by decide) (Nat.le_of_ble_eq_true rfl) rfl ?_
        refine q_retI eX11_element_79 rfl (by decide) (by decide) ?_
        refine PXP_r ?_ Off.rfl'
        unfold elmE
        rw [if_pos ⟨i1 c8, i1 c19⟩]
        rfl
      by_cases w2 : how = 2
      · refine q_tableIn (off := 49) (tgt := 80) eX11_element_31 hh (by omega) (by omega) (by rw [w2]; decide) (by decide) ?_
        subst w2
        refine q_aload_n eX11_element_80 rfl ?_
        refine q_getfield eX11_element_81 gf_X11_10 (hK _ (by decide) (by decide)) (by decide) (xf_1_0 hX) ?_
        refine q_iload_n eX11_element_84 rfl ?_
        refine q_iload_n eX11_element_85 rfl ?_
        refine q_callVQ [vI x, vI y] (M1 := mX2_times) eX11_element_86 mf_X2_times lk_X11_178 (hK _ (by decide) (by decide)) (ev_times hK hX hG (hE x (i1 c8)) (hE y (i1 c19))) (by decide) (by decide) (by decide) (Nat.le_of_ble_eq_true rfl) rfl (fun A3 h3 => ?_)
        refine q_retI eX11_element_89 rfl (by decide) (by decide) ?_
        refine PXP_r ?_ h3.s34
        unfold elmE
        rw [if_pos ⟨i1 c8, i1 c19⟩]
        rfl
      by_cases w3 : how = 3
      · refine q_tableIn (off := 59) (tgt := 90) eX11_element_31 hh (by omega) (by omega) (by rw [w3]; decide) (by decide) ?_
        subst w3
        refine q_aload_n eX11_element_90 rfl ?_
        refine q_getfield eX11_element_91 gf_X11_10 (hK _ (by decide) (by decide)) (by decide) (xf_1_0 hX) ?_
        refine q_iload_n eX11_element_94 rfl ?_
        refine q_callVP [vI y] (M1 := mX2_isUnit) eX11_element_95 mf_X2_isUnit lk_X11_181 (hK _ (by decide) (by decide)) (ev_isUnit hK hX hT (hE y (i1 c19))) (by decide) (by decide) (by decide) (Nat.le_of_ble_eq_true rfl) rfl ?_
        refine q_need rfl eX11_element_98 lk_X11_117 (by decide) (by decide) (by decide) ir_iten (fun n98 => ?_) (fun n98 => ?_)
        · refine PXP_t ?_ Off.rfl'
          unfold elmE
          rw [if_pos ⟨i1 c8, i1 c19⟩]
          show (if rl p r m lg y = -1 then none else some (tm m r f x (pw m r f y (ivN p e q)))) = _
          rw [if_pos (i0n n98)]
        · refine q_aload_n eX11_element_101 rfl ?_
          refine q_getfield eX11_element_102 gf_X11_10 (hK _ (by decide) (by decide)) (by decide) (xf_1_0 hX) ?_
          refine q_iload_n eX11_element_105 rfl ?_
          refine q_aload_n eX11_element_106 rfl ?_
          refine q_getfield eX11_element_107 gf_X11_10 (hK _ (by decide) (by decide)) (by decide) (xf_1_0 hX) ?_
          refine q_iload_n eX11_element_110 rfl ?_
          refine q_callVQ [vI y] (M1 := mX2_inverse) eX11_element_111 mf_X2_inverse lk_X11_184 (hK _ (by decide) (by decide)) (ev_inverse hK hX hT (hE y (i1 c19))) (by decide) (by decide) (by decide) (Nat.le_of_ble_eq_true rfl) rfl (fun A3 h3 => ?_)
          refine q_callVQ [vI x, vI (pw m r f y (ivN p e q))] (M1 := mX2_times) eX11_element_114 mf_X2_times lk_X11_178 (hK _ (by decide) (by decide)) (ev_times hK hX (hG.s3 h3) (hE x (i1 c8)) (pw_el hm2 hr1 y _)) (by decide) (by decide) (by decide) (Nat.le_of_ble_eq_true rfl) rfl (fun A4 h4 => ?_)
          refine q_retI eX11_element_117 rfl (by decide) (by decide) ?_
          refine PXP_r ?_ (h3.trans h4).s34
          unfold elmE
          rw [if_pos ⟨i1 c8, i1 c19⟩]
          show (if rl p r m lg y = -1 then none else some (tm m r f x (pw m r f y (ivN p e q)))) = _
          rw [if_neg (i1n n98)]
      refine q_tableOut (tgt := 118) eX11_element_31 hh (by omega) (by decide) ?_
      refine q_throw0 rfl rfl (by decide +kernel) cl_n in_n th_n th_ot_n (by decide) eX11_element_118 eX11_element_121 eX11_element_122 eX11_element_125 (by decide) (by decide) (by decide) ?_
      refine PXP_t ?_ Off.rfl'
      unfold elmE
      rw [if_pos ⟨i1 c8, i1 c19⟩, if_neg (by omega), if_neg (by omega), if_neg (by omega), if_neg (by omega)]
def ofR (p e r q N : Nat) (m : Int) (f : Nat → Int) (g : Int) (lg : Nat → Int) (x what : Int) : Option Int :=
  if 0 ≤ x ∧ x < (N : Int) then (if what = 0 then some (lvE p r m lg x 0 e) else if what = 1 then some (ro p r m f g lg x) else if what = 2 then some (mv p r m f x) else if what = 3 then some (trE p r m f x r) else if what = 4 then some (nmE p r m f x r) else if what = 5 then some (lwE p r m f x 1 (r - 1) : Nat)
    else if what = 6 then some (if rl p r m lg x = -1 then -1 else obl p e r q m f g lg x) else if what = 7 then some (if rl p r m lg x = -1 then -1 else (ordE p e r q m f g lg x : Nat)) else if what = 8 then some (if rl p r m lg x = -1 then -1 else pw m r f x (ivN p e q)) else none) else none
set_option maxRecDepth 20000 in
theorem ev_of {x what : Int} {p e r q N : Nat} {m : Int} {f : Nat → Int} {g : Int} {lg pl_ tp mk ck : Nat → Int} {len n dg : Nat} {fp set : Int} {w : Option (Nat → Int)} {S : List Int} {F : HF} {A : HA} {al : AL} (hK : KX al) (h : XI p e r q N m f g lg pl_ len tp fp n set dg mk ck w S F A) (hx : InR x) (hw : InR what) : QE 7 2 12 mX11_of [vA 1, vI x, vI what] F A al (PXP eN (ofR p e r q N m f g lg x what) F A al) := by
  refine QE.mk (by decide +kernel) (Nat.le_of_ble_eq_true rfl) ?_
  obtain ⟨⟨hX, hT, h3r, hMK⟩, h2, ⟨hl0, hl1, hta⟩, h4, ⟨⟨h51, h52, h53, h54⟩, h5m, h5c, ⟨hn1, hn63, hnq, hs0, hs1⟩, h5e⟩, h6, h7, ⟨⟨h81, h82⟩, h83⟩⟩ := id h
  obtain ⟨hG, hp, he, hq, hN, hg, ⟨hp2, hp7, he1, he4, hme, hqe, hq3, hNm, hgE⟩, hP, hL, hI⟩ := id hT
  obtain ⟨hm, hr, hf, hm2, hr1, hr6, hN4⟩ := id hG
  have hm4 := hG.m4
  have hq2 := hT.q2
  have hN9 : (N : Int) ≤ 4096 := by rw [hNm]; exact hN4
  have hdn : dg ≤ n := by
    have := cy_le (m := m) (r := r) (q := q) (n := n) (f := f) (g := g) (c := (paE p n n).1) (set := set) n
    rw [h5e] at this
    exact this
  have hE : ∀ x : Int, 0 ≤ x ∧ x < (N : Int) → El m r x := fun x h => ⟨h.1, by rw [← hNm]; exact h.2⟩
  refine q_aload_n eX11_of_0 rfl ?_
  refine q_getfield eX11_of_1 gf_X11_10 (hK _ (by decide) (by decide)) (by decide) (xf_1_0 hX) ?_
  refine q_iload_n eX11_of_4 rfl ?_
  refine q_callVP [vI x] (M1 := mX2_has) eX11_of_5 mf_X2_has lk_X11_113 (hK _ (by decide) (by decide)) (ev_has hK hN (by exact ⟨by omega, by omega⟩) hx) (by decide) (by decide) (by decide) (Nat.le_of_ble_eq_true rfl) rfl ?_
  refine q_need rfl eX11_of_8 lk_X11_117 (by decide) (by decide) (by decide) ir_ite (fun n8 => ?_) (fun n8 => ?_)
  · refine PXP_t ?_ Off.rfl'
    unfold ofR
    rw [if_neg (i0 n8)]
  · refine q_iload_n eX11_of_11 rfl ?_
    by_cases w0 : what = 0
    · refine q_tableIn (off := 52) (tgt := 64) eX11_of_12 hw (by omega) (by omega) (by rw [w0]; decide) (by decide) ?_
      subst w0
      refine q_aload_n eX11_of_64 rfl ?_
      refine q_getfield eX11_of_65 gf_X11_10 (hK _ (by decide) (by decide)) (by decide) (xf_1_0 hX) ?_
      refine q_iload_n eX11_of_68 rfl ?_
      refine q_callVP [vI x] (M1 := mX2_level) eX11_of_69 mf_X2_level lk_X11_187 (hK _ (by decide) (by decide)) (ev_level hK hX hT (hE x (i1 n8))) (by decide) (by decide) (by decide) (Nat.le_of_ble_eq_true rfl) rfl ?_
      refine q_retI eX11_of_72 rfl (by decide) (by decide) ?_
      refine PXP_r ?_ Off.rfl'
      unfold ofR
      rw [if_pos (i1 n8)]
      rfl
    by_cases w1 : what = 1
    · refine q_tableIn (off := 61) (tgt := 73) eX11_of_12 hw (by omega) (by omega) (by rw [w1]; decide) (by decide) ?_
      subst w1
      refine q_aload_n eX11_of_73 rfl ?_
      refine q_getfield eX11_of_74 gf_X11_10 (hK _ (by decide) (by decide)) (by decide) (xf_1_0 hX) ?_
      refine q_iload_n eX11_of_77 rfl ?_
      refine q_callVP [vI x] (M1 := mX2_rootOf) eX11_of_78 mf_X2_rootOf lk_X11_190 (hK _ (by decide) (by decide)) (ev_rootOf hK hX hT (hE x (i1 n8))) (by decide) (by decide) (by decide) (Nat.le_of_ble_eq_true rfl) rfl ?_
      refine q_retI eX11_of_81 rfl (by decide) (by decide) ?_
      refine PXP_r ?_ Off.rfl'
      unfold ofR
      rw [if_pos (i1 n8)]
      rfl
    by_cases w2 : what = 2
    · refine q_tableIn (off := 70) (tgt := 82) eX11_of_12 hw (by omega) (by omega) (by rw [w2]; decide) (by decide) ?_
      subst w2
      refine q_aload_n eX11_of_82 rfl ?_
      refine q_getfield eX11_of_83 gf_X11_10 (hK _ (by decide) (by decide)) (by decide) (xf_1_0 hX) ?_
      refine q_iload_n eX11_of_86 rfl ?_
      refine q_callVQ [vI x] (M1 := mX2_moved) eX11_of_87 mf_X2_moved lk_X11_193 (hK _ (by decide) (by decide)) (ev_moved hK hX hT (hE x (i1 n8))) (by decide) (by decide) (by decide) (Nat.le_of_ble_eq_true rfl) rfl (fun A3 h3 => ?_)
      refine q_retI eX11_of_90 rfl (by decide) (by decide) ?_
      refine PXP_r ?_ h3.s34
      unfold ofR
      rw [if_pos (i1 n8)]
      rfl
    by_cases w3 : what = 3
    · refine q_tableIn (off := 79) (tgt := 91) eX11_of_12 hw (by omega) (by omega) (by rw [w3]; decide) (by decide) ?_
      subst w3
      refine q_aload_n eX11_of_91 rfl ?_
      refine q_getfield eX11_of_92 gf_X11_10 (hK _ (by decide) (by decide)) (by decide) (xf_1_0 hX) ?_
      refine q_iload_n eX11_of_95 rfl ?_
      refine q_callVQ [vI x] (M1 := mX2_trace) eX11_of_96 mf_X2_trace lk_X11_196 (hK _ (by decide) (by decide)) (ev_trace hK hX hT (hE x (i1 n8))) (by decide) (by decide) (by decide) (Nat.le_of_ble_eq_true rfl) rfl (fun A3 h3 => ?_)
      refine q_retI eX11_of_99 rfl (by decide) (by decide) ?_
      refine PXP_r ?_ h3.s34
      unfold ofR
      rw [if_pos (i1 n8)]
      rfl
    by_cases w4 : what = 4
    · refine q_tableIn (off := 88) (tgt := 100) eX11_of_12 hw (by omega) (by omega) (by rw [w4]; decide) (by decide) ?_
      subst w4
      refine q_aload_n eX11_of_100 rfl ?_
      refine q_getfield eX11_of_101 gf_X11_10 (hK _ (by decide) (by decide)) (by decide) (xf_1_0 hX) ?_
      refine q_iload_n eX11_of_104 rfl ?_
      refine q_callVQ [vI x] (M1 := mX2_norm) eX11_of_105 mf_X2_norm lk_X11_199 (hK _ (by decide) (by decide)) (ev_norm hK hX hT (hE x (i1 n8))) (by decide) (by decide) (by decide) (Nat.le_of_ble_eq_true rfl) rfl (fun A3 h3 => ?_)
      refine q_retI eX11_of_108 rfl (by decide) (by decide) ?_
      refine PXP_r ?_ h3.s34
      unfold ofR
      rw [if_pos (i1 n8)]
      rfl
    by_cases w5 : what = 5
    · refine q_tableIn (off := 97) (tgt := 109) eX11_of_12 hw (by omega) (by omega) (by rw [w5]; decide) (by decide) ?_
      subst w5
      refine q_aload_n eX11_of_109 rfl ?_
      refine q_getfield eX11_of_110 gf_X11_10 (hK _ (by decide) (by decide)) (by decide) (xf_1_0 hX) ?_
      refine q_iload_n eX11_of_113 rfl ?_
      refine q_callVQ [vI x] (M1 := mX2_leastWithin) eX11_of_114 mf_X2_leastWithin lk_X11_202 (hK _ (by decide) (by decide)) (ev_leastWithin hK hX hT (hE x (i1 n8))) (by decide) (by decide) (by decide) (Nat.le_of_ble_eq_true rfl) rfl (fun A3 h3 => ?_)
      refine q_retI eX11_of_117 rfl (by decide) (by decide) ?_
      refine PXP_r ?_ h3.s34
      unfold ofR
      rw [if_pos (i1 n8)]
      rfl
    by_cases w6 : what = 6
    · refine q_tableIn (off := 106) (tgt := 118) eX11_of_12 hw (by omega) (by omega) (by rw [w6]; decide) (by decide) ?_
      subst w6
      refine q_aload_n eX11_of_118 rfl ?_
      refine q_getfield eX11_of_119 gf_X11_10 (hK _ (by decide) (by decide)) (by decide) (xf_1_0 hX) ?_
      refine q_iload_n eX11_of_122 rfl ?_
      refine q_callVP [vI x] (M1 := mX2_isUnit) eX11_of_123 mf_X2_isUnit lk_X11_181 (hK _ (by decide) (by decide)) (ev_isUnit hK hX hT (hE x (i1 n8))) (by decide) (by decide) (by decide) (Nat.le_of_ble_eq_true rfl) rfl ?_
      refine q_if_eq (tgt := 140) eX11_of_126 (by decide) ir_iten (fun c126 => ?_) (fun c126 => ?_)
      · refine q_iconst eX11_of_140 ?_
        refine q_retI eX11_of_141 rfl (by decide) (by decide) ?_
        refine PXP_r ?_ (by first | exact h3.s34 | exact Off.rfl')
        unfold ofR
        rw [if_pos (i1 n8)]
        show some (if rl p r m lg x = -1 then (-1 : Int) else obl p e r q m f g lg x) = _
        first | rw [if_neg (i1n c126)] | rw [if_pos (i0n c126)]
      · refine q_aload_n eX11_of_129 rfl ?_
        refine q_getfield eX11_of_130 gf_X11_10 (hK _ (by decide) (by decide)) (by decide) (xf_1_0 hX) ?_
        refine q_iload_n eX11_of_133 rfl ?_
        refine q_callVQ [vI x] (M1 := mX2_oneBelow) eX11_of_134 mf_X2_oneBelow lk_X11_205 (hK _ (by decide) (by decide)) (ev_oneBelow hK hX hT (hE x (i1 n8))) (by decide) (by decide) (by decide) (Nat.le_of_ble_eq_true rfl) rfl (fun A3 h3 => ?_)
        refine q_goto (tgt := 141) eX11_of_137 (by decide) ?_
        refine q_retI eX11_of_141 rfl (by decide) (by decide) ?_
        refine PXP_r ?_ (by first | exact h3.s34 | exact Off.rfl')
        unfold ofR
        rw [if_pos (i1 n8)]
        show some (if rl p r m lg x = -1 then (-1 : Int) else obl p e r q m f g lg x) = _
        first | rw [if_neg (i1n c126)] | rw [if_pos (i0n c126)]
    by_cases w7 : what = 7
    · refine q_tableIn (off := 130) (tgt := 142) eX11_of_12 hw (by omega) (by omega) (by rw [w7]; decide) (by decide) ?_
      subst w7
      refine q_aload_n eX11_of_142 rfl ?_
      refine q_getfield eX11_of_143 gf_X11_10 (hK _ (by decide) (by decide)) (by decide) (xf_1_0 hX) ?_
      refine q_iload_n eX11_of_146 rfl ?_
      refine q_callVP [vI x] (M1 := mX2_isUnit) eX11_of_147 mf_X2_isUnit lk_X11_181 (hK _ (by decide) (by decide)) (ev_isUnit hK hX hT (hE x (i1 n8))) (by decide) (by decide) (by decide) (Nat.le_of_ble_eq_true rfl) rfl ?_
      refine q_if_eq (tgt := 164) eX11_of_150 (by decide) ir_iten (fun c150 => ?_) (fun c150 => ?_)
      · refine q_iconst eX11_of_164 ?_
        refine q_retI eX11_of_165 rfl (by decide) (by decide) ?_
        refine PXP_r ?_ (by first | exact h3.s34 | exact Off.rfl')
        unfold ofR
        rw [if_pos (i1 n8)]
        show some (if rl p r m lg x = -1 then (-1 : Int) else (ordE p e r q m f g lg x : Nat)) = _
        first | rw [if_neg (i1n c150)] | rw [if_pos (i0n c150)]
      · refine q_aload_n eX11_of_153 rfl ?_
        refine q_getfield eX11_of_154 gf_X11_10 (hK _ (by decide) (by decide)) (by decide) (xf_1_0 hX) ?_
        refine q_iload_n eX11_of_157 rfl ?_
        refine q_callVQ [vI x] (M1 := mX2_order) eX11_of_158 mf_X2_order lk_X11_208 (hK _ (by decide) (by decide)) (ev_order hK hX hT (hE x (i1 n8)) (i1n c150)) (by decide) (by decide) (by decide) (Nat.le_of_ble_eq_true rfl) rfl (fun A3 h3 => ?_)
        refine q_goto (tgt := 165) eX11_of_161 (by decide) ?_
        refine q_retI eX11_of_165 rfl (by decide) (by decide) ?_
        refine PXP_r ?_ (by first | exact h3.s34 | exact Off.rfl')
        unfold ofR
        rw [if_pos (i1 n8)]
        show some (if rl p r m lg x = -1 then (-1 : Int) else (ordE p e r q m f g lg x : Nat)) = _
        first | rw [if_neg (i1n c150)] | rw [if_pos (i0n c150)]
    by_cases w8 : what = 8
    · refine q_tableIn (off := 154) (tgt := 166) eX11_of_12 hw (by omega) (by omega) (by rw [w8]; decide) (by decide) ?_
      subst w8
      refine q_aload_n eX11_of_166 rfl ?_
      refine q_getfield eX11_of_167 gf_X11_10 (hK _ (by decide) (by decide)) (by decide) (xf_1_0 hX) ?_
      refine q_iload_n eX11_of_170 rfl ?_
      refine q_callVP [vI x] (M1 := mX2_isUnit) eX11_of_171 mf_X2_isUnit lk_X11_181 (hK _ (by decide) (by decide)) (ev_isUnit hK hX hT (hE x (i1 n8))) (by decide) (by decide) (by decide) (Nat.le_of_ble_eq_true rfl) rfl ?_
      refine q_if_eq (tgt := 188) eX11_of_174 (by decide) ir_iten (fun c174 => ?_) (fun c174 => ?_)
      · refine q_iconst eX11_of_188 ?_
        refine q_retI eX11_of_189 rfl (by decide) (by decide) ?_
        refine PXP_r ?_ (by first | exact h3.s34 | exact Off.rfl')
        unfold ofR
        rw [if_pos (i1 n8)]
        show some (if rl p r m lg x = -1 then (-1 : Int) else pw m r f x (ivN p e q)) = _
        first | rw [if_neg (i1n c174)] | rw [if_pos (i0n c174)]
      · refine q_aload_n eX11_of_177 rfl ?_
        refine q_getfield eX11_of_178 gf_X11_10 (hK _ (by decide) (by decide)) (by decide) (xf_1_0 hX) ?_
        refine q_iload_n eX11_of_181 rfl ?_
        refine q_callVQ [vI x] (M1 := mX2_inverse) eX11_of_182 mf_X2_inverse lk_X11_184 (hK _ (by decide) (by decide)) (ev_inverse hK hX hT (hE x (i1 n8))) (by decide) (by decide) (by decide) (Nat.le_of_ble_eq_true rfl) rfl (fun A3 h3 => ?_)
        refine q_goto (tgt := 189) eX11_of_185 (by decide) ?_
        refine q_retI eX11_of_189 rfl (by decide) (by decide) ?_
        refine PXP_r ?_ (by first | exact h3.s34 | exact Off.rfl')
        unfold ofR
        rw [if_pos (i1 n8)]
        show some (if rl p r m lg x = -1 then (-1 : Int) else pw m r f x (ivN p e q)) = _
        first | rw [if_neg (i1n c174)] | rw [if_pos (i0n c174)]
    refine q_tableOut (tgt := 190) eX11_of_12 hw (by omega) (by decide) ?_
    refine q_throw0 rfl rfl (by decide +kernel) cl_n in_n th_n th_ot_n (by decide) eX11_of_190 eX11_of_193 eX11_of_194 eX11_of_197 (by decide) (by decide) (by decide) ?_
    refine PXP_t ?_ Off.rfl'
    unfold ofR
    rw [if_pos (i1 n8)]
    repeat rw [if_neg (by omega)]
