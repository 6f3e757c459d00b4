/-! the model's reading: what is done, atoms, the whole -/
def dnM (p e r q N : Nat) (m : Int) (f : Nat → Int) (g : Int) (rt lg : Nat → Int) (c x : Int) (rs : Nat → Int) : Int × (Nat → Int) :=
  if c = 45 then (mi m r 0 x, rs) else if c = 109 then (mvM p e r q m f g rt lg x, rs) else if c = 114 then (rt (low p r m x), rs) else if c = 105 then ((if rs 29 ≠ 0 ∨ low p r m x = 0 then 0 else pw m r f x (umE N q - 1)), upc rs 29 (if rs 29 ≠ 0 ∨ low p r m x = 0 then 1 else 0)) else (x, rs)
def clR (n : Nat) (tp : Nat → Int) (c : Int) (rs : Nat → Int) : Nat → Int := if c = 40 then (if chM (if rs 23 = 41 then 1 else 0) 1 rs 26 = 0 then gxM n tp (chM (if rs 23 = 41 then 1 else 0) 1 rs) else chM (if rs 23 = 41 then 1 else 0) 1 rs) else rs
def upD (rs : Nat → Int) : Nat → Int := upc rs 25 (rs 25 - 1)
def enM (p e r q N : Nat) (m : Int) (f : Nat → Int) (g : Int) (rt lg : Nat → Int) (c x : Int) (rs : Nat → Int) : Int × (Nat → Int) := if (upD rs) 26 = 0 ∧ (upD rs) 28 ≠ 0 then dnM p e r q N m f g rt lg c x (upD rs) else (0, upD rs)
abbrev isO (c : Int) : Prop := c = 40 ∨ c = 45 ∨ c = 109 ∨ c = 114 ∨ c = 105
def opM (p e r q N n : Nat) (m : Int) (f : Nat → Int) (g : Int) (rt lg tp : Nat → Int) (T : (Nat → Int) → Int × (Nat → Int)) (c : Int) (rs : Nat → Int) : Int × (Nat → Int) :=
  if chM (if isO c then 1 else 0) 1 rs 26 = 0 then
    (if (giM n tp (chM (if isO c then 1 else 0) 1 rs)).1 = 0 then (0, (giM n tp (chM (if isO c then 1 else 0) 1 rs)).2)
     else (if c = 40 then enM p e r q N m f g rt lg c (xpM n tp m r f T (giM n tp (chM (if isO c then 1 else 0) 1 rs)).2).1 (clR n tp c (xpM n tp m r f T (giM n tp (chM (if isO c then 1 else 0) 1 rs)).2).2)
       else enM p e r q N m f g rt lg c (T (giM n tp (chM (if isO c then 1 else 0) 1 rs)).2).1 (clR n tp c (T (giM n tp (chM (if isO c then 1 else 0) 1 rs)).2).2)))
  else (0, chM (if isO c then 1 else 0) 1 rs)
def aM (p e r q N n : Nat) (m : Int) (f : Nat → Int) (g : Int) (rt lg tp pl_ : Nat → Int) (T : (Nat → Int) → Int × (Nat → Int)) (rs : Nat → Int) : Int × (Nat → Int) :=
  if rs 23 = 1000 then ((fiM n tp 9999 rs).1 % m, (fiM n tp 9999 rs).2)
  else if rs 23 = 116 ∨ rs 23 = 103 ∨ rs 23 = 112 then ((if rs 23 = 116 then (if r = 1 then 0 else m) else if rs 23 = 103 then g else p % m), gxM n tp rs)
  else if rs 23 = 35 then (pl_ (fiM n tp 7 (gxM n tp rs)).1.toNat, (fiM n tp 7 (gxM n tp rs)).2)
  else opM p e r q N n m f g rt lg tp T (rs 23) rs
set_option maxRecDepth 20000 in
theorem mo_done {c x : Int} {rs : Nat → Int} {p e r q N n : Nat} {m : Int} {f : Nat → Int} {g : Int} {rt lg tp pl_ : Nat → Int} {F : HF} {A : HA} {al : AL} (hK : KM al) (hC : CM p e r q N n m f g rt lg tp pl_ F A) (h : RDM rs F) (hI : RIM n rs) (hc : InR c) (hx : El m r x)  : QE 5 0 0 mX12_done [vA 44, vI c, vI x] F A al (PRN (dnM p e r q N m f g rt lg c x rs) F A al) := by
  refine QE.mk (by decide +kernel) (Nat.le_of_ble_eq_true rfl) ?_
  obtain ⟨hX, hT, ht, hn, hpl, hum⟩ := id hC
  obtain ⟨i20, i21, i22, i23, i24, i25, i26, i27, i28, i29⟩ := id hI
  obtain ⟨hG, hp, he, hq, hN, hg, ⟨hp2, hp7, he1, he4, hme, hqe, hq3, hNm, hgE⟩, hP, hL, hR⟩ := id hT
  obtain ⟨hm, hr, hf, hm2, hr1, hr6, hN4⟩ := id hG
  have hm4 := hG.m4
  have hb29 : InR (rs 29) := by rcases i29.1 with q | q <;> rw [q] <;> exact ⟨by decide, by decide⟩
  have hc1 := hc.1
  have hc2 := hc.2
  refine q_iload_n eX12_done_0 rfl ?_
  refine q_bipush eX12_done_1 (by decide +kernel) ?_
  refine q_icmp_ne (tgt := 14) eX12_done_3 (by decide) (by first | assumption | exact ⟨by omega, by omega⟩) (by first | assumption | exact ⟨by omega, by omega⟩) (fun c3 => ?_) (fun c3 => ?_)
  · refine q_iload_n eX12_done_14 rfl ?_
    refine q_bipush eX12_done_15 (by decide +kernel) ?_
    refine q_icmp_ne (tgt := 26) eX12_done_17 (by decide) (by first | assumption | exact ⟨by omega, by omega⟩) (by first | assumption | exact ⟨by omega, by omega⟩) (fun c17 => ?_) (fun c17 => ?_)
    · refine q_iload_n eX12_done_26 rfl ?_
      refine q_bipush eX12_done_27 (by decide +kernel) ?_
      refine q_icmp_ne (tgt := 38) eX12_done_29 (by decide) (by first | assumption | exact ⟨by omega, by omega⟩) (by first | assumption | exact ⟨by omega, by omega⟩) (fun c29 => ?_) (fun c29 => ?_)
      · refine q_iload_n eX12_done_38 rfl ?_
        refine q_bipush eX12_done_39 (by decide +kernel) ?_
        refine q_icmp_ne (tgt := 85) eX12_done_41 (by decide) (by first | assumption | exact ⟨by omega, by omega⟩) (by first | assumption | exact ⟨by omega, by omega⟩) (fun c41 => ?_) (fun c41 => ?_)
        · refine q_iload_n eX12_done_85 rfl ?_
          refine q_retI eX12_done_86 rfl (by decide) (by decide) ?_
          unfold dnM
          rw [if_neg c3, if_neg c17, if_neg c29, if_neg c41]
          exact ⟨rfl, rfl, Off.rfl', FOff.rfl', h⟩
        · refine q_aload_n eX12_done_44 rfl ?_
          refine q_aload_n eX12_done_45 rfl ?_
          refine q_getfield eX12_done_46 gf_X12_287 (hK _ (by decide) (by decide)) (by decide) (h 29 (by decide)) ?_
          refine q_if_ne (tgt := 60) eX12_done_49 (by decide) hb29 (fun c49 => ?_) (fun c49 => ?_)
          · refine q_iconst eX12_done_60 ?_
            refine q_goto (tgt := 65) eX12_done_61 (by decide) ?_
            refine q_putfield eX12_done_65 pf_X12_287 (hK _ (by decide) (by decide)) (by decide) (FT_z rfl (by first | exact Or.inl rfl | exact Or.inr rfl)) ?_
            refine q_aload_n eX12_done_68 rfl ?_
            refine q_getfield eX12_done_69 gf_X12_287 (hK _ (by decide) (by decide)) (by decide) (up2_eq _ _ _ _) ?_
            refine q_if_eq (tgt := 79) eX12_done_72 (by decide) (by first | assumption | exact ⟨by omega, by omega⟩) (fun c72 => ?_) (fun c72 => ?_)
            · exact absurd c72 (by decide)
            · refine q_iconst eX12_done_75 ?_
              refine q_goto (tgt := 84) eX12_done_76 (by decide) ?_
              refine q_retI eX12_done_84 rfl (by decide) (by decide) ?_
              have hy : rs 29 ≠ 0 ∨ low p r m x = 0 := by first | exact Or.inl c49 | exact Or.inr (i0n c57)
              unfold dnM
              rw [if_neg c3, if_neg c17, if_neg c29, if_pos (show c = 105 by omega), if_pos hy, if_pos hy]
              exact ⟨rfl, rfl, Off.rfl', FOff.up (by decide), h.up⟩
          · refine q_aload_n eX12_done_52 rfl ?_
            refine q_iload_n eX12_done_53 rfl ?_
            refine q_callVP [vI x] (M1 := mX12_isUnit) eX12_done_54 mf_X12_isUnit lk_X12_290 (hK _ (by decide) (by decide)) (mo_isUnit hK hX hT hx) (by decide) (by decide) (by decide) (Nat.le_of_ble_eq_true rfl) rfl ?_
            refine q_if_ne (tgt := 64) eX12_done_57 (by decide) ir_iten (fun c57 => ?_) (fun c57 => ?_)
            · refine q_iconst eX12_done_64 ?_
              refine q_putfield eX12_done_65 pf_X12_287 (hK _ (by decide) (by decide)) (by decide) (FT_z rfl (by first | exact Or.inl rfl | exact Or.inr rfl)) ?_
              refine q_aload_n eX12_done_68 rfl ?_
              refine q_getfield eX12_done_69 gf_X12_287 (hK _ (by decide) (by decide)) (by decide) (up2_eq _ _ _ _) ?_
              refine q_if_eq (tgt := 79) eX12_done_72 (by decide) (by first | assumption | exact ⟨by omega, by omega⟩) (fun c72 => ?_) (fun c72 => ?_)
              · refine q_aload_n eX12_done_79 rfl ?_
                refine q_iload_n eX12_done_80 rfl ?_
                have fo9 : FOff LQ F (up2 F 44 29 (vI 0)) := FOff.up (by decide)
                refine q_callVQ [vI x] (M1 := mX12_inverse) eX12_done_81 mf_X12_inverse lk_X12_293 (hK _ (by decide) (by decide)) (mo_inverse hK (hX.foff fo9 (by decide)) (hT.row (F2 := up2 F 44 29 (vI 0)) (fun k hk => fo9 44 k (by simp only [List.mem_cons, List.not_mem_nil, or_false] at hk; rcases hk with rfl | rfl | rfl | rfl | rfl | rfl | rfl <;> decide))) hx hum) (by decide) (by decide) (by decide) (Nat.le_of_ble_eq_true rfl) rfl (fun A3 h3 => ?_)
                refine q_retI eX12_done_84 rfl (by decide) (by decide) ?_
                have hy : ¬ (rs 29 ≠ 0 ∨ low p r m x = 0) := by
                  rintro (q | q)
                  · exact q c49
                  · exact i1n c57 q
                unfold dnM
                rw [if_neg c3, if_neg c17, if_neg c29, if_pos (show c = 105 by omega), if_neg hy, if_neg hy]
                exact ⟨rfl, rfl, h3.mono (by decide), fo9, h.up⟩
              · exact absurd rfl c72
            · refine q_iconst eX12_done_60 ?_
              refine q_goto (tgt := 65) eX12_done_61 (by decide) ?_
              refine q_putfield eX12_done_65 pf_X12_287 (hK _ (by decide) (by decide)) (by decide) (FT_z rfl (by first | exact Or.inl rfl | exact Or.inr rfl)) ?_
              refine q_aload_n eX12_done_68 rfl ?_
              refine q_getfield eX12_done_69 gf_X12_287 (hK _ (by decide) (by decide)) (by decide) (up2_eq _ _ _ _) ?_
              refine q_if_eq (tgt := 79) eX12_done_72 (by decide) (by first | assumption | exact ⟨by omega, by omega⟩) (fun c72 => ?_) (fun c72 => ?_)
              · exact absurd c72 (by decide)
              · refine q_iconst eX12_done_75 ?_
                refine q_goto (tgt := 84) eX12_done_76 (by decide) ?_
                refine q_retI eX12_done_84 rfl (by decide) (by decide) ?_
                have hy : rs 29 ≠ 0 ∨ low p r m x = 0 := by first | exact Or.inl c49 | exact Or.inr (i0n c57)
                unfold dnM
                rw [if_neg c3, if_neg c17, if_neg c29, if_pos (show c = 105 by omega), if_pos hy, if_pos hy]
                exact ⟨rfl, rfl, Off.rfl', FOff.up (by decide), h.up⟩
      · refine q_aload_n eX12_done_32 rfl ?_
        refine q_iload_n eX12_done_33 rfl ?_
        refine q_callVP [vI x] (M1 := mX12_rootOf) eX12_done_34 mf_X12_rootOf lk_X12_185 (hK _ (by decide) (by decide)) (mo_rootOf hK hX hT hx) (by decide) (by decide) (by decide) (Nat.le_of_ble_eq_true rfl) rfl ?_
        refine q_retI eX12_done_37 rfl (by decide) (by decide) ?_
        unfold dnM
        rw [if_neg c3, if_neg c17, if_pos c29]
        exact ⟨rfl, rfl, Off.rfl', FOff.rfl', h⟩
    · refine q_aload_n eX12_done_20 rfl ?_
      refine q_iload_n eX12_done_21 rfl ?_
      refine q_callVQ [vI x] (M1 := mX12_moved) eX12_done_22 mf_X12_moved lk_X12_198 (hK _ (by decide) (by decide)) (mo_moved hK hX hT hx) (by decide) (by decide) (by decide) (Nat.le_of_ble_eq_true rfl) rfl (fun A3 h3 => ?_)
      refine q_retI eX12_done_25 rfl (by decide) (by decide) ?_
      unfold dnM
      rw [if_neg c3, if_pos c17]
      exact ⟨rfl, rfl, h3.mono (by decide), FOff.rfl', h⟩
  · refine q_aload_n eX12_done_6 rfl ?_
    refine q_iconst eX12_done_7 ?_
    refine q_iload_n eX12_done_8 rfl ?_
    refine q_iconst eX12_done_9 ?_
    refine q_callVQ [vI 0, vI x, vI (-1)] (M1 := mX12_added) eX12_done_10 mf_X12_added lk_X12_175 (hK _ (by decide) (by decide)) (mo_minus hK hX hG (el_zero (by omega)) hx) (by decide) (by decide) (by decide) (Nat.le_of_ble_eq_true rfl) rfl (fun A3 h3 => ?_)
    refine q_retI eX12_done_13 rfl (by decide) (by decide) ?_
    unfold dnM
    rw [if_pos c3]
    exact ⟨rfl, rfl, h3.mono (by decide), FOff.rfl', h⟩
section OK2
variable {p e r q N n k : Nat} {m : Int} {f : Nat → Int} {g : Int} {rt lg tp pl_ : Nat → Int} {T : (Nat → Int) → Int × (Nat → Int)} {F : HF} {A : HA}
theorem dn_ok {c x : Int} {rs : Nat → Int} (hC : CM p e r q N n m f g rt lg tp pl_ F A) (hI : RIM n rs) (hx : El m r x) : El m r (dnM p e r q N m f g rt lg c x rs).1 ∧ KT n rs (dnM p e r q N m f g rt lg c x rs).2 := by
  obtain ⟨hX, hT, ht, hn, hpl, hum⟩ := id hC
  obtain ⟨hG, hp, he, hq, hN, hg, ⟨hp2, hp7, he1, he4, hme, hqe, hq3, hNm, hgE⟩, hP, hL, hR⟩ := id hT
  obtain ⟨hm, hr, hf, hm2, hr1, hr6, hN4⟩ := id hG
  have hlt : low p r m x < q := by rw [hqe]; exact low_lt (show 0 < p by omega)
  unfold dnM
  split
  · exact ⟨mi_el (by omega) _ _, KT.refl hI⟩
  split
  · exact ⟨mvM_el (by omega), KT.refl hI⟩
  split
  · exact ⟨(hR _ hlt).2, KT.refl hI⟩
  split
  · refine ⟨?_, ?_⟩
    · show El m r (if _ then _ else _)
      split
      · exact el_zero (by omega)
      · exact pw_el hm2 hr1 _ _
    · obtain ⟨a1, a2, a3, a4, a5, a6, a7, a8, a9, a10⟩ := hI
      refine ⟨⟨a1, a2, a3, a4, a5, a6, a7, a8, a9, ?_, a10.2⟩, rfl, rfl, Nat.le_refl _⟩
      show (if _ then (1 : Int) else 0) = 0 ∨ (if _ then (1 : Int) else 0) = 1
      split
      · exact Or.inr rfl
      · exact Or.inl rfl
  · exact ⟨hx, KT.refl hI⟩
theorem cl_ok {c : Int} {rs : Nat → Int} (hC : CM p e r q N n m f g rt lg tp pl_ F A) (hI : RIM n rs) : KT n rs (clR n tp c rs) := by
  by_cases c40 : c = 40
  · have e0 : clR n tp c rs = if chM (if rs 23 = 41 then 1 else 0) 1 rs 26 = 0 then gxM n tp (chM (if rs 23 = 41 then 1 else 0) 1 rs) else chM (if rs 23 = 41 then 1 else 0) 1 rs := if_pos c40
    rw [e0]
    have k1 := chm_ok (b := if rs 23 = 41 then 1 else 0) (w := 1) hI hC.2.2.2.1 ⟨by decide, by decide⟩
    by_cases h0 : chM (if rs 23 = 41 then 1 else 0) 1 rs 26 = 0
    · rw [if_pos h0]
      have h41 : rs 23 = 41 := Classical.byContradiction fun q => ch_b (by decide) h0 (if_neg q)
      exact k1.trans (go_ok (tp := tp) k1.1 hC.2.2.1 hC.2.2.2.1 (by rw [ch_23, h41]; decide)).1
    · rw [if_neg h0]; exact k1
  · rw [show clR n tp c rs = rs from if_neg c40]; exact KT.refl hI
theorem up_ok {rs : Nat → Int} (hI : RIM n rs) (h1 : 1 ≤ rs 25) : RIM n (upD rs) := by
  obtain ⟨a1, a2, a3, a4, a5, a6, a7⟩ := hI
  exact ⟨a1, a2, a3, a4, a5, ⟨by show 0 ≤ rs 25 - 1; omega, by show rs 25 - 1 ≤ 8; omega⟩, a7⟩
theorem en_ok {c x : Int} {rs : Nat → Int} (hC : CM p e r q N n m f g rt lg tp pl_ F A) (hI : RIM n rs) (h1 : 1 ≤ rs 25) (hx : El m r x) : El m r (enM p e r q N m f g rt lg c x rs).1 ∧ RIM n (enM p e r q N m f g rt lg c x rs).2 ∧ (enM p e r q N m f g rt lg c x rs).2 25 = rs 25 - 1 ∧ (enM p e r q N m f g rt lg c x rs).2 28 = rs 28 ∧ mu n (enM p e r q N m f g rt lg c x rs).2 ≤ mu n rs := by
  have k1 := up_ok hI h1
  unfold enM
  split
  · obtain ⟨d1, d2⟩ := dn_ok (c := c) hC k1 hx
    exact ⟨d1, d2.1, d2.2.1, d2.2.2.1, d2.2.2.2⟩
  · exact ⟨el_zero (by have := hC.2.1.1.2.2.2.1; omega), k1, rfl, rfl, Nat.le_refl _⟩
theorem op_ok {c : Int} {rs : Nat → Int} (hC : CM p e r q N n m f g rt lg tp pl_ F A) (hT : ∀ j, k = j + 1 → TOK n m r j T) (hI : RIM n rs) (h23 : rs 23 = c) (h8 : rs 25 + k = 8) : El m r (opM p e r q N n m f g rt lg tp T c rs).1 ∧ KT n rs (opM p e r q N n m f g rt lg tp T c rs).2 := by
  have hm2 := hC.2.1.1.2.2.2.1
  have hr1 := hC.2.1.1.2.2.2.2.1
  have k1 := chm_ok (b := if isO c then 1 else 0) (w := 1) hI hC.2.2.2.1 ⟨by decide, by decide⟩
  unfold opM
  by_cases c1 : chM (if isO c then 1 else 0) 1 rs 26 = 0
  · rw [if_pos c1]
    have hO : isO c := Classical.byContradiction fun q => ch_b (by decide) c1 (if_neg q)
    have h02 : (chM (if isO c then 1 else 0) 1 rs) 23 ≠ 1002 := by rw [ch_23, h23]; rcases hO with q | q | q | q | q <;> omega
    obtain ⟨g1, g2, g3, g4⟩ := gi_ok (tp := tp) k1.1 hC.2.2.1 hC.2.2.2.1 h02
    by_cases c2 : (giM n tp (chM (if isO c then 1 else 0) 1 rs)).1 = 0
    · rw [if_pos c2]
      rcases g4 with ⟨-, g5⟩ | ⟨g5, -⟩
      · exact ⟨el_zero (by omega), k1.trans ⟨g1, g5, g2, g3⟩⟩
      · exact absurd (g5.symm.trans c2) (by decide)
    · rw [if_neg c2]
      rcases g4 with ⟨g5, -⟩ | ⟨g5, g6, g7, g8⟩
      · exact absurd g5 c2
      · have h25 : (chM (if isO c then 1 else 0) 1 rs) 25 = rs 25 := k1.2.1
        obtain ⟨j, rfl⟩ : ∃ j, k = j + 1 := ⟨k - 1, by omega⟩
        have hTj := hT j rfl
        have h8j : (giM n tp (chM (if isO c then 1 else 0) 1 rs)).2 25 + (j : Int) = 8 := by rw [g6, h25]; omega
        have fin : ∀ s : Int × (Nat → Int), El m r s.1 → KT n (giM n tp (chM (if isO c then 1 else 0) 1 rs)).2 s.2 → El m r (enM p e r q N m f g rt lg c s.1 (clR n tp c s.2)).1 ∧ KT n rs (enM p e r q N m f g rt lg c s.1 (clR n tp c s.2)).2 := by
          intro s hs1 hs2
          have k3 := cl_ok (c := c) hC hs2.1
          have h1 : 1 ≤ (clR n tp c s.2) 25 := by rw [k3.2.1, hs2.2.1, g6, h25]; have := hI.2.2.2.2.2.1; omega
          obtain ⟨e1, e2, e3, e4, e5⟩ := en_ok (c := c) hC k3.1 h1 hs1
          refine ⟨e1, e2, ?_, ?_, ?_⟩
          · rw [e3, k3.2.1, hs2.2.1, g6, h25]; omega
          · rw [e4, k3.2.2.1, hs2.2.2.1, g2, k1.2.2.1]
          · have := k3.2.2.2; have := hs2.2.2.2; have := k1.2.2.2; omega
        by_cases c40 : c = 40
        · rw [if_pos c40]
          obtain ⟨x1, x2⟩ := xp_ok (f := f) hTj hm2 hr1 hC.2.2.1 hC.2.2.2.1 _ g1 h8j
          exact fin _ x1 x2
        · rw [if_neg c40]
          obtain ⟨x1, x2⟩ := hTj _ g1 h8j
          exact fin _ x1 x2
  · rw [if_neg c1]; exact ⟨el_zero (by omega), k1⟩
theorem a_okM (hC : CM p e r q N n m f g rt lg tp pl_ F A) (hT : ∀ j, k = j + 1 → TOK n m r j T) : TOK n m r k (aM p e r q N n m f g rt lg tp pl_ T) := by
  intro rs hI h8
  obtain ⟨hX, hTT, ht, hn, hpl, hum⟩ := id hC
  obtain ⟨hG, hp, he, hq, hN, hg, ⟨hp2, hp7, he1, he4, hme, hqe, hq3, hNm, hgE⟩, hP, hL, hR⟩ := id hTT
  obtain ⟨hm, hr, hf, hm2, hr1, hr6, hN4⟩ := id hG
  have hmr := pow_ge (m := m) (by omega) (show 1 ≤ r by omega)
  have hmod : ∀ x : Int, El m r (x % m) := fun x => ⟨Int.emod_nonneg _ (by omega), by have := Int.emod_lt_of_pos x (show 0 < m by omega); omega⟩
  unfold aM
  split
  · exact ⟨hmod _, (fi_ok hI ht hn (by decide)).2⟩
  split
  · next hc =>
    refine ⟨?_, (go_ok hI ht hn (by omega)).1⟩
    show El m r (if _ then (if _ then _ else _) else if _ then _ else _)
    split
    · split
      · exact el_zero (by omega)
      · next hr9 =>
        have h2 : m ^ 2 ≤ m ^ r := ipow_mono (by omega) (by omega)
        have h3 : m ^ 2 = m * m := by rw [Int.pow_succ, Int.pow_succ, Int.pow_zero, Int.one_mul]
        have h4 : m * 2 ≤ m * m := Int.mul_le_mul_of_nonneg_left hm2 (by omega)
        exact ⟨by omega, by omega⟩
    · split
      · exact hgE
      · exact hmod _
  split
  · next hc =>
    have k2 := (go_ok (tp := tp) hI ht hn (by omega)).1
    have k3 := fi_ok (tp := tp) (most := 7) k2.1 ht hn (by decide)
    exact ⟨(hpl _ (by omega)).2, k2.trans k3.2⟩
  · exact op_ok hC hT hI rfl h8
end OK2
set_option maxRecDepth 20000 in
theorem lp_at221 {D : Nat} {c x : Int} {rs : Nat → Int} {p e r q N n : Nat} {m : Int} {f : Nat → Int} {g : Int} {rt lg tp pl_ : Nat → Int} {F0 F : HF} {A0 A : HA} {al : AL} (hK : KM al) (hC : CM p e r q N n m f g rt lg tp pl_ F A) (h : RDM rs F) (hI : RIM n rs) (h1 : 1 ≤ rs 25) (hc : InR c) (hx : El m r x) (hD : 6 ≤ D) (ho : Off SAQ A0 A) (hF : FOff LQ F0 F) :
    QW mX12_atom D 0 0 (PRN (enM p e r q N m f g rt lg c x rs) F0 A0 al) 0 0 221 [some (vA 44), some (vI c), some (vI x)] [] F A al := by
  obtain ⟨hX, hT, ht, hn, hpl, hum⟩ := id hC
  obtain ⟨i20, i21, i22, i23, i24, i25, i26, i27, i28, i29⟩ := id hI
  have hu : RIM n (upD rs) := up_ok hI h1
  have hb28 : InR ((upD rs) 28) := by rcases hu.2.2.2.2.2.2.2.2.1 with q | q <;> rw [q] <;> exact ⟨by decide, by decide⟩
  have hr4 : RDM (upD rs) (up2 F 44 25 (vI (rs 25 - 1))) := h.up
  have hf4 : FOff LQ F (up2 F 44 25 (vI (rs 25 - 1))) := FOff.up (by decide)
  refine q_aload_n eX12_atom_221 rfl ?_
  refine q_dup eX12_atom_222 rfl ?_
  refine q_getfield eX12_atom_223 gf_X12_266 (hK _ (by decide) (by decide)) (by decide) (h 25 (by decide)) ?_
  refine q_iconst eX12_atom_226 ?_
  refine q_isub eX12_atom_227 ?_
  refine q_putfield eX12_atom_228 pf_X12_266 (hK _ (by decide) (by decide)) (by decide) (FT_i rfl) ?_
  refine q_aload_n eX12_atom_231 rfl ?_
  refine q_callVP [] (M1 := mX12_fine) eX12_atom_232 mf_X12_fine lk_X12_255 (hK _ (by decide) (by decide)) (mo_fine hK hr4 ⟨by have := hu.2.2.2.2.2.2.1; omega, by have := hu.2.2.2.2.2.2.1; omega⟩) (by omega) (by decide) (by decide) (Nat.le_of_ble_eq_true rfl) rfl ?_
  refine q_if_eq (tgt := 254) eX12_atom_235 (by decide) ir_ite (fun c235 => ?_) (fun c235 => ?_)
  · refine q_iconst eX12_atom_254 ?_
    refine q_retI eX12_atom_255 rfl (by decide) (by decide) ?_
    unfold enM
    first
    | (rw [if_neg (fun q => i0 c235 q.1)]; exact ⟨rfl, rfl, ho, hF.trans hf4, hr4⟩)
    | (rw [if_neg (fun q => q.2 c242)]; exact ⟨rfl, rfl, ho, hF.trans hf4, hr4⟩)
    | (rw [if_pos ⟨i1 c235, c242⟩]; exact ⟨rfl, rfl, ho.trans o3, (hF.trans hf4).trans f3, r3⟩)
  · refine q_aload_n eX12_atom_238 rfl ?_
    refine q_getfield eX12_atom_239 gf_X12_281 (hK _ (by decide) (by decide)) (by decide) (hr4 28 (by decide)) ?_
    refine q_if_eq (tgt := 254) eX12_atom_242 (by decide) hb28 (fun c242 => ?_) (fun c242 => ?_)
    · refine q_iconst eX12_atom_254 ?_
      refine q_retI eX12_atom_255 rfl (by decide) (by decide) ?_
      unfold enM
      first
      | (rw [if_neg (fun q => i0 c235 q.1)]; exact ⟨rfl, rfl, ho, hF.trans hf4, hr4⟩)
      | (rw [if_neg (fun q => q.2 c242)]; exact ⟨rfl, rfl, ho, hF.trans hf4, hr4⟩)
      | (rw [if_pos ⟨i1 c235, c242⟩]; exact ⟨rfl, rfl, ho.trans o3, (hF.trans hf4).trans f3, r3⟩)
    · refine q_aload_n eX12_atom_245 rfl ?_
      refine q_iload_n eX12_atom_246 rfl ?_
      refine q_iload_n eX12_atom_247 rfl ?_
      refine q_callVN [vI c, vI x] (M1 := mX12_done) eX12_atom_248 mf_X12_done lk_X12_284 (hK _ (by decide) (by decide)) (mo_done hK (hC.pres hf4 Off.rfl') hr4 hu hc hx) (by omega) (by decide) (by decide) (Nat.le_of_ble_eq_true rfl) rfl (fun F3 A3 o3 f3 r3 => ?_)
      refine q_goto (tgt := 255) eX12_atom_251 (by decide) ?_
      refine q_retI eX12_atom_255 rfl (by decide) (by decide) ?_
      unfold enM
      first
      | (rw [if_neg (fun q => i0 c235 q.1)]; exact ⟨rfl, rfl, ho, hF.trans hf4, hr4⟩)
      | (rw [if_neg (fun q => q.2 c242)]; exact ⟨rfl, rfl, ho, hF.trans hf4, hr4⟩)
      | (rw [if_pos ⟨i1 c235, c242⟩]; exact ⟨rfl, rfl, ho.trans o3, (hF.trans hf4).trans f3, r3⟩)
set_option maxRecDepth 20000 in
theorem lp_at189 {D : Nat} {c x : Int} {rs : Nat → Int} {p e r q N n : Nat} {m : Int} {f : Nat → Int} {g : Int} {rt lg tp pl_ : Nat → Int} {F0 F : HF} {A0 A : HA} {al : AL} (hK : KM al) (hC : CM p e r q N n m f g rt lg tp pl_ F A) (h : RDM rs F) (hI : RIM n rs) (h1 : 1 ≤ rs 25) (hc : InR c) (hx : El m r x) (hD : 6 ≤ D) (ho : Off SAQ A0 A) (hF : FOff LQ F0 F) :
    QW mX12_atom D 0 0 (PRN (enM p e r q N m f g rt lg c x (clR n tp c rs)) F0 A0 al) 0 0 189 [some (vA 44), some (vI c), some (vI x)] [] F A al := by
  obtain ⟨hX, hT, ht, hn, hpl, hum⟩ := id hC
  obtain ⟨i20, i21, i22, i23, i24, i25, i26, i27, i28, i29⟩ := id hI
  have hc1 := hc.1
  have hc2 := hc.2
  have k0 := cl_ok (c := c) hC hI
  have h10 : 1 ≤ (clR n tp c rs) 25 := by rw [k0.2.1]; exact h1
  have c26 := ch_26 (b := if rs 23 = 41 then 1 else 0) (w := 1) hI ⟨by decide, by decide⟩
  refine q_iload_n eX12_atom_189 rfl ?_
  refine q_bipush eX12_atom_190 (by decide +kernel) ?_
  refine q_icmp_ne (tgt := 221) eX12_atom_192 (by decide) (by first | assumption | exact ⟨by omega, by omega⟩) (by first | assumption | exact ⟨by omega, by omega⟩) (fun c192 => ?_) (fun c192 => ?_)
  · have e0 : clR n tp c rs = rs := if_neg (by omega)
    rw [e0] at h10 ⊢
    exact lp_at221 hK hC h hI h10 hc hx hD ho hF
  · refine q_aload_n eX12_atom_195 rfl ?_
    refine q_aload_n eX12_atom_196 rfl ?_
    refine q_getfield eX12_atom_197 gf_X12_236 (hK _ (by decide) (by decide)) (by decide) (h 23 (by decide)) ?_
    refine q_bipush eX12_atom_200 (by decide +kernel) ?_
    refine q_icmp_ne (tgt := 209) eX12_atom_202 (by decide) (by first | assumption | exact ⟨by omega, by omega⟩) (by first | assumption | exact ⟨by omega, by omega⟩) (fun c202 => ?_) (fun c202 => ?_)
    · refine q_iconst eX12_atom_209 ?_
      refine (fun (kk : ∀ b : Int, b = (if rs 23 = 41 then 1 else 0) → QW mX12_atom D 0 0 (PRN (enM p e r q N m f g rt lg c x (clR n tp c rs)) F0 A0 al) 0 0 210 [some (vA 44), some (vI c), some (vI x)] [vI b, vA 44] F A al) => kk _ (by first | exact (if_pos (by omega)).symm | exact (if_neg (by omega)).symm)) (fun b hb => ?_)
      subst hb
      refine q_iconst eX12_atom_210 ?_
      refine q_callVC [vI (if rs 23 = 41 then 1 else 0), vI 1] (M1 := mX12_check) eX12_atom_211 mf_X12_check lk_X12_259 (hK _ (by decide) (by decide)) (mo_check (b := if rs 23 = 41 then 1 else 0) (w := 1) (rs := rs) hK h ⟨by have := hI.2.2.2.2.2.2.1; omega, by have := hI.2.2.2.2.2.2.1; omega⟩ (by first | exact ⟨by decide, by decide⟩ | exact ir_ite) ⟨by decide, by decide⟩) (by omega) (by decide) (by decide) (Nat.le_of_ble_eq_true rfl) rfl (fun F1 f1 r1 => ?_)
      have k1 := chm_ok (b := if rs 23 = 41 then 1 else 0) (w := 1) hI hn ⟨by decide, by decide⟩
      have hX1 := hX.foff f1 (by decide)
      have e1 : clR n tp c rs = if chM (if rs 23 = 41 then 1 else 0) 1 rs 26 = 0 then gxM n tp (chM (if rs 23 = 41 then 1 else 0) 1 rs) else chM (if rs 23 = 41 then 1 else 0) 1 rs := if_pos (by omega)
      have C1 := hC.pres f1 Off.rfl'
      refine q_if_eq (tgt := 221) eX12_atom_214 (by decide) ir_ite (fun c214 => ?_) (fun c214 => ?_)
      · first
        | (have e2 := e1.trans (if_pos (i1 c214))
           rw [e2] at h10 k0 ⊢
           exact lp_at221 hK (C1.pres f3 Off.rfl') r3 k0.1 h10 hc hx hD ho ((hF.trans f1).trans f3))
        | (have e2 := e1.trans (if_neg (i0 c214))
           rw [e2] at h10 k0 ⊢
           exact lp_at221 hK C1 r1 k0.1 h10 hc hx hD ho (hF.trans f1))
      · refine q_aload_n eX12_atom_217 rfl ?_
        refine q_callVM [] (M1 := mX12_go) eX12_atom_218 mf_X12_go lk_X12_263 (hK _ (by decide) (by decide)) (mo_go (rs := _) hK hX1 ht hn k1.1.1 (Int.toNat_of_nonneg k1.1.2.1.1).symm (by have := k1.1.2.1; omega) r1) (by omega) (by decide) (by decide) (Nat.le_of_ble_eq_true rfl) rfl (fun F3 f3 r3 => ?_)
        first
        | (have e2 := e1.trans (if_pos (i1 c214))
           rw [e2] at h10 k0 ⊢
           exact lp_at221 hK (C1.pres f3 Off.rfl') r3 k0.1 h10 hc hx hD ho ((hF.trans f1).trans f3))
        | (have e2 := e1.trans (if_neg (i0 c214))
           rw [e2] at h10 k0 ⊢
           exact lp_at221 hK C1 r1 k0.1 h10 hc hx hD ho (hF.trans f1))
    · refine q_iconst eX12_atom_205 ?_
      refine q_goto (tgt := 210) eX12_atom_206 (by decide) ?_
      refine (fun (kk : ∀ b : Int, b = (if rs 23 = 41 then 1 else 0) → QW mX12_atom D 0 0 (PRN (enM p e r q N m f g rt lg c x (clR n tp c rs)) F0 A0 al) 0 0 210 [some (vA 44), some (vI c), some (vI x)] [vI b, vA 44] F A al) => kk _ (by first | exact (if_pos (by omega)).symm | exact (if_neg (by omega)).symm)) (fun b hb => ?_)
      subst hb
      refine q_iconst eX12_atom_210 ?_
      refine q_callVC [vI (if rs 23 = 41 then 1 else 0), vI 1] (M1 := mX12_check) eX12_atom_211 mf_X12_check lk_X12_259 (hK _ (by decide) (by decide)) (mo_check (b := if rs 23 = 41 then 1 else 0) (w := 1) (rs := rs) hK h ⟨by have := hI.2.2.2.2.2.2.1; omega, by have := hI.2.2.2.2.2.2.1; omega⟩ (by first | exact ⟨by decide, by decide⟩ | exact ir_ite) ⟨by decide, by decide⟩) (by omega) (by decide) (by decide) (Nat.le_of_ble_eq_true rfl) rfl (fun F1 f1 r1 => ?_)
      have k1 := chm_ok (b := if rs 23 = 41 then 1 else 0) (w := 1) hI hn ⟨by decide, by decide⟩
      have hX1 := hX.foff f1 (by decide)
      have e1 : clR n tp c rs = if chM (if rs 23 = 41 then 1 else 0) 1 rs 26 = 0 then gxM n tp (chM (if rs 23 = 41 then 1 else 0) 1 rs) else chM (if rs 23 = 41 then 1 else 0) 1 rs := if_pos (by omega)
      have C1 := hC.pres f1 Off.rfl'
      refine q_if_eq (tgt := 221) eX12_atom_214 (by decide) ir_ite (fun c214 => ?_) (fun c214 => ?_)
      · first
        | (have e2 := e1.trans (if_pos (i1 c214))
           rw [e2] at h10 k0 ⊢
           exact lp_at221 hK (C1.pres f3 Off.rfl') r3 k0.1 h10 hc hx hD ho ((hF.trans f1).trans f3))
        | (have e2 := e1.trans (if_neg (i0 c214))
           rw [e2] at h10 k0 ⊢
           exact lp_at221 hK C1 r1 k0.1 h10 hc hx hD ho (hF.trans f1))
      · refine q_aload_n eX12_atom_217 rfl ?_
        refine q_callVM [] (M1 := mX12_go) eX12_atom_218 mf_X12_go lk_X12_263 (hK _ (by decide) (by decide)) (mo_go (rs := _) hK hX1 ht hn k1.1.1 (Int.toNat_of_nonneg k1.1.2.1.1).symm (by have := k1.1.2.1; omega) r1) (by omega) (by decide) (by decide) (Nat.le_of_ble_eq_true rfl) rfl (fun F3 f3 r3 => ?_)
        first
        | (have e2 := e1.trans (if_pos (i1 c214))
           rw [e2] at h10 k0 ⊢
           exact lp_at221 hK (C1.pres f3 Off.rfl') r3 k0.1 h10 hc hx hD ho ((hF.trans f1).trans f3))
        | (have e2 := e1.trans (if_neg (i0 c214))
           rw [e2] at h10 k0 ⊢
           exact lp_at221 hK C1 r1 k0.1 h10 hc hx hD ho (hF.trans f1))
set_option maxRecDepth 20000 in
theorem lp_at155 {D k : Nat} {c b : Int} {rs : Nat → Int} {T : (Nat → Int) → Int × (Nat → Int)} {p e r q N n : Nat} {m : Int} {f : Nat → Int} {g : Int} {rt lg tp pl_ : Nat → Int} {F : HF} {A : HA} {al : AL} (hK : KM al) (hC : CM p e r q N n m f g rt lg tp pl_ F A) (h : RDM rs F) (hI : RIM n rs) (hin : ∀ j, k = j + 1 → TOK n m r j T ∧ ∃ D0, D0 + 3 < D ∧ 6 ≤ D0 ∧ RCM D0 mX12_atom j al p e r q N n m f g rt lg tp pl_ T) (hD : 6 ≤ D) (h8 : rs 25 + k = 8) (h23 : rs 23 = c) (hb : b = if isO c then 1 else 0) :
    QW mX12_atom D 0 0 (PRN (opM p e r q N n m f g rt lg tp T c rs) F A al) 0 0 155 [some (vA 44), some (vI c), none] [vI b, vA 44] F A al := by
  subst hb
  obtain ⟨hX, hT, ht, hn, hpl, hum⟩ := id hC
  obtain ⟨i20, i21, i22, i23, i24, i25, i26, i27, i28, i29⟩ := id hI
  obtain ⟨hG, hp, he, hq, hN, hg, ⟨hp2, hp7, he1, he4, hme, hqe, hq3, hNm, hgE⟩, hP, hL, hR⟩ := id hT
  obtain ⟨hm, hr, hf, hm2, hr1, hr6, hN4⟩ := id hG
  have hm4 := hG.m4
  have hc : InR c := by rw [← h23]; exact ⟨by omega, by omega⟩
  have hc1 := hc.1
  have hc2 := hc.2
  have c26 := ch_26 (b := if isO c then 1 else 0) (w := 1) hI ⟨by decide, by decide⟩
  refine q_iconst eX12_atom_155 ?_
  refine q_callVC [vI (if isO c then 1 else 0), vI 1] (M1 := mX12_check) eX12_atom_156 mf_X12_check lk_X12_259 (hK _ (by decide) (by decide)) (mo_check (b := if isO c then 1 else 0) (w := 1) (rs := rs) hK h ⟨by have := hI.2.2.2.2.2.2.1; omega, by have := hI.2.2.2.2.2.2.1; omega⟩ (by first | exact ⟨by decide, by decide⟩ | exact ir_ite) ⟨by decide, by decide⟩) (by omega) (by decide) (by decide) (Nat.le_of_ble_eq_true rfl) rfl (fun F1 f1 r1 => ?_)
  have k1 := chm_ok (b := if isO c then 1 else 0) (w := 1) hI hn ⟨by decide, by decide⟩
  have C1 := hC.pres f1 Off.rfl'
  refine q_if_eq (tgt := 169) eX12_atom_159 (by decide) ir_ite (fun c159 => ?_) (fun c159 => ?_)
  · refine q_iconst eX12_atom_169 ?_
    refine q_retI eX12_atom_170 rfl (by decide) (by decide) ?_
    unfold opM
    first
    | (rw [if_neg (i0 c159)]; exact ⟨rfl, rfl, Off.rfl', f1, r1⟩)
    | (rw [if_pos (i1 c159), if_pos c166]; exact ⟨rfl, rfl, o2, f1.trans f2, r2⟩)
  · have hO : isO c := Classical.byContradiction fun q => ch_b (by decide) (i1 c159) (if_neg q)
    have h02 : (chM (if isO c then 1 else 0) 1 rs) 23 ≠ 1002 := by rw [ch_23, h23]; rcases hO with q | q | q | q | q <;> omega
    refine q_aload_n eX12_atom_162 rfl ?_
    refine q_callVN [] (M1 := mX12_goesIn) eX12_atom_163 mf_X12_goesIn lk_X12_272 (hK _ (by decide) (by decide)) (mo_goesIn hK C1 r1 k1.1 h02) (by omega) (by decide) (by decide) (Nat.le_of_ble_eq_true rfl) rfl (fun F2 A2 o2 f2 r2 => ?_)
    obtain ⟨g1, g2, g3, g4⟩ := gi_ok (tp := tp) k1.1 ht hn h02
    have C2 := C1.pres f2 o2
    have hgr : InR (giM n tp (chM (if isO c then 1 else 0) 1 rs)).1 := by rcases g4 with ⟨q, -⟩ | ⟨q, -⟩ <;> rw [q] <;> exact ⟨by decide, by decide⟩
    refine q_if_ne (tgt := 171) eX12_atom_166 (by decide) (by first | assumption | exact ⟨by omega, by omega⟩) (fun c166 => ?_) (fun c166 => ?_)
    · have h25 : (chM (if isO c then 1 else 0) 1 rs) 25 = rs 25 := k1.2.1
      rcases g4 with ⟨g5, -⟩ | ⟨g5, g6, g7, g8⟩
      · exact absurd g5 c166
      obtain ⟨j, rfl⟩ : ∃ j, k = j + 1 := ⟨k - 1, by omega⟩
      obtain ⟨hTj, D0, hD0, hD6, hRCj⟩ := hin j rfl
      have h8j : (giM n tp (chM (if isO c then 1 else 0) 1 rs)).2 25 + (j : Int) = 8 := by rw [g6, h25]; omega
      unfold opM
      rw [if_pos (i1 c159), if_neg c166]
      refine q_iload_n eX12_atom_171 rfl ?_
      refine q_bipush eX12_atom_172 (by decide +kernel) ?_
      refine q_icmp_ne (tgt := 184) eX12_atom_174 (by decide) (by first | assumption | exact ⟨by omega, by omega⟩) (by first | assumption | exact ⟨by omega, by omega⟩) (fun c174 => ?_) (fun c174 => ?_)
      · refine q_aload_n eX12_atom_184 rfl ?_
        refine q_callVN [] (M1 := mX12_atom) eX12_atom_185 mf_X12_atom lk_X12_278 (hK _ (by decide) (by decide)) (hRCj _ _ _ C2 r2 g1 h8j) (by omega) (by decide) (by decide) (Nat.le_of_ble_eq_true rfl) rfl (fun F3 A3 o3 f3 r3 => ?_)
        have x3 := hTj _ g1 h8j
        refine q_istore_n eX12_atom_188 (by decide) rfl ?_
        first
        | rw [if_pos (show c = 40 by omega)]
        | rw [if_neg (show ¬ c = 40 by omega)]
        exact lp_at189 hK (C2.pres f3 o3) r3 x3.2.1 (by rw [x3.2.2.1, g6, h25]; omega) hc x3.1 hD (o2.trans o3) ((f1.trans f2).trans f3)
      · refine q_aload_n eX12_atom_177 rfl ?_
        refine q_callVN [] (M1 := mX12_expr) eX12_atom_178 mf_X12_expr lk_X12_275 (hK _ (by decide) (by decide)) (mo_expr (D := D0) hK C2 r2 g1 h8j hD6 hTj hRCj) (by omega) (by decide) (by decide) (Nat.le_of_ble_eq_true rfl) rfl (fun F3 A3 o3 f3 r3 => ?_)
        have x3 := xp_ok (f := f) hTj hm2 (show 0 < r by omega) ht hn _ g1 h8j
        refine q_goto (tgt := 188) eX12_atom_181 (by decide) ?_
        refine q_istore_n eX12_atom_188 (by decide) rfl ?_
        first
        | rw [if_pos (show c = 40 by omega)]
        | rw [if_neg (show ¬ c = 40 by omega)]
        exact lp_at189 hK (C2.pres f3 o3) r3 x3.2.1 (by rw [x3.2.2.1, g6, h25]; omega) hc x3.1 hD (o2.trans o3) ((f1.trans f2).trans f3)
    · refine q_iconst eX12_atom_169 ?_
      refine q_retI eX12_atom_170 rfl (by decide) (by decide) ?_
      unfold opM
      first
      | (rw [if_neg (i0 c159)]; exact ⟨rfl, rfl, Off.rfl', f1, r1⟩)
      | (rw [if_pos (i1 c159), if_pos c166]; exact ⟨rfl, rfl, o2, f1.trans f2, r2⟩)
set_option maxRecDepth 20000 in
theorem mo_atom {D k : Nat} {T : (Nat → Int) → Int × (Nat → Int)} {rs : Nat → Int} {p e r q N n : Nat} {m : Int} {f : Nat → Int} {g : Int} {rt lg tp pl_ : Nat → Int} {F : HF} {A : HA} {al : AL} (hK : KM al) (hC : CM p e r q N n m f g rt lg tp pl_ F A) (h : RDM rs F) (hI : RIM n rs) (hin : ∀ j, k = j + 1 → TOK n m r j T ∧ ∃ D0, D0 + 3 < D ∧ 6 ≤ D0 ∧ RCM D0 mX12_atom j al p e r q N n m f g rt lg tp pl_ T) (hD : 6 ≤ D) (h8 : rs 25 + k = 8)  : QE D 0 0 mX12_atom [vA 44] F A al (PRN (aM p e r q N n m f g rt lg tp pl_ T rs) F A al) := by
  refine QE.mk (by decide +kernel) (Nat.le_of_ble_eq_true rfl) ?_
  obtain ⟨hX, hT, ht, hn, hpl, hum⟩ := id hC
  obtain ⟨i20, i21, i22, i23, i24, i25, i26, i27, i28, i29⟩ := id hI
  obtain ⟨hG, hp, he, hq, hN, hg, ⟨hp2, hp7, he1, he4, hme, hqe, hq3, hNm, hgE⟩, hP, hL, hR⟩ := id hT
  obtain ⟨hm, hr, hf, hm2, hr1, hr6, hN4⟩ := id hG
  have hm4 := hG.m4
  refine q_aload_n eX12_atom_0 rfl ?_
  refine q_getfield eX12_atom_1 gf_X12_236 (hK _ (by decide) (by decide)) (by decide) (h 23 (by decide)) ?_
  refine q_istore_n eX12_atom_4 (by decide) rfl ?_
  refine q_iload_n eX12_atom_5 rfl ?_
  refine q_sipush eX12_atom_6 (by decide +kernel) ?_
  refine q_icmp_ne (tgt := 25) eX12_atom_9 (by decide) (by first | assumption | exact ⟨by omega, by omega⟩) (by first | assumption | exact ⟨by omega, by omega⟩) (fun c9 => ?_) (fun c9 => ?_)
  · refine q_iload_n eX12_atom_25 rfl ?_
    refine q_bipush eX12_atom_26 (by decide +kernel) ?_
    refine q_icmp_eq (tgt := 43) eX12_atom_28 (by decide) (by first | assumption | exact ⟨by omega, by omega⟩) (by first | assumption | exact ⟨by omega, by omega⟩) (fun c28 => ?_) (fun c28 => ?_)
    · refine q_aload_n eX12_atom_43 rfl ?_
      refine q_callVM [] (M1 := mX12_go) eX12_atom_44 mf_X12_go lk_X12_263 (hK _ (by decide) (by decide)) (mo_go hK hX ht hn i20 (Int.toNat_of_nonneg i21.1).symm (by omega) h) (by omega) (by decide) (by decide) (Nat.le_of_ble_eq_true rfl) rfl (fun F2 f2 r2 => ?_)
      have hX2 := hX.foff f2 (by decide)
      refine q_iload_n eX12_atom_47 rfl ?_
      refine q_bipush eX12_atom_48 (by decide +kernel) ?_
      refine q_icmp_ne (tgt := 72) eX12_atom_50 (by decide) (by first | assumption | exact ⟨by omega, by omega⟩) (by first | assumption | exact ⟨by omega, by omega⟩) (fun c50 => ?_) (fun c50 => ?_)
      · refine q_iload_n eX12_atom_72 rfl ?_
        refine q_bipush eX12_atom_73 (by decide +kernel) ?_
        refine q_icmp_ne (tgt := 85) eX12_atom_75 (by decide) (by first | assumption | exact ⟨by omega, by omega⟩) (by first | assumption | exact ⟨by omega, by omega⟩) (fun c75 => ?_) (fun c75 => ?_)
        · refine q_aload_n eX12_atom_85 rfl ?_
          refine q_getfield eX12_atom_86 gf_X12_13 (hK _ (by decide) (by decide)) (by decide) (by first | assumption | exact (f2 44 3 (by decide)).trans hr | exact (f2 44 4 (by decide)).trans hm | exact (f2 44 11 (by decide)).trans hg | exact (f2 44 1 (by decide)).trans hp) ?_
          refine q_aload_n eX12_atom_89 rfl ?_
          refine q_getfield eX12_atom_90 gf_X12_22 (hK _ (by decide) (by decide)) (by decide) (by first | assumption | exact (f2 44 3 (by decide)).trans hr | exact (f2 44 4 (by decide)).trans hm | exact (f2 44 11 (by decide)).trans hg | exact (f2 44 1 (by decide)).trans hp) ?_
          refine q_irem eX12_atom_93 (by omega) (by omega) (by omega) (by omega) ?_
          refine q_retI eX12_atom_94 rfl (by decide) (by decide) ?_
          rw [show aM p e r q N n m f g rt lg tp pl_ T rs = ((if rs 23 = 116 then (if r = 1 then 0 else m) else if rs 23 = 103 then g else p % m), gxM n tp rs) from (if_neg (by omega)).trans (if_pos (by omega))]
          refine ⟨?_, rfl, Off.rfl', f2, r2⟩
          first
          | (exfalso; omega)
          | rw [if_pos (by omega), if_pos (by omega)]
          | rw [if_pos (by omega), if_neg (by omega)]
          | rw [if_neg (by omega), if_pos (by omega)]
          | rw [if_neg (by omega), if_neg (by omega)]
        · refine q_aload_n eX12_atom_78 rfl ?_
          refine q_getfield eX12_atom_79 gf_X12_179 (hK _ (by decide) (by decide)) (by decide) (by first | assumption | exact (f2 44 3 (by decide)).trans hr | exact (f2 44 4 (by decide)).trans hm | exact (f2 44 11 (by decide)).trans hg | exact (f2 44 1 (by decide)).trans hp) ?_
          refine q_goto (tgt := 94) eX12_atom_82 (by decide) ?_
          refine q_retI eX12_atom_94 rfl (by decide) (by decide) ?_
          rw [show aM p e r q N n m f g rt lg tp pl_ T rs = ((if rs 23 = 116 then (if r = 1 then 0 else m) else if rs 23 = 103 then g else p % m), gxM n tp rs) from (if_neg (by omega)).trans (if_pos (by omega))]
          refine ⟨?_, rfl, Off.rfl', f2, r2⟩
          first
          | (exfalso; omega)
          | rw [if_pos (by omega), if_pos (by omega)]
          | rw [if_pos (by omega), if_neg (by omega)]
          | rw [if_neg (by omega), if_pos (by omega)]
          | rw [if_neg (by omega), if_neg (by omega)]
      · refine q_aload_n eX12_atom_53 rfl ?_
        refine q_getfield eX12_atom_54 gf_X12_19 (hK _ (by decide) (by decide)) (by decide) (by first | assumption | exact (f2 44 3 (by decide)).trans hr | exact (f2 44 4 (by decide)).trans hm | exact (f2 44 11 (by decide)).trans hg | exact (f2 44 1 (by decide)).trans hp) ?_
        refine q_iconst eX12_atom_57 ?_
        refine q_icmp_ne (tgt := 65) eX12_atom_58 (by decide) (by first | assumption | exact ⟨by omega, by omega⟩) (by first | assumption | exact ⟨by omega, by omega⟩) (fun c58 => ?_) (fun c58 => ?_)
        · refine q_aload_n eX12_atom_65 rfl ?_
          refine q_getfield eX12_atom_66 gf_X12_22 (hK _ (by decide) (by decide)) (by decide) (by first | assumption | exact (f2 44 3 (by decide)).trans hr | exact (f2 44 4 (by decide)).trans hm | exact (f2 44 11 (by decide)).trans hg | exact (f2 44 1 (by decide)).trans hp) ?_
          refine q_goto (tgt := 94) eX12_atom_69 (by decide) ?_
          refine q_retI eX12_atom_94 rfl (by decide) (by decide) ?_
          rw [show aM p e r q N n m f g rt lg tp pl_ T rs = ((if rs 23 = 116 then (if r = 1 then 0 else m) else if rs 23 = 103 then g else p % m), gxM n tp rs) from (if_neg (by omega)).trans (if_pos (by omega))]
          refine ⟨?_, rfl, Off.rfl', f2, r2⟩
          first
          | (exfalso; omega)
          | rw [if_pos (by omega), if_pos (by omega)]
          | rw [if_pos (by omega), if_neg (by omega)]
          | rw [if_neg (by omega), if_pos (by omega)]
          | rw [if_neg (by omega), if_neg (by omega)]
        · refine q_iconst eX12_atom_61 ?_
          refine q_goto (tgt := 94) eX12_atom_62 (by decide) ?_
          refine q_retI eX12_atom_94 rfl (by decide) (by decide) ?_
          rw [show aM p e r q N n m f g rt lg tp pl_ T rs = ((if rs 23 = 116 then (if r = 1 then 0 else m) else if rs 23 = 103 then g else p % m), gxM n tp rs) from (if_neg (by omega)).trans (if_pos (by omega))]
          refine ⟨?_, rfl, Off.rfl', f2, r2⟩
          first
          | (exfalso; omega)
          | rw [if_pos (by omega), if_pos (by omega)]
          | rw [if_pos (by omega), if_neg (by omega)]
          | rw [if_neg (by omega), if_pos (by omega)]
          | rw [if_neg (by omega), if_neg (by omega)]
    · refine q_iload_n eX12_atom_31 rfl ?_
      refine q_bipush eX12_atom_32 (by decide +kernel) ?_
      refine q_icmp_eq (tgt := 43) eX12_atom_34 (by decide) (by first | assumption | exact ⟨by omega, by omega⟩) (by first | assumption | exact ⟨by omega, by omega⟩) (fun c34 => ?_) (fun c34 => ?_)
      · refine q_aload_n eX12_atom_43 rfl ?_
        refine q_callVM [] (M1 := mX12_go) eX12_atom_44 mf_X12_go lk_X12_263 (hK _ (by decide) (by decide)) (mo_go hK hX ht hn i20 (Int.toNat_of_nonneg i21.1).symm (by omega) h) (by omega) (by decide) (by decide) (Nat.le_of_ble_eq_true rfl) rfl (fun F2 f2 r2 => ?_)
        have hX2 := hX.foff f2 (by decide)
        refine q_iload_n eX12_atom_47 rfl ?_
        refine q_bipush eX12_atom_48 (by decide +kernel) ?_
        refine q_icmp_ne (tgt := 72) eX12_atom_50 (by decide) (by first | assumption | exact ⟨by omega, by omega⟩) (by first | assumption | exact ⟨by omega, by omega⟩) (fun c50 => ?_) (fun c50 => ?_)
        · refine q_iload_n eX12_atom_72 rfl ?_
          refine q_bipush eX12_atom_73 (by decide +kernel) ?_
          refine q_icmp_ne (tgt := 85) eX12_atom_75 (by decide) (by first | assumption | exact ⟨by omega, by omega⟩) (by first | assumption | exact ⟨by omega, by omega⟩) (fun c75 => ?_) (fun c75 => ?_)
          · refine q_aload_n eX12_atom_85 rfl ?_
            refine q_getfield eX12_atom_86 gf_X12_13 (hK _ (by decide) (by decide)) (by decide) (by first | assumption | exact (f2 44 3 (by decide)).trans hr | exact (f2 44 4 (by decide)).trans hm | exact (f2 44 11 (by decide)).trans hg | exact (f2 44 1 (by decide)).trans hp) ?_
            refine q_aload_n eX12_atom_89 rfl ?_
            refine q_getfield eX12_atom_90 gf_X12_22 (hK _ (by decide) (by decide)) (by decide) (by first | assumption | exact (f2 44 3 (by decide)).trans hr | exact (f2 44 4 (by decide)).trans hm | exact (f2 44 11 (by decide)).trans hg | exact (f2 44 1 (by decide)).trans hp) ?_
            refine q_irem eX12_atom_93 (by omega) (by omega) (by omega) (by omega) ?_
            refine q_retI eX12_atom_94 rfl (by decide) (by decide) ?_
            rw [show aM p e r q N n m f g rt lg tp pl_ T rs = ((if rs 23 = 116 then (if r = 1 then 0 else m) else if rs 23 = 103 then g else p % m), gxM n tp rs) from (if_neg (by omega)).trans (if_pos (by omega))]
            refine ⟨?_, rfl, Off.rfl', f2, r2⟩
            first
            | (exfalso; omega)
            | rw [if_pos (by omega), if_pos (by omega)]
            | rw [if_pos (by omega), if_neg (by omega)]
            | rw [if_neg (by omega), if_pos (by omega)]
            | rw [if_neg (by omega), if_neg (by omega)]
          · refine q_aload_n eX12_atom_78 rfl ?_
            refine q_getfield eX12_atom_79 gf_X12_179 (hK _ (by decide) (by decide)) (by decide) (by first | assumption | exact (f2 44 3 (by decide)).trans hr | exact (f2 44 4 (by decide)).trans hm | exact (f2 44 11 (by decide)).trans hg | exact (f2 44 1 (by decide)).trans hp) ?_
            refine q_goto (tgt := 94) eX12_atom_82 (by decide) ?_
            refine q_retI eX12_atom_94 rfl (by decide) (by decide) ?_
            rw [show aM p e r q N n m f g rt lg tp pl_ T rs = ((if rs 23 = 116 then (if r = 1 then 0 else m) else if rs 23 = 103 then g else p % m), gxM n tp rs) from (if_neg (by omega)).trans (if_pos (by omega))]
            refine ⟨?_, rfl, Off.rfl', f2, r2⟩
            first
            | (exfalso; omega)
            | rw [if_pos (by omega), if_pos (by omega)]
            | rw [if_pos (by omega), if_neg (by omega)]
            | rw [if_neg (by omega), if_pos (by omega)]
            | rw [if_neg (by omega), if_neg (by omega)]
        · refine q_aload_n eX12_atom_53 rfl ?_
          refine q_getfield eX12_atom_54 gf_X12_19 (hK _ (by decide) (by decide)) (by decide) (by first | assumption | exact (f2 44 3 (by decide)).trans hr | exact (f2 44 4 (by decide)).trans hm | exact (f2 44 11 (by decide)).trans hg | exact (f2 44 1 (by decide)).trans hp) ?_
          refine q_iconst eX12_atom_57 ?_
          refine q_icmp_ne (tgt := 65) eX12_atom_58 (by decide) (by first | assumption | exact ⟨by omega, by omega⟩) (by first | assumption | exact ⟨by omega, by omega⟩) (fun c58 => ?_) (fun c58 => ?_)
          · refine q_aload_n eX12_atom_65 rfl ?_
            refine q_getfield eX12_atom_66 gf_X12_22 (hK _ (by decide) (by decide)) (by decide) (by first | assumption | exact (f2 44 3 (by decide)).trans hr | exact (f2 44 4 (by decide)).trans hm | exact (f2 44 11 (by decide)).trans hg | exact (f2 44 1 (by decide)).trans hp) ?_
            refine q_goto (tgt := 94) eX12_atom_69 (by decide) ?_
            refine q_retI eX12_atom_94 rfl (by decide) (by decide) ?_
            rw [show aM p e r q N n m f g rt lg tp pl_ T rs = ((if rs 23 = 116 then (if r = 1 then 0 else m) else if rs 23 = 103 then g else p % m), gxM n tp rs) from (if_neg (by omega)).trans (if_pos (by omega))]
            refine ⟨?_, rfl, Off.rfl', f2, r2⟩
            first
            | (exfalso; omega)
            | rw [if_pos (by omega), if_pos (by omega)]
            | rw [if_pos (by omega), if_neg (by omega)]
            | rw [if_neg (by omega), if_pos (by omega)]
            | rw [if_neg (by omega), if_neg (by omega)]
          · refine q_iconst eX12_atom_61 ?_
            refine q_goto (tgt := 94) eX12_atom_62 (by decide) ?_
            refine q_retI eX12_atom_94 rfl (by decide) (by decide) ?_
            rw [show aM p e r q N n m f g rt lg tp pl_ T rs = ((if rs 23 = 116 then (if r = 1 then 0 else m) else if rs 23 = 103 then g else p % m), gxM n tp rs) from (if_neg (by omega)).trans (if_pos (by omega))]
            refine ⟨?_, rfl, Off.rfl', f2, r2⟩
            first
            | (exfalso; omega)
            | rw [if_pos (by omega), if_pos (by omega)]
            | rw [if_pos (by omega), if_neg (by omega)]
            | rw [if_neg (by omega), if_pos (by omega)]
            | rw [if_neg (by omega), if_neg (by omega)]
      · refine q_iload_n eX12_atom_37 rfl ?_
        refine q_bipush eX12_atom_38 (by decide +kernel) ?_
        refine q_icmp_ne (tgt := 95) eX12_atom_40 (by decide) (by first | assumption | exact ⟨by omega, by omega⟩) (by first | assumption | exact ⟨by omega, by omega⟩) (fun c40 => ?_) (fun c40 => ?_)
        · refine q_iload_n eX12_atom_95 rfl ?_
          refine q_bipush eX12_atom_96 (by decide +kernel) ?_
          refine q_icmp_ne (tgt := 119) eX12_atom_98 (by decide) (by first | assumption | exact ⟨by omega, by omega⟩) (by first | assumption | exact ⟨by omega, by omega⟩) (fun c98 => ?_) (fun c98 => ?_)
          · refine q_aload_n eX12_atom_119 rfl ?_
            refine q_iload_n eX12_atom_120 rfl ?_
            refine q_bipush eX12_atom_121 (by decide +kernel) ?_
            refine q_icmp_eq (tgt := 150) eX12_atom_123 (by decide) (by first | assumption | exact ⟨by omega, by omega⟩) (by first | assumption | exact ⟨by omega, by omega⟩) (fun c123 => ?_) (fun c123 => ?_)
            · refine q_iconst eX12_atom_150 ?_
              refine q_goto (tgt := 155) eX12_atom_151 (by decide) ?_
              rw [show aM p e r q N n m f g rt lg tp pl_ T rs = opM p e r q N n m f g rt lg tp T (rs 23) rs from (if_neg (by omega)).trans ((if_neg (by omega)).trans (if_neg (by omega)))]
              exact lp_at155 hK hC h hI hin hD h8 rfl (by first | exact (if_pos (by omega)).symm | exact (if_neg (by omega)).symm)
            · refine q_iload_n eX12_atom_126 rfl ?_
              refine q_bipush eX12_atom_127 (by decide +kernel) ?_
              refine q_icmp_eq (tgt := 150) eX12_atom_129 (by decide) (by first | assumption | exact ⟨by omega, by omega⟩) (by first | assumption | exact ⟨by omega, by omega⟩) (fun c129 => ?_) (fun c129 => ?_)
              · refine q_iconst eX12_atom_150 ?_
                refine q_goto (tgt := 155) eX12_atom_151 (by decide) ?_
                rw [show aM p e r q N n m f g rt lg tp pl_ T rs = opM p e r q N n m f g rt lg tp T (rs 23) rs from (if_neg (by omega)).trans ((if_neg (by omega)).trans (if_neg (by omega)))]
                exact lp_at155 hK hC h hI hin hD h8 rfl (by first | exact (if_pos (by omega)).symm | exact (if_neg (by omega)).symm)
              · refine q_iload_n eX12_atom_132 rfl ?_
                refine q_bipush eX12_atom_133 (by decide +kernel) ?_
                refine q_icmp_eq (tgt := 150) eX12_atom_135 (by decide) (by first | assumption | exact ⟨by omega, by omega⟩) (by first | assumption | exact ⟨by omega, by omega⟩) (fun c135 => ?_) (fun c135 => ?_)
                · refine q_iconst eX12_atom_150 ?_
                  refine q_goto (tgt := 155) eX12_atom_151 (by decide) ?_
                  rw [show aM p e r q N n m f g rt lg tp pl_ T rs = opM p e r q N n m f g rt lg tp T (rs 23) rs from (if_neg (by omega)).trans ((if_neg (by omega)).trans (if_neg (by omega)))]
                  exact lp_at155 hK hC h hI hin hD h8 rfl (by first | exact (if_pos (by omega)).symm | exact (if_neg (by omega)).symm)
                · refine q_iload_n eX12_atom_138 rfl ?_
                  refine q_bipush eX12_atom_139 (by decide +kernel) ?_
                  refine q_icmp_eq (tgt := 150) eX12_atom_141 (by decide) (by first | assumption | exact ⟨by omega, by omega⟩) (by first | assumption | exact ⟨by omega, by omega⟩) (fun c141 => ?_) (fun c141 => ?_)
                  · refine q_iconst eX12_atom_150 ?_
                    refine q_goto (tgt := 155) eX12_atom_151 (by decide) ?_
                    rw [show aM p e r q N n m f g rt lg tp pl_ T rs = opM p e r q N n m f g rt lg tp T (rs 23) rs from (if_neg (by omega)).trans ((if_neg (by omega)).trans (if_neg (by omega)))]
                    exact lp_at155 hK hC h hI hin hD h8 rfl (by first | exact (if_pos (by omega)).symm | exact (if_neg (by omega)).symm)
                  · refine q_iload_n eX12_atom_144 rfl ?_
                    refine q_bipush eX12_atom_145 (by decide +kernel) ?_
                    refine q_icmp_ne (tgt := 154) eX12_atom_147 (by decide) (by first | assumption | exact ⟨by omega, by omega⟩) (by first | assumption | exact ⟨by omega, by omega⟩) (fun c147 => ?_) (fun c147 => ?_)
                    · refine q_iconst eX12_atom_154 ?_
                      rw [show aM p e r q N n m f g rt lg tp pl_ T rs = opM p e r q N n m f g rt lg tp T (rs 23) rs from (if_neg (by omega)).trans ((if_neg (by omega)).trans (if_neg (by omega)))]
                      exact lp_at155 hK hC h hI hin hD h8 rfl (by first | exact (if_pos (by omega)).symm | exact (if_neg (by omega)).symm)
                    · refine q_iconst eX12_atom_150 ?_
                      refine q_goto (tgt := 155) eX12_atom_151 (by decide) ?_
                      rw [show aM p e r q N n m f g rt lg tp pl_ T rs = opM p e r q N n m f g rt lg tp T (rs 23) rs from (if_neg (by omega)).trans ((if_neg (by omega)).trans (if_neg (by omega)))]
                      exact lp_at155 hK hC h hI hin hD h8 rfl (by first | exact (if_pos (by omega)).symm | exact (if_neg (by omega)).symm)
          · refine q_aload_n eX12_atom_101 rfl ?_
            refine q_callVM [] (M1 := mX12_go) eX12_atom_102 mf_X12_go lk_X12_263 (hK _ (by decide) (by decide)) (mo_go hK hX ht hn i20 (Int.toNat_of_nonneg i21.1).symm (by omega) h) (by omega) (by decide) (by decide) (Nat.le_of_ble_eq_true rfl) rfl (fun F2 f2 r2 => ?_)
            have hX2 := hX.foff f2 (by decide)
            have K2 := (go_ok (tp := tp) hI ht hn (by omega)).1
            refine q_aload_n eX12_atom_105 rfl ?_
            refine q_bipush eX12_atom_106 (by decide +kernel) ?_
            refine q_callVN [vI 7] (M1 := mX12_figure) eX12_atom_108 mf_X12_figure lk_X12_269 (hK _ (by decide) (by decide)) (mo_figure hK (hC.pres f2 Off.rfl') r2 K2.1 (by decide) (by decide)) (by omega) (by decide) (by decide) (Nat.le_of_ble_eq_true rfl) rfl (fun F3 A3 o3 f3 r3 => ?_)
            have k3 := fi_ok (tp := tp) (most := 7) K2.1 ht hn (by decide)
            have hX3 := hX2.foff f3 (by decide)
            have hp3 : A3 49 (fiM n tp 7 (gxM n tp rs)).1.toNat = pl_ (fiM n tp 7 (gxM n tp rs)).1.toNat := (congrFun (o3 49 (by decide)) _).trans (hpl _ (by omega)).1
            refine q_istore_n eX12_atom_111 (by decide) rfl ?_
            refine q_aload_n eX12_atom_112 rfl ?_
            refine q_getfield eX12_atom_113 gf_X12_44 (hK _ (by decide) (by decide)) (by decide) (mr_44_12 (by first | exact hX3 | exact hX2 | exact hX)) ?_
            refine q_iload_n eX12_atom_116 rfl ?_
            refine q_iald eX12_atom_117 (hK _ (by decide) (by decide)) (by omega) (by omega) ?_
            refine q_retI eX12_atom_118 rfl (by decide) (by decide) ?_
            rw [show aM p e r q N n m f g rt lg tp pl_ T rs = (pl_ (fiM n tp 7 (gxM n tp rs)).1.toNat, (fiM n tp 7 (gxM n tp rs)).2) from (if_neg (by omega)).trans ((if_neg (by omega)).trans (if_pos (by omega)))]
            rw [← hp3]
            exact ⟨rfl, rfl, o3, f2.trans f3, r3⟩
        · refine q_aload_n eX12_atom_43 rfl ?_
          refine q_callVM [] (M1 := mX12_go) eX12_atom_44 mf_X12_go lk_X12_263 (hK _ (by decide) (by decide)) (mo_go hK hX ht hn i20 (Int.toNat_of_nonneg i21.1).symm (by omega) h) (by omega) (by decide) (by decide) (Nat.le_of_ble_eq_true rfl) rfl (fun F2 f2 r2 => ?_)
          have hX2 := hX.foff f2 (by decide)
          refine q_iload_n eX12_atom_47 rfl ?_
          refine q_bipush eX12_atom_48 (by decide +kernel) ?_
          refine q_icmp_ne (tgt := 72) eX12_atom_50 (by decide) (by first | assumption | exact ⟨by omega, by omega⟩) (by first | assumption | exact ⟨by omega, by omega⟩) (fun c50 => ?_) (fun c50 => ?_)
          · refine q_iload_n eX12_atom_72 rfl ?_
            refine q_bipush eX12_atom_73 (by decide +kernel) ?_
            refine q_icmp_ne (tgt := 85) eX12_atom_75 (by decide) (by first | assumption | exact ⟨by omega, by omega⟩) (by first | assumption | exact ⟨by omega, by omega⟩) (fun c75 => ?_) (fun c75 => ?_)
            · refine q_aload_n eX12_atom_85 rfl ?_
              refine q_getfield eX12_atom_86 gf_X12_13 (hK _ (by decide) (by decide)) (by decide) (by first | assumption | exact (f2 44 3 (by decide)).trans hr | exact (f2 44 4 (by decide)).trans hm | exact (f2 44 11 (by decide)).trans hg | exact (f2 44 1 (by decide)).trans hp) ?_
              refine q_aload_n eX12_atom_89 rfl ?_
              refine q_getfield eX12_atom_90 gf_X12_22 (hK _ (by decide) (by decide)) (by decide) (by first | assumption | exact (f2 44 3 (by decide)).trans hr | exact (f2 44 4 (by decide)).trans hm | exact (f2 44 11 (by decide)).trans hg | exact (f2 44 1 (by decide)).trans hp) ?_
              refine q_irem eX12_atom_93 (by omega) (by omega) (by omega) (by omega) ?_
              refine q_retI eX12_atom_94 rfl (by decide) (by decide) ?_
              rw [show aM p e r q N n m f g rt lg tp pl_ T rs = ((if rs 23 = 116 then (if r = 1 then 0 else m) else if rs 23 = 103 then g else p % m), gxM n tp rs) from (if_neg (by omega)).trans (if_pos (by omega))]
              refine ⟨?_, rfl, Off.rfl', f2, r2⟩
              first
              | (exfalso; omega)
              | rw [if_pos (by omega), if_pos (by omega)]
              | rw [if_pos (by omega), if_neg (by omega)]
              | rw [if_neg (by omega), if_pos (by omega)]
              | rw [if_neg (by omega), if_neg (by omega)]
            · refine q_aload_n eX12_atom_78 rfl ?_
              refine q_getfield eX12_atom_79 gf_X12_179 (hK _ (by decide) (by decide)) (by decide) (by first | assumption | exact (f2 44 3 (by decide)).trans hr | exact (f2 44 4 (by decide)).trans hm | exact (f2 44 11 (by decide)).trans hg | exact (f2 44 1 (by decide)).trans hp) ?_
              refine q_goto (tgt := 94) eX12_atom_82 (by decide) ?_
              refine q_retI eX12_atom_94 rfl (by decide) (by decide) ?_
              rw [show aM p e r q N n m f g rt lg tp pl_ T rs = ((if rs 23 = 116 then (if r = 1 then 0 else m) else if rs 23 = 103 then g else p % m), gxM n tp rs) from (if_neg (by omega)).trans (if_pos (by omega))]
              refine ⟨?_, rfl, Off.rfl', f2, r2⟩
              first
              | (exfalso; omega)
              | rw [if_pos (by omega), if_pos (by omega)]
              | rw [if_pos (by omega), if_neg (by omega)]
              | rw [if_neg (by omega), if_pos (by omega)]
              | rw [if_neg (by omega), if_neg (by omega)]
          · refine q_aload_n eX12_atom_53 rfl ?_
            refine q_getfield eX12_atom_54 gf_X12_19 (hK _ (by decide) (by decide)) (by decide) (by first | assumption | exact (f2 44 3 (by decide)).trans hr | exact (f2 44 4 (by decide)).trans hm | exact (f2 44 11 (by decide)).trans hg | exact (f2 44 1 (by decide)).trans hp) ?_
            refine q_iconst eX12_atom_57 ?_
            refine q_icmp_ne (tgt := 65) eX12_atom_58 (by decide) (by first | assumption | exact ⟨by omega, by omega⟩) (by first | assumption | exact ⟨by omega, by omega⟩) (fun c58 => ?_) (fun c58 => ?_)
            · refine q_aload_n eX12_atom_65 rfl ?_
              refine q_getfield eX12_atom_66 gf_X12_22 (hK _ (by decide) (by decide)) (by decide) (by first | assumption | exact (f2 44 3 (by decide)).trans hr | exact (f2 44 4 (by decide)).trans hm | exact (f2 44 11 (by decide)).trans hg | exact (f2 44 1 (by decide)).trans hp) ?_
              refine q_goto (tgt := 94) eX12_atom_69 (by decide) ?_
              refine q_retI eX12_atom_94 rfl (by decide) (by decide) ?_
              rw [show aM p e r q N n m f g rt lg tp pl_ T rs = ((if rs 23 = 116 then (if r = 1 then 0 else m) else if rs 23 = 103 then g else p % m), gxM n tp rs) from (if_neg (by omega)).trans (if_pos (by omega))]
              refine ⟨?_, rfl, Off.rfl', f2, r2⟩
              first
              | (exfalso; omega)
              | rw [if_pos (by omega), if_pos (by omega)]
              | rw [if_pos (by omega), if_neg (by omega)]
              | rw [if_neg (by omega), if_pos (by omega)]
              | rw [if_neg (by omega), if_neg (by omega)]
            · refine q_iconst eX12_atom_61 ?_
              refine q_goto (tgt := 94) eX12_atom_62 (by decide) ?_
              refine q_retI eX12_atom_94 rfl (by decide) (by decide) ?_
              rw [show aM p e r q N n m f g rt lg tp pl_ T rs = ((if rs 23 = 116 then (if r = 1 then 0 else m) else if rs 23 = 103 then g else p % m), gxM n tp rs) from (if_neg (by omega)).trans (if_pos (by omega))]
              refine ⟨?_, rfl, Off.rfl', f2, r2⟩
              first
              | (exfalso; omega)
              | rw [if_pos (by omega), if_pos (by omega)]
              | rw [if_pos (by omega), if_neg (by omega)]
              | rw [if_neg (by omega), if_pos (by omega)]
              | rw [if_neg (by omega), if_neg (by omega)]
  · refine q_aload_n eX12_atom_12 rfl ?_
    refine q_sipush eX12_atom_13 (by decide +kernel) ?_
    refine q_callVN [vI 9999] (M1 := mX12_figure) eX12_atom_16 mf_X12_figure lk_X12_269 (hK _ (by decide) (by decide)) (mo_figure hK hC h hI (by decide) (by decide)) (by omega) (by decide) (by decide) (Nat.le_of_ble_eq_true rfl) rfl (fun F1 A1 o1 f1 r1 => ?_)
    have k1 := fi_ok (tp := tp) (most := 9999) hI ht hn (by decide)
    have hm1 : F1 44 4 = vI m := (f1 44 4 (by decide)).trans hm
    refine q_aload_n eX12_atom_19 rfl ?_
    refine q_getfield eX12_atom_20 gf_X12_22 (hK _ (by decide) (by decide)) (by decide) (by first | assumption | exact (f2 44 3 (by decide)).trans hr | exact (f2 44 4 (by decide)).trans hm | exact (f2 44 11 (by decide)).trans hg | exact (f2 44 1 (by decide)).trans hp) ?_
    refine q_irem eX12_atom_23 (by omega) (by omega) (by omega) (by omega) ?_
    refine q_retI eX12_atom_24 rfl (by decide) (by decide) ?_
    rw [show aM p e r q N n m f g rt lg tp pl_ T rs = ((fiM n tp 9999 rs).1 % m, (fiM n tp 9999 rs).2) from if_pos (by omega)]
    exact ⟨rfl, rfl, o1, f1, r1⟩
def atM (p e r q N n : Nat) (m : Int) (f : Nat → Int) (g : Int) (rt lg tp pl_ : Nat → Int) : Nat → (Nat → Int) → Int × (Nat → Int)
  | 0 => aM p e r q N n m f g rt lg tp pl_ (fun rs => (0, rs))
  | l + 1 => aM p e r q N n m f g rt lg tp pl_ (atM p e r q N n m f g rt lg tp pl_ l)
theorem at_okM {p e r q N n : Nat} {m : Int} {f : Nat → Int} {g : Int} {rt lg tp pl_ : Nat → Int} {F : HF} {A : HA} (hC : CM p e r q N n m f g rt lg tp pl_ F A) : ∀ l, TOK n m r l (atM p e r q N n m f g rt lg tp pl_ l)
  | 0 => a_okM hC (fun j hj => absurd hj (by omega))
  | l + 1 => a_okM hC (fun j hj => by obtain rfl : l = j := by omega
                                      exact at_okM hC l)
theorem mo_atM {p e r q N n : Nat} {m : Int} {f : Nat → Int} {g : Int} {rt lg tp pl_ : Nat → Int} {al : AL} (hK : KM al) : ∀ l, RCM (6 + 4 * l) mX12_atom l al p e r q N n m f g rt lg tp pl_ (atM p e r q N n m f g rt lg tp pl_ l)
  | 0 => fun rs F A hC h hI h8 => mo_atom (k := 0) hK hC h hI (fun j hj => absurd hj (by omega)) (by decide) h8
  | l + 1 => fun rs F A hC h hI h8 => mo_atom (k := l + 1) hK hC h hI (fun j hj => by
      obtain rfl : l = j := by omega
      exact ⟨at_okM hC l, 6 + 4 * l, by omega, by omega, mo_atM hK l⟩) (by omega) h8
