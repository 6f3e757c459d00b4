/-! the model: word, code, classes, ring -/
theorem sb_mod {v : Int} (h : 0 ≤ v) (h2 : v < 256) : sb v % 256 = v := by
  unfold sb
  split <;> omega
set_option maxRecDepth 20000 in
theorem lp_mw1 {n : Nat} {m : Int} {tp : Nat → Int} {F2 : HF} {A : HA} {al : AL} {Post : PO} (hK : KM al) (hX : MR F2) (hm : F2 44 4 = vI m) (hn : F2 44 33 = vI n) (hm4 : m ≤ 4096) (hn63 : n ≤ 63) (hta : ∀ j, j < 200 → A 55 j = sb (tp j) ∧ 0 ≤ tp j ∧ tp j < 256) (hm2 : 2 ≤ m) (bad : ∀ i, i < n → ¬ tp i < m → Post (.inl (some (-1))) F2 A al) (good : (∀ i, i < n → tp i < m) → ∀ w : Int, QW mX12_word 3 0 0 Post 0 0 71 [some (vA 44), some (vI w)] [] F2 A al) : ∀ (k i : Nat), i + k = n → (∀ j, j < i → tp j < m) →
    QW mX12_word 3 0 0 Post 0 0 38 [some (vA 44), some (vI i)] [] F2 A al := by
  intro k
  induction k with
  | zero =>
    intro i hi h
    have ei : i = n := by omega
    subst ei
    refine q_iload_n eX12_word_38 rfl ?_
    refine q_aload_n eX12_word_39 rfl ?_
    refine q_getfield eX12_word_40 gf_X12_69 (hK _ (by decide) (by decide)) (by decide) (by first | assumption) ?_
    refine q_icmp_ge (tgt := 71) eX12_word_43 (by decide) (by first | assumption | exact ⟨by omega, by omega⟩) (by first | assumption | exact ⟨by omega, by omega⟩) (fun c43 => ?_) (fun c43 => ?_)
    · exact good h _
    · exact absurd c43 (by omega)
  | succ k ih =>
    intro i hi h
    obtain ⟨t1, t2, t3⟩ := hta i (by omega)
    have t4 := sb_mod t2 t3
    refine q_iload_n eX12_word_38 rfl ?_
    refine q_aload_n eX12_word_39 rfl ?_
    refine q_getfield eX12_word_40 gf_X12_69 (hK _ (by decide) (by decide)) (by decide) (by first | assumption) ?_
    refine q_icmp_ge (tgt := 71) eX12_word_43 (by decide) (by first | assumption | exact ⟨by omega, by omega⟩) (by first | assumption | exact ⟨by omega, by omega⟩) (fun c43 => ?_) (fun c43 => ?_)
    · exact absurd c43 (by omega)
    · refine q_aload_n eX12_word_46 rfl ?_
      refine q_getfield eX12_word_47 gf_X12_62 (hK _ (by decide) (by decide)) (by decide) (mr_44_18 hX) ?_
      refine q_iload_n eX12_word_50 rfl ?_
      refine q_bald eX12_word_51 (hK _ (by decide) (by decide)) (by omega) (by omega) ?_
      rw [show A 55 (i : Int).toNat = sb (tp i) from t1]
      refine q_sipush eX12_word_52 (by decide +kernel) ?_
      refine q_iand255 eX12_word_55 ?_
      rw [t4]
      refine q_aload_n eX12_word_56 rfl ?_
      refine q_getfield eX12_word_57 gf_X12_22 (hK _ (by decide) (by decide)) (by decide) (by first | assumption) ?_
      refine q_icmp_lt (tgt := 65) eX12_word_60 (by decide) (by first | assumption | exact ⟨by omega, by omega⟩) (by first | assumption | exact ⟨by omega, by omega⟩) (fun c60 => ?_) (fun c60 => ?_)
      · refine q_iinc eX12_word_65 rfl (by decide) rfl ?_
        refine q_goto (tgt := 38) eX12_word_68 (by decide) ?_
        refine ih (i + 1) (by omega) (fun j hj => ?_)
        by_cases he : j = i
        · rw [he]; omega
        · exact h j (by omega)
      · refine q_iconst eX12_word_63 ?_
        refine q_retI eX12_word_64 rfl (by decide) (by decide) ?_
        exact bad i (by omega) (by omega)
set_option maxRecDepth 20000 in
theorem lp_mw2 {n : Nat} {m : Int} {tp : Nat → Int} {F2 : HF} {A : HA} {al : AL} {Post : PO} (hK : KM al) (hX : MR F2) (hm : F2 44 4 = vI m) (hn : F2 44 33 = vI n) (hm4 : m ≤ 4096) (hn63 : n ≤ 63) (hta : ∀ j, j < 200 → A 55 j = sb (tp j) ∧ 0 ≤ tp j ∧ tp j < 256) (out : ∀ A2, Off [62] A A2 → (∀ j, j < n → A2 62 j = tp j) → QW mX12_word 3 0 0 Post 0 0 103 [some (vA 44), some (vI n)] [] F2 A2 al) : ∀ (k i : Nat) (A2 : HA), i + k = n → Off [62] A A2 → (∀ j, j < i → A2 62 j = tp j) →
    QW mX12_word 3 0 0 Post 0 0 73 [some (vA 44), some (vI i)] [] F2 A2 al := by
  intro k
  induction k with
  | zero =>
    intro i A2 hi ho h
    have ei : i = n := by omega
    subst ei
    refine q_iload_n eX12_word_73 rfl ?_
    refine q_aload_n eX12_word_74 rfl ?_
    refine q_getfield eX12_word_75 gf_X12_69 (hK _ (by decide) (by decide)) (by decide) (by first | assumption) ?_
    refine q_icmp_ge (tgt := 103) eX12_word_78 (by decide) (by first | assumption | exact ⟨by omega, by omega⟩) (by first | assumption | exact ⟨by omega, by omega⟩) (fun c78 => ?_) (fun c78 => ?_)
    · exact out A2 ho h
    · exact absurd c78 (by omega)
  | succ k ih =>
    intro i A2 hi ho h
    obtain ⟨t1, t2, t3⟩ := hta i (by omega)
    have t4 := sb_mod t2 t3
    have t5 : A2 55 i = sb (tp i) := (congrFun (ho 55 (by decide)) i).trans t1
    refine q_iload_n eX12_word_73 rfl ?_
    refine q_aload_n eX12_word_74 rfl ?_
    refine q_getfield eX12_word_75 gf_X12_69 (hK _ (by decide) (by decide)) (by decide) (by first | assumption) ?_
    refine q_icmp_ge (tgt := 103) eX12_word_78 (by decide) (by first | assumption | exact ⟨by omega, by omega⟩) (by first | assumption | exact ⟨by omega, by omega⟩) (fun c78 => ?_) (fun c78 => ?_)
    · exact absurd c78 (by omega)
    · refine q_aload_n eX12_word_81 rfl ?_
      refine q_getfield eX12_word_82 gf_X12_90 (hK _ (by decide) (by decide)) (by decide) (mr_44_44 hX) ?_
      refine q_iload_n eX12_word_85 rfl ?_
      refine q_aload_n eX12_word_86 rfl ?_
      refine q_getfield eX12_word_87 gf_X12_62 (hK _ (by decide) (by decide)) (by decide) (mr_44_18 hX) ?_
      refine q_iload_n eX12_word_90 rfl ?_
      refine q_bald eX12_word_91 (hK _ (by decide) (by decide)) (by omega) (by omega) ?_
      rw [show A2 55 (i : Int).toNat = sb (tp i) from t5]
      refine q_sipush eX12_word_92 (by decide +kernel) ?_
      refine q_iand255 eX12_word_95 ?_
      rw [t4]
      refine q_iast eX12_word_96 (hK _ (by decide) (by decide)) (by omega) (by omega) ?_
      refine q_iinc eX12_word_97 rfl (by decide) rfl ?_
      refine q_goto (tgt := 73) eX12_word_100 (by decide) ?_
      refine ih (i + 1) _ (by omega) (ho.trans (Off.up (by simp))) (fun j hj => ?_)
      rw [up2_at]
      split
      · next he => rw [show j = i from he]
      · next he => exact h j (by have : j ≠ i := he; omega)
set_option maxRecDepth 20000 in
theorem mo_word {p e r q N : Nat} {m : Int} {f : Nat → Int} {g : Int} {rt lg pl_ tp mk ck : Nat → Int} {len n dg : Nat} {fp set : Int} {w : Option (Nat → Int)} {S : List Int} {F : HF} {A : HA} {al : AL} (hK : KM al) (h0 : MI p e r q N m f g rt lg pl_ len tp fp n set dg mk ck w S F A) (hmk : ∀ i, i ≤ dg → 0 ≤ mk i ∧ mk i < m) : QE 3 0 0 mX12_word [vA 44] F A al (PMR (wrE m n dg len mk tp) F A al (fun F2 A2 => if len < n then MI p e r q N m f g rt lg pl_ len tp fp n set dg mk ck w S F2 A2 else if wdOk m n tp then MI p e r q N m f g rt lg pl_ 0 tp fp n set dg mk ck (some tp) S F2 A2 else MI p e r q N m f g rt lg pl_ 0 tp fp n set dg mk ck w S F2 A2)) := by
  refine QE.mk (by decide +kernel) (Nat.le_of_ble_eq_true rfl) ?_
  have h := h0.t0
  generalize hF0 : up2 F 44 0 (vI 0) = F1 at h
  have ht0 : F1 44 0 = vI 0 := by rw [← hF0]; exact up2_eq _ _ _ _
  have hoF : FOff SCF F F1 := by rw [← hF0]; exact FOff.up (by decide)
  obtain ⟨⟨hX, hT, h3r, hMH⟩, h2, ⟨hl0, hl1, hta⟩, h4, ⟨⟨h51, h52, h53⟩, h5m, h5c, ⟨hn1, hn63, hnq, hs0, hs1⟩, hdn⟩, h7, ⟨⟨h81, h82⟩, h83⟩⟩ := id h
  obtain ⟨hG, hp, he, hq, hN, hg, ⟨hp2, hp7, he1, he4, hme, hqe, hq3, hNm, hgE⟩, hP, hL, hR⟩ := id hT
  obtain ⟨hm, hr, hf, hm2, hr1, hr6, hN4⟩ := id hG
  have hm4 := hG.m4
  have hq2 := hT.q2
  have hN9 : (N : Int) ≤ 4096 := by rw [hNm]; exact hN4
  have hE : ∀ x : Int, 0 ≤ x ∧ x ≤ (N : Int) - 1 → El m r x := fun x h => ⟨h.1, by rw [← hNm]; omega⟩
  have hmk2 : ∀ i, i ≤ dg → A 56 i = mk i ∧ 0 ≤ mk i ∧ mk i < m := fun i hi => ⟨h5m i (by omega), hmk i hi⟩
  have hNp : 1 ≤ N := by have := el_one (m := m) (r := r) hm2 hr1; have := this.2; omega
  refine q_aload_n eX12_word_0 rfl ?_
  refine q_iconst eX12_word_1 ?_
  refine q_putfield eX12_word_2 pf_X12_1 (hK _ (by decide) (by decide)) (by decide) (FT_i rfl) ?_
  rw [hF0]
  refine q_aload_n eX12_word_5 rfl ?_
  refine q_aload_n eX12_word_6 rfl ?_
  refine q_getfield eX12_word_7 gf_X12_214 (hK _ (by decide) (by decide)) (by decide) (by first | assumption) ?_
  refine q_aload_n eX12_word_10 rfl ?_
  refine q_getfield eX12_word_11 gf_X12_69 (hK _ (by decide) (by decide)) (by decide) (by first | assumption) ?_
  refine q_icmp_lt (tgt := 21) eX12_word_14 (by decide) (by first | assumption | exact ⟨by omega, by omega⟩) (by first | assumption | exact ⟨by omega, by omega⟩) (fun c14 => ?_) (fun c14 => ?_)
  · refine q_iconst eX12_word_21 ?_
    refine q_iconst eX12_word_22 ?_
    refine q_right0 eX12_word_23 lk_X12_304 hK ht0 (by decide) (by decide) (by decide) (Nat.le_of_ble_eq_true rfl) ?_
    refine q_if_ne (tgt := 31) eX12_word_26 (by decide) (by first | assumption | exact ⟨by omega, by omega⟩) (fun c26 => ?_) (fun c26 => ?_)
    · exact absurd rfl c26
    · refine q_iconst eX12_word_29 ?_
      refine q_retI eX12_word_30 rfl (by decide) (by decide) ?_
      have hC : len < n := by omega
      refine PMR_t (if_pos hC) (up2_eq _ _ _ _) (hoF.trans (FOff.up (l := SCF) (by decide))) (Off.rfl' (l := [])) (by decide) (by decide) ?_
      rw [if_pos hC]
      exact h.tv
  · refine q_iconst eX12_word_17 ?_
    refine q_goto (tgt := 22) eX12_word_18 (by decide) ?_
    refine q_iconst eX12_word_22 ?_
    refine q_right1 eX12_word_23 lk_X12_304 hK ht0 (by decide) (by decide) (by decide) (Nat.le_of_ble_eq_true rfl) ?_
    refine q_if_ne (tgt := 31) eX12_word_26 (by decide) (by first | assumption | exact ⟨by omega, by omega⟩) (fun c26 => ?_) (fun c26 => ?_)
    · refine q_aload_n eX12_word_31 rfl ?_
      refine q_iconst eX12_word_32 ?_
      refine q_putfield eX12_word_33 pf_X12_214 (hK _ (by decide) (by decide)) (by decide) (FT_i rfl) ?_
      refine q_iconst eX12_word_36 ?_
      refine q_istore_n eX12_word_37 (by decide) rfl ?_
      have hC : ¬ len < n := by omega
      have hF2 : FOff [(44, 19)] F1 (up2 F1 44 19 (vI 0)) := FOff.up (by decide)
      have x19 : (up2 F1 44 19 (vI 0)) 44 19 = vI 0 := up2_eq _ _ _ _
      generalize up2 F1 44 19 (vI 0) = F2 at hF2 x19
      have hX2 := hX.foff hF2 (by decide)
      have hm' : F2 44 4 = vI m := (hF2 44 4 (by decide)).trans hm
      have hn' : F2 44 33 = vI n := (hF2 44 33 (by decide)).trans h51
      have hdg' : F2 44 35 = vI dg := (hF2 44 35 (by decide)).trans h53
      refine lp_mw1 hK hX2 hm' hn' hm4 hn63 hta hm2 (fun i hi hb => ?_) (fun hgood wv => ?_) n 0 (by omega) (fun j hj => by omega)
      · have hbad : ¬ wdOk m n tp := fun q => hb (q i hi)
        refine PMR_r (lF := (44, 19) :: SCF) (lA := []) (by unfold wrE; rw [if_neg hC, if_neg hbad]) ((hF2 44 0 (by decide)).trans ht0) ((hoF.mono (by decide)).trans (hF2.mono (by decide))) Off.rfl' (by decide) (by decide) ?_
        rw [if_neg hC, if_neg hbad]
        exact ⟨h.1.pres hX2 (hF2.fe (by decide)) AE.rfl', h.2.1, ⟨x19, by omega, hta⟩, h.2.2.2.1.pres (hF2.fe (by decide)), h.2.2.2.2.1.pres (hF2.fe (by decide)) AE.rfl', h.2.2.2.2.2.1.pres (hF2.fe (by decide)) AE.rfl', h.2.2.2.2.2.2.pres (hF2.fe (by decide)) AE.rfl'⟩
      · have hlr : ∀ j, 0 ≤ lfE m n dg mk tp j ∧ lfE m n dg mk tp j < m := fun j => rs_range (by omega) _ _ (fun x => by
          unfold nbE
          split
          · next hx => exact ⟨(hta x (by omega)).2.1, hgood x hx⟩
          · exact ⟨by decide, by omega⟩) j
        have hofr : InR (ofE (lfE m n dg mk tp) dg) := by
          unfold ofE
          split
          · exact ⟨by decide, by decide⟩
          · exact ⟨by decide, by decide⟩
        refine q_iconst eX12_word_71 ?_
        refine q_istore_n eX12_word_72 (by decide) rfl ?_
        refine lp_mw2 hK hX2 hm' hn' hm4 hn63 hta (fun A2 ho2 h62 => ?_) n 0 A (by omega) Off.rfl' (fun j hj => by omega)
        have hb62 : ∀ j, j < n → A2 62 j = tp j ∧ 0 ≤ tp j ∧ tp j < m := fun j hj => ⟨h62 j hj, (hta j (by omega)).2.1, hgood j hj⟩
        have hmk3 : ∀ i, i ≤ dg → A2 56 i = mk i ∧ 0 ≤ mk i ∧ mk i < m := fun i hi => by rw [ho2 56 (by decide)]; exact hmk2 i hi
        refine q_aload_n eX12_word_103 rfl ?_
        refine q_iconst eX12_word_104 ?_
        refine q_putfield eX12_word_105 pf_X12_160 (hK _ (by decide) (by decide)) (by decide) (FT_z rfl (Or.inr rfl)) ?_
        have hF3 : FOff [(44, 19), (44, 45)] F1 (up2 F2 44 45 (vI 1)) := (hF2.mono (by decide)).trans (FOff.up (by decide))
        have x45 : (up2 F2 44 45 (vI 1)) 44 45 = vI 1 := up2_eq _ _ _ _
        have y19 : (up2 F2 44 45 (vI 1)) 44 19 = vI 0 := (up2_ne (by decide)).trans x19
        generalize up2 F2 44 45 (vI 1) = F3 at hF3 x45 y19
        have hX3 := hX.foff hF3 (by decide)
        have hm3 : F3 44 4 = vI m := (hF3 44 4 (by decide)).trans hm
        have hn3 : F3 44 33 = vI n := (hF3 44 33 (by decide)).trans h51
        have hdg3 : F3 44 35 = vI dg := (hF3 44 35 (by decide)).trans h53
        refine q_aload_n eX12_word_108 rfl ?_
        refine q_aload_n eX12_word_109 rfl ?_
        refine q_getfield eX12_word_110 gf_X12_90 (hK _ (by decide) (by decide)) (by decide) (mr_44_44 hX3) ?_
        refine q_callVV [vA 62] (M1 := mX12_leaves) eX12_word_113 mf_X12_leaves lk_X12_418 (hK _ (by decide) (by decide)) (mo_leaves (a := 62) (bt := tp) hK hX3 hm3 hdg3 hn3 hm2 hm4 hn63 hdn hmk3 (hK _ (by decide) (by decide)) (by omega) (by decide) hb62) (by decide) (by decide) (by decide) (Nat.le_of_ble_eq_true rfl) rfl (fun A3 h3 => ?_)
        obtain ⟨o3, v3⟩ := h3
        have oA : Off [62, 63] A A3 := (ho2.mono (by decide)).trans (o3.mono (by decide))
        have hfin : MI p e r q N m f g rt lg pl_ 0 tp fp n set dg mk ck (some tp) S F3 A3 := ⟨h.1.pres hX3 (hF3.fe (by decide)) (oA.ae (by decide)), h.2.1.pres (oA.ae (by decide)), ⟨y19, by omega, fun j hj => by rw [oA 55 (by decide)]; exact hta j hj⟩, h.2.2.2.1.pres (hF3.fe (by decide)), h.2.2.2.2.1.pres (hF3.fe (by decide)) (oA.ae (by decide)), ⟨x45, fun j hj => by rw [o3 62 (by decide)]; exact hb62 j hj⟩, h.2.2.2.2.2.2.pres (hF3.fe (by decide)) (oA.ae (by decide))⟩
        refine q_aload_n eX12_word_116 rfl ?_
        refine q_callVP [] (M1 := mX12_isLeft) eX12_word_117 mf_X12_isLeft lk_X12_422 (hK _ (by decide) (by decide)) (mo_isLeft (lf := lfE m n dg mk tp) hK hX3 hdg3 (by omega) (fun j hj => ⟨v3 j (by omega), by have := hlr j; exact ⟨by omega, by omega⟩⟩)) (by decide) (by decide) (by decide) (Nat.le_of_ble_eq_true rfl) rfl ?_
        refine q_if_eq (tgt := 127) eX12_word_120 (by decide) hofr (fun c120 => ?_) (fun c120 => ?_)
        · refine q_iconst eX12_word_127 ?_
          refine q_retI eX12_word_128 rfl (by decide) (by decide) ?_
          have hgd : wdOk m n tp := hgood
          refine PMR_r (lF := (44, 19) :: (44, 45) :: SCF) (lA := [62, 63]) ?_ ((hF3 44 0 (by decide)).trans ht0) ((hoF.mono (by decide)).trans (hF3.mono (by decide))) oA (by decide) (by decide) ?_
          · unfold wrE
            rw [if_neg hC, if_pos hgd]
            first | rw [if_pos (by first | exact c120 | omega)] | rw [if_neg (by first | exact c120 | omega)]
          · rw [if_neg hC, if_pos hgd]
            exact hfin
        · refine q_iconst eX12_word_123 ?_
          refine q_goto (tgt := 128) eX12_word_124 (by decide) ?_
          refine q_retI eX12_word_128 rfl (by decide) (by decide) ?_
          have hgd : wdOk m n tp := hgood
          refine PMR_r (lF := (44, 19) :: (44, 45) :: SCF) (lA := [62, 63]) ?_ ((hF3 44 0 (by decide)).trans ht0) ((hoF.mono (by decide)).trans (hF3.mono (by decide))) oA (by decide) (by decide) ?_
          · unfold wrE
            rw [if_neg hC, if_pos hgd]
            first | rw [if_pos (by first | exact c120 | omega)] | rw [if_neg (by first | exact c120 | omega)]
          · rw [if_neg hC, if_pos hgd]
            exact hfin
    · exact absurd c26 (by decide)
def cmM (p n : Nat) : Nat := ctn (fun k => decide (lsM p n k = k)) n
abbrev codM (p q : Nat) (a s : Int) : Prop := (1 ≤ a ∧ a ≤ 63 ∧ ((q : Int) - 1) % a = 0) ∧ 0 ≤ s ∧ ¬ (cmM p a.toNat ≤ 30 ∧ s / 2 ^ (cmM p a.toNat) ≠ 0)
set_option maxRecDepth 20000 in
theorem mo_code {a s : Int} {p e r q N : Nat} {m : Int} {f : Nat → Int} {g : Int} {rt lg pl_ tp mk ck : Nat → Int} {len n dg : Nat} {fp set : Int} {w : Option (Nat → Int)} {S : List Int} {F : HF} {A : HA} {al : AL} (hK : KM al) (h0 : MI p e r q N m f g rt lg pl_ len tp fp n set dg mk ck w S F A) (ha : InR a) (hs : InR s) : QE 5 0 0 mX12_code [vA 44, vI a, vI s] F A al (PMR (some (if codM p q a s then a - ((cyM m r f (coM p a.toNat) s (pw m r f g ((q - 1) / a.toNat)) a.toNat).1 : Nat) else -1)) F A al (fun F2 A2 => if codM p q a s then MI p e r q N m f g rt lg pl_ len tp fp a.toNat s (cyM m r f (coM p a.toNat) s (pw m r f g ((q - 1) / a.toNat)) a.toNat).1 (cyM m r f (coM p a.toNat) s (pw m r f g ((q - 1) / a.toNat)) a.toNat).2.1 (cyM m r f (coM p a.toNat) s (pw m r f g ((q - 1) / a.toNat)) a.toNat).2.2 none S F2 A2 else MI p e r q N m f g rt lg pl_ len tp fp n set dg mk ck w S F2 A2)) := by
  refine QE.mk (by decide +kernel) (Nat.le_of_ble_eq_true rfl) ?_
  have ha_1 := ha.1
  have ha_2 := ha.2
  have hs_1 := hs.1
  have hs_2 := hs.2
  have h := h0.t0
  generalize hF0 : up2 F 44 0 (vI 0) = F1 at h
  have ht0 : F1 44 0 = vI 0 := by rw [← hF0]; exact up2_eq _ _ _ _
  have hoF : FOff SCF F F1 := by rw [← hF0]; exact FOff.up (by decide)
  obtain ⟨⟨hX, hT, h3r, hMH⟩, h2, ⟨hl0, hl1, hta⟩, h4, ⟨⟨h51, h52, h53⟩, h5m, h5c, ⟨hn1, hn63, hnq, hs0, hs1⟩, hdn⟩, h7, ⟨⟨h81, h82⟩, h83⟩⟩ := id h
  obtain ⟨hG, hp, he, hq, hN, hg, ⟨hp2, hp7, he1, he4, hme, hqe, hq3, hNm, hgE⟩, hP, hL, hR⟩ := id hT
  obtain ⟨hm, hr, hf, hm2, hr1, hr6, hN4⟩ := id hG
  have hm4 := hG.m4
  have hq2 := hT.q2
  have hN9 : (N : Int) ≤ 4096 := by rw [hNm]; exact hN4
  have hE : ∀ x : Int, 0 ≤ x ∧ x ≤ (N : Int) - 1 → El m r x := fun x h => ⟨h.1, by rw [← hNm]; omega⟩
  have hNp : 1 ≤ N := by have := el_one (m := m) (r := r) hm2 hr1; have := this.2; omega
  refine q_aload_n eX12_code_0 rfl ?_
  refine q_iconst eX12_code_1 ?_
  refine q_putfield eX12_code_2 pf_X12_1 (hK _ (by decide) (by decide)) (by decide) (FT_i rfl) ?_
  rw [hF0]
  refine q_aload_n eX12_code_5 rfl ?_
  refine q_iload_n eX12_code_6 rfl ?_
  refine q_callVP [vI a] (M1 := mX12_isLong) eX12_code_7 mf_X12_isLong lk_X12_379 (hK _ (by decide) (by decide)) (mo_isLong hK hq hq2 (by omega) ha) (by decide) (by decide) (by decide) (Nat.le_of_ble_eq_true rfl) rfl ?_
  refine q_if_eq (tgt := 17) eX12_code_10 (by decide) ir_ite (fun c10 => ?_) (fun c10 => ?_)
  · refine q_iconst eX12_code_17 ?_
    refine q_retI eX12_code_18 rfl (by decide) (by decide) ?_
    have hC : ¬ codM p q a s := by
      first
      | exact fun hc => i0 c10 hc.1
      | (rintro ⟨-, hc, -⟩; omega)
    refine PMR_r (lF := SCF) (lA := []) (by rw [if_neg hC]) ht0 hoF Off.rfl' (by decide) (by decide) ?_
    rw [if_neg hC]
    exact h
  · refine q_iload_n eX12_code_13 rfl ?_
    refine q_if_ge (tgt := 19) eX12_code_14 (by decide) (by first | assumption | exact ⟨by omega, by omega⟩) (fun c14 => ?_) (fun c14 => ?_)
    · have ha10 := i1 c10
      obtain ⟨t, rfl⟩ : ∃ t : Nat, a = t := ⟨a.toNat, by omega⟩
      have hqt : (q - 1) % t = 0 := by
        have h9 := ha10.2.2
        rw [show (q : Int) - 1 = ((q - 1 : Nat) : Int) by omega] at h9
        omega
      have hO : OrbOK p t := hMH.2.1 t (by omega) (by omega) hqt
      refine q_aload_n eX12_code_19 rfl ?_
      refine q_iload_n eX12_code_20 rfl ?_
      refine q_callVP [vI t] (M1 := mX12_classMany) eX12_code_21 mf_X12_classMany lk_X12_382 (hK _ (by decide) (by decide)) (mo_classMany (n := t) hK hp hp7 (by omega) hO) (by decide) (by decide) (by decide) (Nat.le_of_ble_eq_true rfl) rfl ?_
      have hcm : cmM p t ≤ t := ctn_le _ t
      have hsr : InR (s / 2 ^ (cmM p t)) := by
        have h1 : 0 ≤ s / 2 ^ (cmM p t) := Int.ediv_nonneg (by omega) (Int.pow_nonneg (by decide))
        have h2 : s / 2 ^ (cmM p t) ≤ s := Int.ediv_le_self _ (by omega)
        exact ⟨by omega, by omega⟩
      rw [show (ctn (fun k => decide (lsM p t k = k)) t) = cmM p t from rfl]
      refine q_istore_n eX12_code_24 (by decide) rfl ?_
      refine q_iload_n eX12_code_25 rfl ?_
      refine q_bipush eX12_code_26 (by decide +kernel) ?_
      refine q_icmp_ge (tgt := 39) eX12_code_28 (by decide) (by first | assumption | exact ⟨by omega, by omega⟩) (by first | assumption | exact ⟨by omega, by omega⟩) (fun c28 => ?_) (fun c28 => ?_)
      · have hC : codM p q (t : Int) s := ⟨ha10, by omega, fun hc => by
          have h1 : cmM p t ≤ 30 := hc.1
          first
          | omega
          | exact absurd hc.2 (by first | exact fun q => q c34 | omega)⟩
        refine q_aload_n eX12_code_39 rfl ?_
        refine q_iload_n eX12_code_40 rfl ?_
        refine q_putfield eX12_code_41 pf_X12_69 (hK _ (by decide) (by decide)) (by decide) (FT_i rfl) ?_
        refine q_aload_n eX12_code_44 rfl ?_
        refine q_iload_n eX12_code_45 rfl ?_
        refine q_putfield eX12_code_46 pf_X12_157 (hK _ (by decide) (by decide)) (by decide) (FT_i rfl) ?_
        refine q_aload_n eX12_code_49 rfl ?_
        refine q_iconst eX12_code_50 ?_
        refine q_putfield eX12_code_51 pf_X12_160 (hK _ (by decide) (by decide)) (by decide) (FT_z rfl (Or.inl rfl)) ?_
        have hF4 : FOff [(44, 33), (44, 34), (44, 45)] F1 (up2 (up2 (up2 F1 44 33 (vI t)) 44 34 (vI s)) 44 45 (vI 0)) := ((FOff.up (by decide)).trans (FOff.up (by decide))).trans (FOff.up (by decide))
        have z33 : (up2 (up2 (up2 F1 44 33 (vI t)) 44 34 (vI s)) 44 45 (vI 0)) 44 33 = vI t := Eq.trans (up2_ne (by decide)) (Eq.trans (up2_ne (by decide)) (up2_eq _ _ _ _))
        have z34 : (up2 (up2 (up2 F1 44 33 (vI t)) 44 34 (vI s)) 44 45 (vI 0)) 44 34 = vI s := Eq.trans (up2_ne (by decide)) (up2_eq _ _ _ _)
        have z45 : (up2 (up2 (up2 F1 44 33 (vI t)) 44 34 (vI s)) 44 45 (vI 0)) 44 45 = vI 0 := up2_eq _ _ _ _
        generalize up2 (up2 (up2 F1 44 33 (vI t)) 44 34 (vI s)) 44 45 (vI 0) = F4 at hF4 z33 z34 z45
        have hX4 := hX.foff hF4 (by decide)
        have hG4 : GM m r f F4 A := hG.row (hF4 44 4 (by decide)) (hF4 44 3 (by decide))
        refine q_aload_n eX12_code_54 rfl ?_
        refine q_callV [] (M1 := mX12_laysCode) eX12_code_55 mf_X12_laysCode lk_X12_164 (hK _ (by decide) (by decide)) ((mo_laysCode (n := t) (set := s) hK hX4 hG4 ((hF4 44 1 (by decide)).trans hp) hp7 ((hF4 44 5 (by decide)).trans hq) hq2 (by omega) ((hF4 44 11 (by decide)).trans hg) hgE z33 (by omega) (by omega) z34 (by omega) (by omega) hO)) (by intro E F A al h; cases h.1) (by decide) (by decide) (by decide) (Nat.le_of_ble_eq_true rfl) (st := []) rfl (fun v9 F9 A9 al9 h9 => ?_)
        obtain ⟨e9, f9, rfl, o9, m9, c9_⟩ := h9
        obtain rfl := Sum.inl.inj e9
        have hF9 : FOff [(44, 35)] F4 F9 := by rw [f9]; exact FOff.up (by decide)
        have w35 : F9 44 35 = vI (cyM m r f (coM p t) s (pw m r f g ((q - 1) / t)) t).1 := by rw [f9]; exact up2_eq _ _ _ _
        have w33 : F9 44 33 = vI t := (hF9 44 33 (by decide)).trans z33
        have w34 : F9 44 34 = vI s := (hF9 44 34 (by decide)).trans z34
        have w45 : F9 44 45 = vI 0 := (hF9 44 45 (by decide)).trans z45
        clear f9
        have hFF : FOff [(44, 33), (44, 34), (44, 45), (44, 35)] F1 F9 := (hF4.mono (by decide)).trans (hF9.mono (by decide))
        refine q_aload_n eX12_code_58 rfl ?_
        refine q_getfield eX12_code_59 gf_X12_69 (hK _ (by decide) (by decide)) (by decide) (by first | assumption | exact w33 | exact w35) ?_
        refine q_aload_n eX12_code_62 rfl ?_
        refine q_getfield eX12_code_63 gf_X12_322 (hK _ (by decide) (by decide)) (by decide) (by first | assumption | exact w33 | exact w35) ?_
        refine q_isub eX12_code_66 ?_
        refine q_retI eX12_code_67 rfl (by decide) (by decide) ?_
        refine PMR_r (lF := (44, 33) :: (44, 34) :: (44, 45) :: (44, 35) :: SCF) (by rw [if_pos hC]; rfl) ((hFF 44 0 (by decide)).trans ht0) ((hoF.mono (by decide)).trans (hFF.mono (by decide))) o9 (by decide) (by decide) ?_
        rw [if_pos hC]
        exact ⟨h.1.pres (hX.foff hFF (by decide)) (hFF.fe (by decide)) (o9.ae (by decide)), h.2.1.pres (o9.ae (by decide)), h.2.2.1.pres (hFF.fe (by decide)) (o9.ae (by decide)), h.2.2.2.1.pres (hFF.fe (by decide)), ⟨⟨w33, w34, w35⟩, fun j hj => m9 j (by omega), fun j hj => c9_ j (by omega), ⟨by omega, by omega, hqt, by omega, by omega⟩, cyM_le _⟩, w45, h.2.2.2.2.2.2.pres (hFF.fe (by decide)) (o9.ae (by decide))⟩
      · refine q_iload_n eX12_code_31 rfl ?_
        refine q_iload_n eX12_code_32 rfl ?_
        refine q_ishr eX12_code_33 (n := cmM p t) ⟨by omega, by omega⟩ rfl (by omega) ?_
        refine q_if_eq (tgt := 39) eX12_code_34 (by decide) hsr (fun c34 => ?_) (fun c34 => ?_)
        · have hC : codM p q (t : Int) s := ⟨ha10, by omega, fun hc => by
            have h1 : cmM p t ≤ 30 := hc.1
            first
            | omega
            | exact absurd hc.2 (by first | exact fun q => q c34 | omega)⟩
          refine q_aload_n eX12_code_39 rfl ?_
          refine q_iload_n eX12_code_40 rfl ?_
          refine q_putfield eX12_code_41 pf_X12_69 (hK _ (by decide) (by decide)) (by decide) (FT_i rfl) ?_
          refine q_aload_n eX12_code_44 rfl ?_
          refine q_iload_n eX12_code_45 rfl ?_
          refine q_putfield eX12_code_46 pf_X12_157 (hK _ (by decide) (by decide)) (by decide) (FT_i rfl) ?_
          refine q_aload_n eX12_code_49 rfl ?_
          refine q_iconst eX12_code_50 ?_
          refine q_putfield eX12_code_51 pf_X12_160 (hK _ (by decide) (by decide)) (by decide) (FT_z rfl (Or.inl rfl)) ?_
          have hF4 : FOff [(44, 33), (44, 34), (44, 45)] F1 (up2 (up2 (up2 F1 44 33 (vI t)) 44 34 (vI s)) 44 45 (vI 0)) := ((FOff.up (by decide)).trans (FOff.up (by decide))).trans (FOff.up (by decide))
          have z33 : (up2 (up2 (up2 F1 44 33 (vI t)) 44 34 (vI s)) 44 45 (vI 0)) 44 33 = vI t := Eq.trans (up2_ne (by decide)) (Eq.trans (up2_ne (by decide)) (up2_eq _ _ _ _))
          have z34 : (up2 (up2 (up2 F1 44 33 (vI t)) 44 34 (vI s)) 44 45 (vI 0)) 44 34 = vI s := Eq.trans (up2_ne (by decide)) (up2_eq _ _ _ _)
          have z45 : (up2 (up2 (up2 F1 44 33 (vI t)) 44 34 (vI s)) 44 45 (vI 0)) 44 45 = vI 0 := up2_eq _ _ _ _
          generalize up2 (up2 (up2 F1 44 33 (vI t)) 44 34 (vI s)) 44 45 (vI 0) = F4 at hF4 z33 z34 z45
          have hX4 := hX.foff hF4 (by decide)
          have hG4 : GM m r f F4 A := hG.row (hF4 44 4 (by decide)) (hF4 44 3 (by decide))
          refine q_aload_n eX12_code_54 rfl ?_
          refine q_callV [] (M1 := mX12_laysCode) eX12_code_55 mf_X12_laysCode lk_X12_164 (hK _ (by decide) (by decide)) ((mo_laysCode (n := t) (set := s) hK hX4 hG4 ((hF4 44 1 (by decide)).trans hp) hp7 ((hF4 44 5 (by decide)).trans hq) hq2 (by omega) ((hF4 44 11 (by decide)).trans hg) hgE z33 (by omega) (by omega) z34 (by omega) (by omega) hO)) (by intro E F A al h; cases h.1) (by decide) (by decide) (by decide) (Nat.le_of_ble_eq_true rfl) (st := []) rfl (fun v9 F9 A9 al9 h9 => ?_)
          obtain ⟨e9, f9, rfl, o9, m9, c9_⟩ := h9
          obtain rfl := Sum.inl.inj e9
          have hF9 : FOff [(44, 35)] F4 F9 := by rw [f9]; exact FOff.up (by decide)
          have w35 : F9 44 35 = vI (cyM m r f (coM p t) s (pw m r f g ((q - 1) / t)) t).1 := by rw [f9]; exact up2_eq _ _ _ _
          have w33 : F9 44 33 = vI t := (hF9 44 33 (by decide)).trans z33
          have w34 : F9 44 34 = vI s := (hF9 44 34 (by decide)).trans z34
          have w45 : F9 44 45 = vI 0 := (hF9 44 45 (by decide)).trans z45
          clear f9
          have hFF : FOff [(44, 33), (44, 34), (44, 45), (44, 35)] F1 F9 := (hF4.mono (by decide)).trans (hF9.mono (by decide))
          refine q_aload_n eX12_code_58 rfl ?_
          refine q_getfield eX12_code_59 gf_X12_69 (hK _ (by decide) (by decide)) (by decide) (by first | assumption | exact w33 | exact w35) ?_
          refine q_aload_n eX12_code_62 rfl ?_
          refine q_getfield eX12_code_63 gf_X12_322 (hK _ (by decide) (by decide)) (by decide) (by first | assumption | exact w33 | exact w35) ?_
          refine q_isub eX12_code_66 ?_
          refine q_retI eX12_code_67 rfl (by decide) (by decide) ?_
          refine PMR_r (lF := (44, 33) :: (44, 34) :: (44, 45) :: (44, 35) :: SCF) (by rw [if_pos hC]; rfl) ((hFF 44 0 (by decide)).trans ht0) ((hoF.mono (by decide)).trans (hFF.mono (by decide))) o9 (by decide) (by decide) ?_
          rw [if_pos hC]
          exact ⟨h.1.pres (hX.foff hFF (by decide)) (hFF.fe (by decide)) (o9.ae (by decide)), h.2.1.pres (o9.ae (by decide)), h.2.2.1.pres (hFF.fe (by decide)) (o9.ae (by decide)), h.2.2.2.1.pres (hFF.fe (by decide)), ⟨⟨w33, w34, w35⟩, fun j hj => m9 j (by omega), fun j hj => c9_ j (by omega), ⟨by omega, by omega, hqt, by omega, by omega⟩, cyM_le _⟩, w45, h.2.2.2.2.2.2.pres (hFF.fe (by decide)) (o9.ae (by decide))⟩
        · refine q_iconst eX12_code_37 ?_
          refine q_retI eX12_code_38 rfl (by decide) (by decide) ?_
          have hC : ¬ codM p q (t : Int) s := fun hc => hc.2.2 ⟨by show cmM p t ≤ 30; omega, c34⟩
          refine PMR_r (lF := SCF) (lA := []) (by rw [if_neg hC]) ht0 hoF Off.rfl' (by decide) (by decide) ?_
          rw [if_neg hC]
          exact h
    · refine q_iconst eX12_code_17 ?_
      refine q_retI eX12_code_18 rfl (by decide) (by decide) ?_
      have hC : ¬ codM p q a s := by
        first
        | exact fun hc => i0 c10 hc.1
        | (rintro ⟨-, hc, -⟩; omega)
      refine PMR_r (lF := SCF) (lA := []) (by rw [if_neg hC]) ht0 hoF Off.rfl' (by decide) (by decide) ?_
      rw [if_neg hC]
      exact h
theorem nthE_R {P : Nat → Bool} {v : Nat} : ∀ k i : Nat, i + k ≤ 4096 → InR (nthE P v k i)
  | 0, i, h => ⟨by show -2147483648 ≤ (-1 : Int); decide, by show (-1 : Int) < 2147483648; decide⟩
  | k + 1, i, h => by
    have h1 := nthE_R (P := P) (v := v) k (i + 1) (by omega)
    show InR (if P i = true ∧ ctn P i = v then (i : Int) else nthE P v k (i + 1))
    split
    · exact ⟨by omega, by omega⟩
    · exact h1
def clsM (p n : Nat) (i k : Int) : Option Int := if i = -1 then some (cmM p n) else if 0 ≤ i ∧ i < (cmM p n : Int) then (if -1 ≤ k then mo1 (ctn (fun j => decide ((lsM p n j : Int) = nthE (fun k => decide (lsM p n k = k)) i.toNat n 0)) n) (nth (fun j => decide ((lsM p n j : Int) = nthE (fun k => decide (lsM p n k = k)) i.toNat n 0)) n) k else none) else none
set_option maxRecDepth 20000 in
theorem lp_mclasses {p t : Nat} {k c v2 : Int} {F F1 : HF} {A : HA} {al : AL} (hK : KM al) (hp : F1 44 1 = vI p) (hp7 : p ≤ 7) (ht63 : t ≤ 63) (hO : OrbOK p t) (hcr : InR c) (ht00 : F1 44 0 = vI 0) (hoF : FOff SCF F F1) (hi : InR k) (hi1 : -1 ≤ k) : ∀ (s y : Nat) (F2 : HF), y + s = t → FOff C3 F1 F2 → CNT (fun j => decide ((lsM p t j : Int) = c)) k y F2 →
    QW mX12_classes 4 0 0 (PMP (mo1 (ctn (fun j => decide ((lsM p t j : Int) = c)) t) (nth (fun j => decide ((lsM p t j : Int) = c)) t) k) F A al) 0 0 94 [some (vA 44), some (vI t), some (vI v2), some (vI k), some (vI c), some (vI y)] [] F2 A al := by
  intro s
  induction s with
  | zero =>
    intro y F2 hy hof hcn
    have ht0 : F2 44 0 = vI 0 := (hof 44 0 (by decide)).trans ht00
    have e9 : y = t := by omega
    subst e9
    refine q_iload eX12_classes_94 rfl ?_
    refine q_iload_n eX12_classes_96 rfl ?_
    refine q_icmp_ge (tgt := 124) eX12_classes_97 (by decide) (by first | assumption | exact ⟨by omega, by omega⟩) (by first | assumption | exact ⟨by omega, by omega⟩) (fun c97 => ?_) (fun c97 => ?_)
    · refine q_aload_n eX12_classes_124 rfl ?_
      refine q_callV [] (M1 := mX12_told) eX12_classes_125 mf_X12_told lk_X12_369 (hK _ (by decide) (by decide)) (mo_told hK hcn ht0 (by omega) hi hi1) (by intro E F A al h; cases h.1) (by decide) (by decide) (by decide) (Nat.le_of_ble_eq_true rfl) (st := []) rfl (fun v9 F9 A9 al9 h9 => ?_)
      obtain ⟨e9, t9, rfl, rfl, f9⟩ := h9
      obtain rfl := Sum.inl.inj e9
      refine q_retI eX12_classes_128 rfl (by decide) (by decide) ?_
      exact ⟨rfl, t9, rfl, (hoF.trans (hof.mono (by decide))).trans (f9.mono (by decide)), Off.rfl'⟩
    · exact absurd c97 (by omega)
  | succ s ih =>
    intro y F2 hy hof hcn
    have hp2 : F2 44 1 = vI p := (hof 44 1 (by decide)).trans hp
    have hls : lsM p t y ≤ y := (hO y (by omega)).2.2.2
    refine q_iload eX12_classes_94 rfl ?_
    refine q_iload_n eX12_classes_96 rfl ?_
    refine q_icmp_ge (tgt := 124) eX12_classes_97 (by decide) (by first | assumption | exact ⟨by omega, by omega⟩) (by first | assumption | exact ⟨by omega, by omega⟩) (fun c97 => ?_) (fun c97 => ?_)
    · exact absurd c97 (by omega)
    · refine q_aload_n eX12_classes_100 rfl ?_
      refine q_iload_n eX12_classes_101 rfl ?_
      refine q_iload eX12_classes_102 rfl ?_
      refine q_callVP [vI t, vI y] (M1 := mX12_leastOf) eX12_classes_104 mf_X12_leastOf lk_X12_376 (hK _ (by decide) (by decide)) (mo_leastOf (n := t) (i := y) hK hp2 hp7 (by omega) (by omega) hO) (by decide) (by decide) (by decide) (Nat.le_of_ble_eq_true rfl) rfl ?_
      refine q_iload eX12_classes_107 rfl ?_
      refine q_icmp_ne (tgt := 118) eX12_classes_109 (by decide) (by exact ⟨by omega, by omega⟩) hcr (fun c109 => ?_) (fun c109 => ?_)
      · refine q_iinc eX12_classes_118 rfl (by decide) rfl ?_
        refine q_goto (tgt := 94) eX12_classes_121 (by decide) ?_
        first
        | exact ih (y + 1) _ (by omega) (hof.trans f9) cn9
        | exact ih (y + 1) F2 (by omega) hof (hcn.no (fun hc => c109 (of_decide_eq_true hc)))
      · have hys : (fun j => decide ((lsM p t j : Int) = c)) y = true := decide_eq_true c109
        refine q_aload_n eX12_classes_112 rfl ?_
        refine q_iload eX12_classes_113 rfl ?_
        refine q_callV [vI y] (M1 := mX12_counts) eX12_classes_115 mf_X12_counts lk_X12_366 (hK _ (by decide) (by decide)) (mo_counts hK hcn hys (by omega) hi) (by intro E F A al h; cases h.1) (by decide) (by decide) (by decide) (Nat.le_of_ble_eq_true rfl) (st := []) rfl (fun v9 F9 A9 al9 h9 => ?_)
        obtain ⟨e9, rfl, rfl, f9, cn9⟩ := h9
        obtain rfl := Sum.inl.inj e9
        refine q_iinc eX12_classes_118 rfl (by decide) rfl ?_
        refine q_goto (tgt := 94) eX12_classes_121 (by decide) ?_
        first
        | exact ih (y + 1) _ (by omega) (hof.trans f9) cn9
        | exact ih (y + 1) F2 (by omega) hof (hcn.no (fun hc => c109 (of_decide_eq_true hc)))
set_option maxRecDepth 20000 in
theorem mo_classes {a i k : Int} {p e r q N : Nat} {m : Int} {f : Nat → Int} {g : Int} {rt lg pl_ tp mk ck : Nat → Int} {len n dg : Nat} {fp set : Int} {w : Option (Nat → Int)} {S : List Int} {F : HF} {A : HA} {al : AL} (hK : KM al) (h0 : MI p e r q N m f g rt lg pl_ len tp fp n set dg mk ck w S F A) (ha : InR a) (hi : InR i) (hk : InR k) : QE 4 0 0 mX12_classes [vA 44, vI a, vI i, vI k] F A al (PMP (if 1 ≤ a ∧ a ≤ 63 ∧ ((q : Int) - 1) % a = 0 then clsM p a.toNat i k else none) F A al) := by
  refine QE.mk (by decide +kernel) (Nat.le_of_ble_eq_true rfl) ?_
  have ha_1 := ha.1
  have ha_2 := ha.2
  have hi_1 := hi.1
  have hi_2 := hi.2
  have hk_1 := hk.1
  have hk_2 := hk.2
  have h := h0.t0
  generalize hF0 : up2 F 44 0 (vI 0) = F1 at h
  have ht0 : F1 44 0 = vI 0 := by rw [← hF0]; exact up2_eq _ _ _ _
  have hoF : FOff SCF F F1 := by rw [← hF0]; exact FOff.up (by decide)
  obtain ⟨⟨hX, hT, h3r, hMH⟩, h2, ⟨hl0, hl1, hta⟩, h4, ⟨⟨h51, h52, h53⟩, h5m, h5c, ⟨hn1, hn63, hnq, hs0, hs1⟩, hdn⟩, h7, ⟨⟨h81, h82⟩, h83⟩⟩ := id h
  obtain ⟨hG, hp, he, hq, hN, hg, ⟨hp2, hp7, he1, he4, hme, hqe, hq3, hNm, hgE⟩, hP, hL, hR⟩ := id hT
  obtain ⟨hm, hr, hf, hm2, hr1, hr6, hN4⟩ := id hG
  have hm4 := hG.m4
  have hq2 := hT.q2
  have hN9 : (N : Int) ≤ 4096 := by rw [hNm]; exact hN4
  have hE : ∀ x : Int, 0 ≤ x ∧ x ≤ (N : Int) - 1 → El m r x := fun x h => ⟨h.1, by rw [← hNm]; omega⟩
  have hNp : 1 ≤ N := by have := el_one (m := m) (r := r) hm2 hr1; have := this.2; omega
  refine q_aload_n eX12_classes_0 rfl ?_
  refine q_iconst eX12_classes_1 ?_
  refine q_putfield eX12_classes_2 pf_X12_1 (hK _ (by decide) (by decide)) (by decide) (FT_i rfl) ?_
  rw [hF0]
  refine q_aload_n eX12_classes_5 rfl ?_
  refine q_aload_n eX12_classes_6 rfl ?_
  refine q_iload_n eX12_classes_7 rfl ?_
  refine q_callVP [vI a] (M1 := mX12_isLong) eX12_classes_8 mf_X12_isLong lk_X12_379 (hK _ (by decide) (by decide)) (mo_isLong hK hq hq2 (by omega) ha) (by decide) (by decide) (by decide) (Nat.le_of_ble_eq_true rfl) rfl ?_
  refine q_if_eq (tgt := 37) eX12_classes_11 (by decide) ir_ite (fun c11 => ?_) (fun c11 => ?_)
  · refine q_iconst eX12_classes_37 ?_
    refine q_iconst eX12_classes_38 ?_
    refine q_right0 eX12_classes_39 lk_X12_304 hK ht0 (by decide) (by decide) (by decide) (Nat.le_of_ble_eq_true rfl) ?_
    refine q_if_ne (tgt := 47) eX12_classes_42 (by decide) (by first | assumption | exact ⟨by omega, by omega⟩) (fun c42 => ?_) (fun c42 => ?_)
    · exact absurd rfl c42
    · refine q_iconst eX12_classes_45 ?_
      refine q_retI eX12_classes_46 rfl (by decide) (by decide) ?_
      refine PMP_t ?_ hoF Off.rfl'
      first
      | rw [if_neg (i0 c11)]
      | (rw [if_pos ha11]
         show clsM p t i k = none
         have hni := i0 c30
         unfold clsM
         rw [if_neg (by omega), if_neg (by omega)])
  · have ha11 := i1 c11
    obtain ⟨t, rfl⟩ : ∃ t : Nat, a = t := ⟨a.toNat, by omega⟩
    have hqt : (q - 1) % t = 0 := by
      have h9 := ha11.2.2
      rw [show (q : Int) - 1 = ((q - 1 : Nat) : Int) by omega] at h9
      omega
    have hO : OrbOK p t := hMH.2.1 t (by omega) (by omega) hqt
    refine q_iload_n eX12_classes_14 rfl ?_
    refine q_i2l eX12_classes_15 (by first | assumption | exact ⟨by omega, by omega⟩) ?_
    refine q_ldc2 eX12_classes_16 kc_X12_350 ?_
    refine q_aload_n eX12_classes_19 rfl ?_
    refine q_iload_n eX12_classes_20 rfl ?_
    refine q_callVP [vI t] (M1 := mX12_classMany) eX12_classes_21 mf_X12_classMany lk_X12_382 (hK _ (by decide) (by decide)) (mo_classMany (n := t) hK hp hp7 (by omega) hO) (by decide) (by decide) (by decide) (Nat.le_of_ble_eq_true rfl) rfl ?_
    have hcm : cmM p t ≤ t := ctn_le _ t
    rw [show (ctn (fun k => decide (lsM p t k = k)) t) = cmM p t from rfl]
    refine q_iconst eX12_classes_24 ?_
    refine q_isub eX12_classes_25 ?_
    refine q_i2l eX12_classes_26 (by first | assumption | exact ⟨by omega, by omega⟩) ?_
    refine q_callSP [vJ (i), vJ (-1), vJ ((cmM p t : Int) - 1)] (M1 := mX12_isIn) eX12_classes_27 mf_X12_isIn lk_X12_206 (mo_isIn (by exact ⟨by omega, by omega⟩) (by exact ⟨by omega, by omega⟩) (by exact ⟨by omega, by omega⟩)) (by decide) (by decide) (by decide) (Nat.le_of_ble_eq_true rfl) rfl ?_
    refine q_if_eq (tgt := 37) eX12_classes_30 (by decide) ir_ite (fun c30 => ?_) (fun c30 => ?_)
    · refine q_iconst eX12_classes_37 ?_
      refine q_iconst eX12_classes_38 ?_
      refine q_right0 eX12_classes_39 lk_X12_304 hK ht0 (by decide) (by decide) (by decide) (Nat.le_of_ble_eq_true rfl) ?_
      refine q_if_ne (tgt := 47) eX12_classes_42 (by decide) (by first | assumption | exact ⟨by omega, by omega⟩) (fun c42 => ?_) (fun c42 => ?_)
      · exact absurd rfl c42
      · refine q_iconst eX12_classes_45 ?_
        refine q_retI eX12_classes_46 rfl (by decide) (by decide) ?_
        refine PMP_t ?_ hoF Off.rfl'
        first
        | rw [if_neg (i0 c11)]
        | (rw [if_pos ha11]
           show clsM p t i k = none
           have hni := i0 c30
           unfold clsM
           rw [if_neg (by omega), if_neg (by omega)])
    · refine q_iconst eX12_classes_33 ?_
      refine q_goto (tgt := 38) eX12_classes_34 (by decide) ?_
      refine q_iconst eX12_classes_38 ?_
      refine q_right1 eX12_classes_39 lk_X12_304 hK ht0 (by decide) (by decide) (by decide) (Nat.le_of_ble_eq_true rfl) ?_
      refine q_if_ne (tgt := 47) eX12_classes_42 (by decide) (by first | assumption | exact ⟨by omega, by omega⟩) (fun c42 => ?_) (fun c42 => ?_)
      · refine q_iload_n eX12_classes_47 rfl ?_
        refine q_iconst eX12_classes_48 ?_
        refine q_icmp_ne (tgt := 58) eX12_classes_49 (by decide) (by first | assumption | exact ⟨by omega, by omega⟩) (by first | assumption | exact ⟨by omega, by omega⟩) (fun c49 => ?_) (fun c49 => ?_)
        · refine q_aload_n eX12_classes_58 rfl ?_
          refine q_iload_n eX12_classes_59 rfl ?_
          refine q_iconst eX12_classes_60 ?_
          refine q_icmp_lt (tgt := 68) eX12_classes_61 (by decide) (by first | assumption | exact ⟨by omega, by omega⟩) (by first | assumption | exact ⟨by omega, by omega⟩) (fun c61 => ?_) (fun c61 => ?_)
          · refine q_iconst eX12_classes_68 ?_
            refine q_iconst eX12_classes_69 ?_
            refine q_right0 eX12_classes_70 lk_X12_304 hK ht0 (by decide) (by decide) (by decide) (Nat.le_of_ble_eq_true rfl) ?_
            refine q_if_ne (tgt := 78) eX12_classes_73 (by decide) (by first | assumption | exact ⟨by omega, by omega⟩) (fun c73 => ?_) (fun c73 => ?_)
            · exact absurd rfl c73
            · refine q_iconst eX12_classes_76 ?_
              refine q_retI eX12_classes_77 rfl (by decide) (by decide) ?_
              refine PMP_t ?_ hoF Off.rfl'
              rw [if_pos ha11]
              show clsM p t i k = none
              have hii := i1 c30
              unfold clsM
              rw [if_neg (by omega), if_pos (by omega), if_neg (by omega)]
          · refine q_iconst eX12_classes_64 ?_
            refine q_goto (tgt := 69) eX12_classes_65 (by decide) ?_
            refine q_iconst eX12_classes_69 ?_
            refine q_right1 eX12_classes_70 lk_X12_304 hK ht0 (by decide) (by decide) (by decide) (Nat.le_of_ble_eq_true rfl) ?_
            refine q_if_ne (tgt := 78) eX12_classes_73 (by decide) (by first | assumption | exact ⟨by omega, by omega⟩) (fun c73 => ?_) (fun c73 => ?_)
            · obtain ⟨u, rfl⟩ : ∃ u : Nat, i = u := ⟨i.toNat, by have := i1 c30; omega⟩
              refine q_aload_n eX12_classes_78 rfl ?_
              refine q_iload_n eX12_classes_79 rfl ?_
              refine q_iload_n eX12_classes_80 rfl ?_
              refine q_callVP [vI t, vI u] (M1 := mX12_classAt) eX12_classes_81 mf_X12_classAt lk_X12_385 (hK _ (by decide) (by decide)) (mo_classAt (n := t) (i := u) hK hp hp7 (by omega) hO (by omega)) (by decide) (by decide) (by decide) (Nat.le_of_ble_eq_true rfl) rfl ?_
              have hnr : InR (nthE (fun k => decide (lsM p t k = k)) u t 0) := nthE_R t 0 (by omega)
              refine q_istore eX12_classes_84 (by decide) rfl ?_
              refine q_aload_n eX12_classes_86 rfl ?_
              refine q_iload_n eX12_classes_87 rfl ?_
              refine q_callV [vI k] (M1 := mX12_begins) eX12_classes_88 mf_X12_begins lk_X12_363 (hK _ (by decide) (by decide)) (mo_begins (P := (fun j => decide ((lsM p t j : Int) = nthE (fun k => decide (lsM p t k = k)) u t 0))) hK) (by intro E F A al h; cases h.1) (by decide) (by decide) (by decide) (Nat.le_of_ble_eq_true rfl) (st := []) rfl (fun v9 F9 A9 al9 h9 => ?_)
              obtain ⟨e9, rfl, rfl, f9, cn9⟩ := h9
              obtain rfl := Sum.inl.inj e9
              refine q_iconst eX12_classes_91 ?_
              refine q_istore eX12_classes_92 (by decide) rfl ?_
              have hii := i1 c30
              rw [if_pos ha11]
              have hcl : clsM p t (u : Int) k = mo1 (ctn (fun j => decide ((lsM p t j : Int) = nthE (fun k => decide (lsM p t k = k)) u t 0)) t) (nth (fun j => decide ((lsM p t j : Int) = nthE (fun k => decide (lsM p t k = k)) u t 0)) t) k := by
                unfold clsM
                rw [if_neg (by omega), if_pos (by omega), if_pos (by omega)]
                rfl
              rw [show clsM p ((t : Int).toNat) (u : Int) k = mo1 (ctn (fun j => decide ((lsM p t j : Int) = nthE (fun k => decide (lsM p t k = k)) u t 0)) t) (nth (fun j => decide ((lsM p t j : Int) = nthE (fun k => decide (lsM p t k = k)) u t 0)) t) k from hcl]
              exact lp_mclasses (v2 := u) hK hp hp7 (by omega) hO hnr ht0 hoF hk (by omega) t 0 F9 (by omega) f9 cn9
            · exact absurd c73 (by decide)
        · refine q_aload_n eX12_classes_52 rfl ?_
          refine q_iload_n eX12_classes_53 rfl ?_
          refine q_callVP [vI t] (M1 := mX12_classMany) eX12_classes_54 mf_X12_classMany lk_X12_382 (hK _ (by decide) (by decide)) (mo_classMany (n := t) hK hp hp7 (by omega) hO) (by decide) (by decide) (by decide) (Nat.le_of_ble_eq_true rfl) rfl ?_
          refine q_retI eX12_classes_57 rfl (by decide) (by decide) ?_
          refine PMP_r ?_ ht0 hoF Off.rfl'
          rw [if_pos ha11]
          show clsM p t i k = _
          unfold clsM
          rw [if_pos (by omega)]
          rfl
      · exact absurd c42 (by decide)
