/-! the model: ring -/
section Jeq
variable {M : MT} {d mc ms nc ns pc : Nat} {Post : PO} {L : List (Option LV)} {st : List LV} {F : HF} {A : HA} {al : AL}
theorem q_jeq {a : Int} (b : Int) (h : Int64.ofInt a = Int64.ofInt b) (k : QW M d mc ms Post nc ns pc L (vJ b :: st) F A al) : QW M d mc ms Post nc ns pc L (vJ a :: st) F A al := by
  intro p l e R s m args below meth c G P ad0 N0 hc ad H locs ls hs hst
  have e1 : (vJ a :: st).map (tr ad) = (vJ b :: st).map (tr ad) := by
    show Value.long (Int64.ofInt a) :: st.map (tr ad) = Value.long (Int64.ofInt b) :: st.map (tr ad)
    rw [h]
  rw [e1]
  exact k p l e R s m args below meth c G P ad0 N0 hc ad H locs ls hs hst
end Jeq
theorem pw_cap {p e r : Nat} (h : exO p e r) (h7 : ¬ (p = 7 ∧ e = 4 ∧ r = 6)) : 0 < (p : Int) ^ (e * r) ∧ (p : Int) ^ (e * r) ≤ 79792266297612001 := by
  obtain ⟨g1, g2, g3, g4, g5⟩ := id h
  refine ⟨Int.pow_pos (by omega), ?_⟩
  have h24 : e * r ≤ 24 := Nat.le_trans (Nat.mul_le_mul (show e ≤ 4 by omega) (show r ≤ 6 by omega)) (by decide)
  have hb : ∀ (c k : Nat), p ≤ c → e * r ≤ k → (p : Int) ^ (e * r) ≤ (c : Int) ^ k := by
    intro c k hc hk
    have h1 : p ^ (e * r) ≤ c ^ k := Nat.le_trans (Nat.pow_le_pow_left hc _) (Nat.pow_le_pow_right (by omega) hk)
    have h2 : ((p ^ (e * r) : Nat) : Int) ≤ ((c ^ k : Nat) : Int) := Int.ofNat_le.mpr h1
    rw [Int.natCast_pow, Int.natCast_pow] at h2
    exact h2
  by_cases hp : p = 7
  · have h20 : e * r ≤ 20 := by
      by_cases he : e = 4
      · subst he; omega
      · exact Nat.le_trans (Nat.mul_le_mul (show e ≤ 3 by omega) (show r ≤ 6 by omega)) (by decide)
    exact Int.le_trans (hb 7 20 (by omega) h20) (by decide)
  · exact Int.le_trans (hb 5 24 (by omega) h24) (by decide)
set_option maxRecDepth 20000 in
theorem lp_mring {p e r : Nat} {F : HF} {A : HA} {al : AL} {Post : PO} {w4 : Int} (hex : exO p e r) (no : ¬ (p : Int) ^ (e * r) ≤ 4096 → Post (.inl (some (-1))) F A al) (yes : (p : Int) ^ (e * r) ≤ 4096 → ∀ l4 l5 l7, QW mX12_ring 8 1 7 Post 0 0 102 [some (vA 44), some (vI p), some (vI e), some (vI r), l4, l5, none, l7] [] F A al) : ∀ (s k : Nat), k + s = e * r →
    QW mX12_ring 8 1 7 Post 0 0 70 [some (vA 44), some (vI p), some (vI e), some (vI r), some (vI w4), some (vJ ((p : Int) ^ k)), none, some (vI k)] [] F A al := by
  obtain ⟨g1, g2, g3, g4, g5⟩ := id hex
  have h24 : e * r ≤ 24 := Nat.le_trans (Nat.mul_le_mul (show e ≤ 4 by omega) (show r ≤ 6 by omega)) (by decide)
  have eer : (e : Int) * (r : Int) = ((e * r : Nat) : Int) := by simp
  generalize hER : e * r = er at *
  intro s
  induction s with
  | zero =>
    intro k hk
    have ek : k = er := by omega
    subst ek
    by_cases h77 : p = 7 ∧ e = 4 ∧ r = 6
    · obtain ⟨rfl, rfl, rfl⟩ := h77
      have hk24 : k = 24 := by omega
      subst hk24
      have hbig : ¬ ((7 : Nat) : Int) ^ 24 ≤ 4096 := by decide
      have q1 := @cmpL_le 7113790643470898241 4096
      refine q_iload eX12_ring_70 rfl ?_
      refine q_iload_n eX12_ring_72 rfl ?_
      refine q_iload_n eX12_ring_73 rfl ?_
      refine q_imul eX12_ring_74 ?_
      rw [eer]
      refine q_icmp_ge (tgt := 91) eX12_ring_75 (by decide) (by first | assumption | exact ⟨by omega, by omega⟩) (by first | assumption | exact ⟨by omega, by omega⟩) (fun c75 => ?_) (fun c75 => ?_)
      · refine q_lload eX12_ring_91 rfl ?_
        refine q_jeq 7113790643470898241 (by decide +kernel) ?_
        refine q_ldc2 eX12_ring_93 kc_X12_212 ?_
        refine q_lcmp eX12_ring_96 (by exact ⟨by omega, by omega⟩) (by exact ⟨by omega, by omega⟩)  ?_
        refine q_if_le (tgt := 102) eX12_ring_97 (by decide) (cmpL_R _ _) (fun c97 => ?_) (fun c97 => ?_)
        · exact absurd (q1.mp c97) (by decide)
        · refine q_iconst eX12_ring_100 ?_
          refine q_retI eX12_ring_101 rfl (by decide) (by decide) ?_
          exact no hbig
      · exact absurd c75 (by omega)
    · obtain ⟨c1, c2⟩ := pw_cap hex h77
      rw [hER] at c1 c2
      have q1 := @cmpL_le ((p : Int) ^ k) 4096
      refine q_iload eX12_ring_70 rfl ?_
      refine q_iload_n eX12_ring_72 rfl ?_
      refine q_iload_n eX12_ring_73 rfl ?_
      refine q_imul eX12_ring_74 ?_
      rw [eer]
      refine q_icmp_ge (tgt := 91) eX12_ring_75 (by decide) (by first | assumption | exact ⟨by omega, by omega⟩) (by first | assumption | exact ⟨by omega, by omega⟩) (fun c75 => ?_) (fun c75 => ?_)
      · refine q_lload eX12_ring_91 rfl ?_
        refine q_ldc2 eX12_ring_93 kc_X12_212 ?_
        refine q_lcmp eX12_ring_96 (by exact ⟨by omega, by omega⟩) (by exact ⟨by omega, by omega⟩)  ?_
        refine q_if_le (tgt := 102) eX12_ring_97 (by decide) (cmpL_R _ _) (fun c97 => ?_) (fun c97 => ?_)
        · exact yes (by omega) _ _ _
        · refine q_iconst eX12_ring_100 ?_
          refine q_retI eX12_ring_101 rfl (by decide) (by decide) ?_
          exact no (by omega)
      · exact absurd c75 (by omega)
  | succ s ih =>
    intro k hk
    have hst : (p : Int) ^ (k + 1) = (p : Int) ^ k * p := Int.pow_succ _ k
    refine q_iload eX12_ring_70 rfl ?_
    refine q_iload_n eX12_ring_72 rfl ?_
    refine q_iload_n eX12_ring_73 rfl ?_
    refine q_imul eX12_ring_74 ?_
    rw [eer]
    refine q_icmp_ge (tgt := 91) eX12_ring_75 (by decide) (by first | assumption | exact ⟨by omega, by omega⟩) (by first | assumption | exact ⟨by omega, by omega⟩) (fun c75 => ?_) (fun c75 => ?_)
    · exact absurd c75 (by omega)
    · refine q_lload eX12_ring_78 rfl ?_
      refine q_iload_n eX12_ring_80 rfl ?_
      refine q_i2l eX12_ring_81 (by first | assumption | exact ⟨by omega, by omega⟩) ?_
      refine q_lmul eX12_ring_82 ?_
      refine q_lstore eX12_ring_83 (by decide) rfl ?_
      refine q_iinc eX12_ring_85 rfl (by decide) rfl ?_
      refine q_goto (tgt := 70) eX12_ring_88 (by decide) ?_
      rw [← hst]
      exact ih (k + 1) (by omega)
set_option maxRecDepth 20000 in
theorem lp_r31 {a b c v4 : Int} {F : HF} {A : HA} {al : AL} {Post : PO} (hb : InR b) (hc : InR c) (hv : (v4 = 1 ∧ (a = 2 ∨ a = 3 ∨ a = 5 ∨ a = 7)) ∨ (v4 = 0 ∧ ¬ (a = 2 ∨ a = 3 ∨ a = 5 ∨ a = 7))) (no : exE a b c = 0 → Post (.inl (some (-1))) F A al) (yes : ∀ p e r : Nat, a = p → b = e → c = r → exO p e r → (p : Int) ^ (e * r) ≤ 4096 → ∀ l4 l5 l7, QW mX12_ring 8 1 7 Post 0 0 102 [some (vA 44), some (vI p), some (vI e), some (vI r), l4, l5, none, l7] [] F A al) :
    QW mX12_ring 8 1 7 Post 0 0 31 [some (vA 44), some (vI a), some (vI b), some (vI c), none, none, none, none] [vI v4] F A al := by
  have hb1 := hb.1
  have hb2 := hb.2
  have hc1 := hc.1
  have hc2 := hc.2
  refine q_istore eX12_ring_31 (by decide) rfl ?_
  refine q_iload eX12_ring_33 rfl ?_
  refine q_if_eq (tgt := 62) eX12_ring_35 (by decide) (by first | assumption | exact ⟨by omega, by omega⟩) (fun c35 => ?_) (fun c35 => ?_)
  · refine q_iconst eX12_ring_62 ?_
    refine q_retI eX12_ring_63 rfl (by decide) (by decide) ?_
    refine no ?_
    unfold exE
    rw [if_neg]
    rintro ⟨z1, z2, z3, z4, z5⟩
    first
    | omega
    | exact i0 c47 ⟨z2, z3⟩
    | exact i0 c59 ⟨z4, z5⟩
  · refine q_iload_n eX12_ring_38 rfl ?_
    refine q_i2l eX12_ring_39 (by first | assumption | exact ⟨by omega, by omega⟩) ?_
    refine q_lconst (v := 1) eX12_ring_40 (by decide +kernel) ?_
    refine q_ldc2 eX12_ring_41 kc_X12_204 ?_
    refine q_callSP [vJ (b), vJ (1), vJ (4)] (M1 := mX12_isIn) eX12_ring_44 mf_X12_isIn lk_X12_206 (mo_isIn (by exact ⟨by omega, by omega⟩) (by exact ⟨by omega, by omega⟩) (by exact ⟨by omega, by omega⟩)) (by decide) (by decide) (by decide) (Nat.le_of_ble_eq_true rfl) rfl ?_
    refine q_if_eq (tgt := 62) eX12_ring_47 (by decide) ir_ite (fun c47 => ?_) (fun c47 => ?_)
    · refine q_iconst eX12_ring_62 ?_
      refine q_retI eX12_ring_63 rfl (by decide) (by decide) ?_
      refine no ?_
      unfold exE
      rw [if_neg]
      rintro ⟨z1, z2, z3, z4, z5⟩
      first
      | omega
      | exact i0 c47 ⟨z2, z3⟩
      | exact i0 c59 ⟨z4, z5⟩
    · refine q_iload_n eX12_ring_50 rfl ?_
      refine q_i2l eX12_ring_51 (by first | assumption | exact ⟨by omega, by omega⟩) ?_
      refine q_lconst (v := 1) eX12_ring_52 (by decide +kernel) ?_
      refine q_ldc2 eX12_ring_53 kc_X12_210 ?_
      refine q_callSP [vJ (c), vJ (1), vJ (6)] (M1 := mX12_isIn) eX12_ring_56 mf_X12_isIn lk_X12_206 (mo_isIn (by exact ⟨by omega, by omega⟩) (by exact ⟨by omega, by omega⟩) (by exact ⟨by omega, by omega⟩)) (by decide) (by decide) (by decide) (Nat.le_of_ble_eq_true rfl) rfl ?_
      refine q_if_ne (tgt := 64) eX12_ring_59 (by decide) ir_ite (fun c59 => ?_) (fun c59 => ?_)
      · refine q_lconst (v := 1) eX12_ring_64 (by decide +kernel) ?_
        refine q_lstore eX12_ring_65 (by decide) rfl ?_
        refine q_iconst eX12_ring_67 ?_
        refine q_istore eX12_ring_68 (by decide) rfl ?_
        have hb47 := i1 c47
        have hc59 := i1 c59
        obtain ⟨p, rfl⟩ : ∃ p : Nat, a = p := ⟨a.toNat, by omega⟩
        obtain ⟨e, rfl⟩ : ∃ e : Nat, b = e := ⟨b.toNat, by omega⟩
        obtain ⟨r, rfl⟩ : ∃ r : Nat, c = r := ⟨c.toNat, by omega⟩
        have hex : exO p e r := ⟨by omega, by omega, by omega, by omega, by omega⟩
        have hh := lp_mring (w4 := v4) (F := F) (A := A) (al := al) (Post := Post) hex (fun hn => no (by unfold exE; rw [if_pos hex, if_neg (by exact hn)])) (fun hy => yes p e r rfl rfl rfl hex hy) (e * r) 0 (by omega)
        rw [Int.pow_zero] at hh
        exact hh
      · refine q_iconst eX12_ring_62 ?_
        refine q_retI eX12_ring_63 rfl (by decide) (by decide) ?_
        refine no ?_
        unfold exE
        rw [if_neg]
        rintro ⟨z1, z2, z3, z4, z5⟩
        first
        | omega
        | exact i0 c47 ⟨z2, z3⟩
        | exact i0 c59 ⟨z4, z5⟩
set_option maxRecDepth 20000 in
theorem mo_ringNo {a b c : Int} {p e r q N : Nat} {m : Int} {f : Nat → Int} {g : Int} {rt lg pl_ tp mk ck : Nat → Int} {len n dg : Nat} {fp set : Int} {w : Option (Nat → Int)} {S : List Int} {F : HF} {A : HA} {al : AL} (hK : KM al) (h0 : MI p e r q N m f g rt lg pl_ len tp fp n set dg mk ck w S F A) (ha : InR a) (hb : InR b) (hc : InR c) (h0_ : exE a b c = 0) : QE 8 1 7 mX12_ring [vA 44, vI a, vI b, vI c] F A al (PMR (some (-1)) F A al (fun F2 A2 => MI p e r q N m f g rt lg pl_ len tp fp n set dg mk ck w S F2 A2)) := by
  refine QE.mk (by decide +kernel) (Nat.le_of_ble_eq_true rfl) ?_
  have ha_1 := ha.1
  have ha_2 := ha.2
  have hb_1 := hb.1
  have hb_2 := hb.2
  have hc_1 := hc.1
  have hc_2 := hc.2
  have h := h0.t0
  generalize hF0 : up2 F 44 0 (vI 0) = F1 at h
  have ht0 : F1 44 0 = vI 0 := by rw [← hF0]; exact up2_eq _ _ _ _
  have hoF : FOff SCF F F1 := by rw [← hF0]; exact FOff.up (by decide)
  obtain ⟨⟨hX, hT, h3r, hMH⟩, h2, ⟨hl0, hl1, hta⟩, h4, ⟨⟨h51, h52, h53⟩, h5m, h5c, ⟨hn1, hn63, hnq, hs0, hs1⟩, hdn⟩, h7, ⟨⟨h81, h82⟩, h83⟩⟩ := id h
  obtain ⟨hG, hp, he, hq, hN, hg, ⟨hp2, hp7, he1, he4, hme, hqe, hq3, hNm, hgE⟩, hP, hL, hR⟩ := id hT
  obtain ⟨hm, hr, hf, hm2, hr1, hr6, hN4⟩ := id hG
  have hm4 := hG.m4
  have hq2 := hT.q2
  have hN9 : (N : Int) ≤ 4096 := by rw [hNm]; exact hN4
  have hE : ∀ x : Int, 0 ≤ x ∧ x ≤ (N : Int) - 1 → El m r x := fun x h => ⟨h.1, by rw [← hNm]; omega⟩
  have hNp : 1 ≤ N := by have := el_one (m := m) (r := r) hm2 hr1; have := this.2; omega
  refine q_aload_n eX12_ring_0 rfl ?_
  refine q_iconst eX12_ring_1 ?_
  refine q_putfield eX12_ring_2 pf_X12_1 (hK _ (by decide) (by decide)) (by decide) (FT_i rfl) ?_
  rw [hF0]
  have tail : ∀ v4 : Int, ((v4 = 1 ∧ (a = 2 ∨ a = 3 ∨ a = 5 ∨ a = 7)) ∨ (v4 = 0 ∧ ¬ (a = 2 ∨ a = 3 ∨ a = 5 ∨ a = 7))) → QW mX12_ring 8 1 7 (PMR (some (-1)) F A al (fun F2 A2 => MI p e r q N m f g rt lg pl_ len tp fp n set dg mk ck w S F2 A2)) 0 0 31 [some (vA 44), some (vI a), some (vI b), some (vI c), none, none, none, none] [vI v4] F1 A al := fun v4 hv => lp_r31 hb hc hv (fun _ => PMR_r (lF := SCF) (lA := []) rfl ht0 hoF Off.rfl' (by decide) (by decide) h) (fun p0 e0 r0 e1 e2 e3 hex hy => by
      exfalso
      subst e1 e2 e3
      unfold exE at h0_
      rw [if_pos hex, if_pos (by exact hy)] at h0_
      exact absurd h0_ (by decide))
  refine q_iload_n eX12_ring_5 rfl ?_
  refine q_iconst eX12_ring_6 ?_
  refine q_icmp_eq (tgt := 26) eX12_ring_7 (by decide) (by first | assumption | exact ⟨by omega, by omega⟩) (by first | assumption | exact ⟨by omega, by omega⟩) (fun c7 => ?_) (fun c7 => ?_)
  · refine q_iconst eX12_ring_26 ?_
    refine q_goto (tgt := 31) eX12_ring_27 (by decide) ?_
    exact tail _ (by omega)
  · refine q_iload_n eX12_ring_10 rfl ?_
    refine q_iconst eX12_ring_11 ?_
    refine q_icmp_eq (tgt := 26) eX12_ring_12 (by decide) (by first | assumption | exact ⟨by omega, by omega⟩) (by first | assumption | exact ⟨by omega, by omega⟩) (fun c12 => ?_) (fun c12 => ?_)
    · refine q_iconst eX12_ring_26 ?_
      refine q_goto (tgt := 31) eX12_ring_27 (by decide) ?_
      exact tail _ (by omega)
    · refine q_iload_n eX12_ring_15 rfl ?_
      refine q_iconst eX12_ring_16 ?_
      refine q_icmp_eq (tgt := 26) eX12_ring_17 (by decide) (by first | assumption | exact ⟨by omega, by omega⟩) (by first | assumption | exact ⟨by omega, by omega⟩) (fun c17 => ?_) (fun c17 => ?_)
      · refine q_iconst eX12_ring_26 ?_
        refine q_goto (tgt := 31) eX12_ring_27 (by decide) ?_
        exact tail _ (by omega)
      · refine q_iload_n eX12_ring_20 rfl ?_
        refine q_bipush eX12_ring_21 (by decide +kernel) ?_
        refine q_icmp_ne (tgt := 30) eX12_ring_23 (by decide) (by first | assumption | exact ⟨by omega, by omega⟩) (by first | assumption | exact ⟨by omega, by omega⟩) (fun c23 => ?_) (fun c23 => ?_)
        · refine q_iconst eX12_ring_30 ?_
          exact tail _ (by omega)
        · refine q_iconst eX12_ring_26 ?_
          refine q_goto (tgt := 31) eX12_ring_27 (by decide) ?_
          exact tail _ (by omega)
set_option maxRecDepth 20000 in
theorem mo_ringYes {p' e' r' : Nat} {f' : Nat → Int} {g' : Int} {p e r q N : Nat} {m : Int} {f : Nat → Int} {g : Int} {rt lg pl_ tp mk ck : Nat → Int} {len n dg : Nat} {fp set : Int} {w : Option (Nat → Int)} {S : List Int} {F : HF} {A : HA} {al : AL} (hK : KM al) (h0 : MI p e r q N m f g rt lg pl_ len tp fp n set dg mk ck w S F A) (h67 : 67 ≤ al.2) (hex : exO p' e' r') (hNN : (p' : Int) ^ (e' * r') ≤ 4096) (hR : RM p' e' r' f' g') : QE 8 1 7 mX12_ring [vA 44, vI p', vI e', vI r'] F A al (PMR (some ((p' ^ (e' * r') : Nat) : Int)) F A al (fun F2 A2 => MI p' e' r' (p' ^ r') (p' ^ (e' * r')) ((p' : Int) ^ e') f' g' (fun j => tcE p' e' r' (p' ^ r') ((p' : Int) ^ e') f' j) (lgE p' r' ((p' : Int) ^ e') f' g' (p' ^ r' - 1)) (fun _ => 0) len tp fp 1 0 (cy1 p' e' r' f' g').1 (cy1 p' e' r' f' g').2.1 (cy1 p' e' r' f' g').2.2 none S F2 A2)) := by
  refine QE.mk (by decide +kernel) (Nat.le_of_ble_eq_true rfl) ?_
  have h := h0.t0
  generalize hF0 : up2 F 44 0 (vI 0) = F1 at h
  have ht0 : F1 44 0 = vI 0 := by rw [← hF0]; exact up2_eq _ _ _ _
  have hoF : FOff SCF F F1 := by rw [← hF0]; exact FOff.up (by decide)
  obtain ⟨⟨hX, hT, h3r, hMH⟩, h2, ⟨hl0, hl1, hta⟩, h4, ⟨⟨h51, h52, h53⟩, h5m, h5c, ⟨hn1, hn63, hnq, hs0, hs1⟩, hdn⟩, h7, ⟨⟨h81, h82⟩, h83⟩⟩ := id h
  obtain ⟨hG, hp, he, hq, hN, hg, ⟨hp2, hp7, he1, he4, hme, hqe, hq3, hNm, hgE⟩, hP, hL, hR⟩ := id hT
  obtain ⟨hm, hr, hf, hm2, hr1, hr6, hN4⟩ := id hG
  have hm4 := hG.m4
  have hq2 := hT.q2
  have hN9 : (N : Int) ≤ 4096 := by rw [hNm]; exact hN4
  have hE : ∀ x : Int, 0 ≤ x ∧ x ≤ (N : Int) - 1 → El m r x := fun x h => ⟨h.1, by rw [← hNm]; omega⟩
  have hNp : 1 ≤ N := by have := el_one (m := m) (r := r) hm2 hr1; have := this.2; omega
  refine q_aload_n eX12_ring_0 rfl ?_
  refine q_iconst eX12_ring_1 ?_
  refine q_putfield eX12_ring_2 pf_X12_1 (hK _ (by decide) (by decide)) (by decide) (FT_i rfl) ?_
  rw [hF0]
  obtain ⟨hX0_, -⟩ := id h.1
  have hb : InR (e' : Int) := by obtain ⟨z1, z2, z3, z4, z5⟩ := id hex; exact ⟨by omega, by omega⟩
  have hc : InR (r' : Int) := by obtain ⟨z1, z2, z3, z4, z5⟩ := id hex; exact ⟨by omega, by omega⟩
  have hp10 : (p' : Int) ≤ 7 := by obtain ⟨z1, z2, z3, z4, z5⟩ := id hex; omega
  have tail : ∀ v4 : Int, ((v4 = 1 ∧ ((p' : Int) = 2 ∨ (p' : Int) = 3 ∨ (p' : Int) = 5 ∨ (p' : Int) = 7)) ∨ (v4 = 0 ∧ ¬ ((p' : Int) = 2 ∨ (p' : Int) = 3 ∨ (p' : Int) = 5 ∨ (p' : Int) = 7))) → QW mX12_ring 8 1 7 (PMR (some ((p' ^ (e' * r') : Nat) : Int)) F A al (fun F2 A2 => MI p' e' r' (p' ^ r') (p' ^ (e' * r')) ((p' : Int) ^ e') f' g' (fun j => tcE p' e' r' (p' ^ r') ((p' : Int) ^ e') f' j) (lgE p' r' ((p' : Int) ^ e') f' g' (p' ^ r' - 1)) (fun _ => 0) len tp fp 1 0 (cy1 p' e' r' f' g').1 (cy1 p' e' r' f' g').2.1 (cy1 p' e' r' f' g').2.2 none S F2 A2)) 0 0 31 [some (vA 44), some (vI p'), some (vI e'), some (vI r'), none, none, none, none] [vI v4] F1 A al := fun v4 hv => lp_r31 hb hc hv (fun hn => by
      exfalso
      unfold exE at hn
      rw [if_pos hex, if_pos (by exact hNN)] at hn
      exact absurd hn (by decide)) (fun p0 e0 r0 e1 e2 e3 _ _ l4 l5 l7 => by
      obtain rfl : p0 = p' := by omega
      obtain rfl : e0 = e' := by omega
      obtain rfl : r0 = r' := by omega
      refine q_aload_n eX12_ring_102 rfl ?_
      refine q_iload_n eX12_ring_103 rfl ?_
      refine q_iload_n eX12_ring_104 rfl ?_
      refine q_iload_n eX12_ring_105 rfl ?_
      refine q_callV [vI p0, vI e0, vI r0] (M1 := mX12_beginsRing) eX12_ring_106 mf_X12_beginsRing lk_X12_105 (hK _ (by decide) (by decide)) ((mo_beginsRing (K := al.1) (n := al.2) hK hX h67 hex hNN hR)) (by intro E F A al h; cases h.1) (by decide) (by decide) (by decide) (Nat.le_of_ble_eq_true rfl) (st := []) rfl (fun v9 F9 A9 al9 h9 => ?_)
      obtain ⟨e9, hKE9, f9, o9, hM1, h49, hM5, h45⟩ := h9
      obtain rfl := Sum.inl.inj e9
      have hK9 : KM al9 := fun b h1 h2 => (hKE9.2 b (by omega)).trans (hK b h1 h2)
      have hN9' : F9 44 6 = vI (p0 ^ (e0 * r0) : Nat) := hM1.2.1.2.2.2.2.1
      refine q_aload_n eX12_ring_109 rfl ?_
      refine q_getfield eX12_ring_110 gf_X12_28 (hK9 _ (by decide) (by decide)) (by decide) (by first | assumption) ?_
      refine q_retI eX12_ring_113 rfl (by decide) (by decide) ?_
      refine ⟨rfl, (f9 44 0 (by decide)).trans ht0, hKE9, fun b k hb hb2 => (f9 b k (fun hm => by simp [BRF] at hm; omega)).trans (hoF b k (fun hm => by simp [SCF] at hm; omega)), fun b hb hb2 => o9 b hb (fun hm => by simp [BRA] at hm; omega), ?_⟩
      refine ⟨hM1, fun j hj => ⟨h49 j hj, el_zero (Int.pow_pos (show (0 : Int) < p0 by obtain ⟨z1, -⟩ := id hex; omega))⟩, ⟨(f9 44 19 (by decide)).trans hl0, hl1, fun j hj => by rw [o9 55 (by omega) (by decide)]; exact hta j hj⟩, h4.pres (f9.fe (by decide)), hM5, h45, ⟨⟨(f9 44 52 (by decide)).trans h81, fun j hj => by rw [o9 65 (by omega) (by decide)]; exact h82 j hj⟩, h83⟩⟩)
  refine q_iload_n eX12_ring_5 rfl ?_
  refine q_iconst eX12_ring_6 ?_
  refine q_icmp_eq (tgt := 26) eX12_ring_7 (by decide) (by first | assumption | exact ⟨by omega, by omega⟩) (by first | assumption | exact ⟨by omega, by omega⟩) (fun c7 => ?_) (fun c7 => ?_)
  · refine q_iconst eX12_ring_26 ?_
    refine q_goto (tgt := 31) eX12_ring_27 (by decide) ?_
    exact tail _ (by omega)
  · refine q_iload_n eX12_ring_10 rfl ?_
    refine q_iconst eX12_ring_11 ?_
    refine q_icmp_eq (tgt := 26) eX12_ring_12 (by decide) (by first | assumption | exact ⟨by omega, by omega⟩) (by first | assumption | exact ⟨by omega, by omega⟩) (fun c12 => ?_) (fun c12 => ?_)
    · refine q_iconst eX12_ring_26 ?_
      refine q_goto (tgt := 31) eX12_ring_27 (by decide) ?_
      exact tail _ (by omega)
    · refine q_iload_n eX12_ring_15 rfl ?_
      refine q_iconst eX12_ring_16 ?_
      refine q_icmp_eq (tgt := 26) eX12_ring_17 (by decide) (by first | assumption | exact ⟨by omega, by omega⟩) (by first | assumption | exact ⟨by omega, by omega⟩) (fun c17 => ?_) (fun c17 => ?_)
      · refine q_iconst eX12_ring_26 ?_
        refine q_goto (tgt := 31) eX12_ring_27 (by decide) ?_
        exact tail _ (by omega)
      · refine q_iload_n eX12_ring_20 rfl ?_
        refine q_bipush eX12_ring_21 (by decide +kernel) ?_
        refine q_icmp_ne (tgt := 30) eX12_ring_23 (by decide) (by first | assumption | exact ⟨by omega, by omega⟩) (by first | assumption | exact ⟨by omega, by omega⟩) (fun c23 => ?_) (fun c23 => ?_)
        · refine q_iconst eX12_ring_30 ?_
          exact tail _ (by omega)
        · refine q_iconst eX12_ring_26 ?_
          refine q_goto (tgt := 31) eX12_ring_27 (by decide) ?_
          exact tail _ (by omega)
