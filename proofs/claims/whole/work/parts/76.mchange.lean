/-! the model: calls that change what stands -/
def PMR (R : Option Int) (F : HF) (A : HA) (al : AL) (Q : HF → HA → Prop) : PO := fun o F' A' al' => o = .inl (some (R.getD 0)) ∧ F' 44 0 = vI (thE R) ∧ KE al.2 al al' ∧ (∀ b k, b < al.2 → b ≠ 44 → F' b k = F b k) ∧ (∀ b, b < al.2 → (b < 44 ∨ 67 ≤ b) → A' b = A b) ∧ Q F' A'
theorem KE.rfl' {al : AL} : KE al.2 al al := ⟨Nat.le_refl _, fun _ _ => rfl⟩
theorem FOff.m44 {l : List (Nat × Nat)} {F F' : HF} (h : FOff l F F') (hl : (l.all fun q => decide (q.1 = 44)) = true) (t : Nat) : ∀ b k, b < t → b ≠ 44 → F' b k = F b k := by
  intro b k _ hb
  refine h b k (fun hm => ?_)
  have := List.all_eq_true.mp hl _ hm
  rw [decide_eq_true_eq] at this
  exact hb this
theorem Off.m44 {l : List Nat} {A A' : HA} (h : Off l A A') (hl : (l.all fun q => decide (44 ≤ q ∧ q < 67)) = true) (t : Nat) : ∀ b, b < t → (b < 44 ∨ 67 ≤ b) → A' b = A b := by
  intro b _ hb
  refine h b (fun hm => ?_)
  have := List.all_eq_true.mp hl _ hm
  rw [decide_eq_true_eq] at this
  omega
theorem PMR_r {R : Option Int} {a : Int} {lF : List (Nat × Nat)} {lA : List Nat} {F F' : HF} {A A' : HA} {al : AL} {Q : HF → HA → Prop} (h : R = some a) (h0 : F' 44 0 = vI 0) (hF : FOff lF F F') (hA : Off lA A A') (h1 : (lF.all fun q => decide (q.1 = 44)) = true) (h2 : (lA.all fun q => decide (44 ≤ q ∧ q < 67)) = true) (hQ : Q F' A') : PMR R F A al Q (.inl (some a)) F' A' al := ⟨by rw [h]; rfl, by rw [h]; exact h0, KE.rfl', hF.m44 h1 _, hA.m44 h2 _, hQ⟩
theorem PMR_t {R : Option Int} {lF : List (Nat × Nat)} {lA : List Nat} {F F' : HF} {A A' : HA} {al : AL} {Q : HF → HA → Prop} (h : R = none) (h0 : F' 44 0 = vI 1) (hF : FOff lF F F') (hA : Off lA A A') (h1 : (lF.all fun q => decide (q.1 = 44)) = true) (h2 : (lA.all fun q => decide (44 ≤ q ∧ q < 67)) = true) (hQ : Q F' A') : PMR R F A al Q (.inl (some 0)) F' A' al := ⟨by rw [h]; rfl, by rw [h]; exact h0, KE.rfl', hF.m44 h1 _, hA.m44 h2 _, hQ⟩
theorem MI.tv {p e r q N : Nat} {m : Int} {f : Nat → Int} {g : Int} {rt lg pl_ tp mk ck : Nat → Int} {len n dg : Nat} {fp set : Int} {w : Option (Nat → Int)} {S : List Int} {F : HF} {A : HA} {v : Int} (h : MI p e r q N m f g rt lg pl_ len tp fp n set dg mk ck w S F A) : MI p e r q N m f g rt lg pl_ len tp fp n set dg mk ck w S (up2 F 44 0 (vI v)) A := h.off (FOff.up (l := SCF) (by decide)) (Off.rfl' (l := SCA)) (by decide) (by decide) (by decide)
theorem sb_range {v : Int} (h : 0 ≤ v) (h2 : v < 256) : -128 ≤ sb v ∧ sb v < 128 := by
  unfold sb
  split <;> omega
theorem bm_sb (x : Int) : x.bmod 256 = sb (x % 256) := by
  rw [Int.bmod_def]
  unfold sb
  split <;> split <;> omega
def TM (tp : Nat → Int) (A : HA) : Prop := ∀ j, j < 200 → A 55 j = sb (tp j) ∧ 0 ≤ tp j ∧ tp j < 256
theorem ap_TM {tp : Nat → Int} {len : Nat} {v : Int} {A A' : HA} (h : TM tp A) (h1 : ∀ i, i < 4 → A' 55 (len + i) = sb (byE v i)) (h2 : ∀ i, i < len ∨ len + 4 ≤ i → A' 55 i = A 55 i) : TM (ap4 tp len v) A' := by
  intro j hj
  unfold ap4
  by_cases hc : len ≤ j ∧ j < len + 4
  · rw [if_pos hc]
    have := h1 (j - len) (by omega)
    rw [show len + (j - len) = j by omega] at this
    exact ⟨this, byE_range v _⟩
  · rw [if_neg hc, h2 j (by omega)]
    exact h j hj
set_option maxRecDepth 20000 in
theorem mo_put {i x : Int} {p e r q N : Nat} {m : Int} {f : Nat → Int} {g : Int} {rt lg pl_ tp mk ck : Nat → Int} {len n dg : Nat} {fp set : Int} {w : Option (Nat → Int)} {S : List Int} {F : HF} {A : HA} {al : AL} (hK : KM al) (h0 : MI p e r q N m f g rt lg pl_ len tp fp n set dg mk ck w S F A) (hi : InR i) (hx : InR x) : QE 3 0 0 mX12_put [vA 44, vI i, vI x] F A al (PMR (if (0 ≤ i ∧ i ≤ 7) ∧ 0 ≤ x ∧ x ≤ (N : Int) - 1 then some (pl_ i.toNat) else none) F A al (fun F2 A2 => MI p e r q N m f g rt lg (if (0 ≤ i ∧ i ≤ 7) ∧ 0 ≤ x ∧ x ≤ (N : Int) - 1 then upc pl_ i.toNat x else pl_) len tp fp n set dg mk ck w S F2 A2)) := by
  refine QE.mk (by decide +kernel) (Nat.le_of_ble_eq_true rfl) ?_
  have hi_1 := hi.1
  have hi_2 := hi.2
  have hx_1 := hx.1
  have hx_2 := hx.2
  have h := h0.t0
  generalize hF0 : up2 F 44 0 (vI 0) = F1 at h
  have ht0 : F1 44 0 = vI 0 := by rw [← hF0]; exact up2_eq _ _ _ _
  have hoF : FOff SCF F F1 := by rw [← hF0]; exact FOff.up (by decide)
  obtain ⟨⟨hX, hT, h3r, hMH⟩, h2, ⟨hl0, hl1, hta⟩, h4, ⟨⟨h51, h52, h53⟩, h5m, h5c, ⟨hn1, hn63, hnq, hs0, hs1⟩, hdn⟩, h7, ⟨⟨h81, h82⟩, h83⟩⟩ := id h
  obtain ⟨hG, hp, he, hq, hN, hg, ⟨hp2, hp7, he1, he4, hme, hqe, hq3, hNm, hgE⟩, hP, hL, hR⟩ := id hT
  obtain ⟨hm, hr, hf, hm2, hr1, hr6, hN4⟩ := id hG
  have hm4 := hG.m4
  have hq2 := hT.q2
  have hN9 : (N : Int) ≤ 4096 := by rw [hNm]; exact hN4
  have hE : ∀ x : Int, 0 ≤ x ∧ x ≤ (N : Int) - 1 → El m r x := fun x h => ⟨h.1, by rw [← hNm]; omega⟩
  have hNp : 1 ≤ N := by have := el_one (m := m) (r := r) hm2 hr1; have := this.2; omega
  refine q_aload_n eX12_put_0 rfl ?_
  refine q_iconst eX12_put_1 ?_
  refine q_putfield eX12_put_2 pf_X12_1 (hK _ (by decide) (by decide)) (by decide) (FT_i rfl) ?_
  rw [hF0]
  refine q_aload_n eX12_put_5 rfl ?_
  refine q_iload_n eX12_put_6 rfl ?_
  refine q_i2l eX12_put_7 (by first | assumption | exact ⟨by omega, by omega⟩) ?_
  refine q_lconst (v := 0) eX12_put_8 (by decide +kernel) ?_
  refine q_ldc2 eX12_put_9 kc_X12_302 ?_
  refine q_callSP [vJ (i), vJ (0), vJ (7)] (M1 := mX12_isIn) eX12_put_12 mf_X12_isIn lk_X12_206 (mo_isIn (by exact ⟨by omega, by omega⟩) (by exact ⟨by omega, by omega⟩) (by exact ⟨by omega, by omega⟩)) (by decide) (by decide) (by decide) (Nat.le_of_ble_eq_true rfl) rfl ?_
  refine q_if_eq (tgt := 30) eX12_put_15 (by decide) ir_ite (fun c15 => ?_) (fun c15 => ?_)
  · refine q_iconst eX12_put_30 ?_
    refine q_iconst eX12_put_31 ?_
    refine q_right0 eX12_put_32 lk_X12_304 hK ht0 (by decide) (by decide) (by decide) (Nat.le_of_ble_eq_true rfl) ?_
    refine q_if_ne (tgt := 40) eX12_put_35 (by decide) (by first | assumption | exact ⟨by omega, by omega⟩) (fun c35 => ?_) (fun c35 => ?_)
    · exact absurd rfl c35
    · refine q_iconst eX12_put_38 ?_
      refine q_retI eX12_put_39 rfl (by decide) (by decide) ?_
      have hC : ¬ ((0 ≤ i ∧ i ≤ 7) ∧ 0 ≤ x ∧ x ≤ (N : Int) - 1) := by
        first
        | exact fun hc => i0 c15 hc.1
        | exact fun hc => i0 c23 hc.2
      refine PMR_t (by rw [if_neg hC]) (up2_eq _ _ _ _) (hoF.trans (FOff.up (l := SCF) (by decide))) (Off.rfl' (l := [])) (by decide) (by decide) ?_
      rw [if_neg hC]
      exact h.tv
  · refine q_aload_n eX12_put_18 rfl ?_
    refine q_iload_n eX12_put_19 rfl ?_
    refine q_callVP [vI x] (M1 := mX12_isElement) eX12_put_20 mf_X12_isElement lk_X12_311 (hK _ (by decide) (by decide)) (mo_isElement hK hN hNp (by omega) hx) (by decide) (by decide) (by decide) (Nat.le_of_ble_eq_true rfl) rfl ?_
    refine q_if_eq (tgt := 30) eX12_put_23 (by decide) ir_ite (fun c23 => ?_) (fun c23 => ?_)
    · refine q_iconst eX12_put_30 ?_
      refine q_iconst eX12_put_31 ?_
      refine q_right0 eX12_put_32 lk_X12_304 hK ht0 (by decide) (by decide) (by decide) (Nat.le_of_ble_eq_true rfl) ?_
      refine q_if_ne (tgt := 40) eX12_put_35 (by decide) (by first | assumption | exact ⟨by omega, by omega⟩) (fun c35 => ?_) (fun c35 => ?_)
      · exact absurd rfl c35
      · refine q_iconst eX12_put_38 ?_
        refine q_retI eX12_put_39 rfl (by decide) (by decide) ?_
        have hC : ¬ ((0 ≤ i ∧ i ≤ 7) ∧ 0 ≤ x ∧ x ≤ (N : Int) - 1) := by
          first
          | exact fun hc => i0 c15 hc.1
          | exact fun hc => i0 c23 hc.2
        refine PMR_t (by rw [if_neg hC]) (up2_eq _ _ _ _) (hoF.trans (FOff.up (l := SCF) (by decide))) (Off.rfl' (l := [])) (by decide) (by decide) ?_
        rw [if_neg hC]
        exact h.tv
    · refine q_iconst eX12_put_26 ?_
      refine q_goto (tgt := 31) eX12_put_27 (by decide) ?_
      refine q_iconst eX12_put_31 ?_
      refine q_right1 eX12_put_32 lk_X12_304 hK ht0 (by decide) (by decide) (by decide) (Nat.le_of_ble_eq_true rfl) ?_
      refine q_if_ne (tgt := 40) eX12_put_35 (by decide) (by first | assumption | exact ⟨by omega, by omega⟩) (fun c35 => ?_) (fun c35 => ?_)
      · refine q_aload_n eX12_put_40 rfl ?_
        have hi15 := i1 c15
        have hx23 := i1 c23
        obtain ⟨t, rfl⟩ : ∃ t : Nat, i = t := ⟨i.toNat, by omega⟩
        refine q_getfield eX12_put_41 gf_X12_44 (hK _ (by decide) (by decide)) (by decide) (mr_44_12 hX) ?_
        refine q_iload_n eX12_put_44 rfl ?_
        refine q_iald eX12_put_45 (hK _ (by decide) (by decide)) (by omega) (by omega) ?_
        refine q_istore_n eX12_put_46 (by decide) rfl ?_
        refine q_aload_n eX12_put_47 rfl ?_
        refine q_getfield eX12_put_48 gf_X12_44 (hK _ (by decide) (by decide)) (by decide) (mr_44_12 hX) ?_
        refine q_iload_n eX12_put_51 rfl ?_
        refine q_iload_n eX12_put_52 rfl ?_
        refine q_iast eX12_put_53 (hK _ (by decide) (by decide)) (by omega) (by omega) ?_
        refine q_iload_n eX12_put_54 rfl ?_
        refine q_retI eX12_put_55 rfl (by decide) (by decide) ?_
        have hC : (0 ≤ (t : Int) ∧ (t : Int) ≤ 7) ∧ 0 ≤ x ∧ x ≤ (N : Int) - 1 := ⟨hi15, hx23⟩
        have hoA : Off [49] A (up2 A 49 (t : Int).toNat x) := Off.up (by simp)
        refine PMR_r (by rw [if_pos hC]; exact congrArg some (h2 t (by omega)).1.symm) ht0 hoF hoA (by decide) (by decide) ?_
        rw [if_pos hC]
        refine ⟨h.1.pres hX FE.rfl' (hoA.ae (by decide)), fun j hj => ?_, h.2.2.1.pres FE.rfl' (hoA.ae (by decide)), h.2.2.2.1, h.2.2.2.2.1.pres FE.rfl' (hoA.ae (by decide)), h.2.2.2.2.2.1.pres FE.rfl' (hoA.ae (by decide)), h.2.2.2.2.2.2.pres FE.rfl' (hoA.ae (by decide))⟩
        show up2 A 49 t x 49 j = upc pl_ t x j ∧ El m r (upc pl_ t x j)
        rw [up2_at]
        unfold upc
        by_cases hjt : j = t
        · rw [if_pos hjt, if_pos hjt]; exact ⟨rfl, hE x hx23⟩
        · rw [if_neg hjt, if_neg hjt]; exact h2 j hj
      · exact absurd c35 (by decide)
set_option maxRecDepth 20000 in
theorem lp_comes {four : Int} {len : Nat} {F : HF} {A0 : HA} {al : AL} (hK : KM al) (hX0 : MR F) (h4 : InR four) (hl : len + 4 ≤ 200) : ∀ (k j : Nat) (A : HA), j + k = 4 → Off [55] A0 A → (∀ i, i < j → A 55 (len + i) = sb (byE four i)) → (∀ i, i < len ∨ len + j ≤ i → A 55 i = A0 55 i) →
    QW mX12_comes 0 0 0 (fun o F' A' al' => o = .inl none ∧ F' = up2 F 44 19 (vI (len + 4 : Nat)) ∧ al' = al ∧ Off [55] A0 A' ∧ (∀ i, i < 4 → A' 55 (len + i) = sb (byE four i)) ∧ ∀ i, i < len ∨ len + 4 ≤ i → A' 55 i = A0 55 i) 0 0 3 [some (vA 44), some (vI four), some (vI (8 * (k : Int) - 8))] [] (up2 F 44 19 (vI (len + j : Nat))) A al := by
  intro k
  induction k with
  | zero =>
    intro j A hj ho h1 h2
    have ej : j = 4 := by omega
    subst ej
    refine q_iload_n eX12_comes_3 rfl ?_
    refine q_if_lt (tgt := 36) eX12_comes_4 (by decide) (by first | assumption | exact ⟨by omega, by omega⟩) (fun c4 => ?_) (fun c4 => ?_)
    · refine q_retV eX12_comes_36 rfl (by decide) (by decide) ?_
      exact ⟨rfl, rfl, rfl, ho, h1, h2⟩
    · exact absurd c4 (by omega)
  | succ k ih =>
    intro j A hj ho h1 h2
    have hX := MR.up (v := vI (len + j : Nat)) hX0 (show plainF mrefs 44 19 = true by decide)
    have e0 : 8 * ((k + 1 : Nat) : Int) - 8 = ((8 * k : Nat) : Int) := by omega
    have e1 : 24 - 8 * j = 8 * k := by omega
    have e2 : four / 2 ^ (8 * k) % 256 = byE four j := by unfold byE; rw [e1]
    have hby := byE_range four j
    have hsb := sb_range hby.1 hby.2
    have hf0 : up2 F 44 19 (vI (len + j : Nat)) 44 19 = vI (len + j : Nat) := up2_eq _ _ _ _
    rw [e0]
    refine q_iload_n eX12_comes_3 rfl ?_
    refine q_if_lt (tgt := 36) eX12_comes_4 (by decide) (by first | assumption | exact ⟨by omega, by omega⟩) (fun c4 => ?_) (fun c4 => ?_)
    · exact absurd c4 (by omega)
    · refine q_aload_n eX12_comes_7 rfl ?_
      refine q_getfield eX12_comes_8 gf_X12_62 (hK _ (by decide) (by decide)) (by decide) (mr_44_18 hX) ?_
      refine q_aload_n eX12_comes_11 rfl ?_
      refine q_getfield eX12_comes_12 gf_X12_214 (hK _ (by decide) (by decide)) (by decide) (by first | assumption) ?_
      refine q_iload_n eX12_comes_15 rfl ?_
      refine q_iload_n eX12_comes_16 rfl ?_
      refine q_ishr eX12_comes_17 h4 rfl (by omega) ?_
      refine q_i2b eX12_comes_18 ?_
      rw [bm_sb, e2]
      refine q_bast eX12_comes_19 (hK _ (by decide) (by decide)) (by omega) (by omega) (by omega) (by omega) ?_
      refine q_aload_n eX12_comes_20 rfl ?_
      refine q_dup eX12_comes_21 rfl ?_
      refine q_getfield eX12_comes_22 gf_X12_214 (hK _ (by decide) (by decide)) (by decide) (by first | assumption) ?_
      refine q_iconst eX12_comes_25 ?_
      refine q_iadd eX12_comes_26 ?_
      refine q_putfield eX12_comes_27 pf_X12_214 (hK _ (by decide) (by decide)) (by decide) (FT_i rfl) ?_
      refine q_iinc eX12_comes_30 rfl (by decide) rfl ?_
      refine q_goto (tgt := 3) eX12_comes_33 (by decide) ?_
      rw [up2_up2, show ((8 * k : Nat) : Int) + -8 = 8 * (k : Int) - 8 by omega]
      have ih1 := ih (j + 1) (up2 A 55 (len + j) (sb (byE four j))) (by omega) (ho.trans (Off.up (by simp))) (fun i hi => ?_) (fun i hi => ?_)
      · exact ih1
      · rw [up2_at]
        split
        · next he => rw [show i = j by omega]
        · next hne => exact h1 i (by omega)
      · rw [up2_ne (by omega)]
        exact h2 i (by omega)
set_option maxRecDepth 20000 in
theorem mo_comes {four : Int} {len : Nat} {F : HF} {A : HA} {al : AL} (hK : KM al) (hX : MR F) (h4 : InR four) (hl : len + 4 ≤ 200) (hlen : F 44 19 = vI len) : QE 0 0 0 mX12_comes [vA 44, vI four] F A al (fun o F' A' al' => o = .inl none ∧ F' = up2 F 44 19 (vI (len + 4 : Nat)) ∧ al' = al ∧ Off [55] A A' ∧ (∀ i, i < 4 → A' 55 (len + i) = sb (byE four i)) ∧ ∀ i, i < len ∨ len + 4 ≤ i → A' 55 i = A 55 i) := by
  refine QE.mk (by decide +kernel) (Nat.le_of_ble_eq_true rfl) ?_
  refine q_bipush eX12_comes_0 (by decide +kernel) ?_
  refine q_istore_n eX12_comes_2 (by decide) rfl ?_
  have h := lp_comes (A0 := A) hK hX h4 hl 4 0 A rfl Off.rfl' (fun i hi => absurd hi (by omega)) (fun _ _ => rfl)
  rw [show len + 0 = len from rfl, up2_self hlen] at h
  exact h
set_option maxRecDepth 20000 in
theorem mo_feed {va vb vc vd ve : Int} {p e r q N : Nat} {m : Int} {f : Nat → Int} {g : Int} {rt lg pl_ tp mk ck : Nat → Int} {len n dg : Nat} {fp set : Int} {w : Option (Nat → Int)} {S : List Int} {F : HF} {A : HA} {al : AL} (hK : KM al) (h0 : MI p e r q N m f g rt lg pl_ len tp fp n set dg mk ck w S F A) (hva : InR va) (hvb : InR vb) (hvc : InR vc) (hvd : InR vd) (hve : InR ve) : QE 1 0 0 mX12_feed [vA 44, vI va, vI vb, vI vc, vI vd, vI ve] F A al (PMR (some (if len ≤ 180 then ((len + 20 : Nat) : Int) else -1)) F A al (fun F2 A2 => MI p e r q N m f g rt lg pl_ (if len ≤ 180 then len + 20 else len) (if len ≤ 180 then fdE tp len va vb vc vd ve else tp) fp n set dg mk ck w S F2 A2)) := by
  refine QE.mk (by decide +kernel) (Nat.le_of_ble_eq_true rfl) ?_
  have hva_1 := hva.1
  have hva_2 := hva.2
  have hvb_1 := hvb.1
  have hvb_2 := hvb.2
  have hvc_1 := hvc.1
  have hvc_2 := hvc.2
  have hvd_1 := hvd.1
  have hvd_2 := hvd.2
  have hve_1 := hve.1
  have hve_2 := hve.2
  have h := h0.t0
  generalize hF0 : up2 F 44 0 (vI 0) = F1 at h
  have ht0 : F1 44 0 = vI 0 := by rw [← hF0]; exact up2_eq _ _ _ _
  have hoF : FOff SCF F F1 := by rw [← hF0]; exact FOff.up (by decide)
  obtain ⟨⟨hX, hT, h3r, hMH⟩, h2, ⟨hl0, hl1, hta⟩, h4, ⟨⟨h51, h52, h53⟩, h5m, h5c, ⟨hn1, hn63, hnq, hs0, hs1⟩, hdn⟩, h7, ⟨⟨h81, h82⟩, h83⟩⟩ := id h
  obtain ⟨hG, hp, he, hq, hN, hg, ⟨hp2, hp7, he1, he4, hme, hqe, hq3, hNm, hgE⟩, hP, hL, hR⟩ := id hT
  obtain ⟨hm, hr, hf, hm2, hr1, hr6, hN4⟩ := id hG
  have hm4 := hG.m4
  have hq2 := hT.q2
  have hN9 : (N : Int) ≤ 4096 := by rw [hNm]; exact hN4
  have hE : ∀ x : Int, 0 ≤ x ∧ x ≤ (N : Int) - 1 → El m r x := fun x h => ⟨h.1, by rw [← hNm]; omega⟩
  have hNp : 1 ≤ N := by have := el_one (m := m) (r := r) hm2 hr1; have := this.2; omega
  refine q_aload_n eX12_feed_0 rfl ?_
  refine q_iconst eX12_feed_1 ?_
  refine q_putfield eX12_feed_2 pf_X12_1 (hK _ (by decide) (by decide)) (by decide) (FT_i rfl) ?_
  rw [hF0]
  refine q_aload_n eX12_feed_5 rfl ?_
  refine q_getfield eX12_feed_6 gf_X12_214 (hK _ (by decide) (by decide)) (by decide) (by first | assumption) ?_
  refine q_bipush eX12_feed_9 (by decide +kernel) ?_
  refine q_iadd eX12_feed_11 ?_
  refine q_sipush eX12_feed_12 (by decide +kernel) ?_
  refine q_icmp_le (tgt := 20) eX12_feed_15 (by decide) (by first | assumption | exact ⟨by omega, by omega⟩) (by first | assumption | exact ⟨by omega, by omega⟩) (fun c15 => ?_) (fun c15 => ?_)
  · refine q_aload_n eX12_feed_20 rfl ?_
    refine q_iload_n eX12_feed_21 rfl ?_
    refine q_callV [vI va] (M1 := mX12_comes) eX12_feed_22 mf_X12_comes lk_X12_217 (hK _ (by decide) (by decide)) (mo_comes hK hX hva (show len + 4 ≤ 200 by omega) hl0) (by intro E F A al h; cases h.1) (by decide) (by decide) (by decide) (Nat.le_of_ble_eq_true rfl) (st := []) rfl (fun v9 F9 A9 al9 h9 => ?_)
    obtain ⟨e9, rfl, rfl, o1, a9, b9⟩ := h9
    obtain rfl := Sum.inl.inj e9
    have t1 := ap_TM hta a9 b9
    clear a9 b9
    have hX1 := hX.up (v := vI (len + 4 : Nat)) (show plainF mrefs 44 19 = true by decide)
    refine q_aload_n eX12_feed_25 rfl ?_
    refine q_iload_n eX12_feed_26 rfl ?_
    refine q_callV [vI vb] (M1 := mX12_comes) eX12_feed_27 mf_X12_comes lk_X12_217 (hK _ (by decide) (by decide)) (mo_comes hK hX1 hvb (show (len + 4) + 4 ≤ 200 by omega) (up2_eq _ _ _ _)) (by intro E F A al h; cases h.1) (by decide) (by decide) (by decide) (Nat.le_of_ble_eq_true rfl) (st := []) rfl (fun v9 F9 A9 al9 h9 => ?_)
    obtain ⟨e9, rfl, rfl, o2, a9, b9⟩ := h9
    obtain rfl := Sum.inl.inj e9
    have t2 := ap_TM t1 a9 b9
    clear a9 b9
    have hX2 := hX1.up (v := vI ((len + 4) + 4 : Nat)) (show plainF mrefs 44 19 = true by decide)
    rw [up2_up2] at hX2
    rw [up2_up2]
    refine q_aload_n eX12_feed_30 rfl ?_
    refine q_iload_n eX12_feed_31 rfl ?_
    refine q_callV [vI vc] (M1 := mX12_comes) eX12_feed_32 mf_X12_comes lk_X12_217 (hK _ (by decide) (by decide)) (mo_comes hK hX2 hvc (show (len + 4 + 4) + 4 ≤ 200 by omega) (up2_eq _ _ _ _)) (by intro E F A al h; cases h.1) (by decide) (by decide) (by decide) (Nat.le_of_ble_eq_true rfl) (st := []) rfl (fun v9 F9 A9 al9 h9 => ?_)
    obtain ⟨e9, rfl, rfl, o3, a9, b9⟩ := h9
    obtain rfl := Sum.inl.inj e9
    have t3 := ap_TM t2 a9 b9
    clear a9 b9
    have hX3 := hX2.up (v := vI ((len + 4 + 4) + 4 : Nat)) (show plainF mrefs 44 19 = true by decide)
    rw [up2_up2] at hX3
    rw [up2_up2]
    refine q_aload_n eX12_feed_35 rfl ?_
    refine q_iload eX12_feed_36 rfl ?_
    refine q_callV [vI vd] (M1 := mX12_comes) eX12_feed_38 mf_X12_comes lk_X12_217 (hK _ (by decide) (by decide)) (mo_comes hK hX3 hvd (show (len + 4 + 4 + 4) + 4 ≤ 200 by omega) (up2_eq _ _ _ _)) (by intro E F A al h; cases h.1) (by decide) (by decide) (by decide) (Nat.le_of_ble_eq_true rfl) (st := []) rfl (fun v9 F9 A9 al9 h9 => ?_)
    obtain ⟨e9, rfl, rfl, o4, a9, b9⟩ := h9
    obtain rfl := Sum.inl.inj e9
    have t4 := ap_TM t3 a9 b9
    clear a9 b9
    have hX4 := hX3.up (v := vI ((len + 4 + 4 + 4) + 4 : Nat)) (show plainF mrefs 44 19 = true by decide)
    rw [up2_up2] at hX4
    rw [up2_up2]
    refine q_aload_n eX12_feed_41 rfl ?_
    refine q_iload eX12_feed_42 rfl ?_
    refine q_callV [vI ve] (M1 := mX12_comes) eX12_feed_44 mf_X12_comes lk_X12_217 (hK _ (by decide) (by decide)) (mo_comes hK hX4 hve (show (len + 4 + 4 + 4 + 4) + 4 ≤ 200 by omega) (up2_eq _ _ _ _)) (by intro E F A al h; cases h.1) (by decide) (by decide) (by decide) (Nat.le_of_ble_eq_true rfl) (st := []) rfl (fun v9 F9 A9 al9 h9 => ?_)
    obtain ⟨e9, rfl, rfl, o5, a9, b9⟩ := h9
    obtain rfl := Sum.inl.inj e9
    have t5 := ap_TM t4 a9 b9
    clear a9 b9
    have hX5 := hX4.up (v := vI ((len + 4 + 4 + 4 + 4) + 4 : Nat)) (show plainF mrefs 44 19 = true by decide)
    rw [up2_up2] at hX5
    rw [up2_up2]
    refine q_aload_n eX12_feed_47 rfl ?_
    refine q_getfield eX12_feed_48 gf_X12_214 (hK _ (by decide) (by decide)) (by decide) (up2_eq _ _ _ _) ?_
    refine q_retI eX12_feed_51 rfl (by decide) (by decide) ?_
    have hl8 : len ≤ 180 := by omega
    have oA : Off [55] A A9 := (((o1.trans o2).trans o3).trans o4).trans o5
    have oF : FOff [(44, 19)] F1 (up2 F1 44 19 (vI (len + 4 + 4 + 4 + 4 + 4 : Nat))) := FOff.up (by decide)
    refine PMR_r (lF := (44, 19) :: SCF) (lA := [55]) (by rw [if_pos hl8]) ((oF 44 0 (by decide)).trans ht0) ((hoF.mono (by decide)).trans (oF.mono (by decide))) oA (by decide) (by decide) ?_
    rw [if_pos hl8, if_pos hl8]
    exact ⟨h.1.pres hX5 (oF.fe (by decide)) (oA.ae (by decide)), h.2.1.pres (oA.ae (by decide)), ⟨up2_eq _ _ _ _, by omega, t5⟩, h.2.2.2.1.pres (oF.fe (by decide)), h.2.2.2.2.1.pres (oF.fe (by decide)) (oA.ae (by decide)), h.2.2.2.2.2.1.pres (oF.fe (by decide)) (oA.ae (by decide)), h.2.2.2.2.2.2.pres (oF.fe (by decide)) (oA.ae (by decide))⟩
  · refine q_iconst eX12_feed_18 ?_
    refine q_retI eX12_feed_19 rfl (by decide) (by decide) ?_
    refine PMR_r (lF := SCF) (lA := []) (by rw [if_neg (show ¬ len ≤ 180 by omega)]) ht0 hoF Off.rfl' (by decide) (by decide) ?_
    rw [if_neg (show ¬ len ≤ 180 by omega), if_neg (show ¬ len ≤ 180 by omega)]
    exact h
