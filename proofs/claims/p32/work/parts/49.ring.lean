/-! RootedRing: ring, classes, code -/
abbrev rF (p e r : Nat) : Nat → Int := grE p e r (p ^ r) ((p : Int) ^ e) r
abbrev rG (p e r : Nat) : Int := gnE p e r (p ^ r) ((p : Int) ^ e) (rF p e r) (p ^ r - 1)
abbrev rL (p e r : Nat) : Nat → Int := lgE p r ((p : Int) ^ e) (rF p e r) (rG p e r) (p ^ r - 1)
def RH (p e r : Nat) : Prop := (∀ i, i < r → 0 ≤ rF p e r i ∧ rF p e r i < (p : Int) ^ e) ∧ rF p e r r = 1 ∧ MKok p r (p ^ r) ((p : Int) ^ e) (rF p e r) (rG p e r)
set_option maxRecDepth 20000 in
theorem ev_ringYes {p' e' r' : Nat} {p e r q N : Nat} {m : Int} {f : Nat → Int} {g : Int} {lg pl_ tp mk ck : Nat → Int} {len n dg : Nat} {fp set : Int} {w : Option (Nat → Int)} {S : List Int} {F : HF} {A : HA} {al : AL} (hK : KX al) (h : XI p e r q N m f g lg pl_ len tp fp n set dg mk ck w S F A) (hex : exO p' e' r') (hNN : (p' : Int) ^ (e' * r') ≤ 4096) (hR : RH p' e' r') : QE 7 0 0 mX11_ring [vA 1, vI p', vI e', vI r'] F A al (PXR eN (some (p' ^ (e' * r') : Nat)) F A al (fun F2 A2 => XI p' e' r' (p' ^ r') (p' ^ (e' * r')) ((p' : Int) ^ e') (rF p' e' r') (rG p' e' r') (rL p' e' r') (fun _ => 0) len tp fp 1 0 (cyE ((p' : Int) ^ e') r' (p' ^ r') 1 (rF p' e' r') (rG p' e' r') (paE p' 1 1).1 0 1).1 (cyE ((p' : Int) ^ e') r' (p' ^ r') 1 (rF p' e' r') (rG p' e' r') (paE p' 1 1).1 0 1).2.1 (cyE ((p' : Int) ^ e') r' (p' ^ r') 1 (rF p' e' r') (rG p' e' r') (paE p' 1 1).1 0 1).2.2 none S F2 A2)) := by
  refine QE.mk (by decide +kernel) (Nat.le_of_ble_eq_true rfl) ?_
  obtain ⟨⟨hX, hT, h3r, hMK⟩, h2, ⟨hl0, hl1, hta⟩, h4, ⟨⟨h51, h52, h53, h54⟩, h5m, h5c, ⟨hn1, hn63, hnq, hs0, hs1⟩, h5e⟩, h6, h7, ⟨⟨h81, h82⟩, h83⟩⟩ := id h
  obtain ⟨hG, hp, he, hq, hN, hg, ⟨hp2, hp7, he1, he4, hme, hqe, hq3, hNm, hgE⟩, hP, hL, hI⟩ := id hT
  obtain ⟨hm, hr, hf, hm2, hr1, hr6, hN4⟩ := id hG
  have hm4 := hG.m4
  have hq2 := hT.q2
  have hN9 : (N : Int) ≤ 4096 := by rw [hNm]; exact hN4
  have hdn : dg ≤ n := by
    have := cy_le (m := m) (r := r) (q := q) (n := n) (f := f) (g := g) (c := (paE p n n).1) (set := set) n
    rw [h5e] at this
    exact this
  have hE : ∀ x : Int, 0 ≤ x ∧ x < (N : Int) → El m r x := fun x h => ⟨h.1, by rw [← hNm]; exact h.2⟩
  have hp7' : p' ≤ 7 := by obtain ⟨q1, -⟩ := id hex; omega
  refine q_aload_n eX11_ring_0 rfl ?_
  refine q_getfield eX11_ring_1 gf_X11_10 (hK _ (by decide) (by decide)) (by decide) (xf_1_0 (by first | exact hX8 | exact hX9 | exact hX)) ?_
  refine q_iload_n eX11_ring_4 rfl ?_
  refine q_iload_n eX11_ring_5 rfl ?_
  refine q_iload_n eX11_ring_6 rfl ?_
  refine q_callV [vI p', vI e', vI r'] (M1 := mX2_become) eX11_ring_7 mf_X2_become lk_X11_78 (hK _ (by decide) (by decide)) (become_yes hK hX hex hNN hR.1) nt_PB (by decide) (by decide) (by decide) (Nat.le_of_ble_eq_true rfl) (st := []) rfl (fun v9 F9 A9 al9 h9 => ?_)
  obtain ⟨e9, rfl, f9, o9, hX9, hGX, htop⟩ := h9
  obtain rfl := Sum.inl.inj e9
  have hN9' : F9 2 5 = vI (p' ^ (e' * r') : Nat) := hGX.2.2.2.2.1
  have hp9 : F9 2 0 = vI p' := hGX.2.1
  refine q_if_ne (tgt := 15) eX11_ring_10 (by decide) (by first | assumption | exact ⟨by omega, by omega⟩) (fun c10 => ?_) (fun c10 => ?_)
  · refine q_aload_n eX11_ring_15 rfl ?_
    refine q_callV [] (M1 := mX11_clear) eX11_ring_16 mf_X11_clear lk_X11_82 (hK _ (by decide) (by decide)) (ev_clear hK hX9 hGX hp9 hp7') (by intro E F A al h; cases h.1) (by decide) (by decide) (by decide) (Nat.le_of_ble_eq_true rfl) (st := []) rfl (fun v9_ F9_ A9_ al9_ h9 => ?_)
    obtain ⟨e8, rfl, f8, o8, z8, x8, y8, w8⟩ := h9
    obtain rfl := Sum.inl.inj e8
    have hX8 := hX9.foff f8 (by decide)
    have hN8 : F9_ 2 5 = vI (p' ^ (e' * r') : Nat) := by rw [f8.row 2 (by decide)]; exact hN9'
    refine q_aload_n eX11_ring_19 rfl ?_
    refine q_getfield eX11_ring_20 gf_X11_10 (hK _ (by decide) (by decide)) (by decide) (xf_1_0 (by first | exact hX8 | exact hX9 | exact hX)) ?_
    refine q_getfield eX11_ring_23 gf_X11_85 (hK _ (by decide) (by decide)) (by decide) (by first | assumption) ?_
    refine q_retI eX11_ring_26 rfl (by decide) (by decide) ?_
    have f2 : FOff ([(2, 0), (2, 1), (2, 2), (2, 3), (2, 4), (2, 5), (2, 6), (24, 0), (24, 1), (27, 1), (27, 2), (27, 3), (27, 4), (30, 0), (36, 0)]) F F9_ := (f9.mono (by decide)).trans (f8.mono (by decide))
    have o2 : Off [3, 4, 5, 7, 8, 9, 10, 11, 12, 13, 14, 15, 16, 17, 25, 28, 29] A A9_ := (o9.mono (by simp)).trans (o8.mono (by simp))
    refine PXR_r rfl f2 o2 (by decide) (by decide) ?_
    refine ⟨⟨hX8, (hGX.off o8 (by decide) (by decide) (by decide) (fun j hj => by simp; omega)).row (f8.row 2 (by decide)), ?_, hR.2.2⟩, fun j hj => ⟨z8 j hj, el_zero (Int.pow_pos (by omega))⟩, h.2.2.1.pres (f2.fe (by decide)) (o2.ae (by decide)), h4.pres (f2.fe (by decide)), x8, Or.inl y8, ⟨?_, w8⟩, h.2.2.2.2.2.2.2.pres (f2.fe (by decide)) (o2.ae (by decide))⟩
    · rw [o8 3 (by decide)]; exact htop.trans hR.2.1
    · obtain ⟨⟨c0, hc0⟩, -⟩ := h7
      exact ⟨c0, fun j hj => by rw [o2 39 (by decide)]; exact hc0 j hj⟩
  · exact absurd c10 (by decide)
def clsE (p n : Nat) (i k : Int) : Option Int := if i = -1 then some (paE p n n).2 else if 0 ≤ i ∧ i < ((paE p n n).2 : Int) then (if k = -1 then some (ctn (fun j => decide ((paE p n n).1 j = i)) n : Nat) else if 0 ≤ k ∧ k < ((ctn (fun j => decide ((paE p n n).1 j = i)) n : Nat) : Int) then some (nthE (fun j => decide ((paE p n n).1 j = i)) k.toNat n 0) else none) else none
set_option maxRecDepth 20000 in
theorem ev_classes {a i k : Int} {p e r q N : Nat} {m : Int} {f : Nat → Int} {g : Int} {lg pl_ tp mk ck : Nat → Int} {len n dg : Nat} {fp set : Int} {w : Option (Nat → Int)} {S : List Int} {F : HF} {A : HA} {al : AL} (hK : KX al) (h : XI p e r q N m f g lg pl_ len tp fp n set dg mk ck w S F A) (ha : InR a) (hi : InR i) (hk : InR k) : QE 7 3 18 mX11_classes [vA 1, vI a, vI i, vI k] F A al (PXR eN (if (1 ≤ a ∧ a ≤ 63 ∧ ((q : Int) - 1) % a = 0) then clsE p a.toNat i k else none) F A al (fun F2 A2 => XI p e r q N m f g lg pl_ len tp fp n set dg mk ck w S F2 A2)) := by
  refine QE.mk (by decide +kernel) (Nat.le_of_ble_eq_true rfl) ?_
  have ha_1 := ha.1
  have ha_2 := ha.2
  have hi_1 := hi.1
  have hi_2 := hi.2
  have hk_1 := hk.1
  have hk_2 := hk.2
  obtain ⟨⟨hX, hT, h3r, hMK⟩, h2, ⟨hl0, hl1, hta⟩, h4, ⟨⟨h51, h52, h53, h54⟩, h5m, h5c, ⟨hn1, hn63, hnq, hs0, hs1⟩, h5e⟩, h6, h7, ⟨⟨h81, h82⟩, h83⟩⟩ := id h
  obtain ⟨hG, hp, he, hq, hN, hg, ⟨hp2, hp7, he1, he4, hme, hqe, hq3, hNm, hgE⟩, hP, hL, hI⟩ := id hT
  obtain ⟨hm, hr, hf, hm2, hr1, hr6, hN4⟩ := id hG
  have hm4 := hG.m4
  have hq2 := hT.q2
  have hN9 : (N : Int) ≤ 4096 := by rw [hNm]; exact hN4
  have hdn : dg ≤ n := by
    have := cy_le (m := m) (r := r) (q := q) (n := n) (f := f) (g := g) (c := (paE p n n).1) (set := set) n
    rw [h5e] at this
    exact this
  have hE : ∀ x : Int, 0 ≤ x ∧ x < (N : Int) → El m r x := fun x h => ⟨h.1, by rw [← hNm]; exact h.2⟩
  refine q_aload_n eX11_classes_0 rfl ?_
  refine q_getfield eX11_classes_1 gf_X11_10 (hK _ (by decide) (by decide)) (by decide) (xf_1_0 (by first | exact hX9 | exact hX)) ?_
  refine q_iload_n eX11_classes_4 rfl ?_
  refine q_callVP [vI a] (M1 := mX2_hasRootsOfOne) eX11_classes_5 mf_X2_hasRootsOfOne lk_X11_259 (hK _ (by decide) (by decide)) (ev_hasRootsOfOne hK hX hT ha) (by decide) (by decide) (by decide) (Nat.le_of_ble_eq_true rfl) rfl ?_
  refine q_need rfl eX11_classes_8 lk_X11_117 (by decide) (by decide) (by decide) ir_ite (fun n8 => ?_) (fun n8 => ?_)
  · refine PXR_t (lF := []) (lA := []) ?_ FOff.rfl' Off.rfl' (by decide) (by decide) h
    rw [if_neg (i0 n8)]
  · obtain ⟨t, rfl⟩ : ∃ t : Nat, a = t := ⟨a.toNat, by have := i1 n8; omega⟩
    have ha8 := i1 n8
    refine q_aload_n eX11_classes_11 rfl ?_
    refine q_getfield eX11_classes_12 gf_X11_40 (hK _ (by decide) (by decide)) (by decide) (xf_1_6 (by first | exact hX9 | exact hX)) ?_
    refine q_iload_n eX11_classes_15 rfl ?_
    refine q_aload_n eX11_classes_16 rfl ?_
    refine q_getfield eX11_classes_17 gf_X11_10 (hK _ (by decide) (by decide)) (by decide) (xf_1_0 (by first | exact hX9 | exact hX)) ?_
    refine q_getfield eX11_classes_20 gf_X11_131 (hK _ (by decide) (by decide)) (by decide) (by first | assumption) ?_
    refine q_callV [vI t, vI p] (M1 := mX4_become) eX11_classes_23 mf_X4_become lk_X11_262 (hK _ (by decide) (by decide)) (ev_partition (n := t) hK hX (by omega) (by omega) (by omega)) (by intro E F A al h; cases h.1) (by decide) (by decide) (by decide) (Nat.le_of_ble_eq_true rfl) (st := []) rfl (fun v9 F9 A9 al9 h9 => ?_)
    obtain ⟨e9, f9, rfl, o9, v9⟩ := h9
    obtain rfl := Sum.inl.inj e9
    have hF9 : FOff [(24, 0), (24, 1)] F F9 := by
      rw [f9]
      exact (FOff.up (by decide)).trans (FOff.up (by decide))
    have hX9 := hX.foff hF9 (by decide)
    have h24 : F9 24 0 = vI t := by rw [f9]; exact Eq.trans (up2_ne (by decide)) (up2_eq _ _ _ _)
    have h241 : F9 24 1 = vI (paE p t t).2 := by rw [f9]; exact up2_eq _ _ _ _
    clear f9
    have hpl := pa_le (p := p) (n := t) t
    have hv9 : ∀ j, j < t → A9 25 j = (paE p t t).1 j ∧ InR ((paE p t t).1 j) := fun j hj => ⟨v9 j (by omega), by have := pa_range (p := p) (n := t) t j; exact ⟨by omega, by omega⟩⟩
    have hXI := h.off hX9 hF9 o9 (by decide) (by decide)
    refine q_iload_n eX11_classes_26 rfl ?_
    refine q_iconst eX11_classes_27 ?_
    refine q_icmp_ne (tgt := 39) eX11_classes_28 (by decide) (by first | assumption | exact ⟨by omega, by omega⟩) (by first | assumption | exact ⟨by omega, by omega⟩) (fun c28 => ?_) (fun c28 => ?_)
    · refine q_iload_n eX11_classes_39 rfl ?_
      refine q_if_lt (tgt := 58) eX11_classes_40 (by decide) (by first | assumption | exact ⟨by omega, by omega⟩) (fun c40 => ?_) (fun c40 => ?_)
      · refine q_iconst eX11_classes_58 ?_
        refine q_need0 rfl eX11_classes_59 lk_X11_117 (by decide) (by decide) (by decide) ?_
        refine PXR_t ?_ hF9 o9 (by decide) (by decide) hXI
        rw [if_pos (i1 n8)]
        show clsE p t i k = _
        unfold clsE
        rw [if_neg (by omega), if_neg (by omega)]
      · refine q_iload_n eX11_classes_43 rfl ?_
        refine q_aload_n eX11_classes_44 rfl ?_
        refine q_getfield eX11_classes_45 gf_X11_40 (hK _ (by decide) (by decide)) (by decide) (xf_1_6 (by first | exact hX9 | exact hX)) ?_
        refine q_getfield eX11_classes_48 gf_X11_265 (hK _ (by decide) (by decide)) (by decide) (by first | assumption) ?_
        refine q_icmp_ge (tgt := 58) eX11_classes_51 (by decide) (by first | assumption | exact ⟨by omega, by omega⟩) (by first | assumption | exact ⟨by omega, by omega⟩) (fun c51 => ?_) (fun c51 => ?_)
        · refine q_iconst eX11_classes_58 ?_
          refine q_need0 rfl eX11_classes_59 lk_X11_117 (by decide) (by decide) (by decide) ?_
          refine PXR_t ?_ hF9 o9 (by decide) (by decide) hXI
          rw [if_pos (i1 n8)]
          show clsE p t i k = _
          unfold clsE
          rw [if_neg (by omega), if_neg (by omega)]
        · refine q_iconst eX11_classes_54 ?_
          refine q_goto (tgt := 59) eX11_classes_55 (by decide) ?_
          refine q_need1 rfl eX11_classes_59 lk_X11_117 (by decide) (by decide) (by decide) ?_
          refine q_iload_n eX11_classes_62 rfl ?_
          refine q_iconst eX11_classes_63 ?_
          refine q_icmp_ne (tgt := 76) eX11_classes_64 (by decide) (by first | assumption | exact ⟨by omega, by omega⟩) (by first | assumption | exact ⟨by omega, by omega⟩) (fun c64 => ?_) (fun c64 => ?_)
          · refine q_iload_n eX11_classes_76 rfl ?_
            refine q_if_lt (tgt := 96) eX11_classes_77 (by decide) (by first | assumption | exact ⟨by omega, by omega⟩) (fun c77 => ?_) (fun c77 => ?_)
            · refine q_iconst eX11_classes_96 ?_
              refine q_need0 rfl eX11_classes_97 lk_X11_117 (by decide) (by decide) (by decide) ?_
              refine PXR_t ?_ hF9 o9 (by decide) (by decide) hXI
              rw [if_pos (i1 n8)]
              show clsE p t i k = _
              unfold clsE
              rw [if_neg (by omega), if_pos (by omega), if_neg (by omega), if_neg (by omega)]
            · refine q_iload_n eX11_classes_80 rfl ?_
              refine q_aload_n eX11_classes_81 rfl ?_
              refine q_getfield eX11_classes_82 gf_X11_40 (hK _ (by decide) (by decide)) (by decide) (xf_1_6 (by first | exact hX9 | exact hX)) ?_
              refine q_iload_n eX11_classes_85 rfl ?_
              refine q_callVP [vI i] (M1 := mX4_sizeOf) eX11_classes_86 mf_X4_sizeOf lk_X11_268 (hK _ (by decide) (by decide)) (ev_sizeOf hK hX9 h24 (by omega) hv9 hi) (by decide) (by decide) (by decide) (Nat.le_of_ble_eq_true rfl) rfl ?_
              have hct := ctn_le (fun j => decide ((paE p t t).1 j = i)) t
              refine q_icmp_ge (tgt := 96) eX11_classes_89 (by decide) (by first | assumption | exact ⟨by omega, by omega⟩) (by first | assumption | exact ⟨by omega, by omega⟩) (fun c89 => ?_) (fun c89 => ?_)
              · refine q_iconst eX11_classes_96 ?_
                refine q_need0 rfl eX11_classes_97 lk_X11_117 (by decide) (by decide) (by decide) ?_
                refine PXR_t ?_ hF9 o9 (by decide) (by decide) hXI
                rw [if_pos (i1 n8)]
                show clsE p t i k = _
                unfold clsE
                rw [if_neg (by omega), if_pos (by omega), if_neg (by omega), if_neg (by omega)]
              · refine q_iconst eX11_classes_92 ?_
                refine q_goto (tgt := 97) eX11_classes_93 (by decide) ?_
                refine q_need1 rfl eX11_classes_97 lk_X11_117 (by decide) (by decide) (by decide) ?_
                obtain ⟨u, rfl⟩ : ∃ u : Nat, k = u := ⟨k.toNat, by omega⟩
                refine q_aload_n eX11_classes_100 rfl ?_
                refine q_getfield eX11_classes_101 gf_X11_40 (hK _ (by decide) (by decide)) (by decide) (xf_1_6 (by first | exact hX9 | exact hX)) ?_
                refine q_iload_n eX11_classes_104 rfl ?_
                refine q_iload_n eX11_classes_105 rfl ?_
                refine q_callVP [vI i, vI u] (M1 := mX4_member) eX11_classes_106 mf_X4_member lk_X11_271 (hK _ (by decide) (by decide)) (ev_member hK hX9 h24 (by omega) hv9 hi (by omega)) (by decide) (by decide) (by decide) (Nat.le_of_ble_eq_true rfl) rfl ?_
                refine q_retI eX11_classes_109 rfl (by decide) (by decide) ?_
                refine PXR_r ?_ hF9 o9 (by decide) (by decide) hXI
                rw [if_pos (i1 n8)]
                show clsE p t i u = _
                unfold clsE
                rw [if_neg (by omega), if_pos (by omega), if_neg (by omega), if_pos (by omega)]
                rfl
          · refine q_aload_n eX11_classes_67 rfl ?_
            refine q_getfield eX11_classes_68 gf_X11_40 (hK _ (by decide) (by decide)) (by decide) (xf_1_6 (by first | exact hX9 | exact hX)) ?_
            refine q_iload_n eX11_classes_71 rfl ?_
            refine q_callVP [vI i] (M1 := mX4_sizeOf) eX11_classes_72 mf_X4_sizeOf lk_X11_268 (hK _ (by decide) (by decide)) (ev_sizeOf hK hX9 h24 (by omega) hv9 hi) (by decide) (by decide) (by decide) (Nat.le_of_ble_eq_true rfl) rfl ?_
            refine q_retI eX11_classes_75 rfl (by decide) (by decide) ?_
            refine PXR_r ?_ hF9 o9 (by decide) (by decide) hXI
            rw [if_pos (i1 n8)]
            show clsE p t i k = _
            unfold clsE
            rw [if_neg (by omega), if_pos (by omega), if_pos (by omega)]
    · refine q_aload_n eX11_classes_31 rfl ?_
      refine q_getfield eX11_classes_32 gf_X11_40 (hK _ (by decide) (by decide)) (by decide) (xf_1_6 (by first | exact hX9 | exact hX)) ?_
      refine q_getfield eX11_classes_35 gf_X11_265 (hK _ (by decide) (by decide)) (by decide) (by first | assumption) ?_
      refine q_retI eX11_classes_38 rfl (by decide) (by decide) ?_
      refine PXR_r ?_ hF9 o9 (by decide) (by decide) hXI
      rw [if_pos (i1 n8)]
      show clsE p t i k = _
      unfold clsE
      rw [if_pos (by omega)]
abbrev codOk (p q : Nat) (a s : Int) : Prop := (1 ≤ a ∧ a ≤ 63 ∧ ((q : Int) - 1) % a = 0) ∧ 0 ≤ s ∧ ¬ ((paE p a.toNat a.toNat).2 ≤ 30 ∧ s / 2 ^ (paE p a.toNat a.toNat).2 ≠ 0)
set_option maxRecDepth 20000 in
theorem ev_code {a s : Int} {p e r q N : Nat} {m : Int} {f : Nat → Int} {g : Int} {lg pl_ tp mk ck : Nat → Int} {len n dg : Nat} {fp set : Int} {w : Option (Nat → Int)} {S : List Int} {F : HF} {A : HA} {al : AL} (hK : KX al) (h : XI p e r q N m f g lg pl_ len tp fp n set dg mk ck w S F A) (ha : InR a) (hs : InR s) : QE 7 0 0 mX11_code [vA 1, vI a, vI s] F A al (PXR eN (some (if codOk p q a s then ((a.toNat - (cyE m r q a.toNat f g (paE p a.toNat a.toNat).1 s a.toNat).1 : Nat) : Int) else -1)) F A al (fun F2 A2 => if codOk p q a s then XI p e r q N m f g lg pl_ len tp fp a.toNat s (cyE m r q a.toNat f g (paE p a.toNat a.toNat).1 s a.toNat).1 (cyE m r q a.toNat f g (paE p a.toNat a.toNat).1 s a.toNat).2.1 (cyE m r q a.toNat f g (paE p a.toNat a.toNat).1 s a.toNat).2.2 none S F2 A2 else XI p e r q N m f g lg pl_ len tp fp n set dg mk ck w S F2 A2)) := by
  refine QE.mk (by decide +kernel) (Nat.le_of_ble_eq_true rfl) ?_
  have ha_1 := ha.1
  have ha_2 := ha.2
  have hs_1 := hs.1
  have hs_2 := hs.2
  obtain ⟨⟨hX, hT, h3r, hMK⟩, h2, ⟨hl0, hl1, hta⟩, h4, ⟨⟨h51, h52, h53, h54⟩, h5m, h5c, ⟨hn1, hn63, hnq, hs0, hs1⟩, h5e⟩, h6, h7, ⟨⟨h81, h82⟩, h83⟩⟩ := id h
  obtain ⟨hG, hp, he, hq, hN, hg, ⟨hp2, hp7, he1, he4, hme, hqe, hq3, hNm, hgE⟩, hP, hL, hI⟩ := id hT
  obtain ⟨hm, hr, hf, hm2, hr1, hr6, hN4⟩ := id hG
  have hm4 := hG.m4
  have hq2 := hT.q2
  have hN9 : (N : Int) ≤ 4096 := by rw [hNm]; exact hN4
  have hdn : dg ≤ n := by
    have := cy_le (m := m) (r := r) (q := q) (n := n) (f := f) (g := g) (c := (paE p n n).1) (set := set) n
    rw [h5e] at this
    exact this
  have hE : ∀ x : Int, 0 ≤ x ∧ x < (N : Int) → El m r x := fun x h => ⟨h.1, by rw [← hNm]; exact h.2⟩
  refine q_aload_n eX11_code_0 rfl ?_
  refine q_getfield eX11_code_1 gf_X11_10 (hK _ (by decide) (by decide)) (by decide) (xf_1_0 (by first | exact hX8 | exact hX9 | exact hX)) ?_
  refine q_iload_n eX11_code_4 rfl ?_
  refine q_callVP [vI a] (M1 := mX2_hasRootsOfOne) eX11_code_5 mf_X2_hasRootsOfOne lk_X11_259 (hK _ (by decide) (by decide)) (ev_hasRootsOfOne hK hX hT ha) (by decide) (by decide) (by decide) (Nat.le_of_ble_eq_true rfl) rfl ?_
  refine q_if_eq (tgt := 15) eX11_code_8 (by decide) ir_ite (fun c8 => ?_) (fun c8 => ?_)
  · refine q_iconst eX11_code_15 ?_
    refine q_retI eX11_code_16 rfl (by decide) (by decide) ?_
    have hC : ¬ codOk p q a s := by
      rintro ⟨q1, q2, -⟩
      first | exact i0 c8 q1 | omega
    refine PXR_r (lF := []) (lA := []) (by rw [if_neg hC]) FOff.rfl' Off.rfl' (by decide) (by decide) ?_
    rw [if_neg hC]
    exact h
  · refine q_iload_n eX11_code_11 rfl ?_
    refine q_if_ge (tgt := 17) eX11_code_12 (by decide) (by first | assumption | exact ⟨by omega, by omega⟩) (fun c12 => ?_) (fun c12 => ?_)
    · obtain ⟨t, rfl⟩ : ∃ t : Nat, a = t := ⟨a.toNat, by have := i1 c8; omega⟩
      have ha8 := i1 c8
      refine q_aload_n eX11_code_17 rfl ?_
      refine q_getfield eX11_code_18 gf_X11_40 (hK _ (by decide) (by decide)) (by decide) (xf_1_6 (by first | exact hX8 | exact hX9 | exact hX)) ?_
      refine q_iload_n eX11_code_21 rfl ?_
      refine q_aload_n eX11_code_22 rfl ?_
      refine q_getfield eX11_code_23 gf_X11_10 (hK _ (by decide) (by decide)) (by decide) (xf_1_0 (by first | exact hX8 | exact hX9 | exact hX)) ?_
      refine q_getfield eX11_code_26 gf_X11_131 (hK _ (by decide) (by decide)) (by decide) (by first | assumption) ?_
      refine q_callV [vI t, vI p] (M1 := mX4_become) eX11_code_29 mf_X4_become lk_X11_262 (hK _ (by decide) (by decide)) (ev_partition (n := t) hK hX (by omega) (by omega) (by omega)) (by intro E F A al h; cases h.1) (by decide) (by decide) (by decide) (Nat.le_of_ble_eq_true rfl) (st := []) rfl (fun v9 F9 A9 al9 h9 => ?_)
      obtain ⟨e9, f9, rfl, o9, v9⟩ := h9
      obtain rfl := Sum.inl.inj e9
      have hF9 : FOff [(24, 0), (24, 1)] F F9 := by
        rw [f9]
        exact (FOff.up (by decide)).trans (FOff.up (by decide))
      have hX9 := hX.foff hF9 (by decide)
      have h24 : F9 24 0 = vI t := by rw [f9]; exact Eq.trans (up2_ne (by decide)) (up2_eq _ _ _ _)
      have h241 : F9 24 1 = vI (paE p t t).2 := by rw [f9]; exact up2_eq _ _ _ _
      clear f9
      have hpl := pa_le (p := p) (n := t) t
      have hv9 : ∀ j, j < t → A9 25 j = (paE p t t).1 j ∧ InR ((paE p t t).1 j) := fun j hj => ⟨v9 j (by omega), by have := pa_range (p := p) (n := t) t j; exact ⟨by omega, by omega⟩⟩
      have hXI := h.off hX9 hF9 o9 (by decide) (by decide)
      have hT9 : GT p e r q N m f g lg F9 A9 := (hT.off o9 (by decide) (by decide) (by decide) (fun j hj => by simp; omega)).row (hF9.row 2 (by decide))
      have hm8 : (q - 1) % t = 0 := by
        have e1 : ((q : Int) - 1) % (t : Int) = (((q - 1) % t : Nat) : Int) := by rw [Int.natCast_emod]; congr 1; omega
        omega
      refine q_aload_n eX11_code_32 rfl ?_
      refine q_getfield eX11_code_33 gf_X11_40 (hK _ (by decide) (by decide)) (by decide) (xf_1_6 (by first | exact hX8 | exact hX9 | exact hX)) ?_
      refine q_getfield eX11_code_36 gf_X11_265 (hK _ (by decide) (by decide)) (by decide) (by first | assumption) ?_
      refine q_bipush eX11_code_39 (by decide +kernel) ?_
      refine q_icmp_gt (tgt := 58) eX11_code_41 (by decide) (by first | assumption | exact ⟨by omega, by omega⟩) (by first | assumption | exact ⟨by omega, by omega⟩) (fun c41 => ?_) (fun c41 => ?_)
      · refine q_aload_n eX11_code_58 rfl ?_
        refine q_iload_n eX11_code_59 rfl ?_
        refine q_callV [vI s] (M1 := mX11_choose) eX11_code_60 mf_X11_choose lk_X11_274 (hK _ (by decide) (by decide)) (ev_choose (n := t) (set := s) hK hX9 hT9 (by omega) (by omega) hm8 (by omega) (by omega) h24 v9) (by intro E F A al h; cases h.1) (by decide) (by decide) (by decide) (Nat.le_of_ble_eq_true rfl) (st := []) rfl (fun v9_ F9_ A9_ al9_ h9 => ?_)
        obtain ⟨e8, rfl, f8, o8, x8, y8, z8⟩ := h9
        obtain rfl := Sum.inl.inj e8
        have hX8 := hX9.foff f8 (by decide)
        have h273 := x8.1.2.2.1
        refine q_aload_n eX11_code_63 rfl ?_
        refine q_getfield eX11_code_64 gf_X11_58 (hK _ (by decide) (by decide)) (by decide) (xf_1_7 (by first | exact hX8 | exact hX9 | exact hX)) ?_
        refine q_getfield eX11_code_67 gf_X11_156 (hK _ (by decide) (by decide)) (by decide) (by first | assumption) ?_
        refine q_retI eX11_code_70 rfl (by decide) (by decide) ?_
        have hC : codOk p q t s := ⟨ha8, by omega, by
          rintro ⟨q1, q2⟩
          have q1' : (paE p t t).2 ≤ 30 := q1
          first | omega | exact q2 c53⟩
        have f2 : FOff [(24, 0), (24, 1), (27, 1), (27, 2), (27, 3), (27, 4), (30, 0), (36, 0)] F F9_ := (hF9.mono (by decide)).trans (f8.mono (by decide))
        have o2 : Off [13, 14, 15, 25, 28, 29] A A9_ := (o9.mono (by simp)).trans (o8.mono (by simp))
        refine PXR_r (by rw [if_pos hC]; rfl) f2 o2 (by decide) (by decide) ?_
        rw [if_pos hC]
        refine ⟨h.1.pres hX8 (f2.fe (by decide)) (o2.ae (by decide)), h2.pres (o2.ae (by decide)), h.2.2.1.pres (f2.fe (by decide)) (o2.ae (by decide)), h4.pres (f2.fe (by decide)), x8, Or.inl y8, ⟨?_, z8⟩, h.2.2.2.2.2.2.2.pres (f2.fe (by decide)) (o2.ae (by decide))⟩
        obtain ⟨⟨c0, hc0⟩, -⟩ := h7
        exact ⟨c0, fun j hj => by rw [o2 39 (by decide)]; exact hc0 j hj⟩
      · refine q_iload_n eX11_code_44 rfl ?_
        refine q_aload_n eX11_code_45 rfl ?_
        refine q_getfield eX11_code_46 gf_X11_40 (hK _ (by decide) (by decide)) (by decide) (xf_1_6 (by first | exact hX8 | exact hX9 | exact hX)) ?_
        refine q_getfield eX11_code_49 gf_X11_265 (hK _ (by decide) (by decide)) (by decide) (by first | assumption) ?_
        refine q_ishr eX11_code_52 hs (n := (paE p t t).2) rfl (by omega) ?_
        have hsr : InR (s / 2 ^ (paE p t t).2) := by
          have q1 := Int.ediv_nonneg (a := s) (b := 2 ^ (paE p t t).2) (by omega) (Int.pow_nonneg (by decide))
          have q2 := Int.ediv_le_self (2 ^ (paE p t t).2) (show 0 ≤ s by omega)
          have q3 := hs.2
          exact ⟨by omega, by omega⟩
        refine q_if_eq (tgt := 58) eX11_code_53 (by decide) hsr (fun c53 => ?_) (fun c53 => ?_)
        · refine q_aload_n eX11_code_58 rfl ?_
          refine q_iload_n eX11_code_59 rfl ?_
          refine q_callV [vI s] (M1 := mX11_choose) eX11_code_60 mf_X11_choose lk_X11_274 (hK _ (by decide) (by decide)) (ev_choose (n := t) (set := s) hK hX9 hT9 (by omega) (by omega) hm8 (by omega) (by omega) h24 v9) (by intro E F A al h; cases h.1) (by decide) (by decide) (by decide) (Nat.le_of_ble_eq_true rfl) (st := []) rfl (fun v9_ F9_ A9_ al9_ h9 => ?_)
          obtain ⟨e8, rfl, f8, o8, x8, y8, z8⟩ := h9
          obtain rfl := Sum.inl.inj e8
          have hX8 := hX9.foff f8 (by decide)
          have h273 := x8.1.2.2.1
          refine q_aload_n eX11_code_63 rfl ?_
          refine q_getfield eX11_code_64 gf_X11_58 (hK _ (by decide) (by decide)) (by decide) (xf_1_7 (by first | exact hX8 | exact hX9 | exact hX)) ?_
          refine q_getfield eX11_code_67 gf_X11_156 (hK _ (by decide) (by decide)) (by decide) (by first | assumption) ?_
          refine q_retI eX11_code_70 rfl (by decide) (by decide) ?_
          have hC : codOk p q t s := ⟨ha8, by omega, by
            rintro ⟨q1, q2⟩
            have q1' : (paE p t t).2 ≤ 30 := q1
            first | omega | exact q2 c53⟩
          have f2 : FOff [(24, 0), (24, 1), (27, 1), (27, 2), (27, 3), (27, 4), (30, 0), (36, 0)] F F9_ := (hF9.mono (by decide)).trans (f8.mono (by decide))
          have o2 : Off [13, 14, 15, 25, 28, 29] A A9_ := (o9.mono (by simp)).trans (o8.mono (by simp))
          refine PXR_r (by rw [if_pos hC]; rfl) f2 o2 (by decide) (by decide) ?_
          rw [if_pos hC]
          refine ⟨h.1.pres hX8 (f2.fe (by decide)) (o2.ae (by decide)), h2.pres (o2.ae (by decide)), h.2.2.1.pres (f2.fe (by decide)) (o2.ae (by decide)), h4.pres (f2.fe (by decide)), x8, Or.inl y8, ⟨?_, z8⟩, h.2.2.2.2.2.2.2.pres (f2.fe (by decide)) (o2.ae (by decide))⟩
          obtain ⟨⟨c0, hc0⟩, -⟩ := h7
          exact ⟨c0, fun j hj => by rw [o2 39 (by decide)]; exact hc0 j hj⟩
        · refine q_iconst eX11_code_56 ?_
          refine q_retI eX11_code_57 rfl (by decide) (by decide) ?_
          have hC : ¬ codOk p q t s := by
            rintro ⟨-, -, q3⟩
            exact q3 ⟨by show (paE p t t).2 ≤ 30; omega, c53⟩
          refine PXR_r (by rw [if_neg hC]) hF9 o9 (by decide) (by decide) ?_
          rw [if_neg hC]
          exact hXI
    · refine q_iconst eX11_code_15 ?_
      refine q_retI eX11_code_16 rfl (by decide) (by decide) ?_
      have hC : ¬ codOk p q a s := by
        rintro ⟨q1, q2, -⟩
        first | exact i0 c8 q1 | omega
      refine PXR_r (lF := []) (lA := []) (by rw [if_neg hC]) FOff.rfl' Off.rfl' (by decide) (by decide) ?_
      rw [if_neg hC]
      exact h
