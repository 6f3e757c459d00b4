/-! RootedRing: tell -/
theorem rd_ok {rs : Nat → Int} {p e r q N n : Nat} {m : Int} {f : Nat → Int} {g : Int} {lg tp pl_ : Nat → Int} {F : HF} {A : HA} (hC : CX p e r q N n m f g lg tp pl_ F A) (hr9 : 0 ≤ rs 9 ∧ rs 9 ≤ 10000) : El m r (rdE p e r q n m f g lg tp pl_ rs).1 ∧ RI n (rdE p e r q n m f g lg tp pl_ rs).2 := by
  have z1 : (0 : Int) ≤ 0 ∧ (0 : Int) ≤ 201 := ⟨by decide, by decide⟩
  have I2 : RI n (nxE n tp (rsE0 n rs)) := RI_next0 rfl z1 hr9 (show (0 : Int) ≤ 0 ∧ (0 : Int) ≤ 3 from ⟨by decide, by decide⟩) (show (-1 : Int) ≤ -1 ∧ (-1 : Int) ≤ 200 from ⟨by decide, by decide⟩) (Or.inl rfl) hC.2.2.1 hC.2.2.2.1 (show (0 : Int) ≤ n by omega)
  have I3 := tms_ok (f := f) (at_ok hC 8) hC.2.1.1.2.2.2.1 hC.2.1.1.2.2.2.2.1 hC.2.2.1 hC.2.2.2.1 _ I2
  have hre : tmsE n tp m r f (atE p e r q n m f g lg tp pl_ 8) (nxE n tp (rsE0 n rs)) = reE p e r q n m f g lg tp pl_ rs := rfl
  rw [hre] at I3
  unfold rdE
  split
  · exact I3
  · exact ⟨I3.1, I3.2.fail hC.2.2.2.1 ⟨by decide, by decide⟩⟩
/-- what tell answers, by what the reader came to -/
def tlA (s : Int × (Nat → Int)) : Int := if 0 < s.2 0 then -10 - s.2 0 else if s.2 2 = 0 then s.1 else -2
def tlP (s : Int × (Nat → Int)) (i : Nat) (pl_ : Nat → Int) : Nat → Int := if 0 < s.2 0 then pl_ else if s.2 2 = 0 then upc pl_ i s.1 else pl_
abbrev tlC (len : Nat) (i k : Int) : Prop := (0 ≤ i ∧ i < 8) ∧ 0 ≤ k ∧ k ≤ (len : Int)
def PTL (rs0 : (Nat → Int) → Prop) (P : (Nat → Int) → PO) : PO := fun o F' A' al' => ∃ rs, rs0 rs ∧ P rs o F' A' al'
set_option maxRecDepth 20000 in
set_option maxHeartbeats 1000000 in
theorem ev_tell {i kk : Int} {p e r q N : Nat} {m : Int} {f : Nat → Int} {g : Int} {lg pl_ tp mk ck : Nat → Int} {len n dg : Nat} {fp set : Int} {w : Option (Nat → Int)} {S : List Int} {F : HF} {A : HA} {al : AL} (hK : KX al) (h : XI p e r q N m f g lg pl_ len tp fp n set dg mk ck w S F A) (hi : InR i) (hkk : InR kk) : QE 51 1 6 mX11_tell [vA 1, vI i, vI kk] F A al (PTL (fun rs => RD rs F ∧ 0 ≤ rs 9 ∧ rs 9 ≤ 10000) (fun rs => PXR eI (if tlC len i kk then some (tlA (rdE p e r q kk.toNat m f g lg tp pl_ rs)) else none) F A al (fun F2 A2 => XI p e r q N m f g lg (if tlC len i kk then tlP (rdE p e r q kk.toNat m f g lg tp pl_ rs) i.toNat pl_ else pl_) (if tlC len i kk then 0 else len) tp (if tlC len i kk then (rdE p e r q kk.toNat m f g lg tp pl_ rs).2 1 else fp) n set dg mk ck w S F2 A2))) := by
  refine QE.mk (by decide +kernel) (Nat.le_of_ble_eq_true rfl) ?_
  obtain ⟨⟨hX, hT, h3r, hMK⟩, h2, ⟨hl0, hl1, hta⟩, h4, ⟨⟨h51, h52, h53, h54⟩, h5m, h5c, ⟨hn1, hn63, hnq, hs0, hs1⟩, h5e⟩, h6, h7, ⟨⟨h81, h82⟩, h83⟩⟩ := id h
  obtain ⟨hG, hp, he, hq, hN, hg, ⟨hp2, hp7, he1, he4, hme, hqe, hq3, hNm, hgE⟩, hP, hL, hI⟩ := id hT
  obtain ⟨hm, hr, hf, hm2, hr1, hr6, hN4⟩ := id hG
  have hm4 := hG.m4
  have hq2 := hT.q2
  have hN9 : (N : Int) ≤ 4096 := by rw [hNm]; exact hN4
  have hdn : dg ≤ n := by
    have := cy_le (m := m) (r := r) (q := q) (n := n) (f := f) (g := g) (c := (paE p n n).1) (set := set) n
    rw [h5e] at this
    exact this
  have hE : ∀ x : Int, 0 ≤ x ∧ x < (N : Int) → El m r x := fun x h => ⟨h.1, by rw [← hNm]; exact h.2⟩
  obtain ⟨rs, hrd, hfp, hr9⟩ := h4
  have h4 : X4 fp F := ⟨rs, hrd, hfp, hr9⟩
  refine q_iload_n eX11_tell_0 rfl ?_
  refine q_if_lt (tgt := 25) eX11_tell_1 (by decide) (by first | assumption | exact ⟨by omega, by omega⟩) (fun c1 => ?_) (fun c1 => ?_)
  · refine q_throw0 rfl rfl (by decide +kernel) cl_i in_i th_i th_ot_i (by decide) eX11_tell_25 eX11_tell_28 eX11_tell_29 eX11_tell_32 (by decide) (by decide) (by decide) ?_
    have hCC : ¬ tlC len i kk := by
      rintro ⟨⟨q1, q2⟩, q3, q4⟩
      omega
    refine ⟨rs, ⟨hrd, hr9⟩, PXR_t (lF := []) (lA := []) (by rw [if_neg hCC]) FOff.rfl' Off.rfl' (by decide) (by decide) ?_⟩
    rw [if_neg hCC, if_neg hCC, if_neg hCC]
    exact h
  · refine q_iload_n eX11_tell_4 rfl ?_
    refine q_bipush eX11_tell_5 (by decide +kernel) ?_
    refine q_icmp_ge (tgt := 25) eX11_tell_7 (by decide) (by first | assumption | exact ⟨by omega, by omega⟩) (by first | assumption | exact ⟨by omega, by omega⟩) (fun c7 => ?_) (fun c7 => ?_)
    · refine q_throw0 rfl rfl (by decide +kernel) cl_i in_i th_i th_ot_i (by decide) eX11_tell_25 eX11_tell_28 eX11_tell_29 eX11_tell_32 (by decide) (by decide) (by decide) ?_
      have hCC : ¬ tlC len i kk := by
        rintro ⟨⟨q1, q2⟩, q3, q4⟩
        omega
      refine ⟨rs, ⟨hrd, hr9⟩, PXR_t (lF := []) (lA := []) (by rw [if_neg hCC]) FOff.rfl' Off.rfl' (by decide) (by decide) ?_⟩
      rw [if_neg hCC, if_neg hCC, if_neg hCC]
      exact h
    · refine q_iload_n eX11_tell_10 rfl ?_
      refine q_if_lt (tgt := 25) eX11_tell_11 (by decide) (by first | assumption | exact ⟨by omega, by omega⟩) (fun c11 => ?_) (fun c11 => ?_)
      · refine q_throw0 rfl rfl (by decide +kernel) cl_i in_i th_i th_ot_i (by decide) eX11_tell_25 eX11_tell_28 eX11_tell_29 eX11_tell_32 (by decide) (by decide) (by decide) ?_
        have hCC : ¬ tlC len i kk := by
          rintro ⟨⟨q1, q2⟩, q3, q4⟩
          omega
        refine ⟨rs, ⟨hrd, hr9⟩, PXR_t (lF := []) (lA := []) (by rw [if_neg hCC]) FOff.rfl' Off.rfl' (by decide) (by decide) ?_⟩
        rw [if_neg hCC, if_neg hCC, if_neg hCC]
        exact h
      · refine q_iload_n eX11_tell_14 rfl ?_
        refine q_aload_n eX11_tell_15 rfl ?_
        refine q_getfield eX11_tell_16 gf_X11_26 (hK _ (by decide) (by decide)) (by decide) (xf_1_3 (by first | exact hX9 | exact hX8 | exact hX)) ?_
        refine q_getfield eX11_tell_19 gf_X11_89 (hK _ (by decide) (by decide)) (by decide) (by first | assumption) ?_
        refine q_icmp_le (tgt := 33) eX11_tell_22 (by decide) (by first | assumption | exact ⟨by omega, by omega⟩) (by first | assumption | exact ⟨by omega, by omega⟩) (fun c22 => ?_) (fun c22 => ?_)
        · obtain ⟨t, rfl⟩ : ∃ t : Nat, i = t := ⟨i.toNat, by omega⟩
          obtain ⟨k, rfl⟩ : ∃ k : Nat, kk = k := ⟨kk.toNat, by omega⟩
          have hC : CX p e r q N k m f g lg tp pl_ F A := ⟨hX, hT, hta, by omega, h2⟩
          obtain ⟨g1, g2⟩ := rd_ok hC hr9
          have g3 := g1.lt hN4
          obtain ⟨j6, j7, j10, j8, j9, j7r, j0, j1, j2⟩ := id g2
          refine q_aload_n eX11_tell_33 rfl ?_
          refine q_getfield eX11_tell_34 gf_X11_49 (hK _ (by decide) (by decide)) (by decide) (xf_1_4 (by first | exact hX9 | exact hX8 | exact hX)) ?_
          refine q_iload_n eX11_tell_37 rfl ?_
          refine q_callV [vI k] (M1 := mX5_read) eX11_tell_38 mf_X5_read lk_X11_99 (hK _ (by decide) (by decide)) (ev_read hK hC hrd hr9) nt_PRD (by decide) (by decide) (by decide) (Nat.le_of_ble_eq_true rfl) (st := []) rfl (fun v9 F9 A9 al9 h9 => ?_)
          obtain ⟨e9, rfl, o9, f9, r9⟩ := h9
          obtain rfl := Sum.inl.inj e9
          have hX8 := hX.foff f9 (by decide)
          have hX9 := hX8.up (v := vI 0) (show plainF xrefs 19 0 = true by decide)
          have f8 := (f9.mono (l' := L4F ++ [(19, 0)]) (by decide)).trans (FOff.up (a := 19) (k := 0) (v := vI 0) (by decide))
          have q0 := (up2_row (F := F9) (k := 0) (v := vI 0) (show 26 ≠ 19 by decide)).trans rfl
          have r0 : up2 F9 19 0 (vI 0) 26 0 = vI ((rdE p e r q k m f g lg tp pl_ rs).2 0) := by rw [up2_row (by decide)]; exact r9 0 (by decide)
          have r2 : up2 F9 19 0 (vI 0) 26 2 = vI ((rdE p e r q k m f g lg tp pl_ rs).2 2) := by rw [up2_row (by decide)]; exact r9 2 (by decide)
          have r8 : RD (rdE p e r q k m f g lg tp pl_ rs).2 (up2 F9 19 0 (vI 0)) := fun z hz => by rw [up2_row (by decide)]; exact r9 z hz
          have hCC : tlC len t k := ⟨by omega, by omega⟩
          clear q0
          refine q_istore_n eX11_tell_41 (by decide) rfl ?_
          refine q_aload_n eX11_tell_42 rfl ?_
          refine q_getfield eX11_tell_43 gf_X11_26 (hK _ (by decide) (by decide)) (by decide) (xf_1_3 (by first | exact hX9 | exact hX8 | exact hX)) ?_
          refine q_iconst eX11_tell_46 ?_
          refine q_putfield eX11_tell_47 pf_X11_89 (hK _ (by decide) (by decide)) (by decide) (FT_i rfl) ?_
          refine q_aload_n eX11_tell_50 rfl ?_
          refine q_getfield eX11_tell_51 gf_X11_49 (hK _ (by decide) (by decide)) (by decide) (xf_1_4 (by first | exact hX9 | exact hX8 | exact hX)) ?_
          refine q_getfield eX11_tell_54 gf_X11_103 (hK _ (by decide) (by decide)) (by decide) (by first | assumption) ?_
          refine q_if_le (tgt := 71) eX11_tell_57 (by decide) (by first | assumption | exact ⟨by omega, by omega⟩) (fun c57 => ?_) (fun c57 => ?_)
          · refine q_aload_n eX11_tell_71 rfl ?_
            refine q_getfield eX11_tell_72 gf_X11_49 (hK _ (by decide) (by decide)) (by decide) (xf_1_4 (by first | exact hX9 | exact hX8 | exact hX)) ?_
            refine q_getfield eX11_tell_75 gf_X11_106 (hK _ (by decide) (by decide)) (by decide) (by first | assumption) ?_
            refine q_if_eq (tgt := 84) eX11_tell_78 (by decide) (by first | assumption | exact ⟨by omega, by omega⟩) (fun c78 => ?_) (fun c78 => ?_)
            · refine q_aload_n eX11_tell_84 rfl ?_
              refine q_getfield eX11_tell_85 gf_X11_16 (hK _ (by decide) (by decide)) (by decide) (xf_1_1 (by first | exact hX9 | exact hX8 | exact hX)) ?_
              refine q_iload_n eX11_tell_88 rfl ?_
              refine q_iload_n eX11_tell_89 rfl ?_
              refine q_iast eX11_tell_90 (hK _ (by decide) (by decide)) (by omega) (by omega) ?_
              refine q_iload_n eX11_tell_91 rfl ?_
              refine q_retI eX11_tell_92 rfl (by decide) (by decide) ?_
              have o8 := (o9.mono (l' := [13, 14, 15, 17]) (by simp)).trans (Off.up (A := A9) (a := 17) (i := t) (v := (rdE p e r q k m f g lg tp pl_ rs).1) (by simp))
              refine ⟨rs, ⟨hrd, hr9⟩, PXR_r (lF := L4F ++ [(19, 0)]) (lA := [13, 14, 15, 17]) (by rw [if_pos hCC]; show some (tlA (rdE p e r q k m f g lg tp pl_ rs)) = _; unfold tlA; rw [if_neg (by omega), if_pos (by omega)]) f8 o8 (by decide) (by decide) ?_⟩
              rw [if_pos hCC, if_pos hCC, if_pos hCC]
              refine ⟨h.1.pres hX9 (f8.fe (by decide)) (o8.ae (by decide)), ?_, ⟨up2_eq _ _ _ _, by omega, fun j hj => by rw [show up2 A9 17 (t : Int).toNat (rdE p e r q k m f g lg tp pl_ rs).1 20 = A 20 from (up2_row (by decide)).trans (o9 20 (by decide))]; exact hta j hj⟩, ⟨_, r8, rfl, j9⟩, h.2.2.2.2.1.pres (f8.fe (by decide)) (o8.ae (by decide)), h6.pres (f8.fe (by decide)) (o8.ae (by decide)), h7.pres (f8.fe (by decide)) (o8.ae (by decide)), h.2.2.2.2.2.2.2.pres (f8.fe (by decide)) (o8.ae (by decide))⟩
              show X2 m r (tlP (rdE p e r q k m f g lg tp pl_ rs) t pl_) _
              unfold tlP
              rw [if_neg (by omega), if_pos (by omega)]
              intro j hj
              show up2 A9 17 (t : Int).toNat (rdE p e r q k m f g lg tp pl_ rs).1 17 j = upc pl_ t (rdE p e r q k m f g lg tp pl_ rs).1 j ∧ El m r (upc pl_ t (rdE p e r q k m f g lg tp pl_ rs).1 j)
              rw [show (t : Int).toNat = t from rfl, up2_at]
              unfold upc
              by_cases hjt : j = t
              · rw [if_pos hjt, if_pos hjt]; exact ⟨rfl, g1⟩
              · rw [if_neg hjt, if_neg hjt, o9 17 (by decide)]; exact h2 j hj
            · refine q_bipush eX11_tell_81 (by decide +kernel) ?_
              refine q_retI eX11_tell_83 rfl (by decide) (by decide) ?_
              refine ⟨rs, ⟨hrd, hr9⟩, PXR_r (lF := L4F ++ [(19, 0)]) (lA := [13, 14, 15]) (by rw [if_pos hCC]; show some (tlA (rdE p e r q k m f g lg tp pl_ rs)) = _; unfold tlA; rw [if_neg (by omega), if_neg (by omega)]) f8 o9 (by decide) (by decide) ?_⟩
              rw [if_pos hCC, if_pos hCC, if_pos hCC]
              refine ⟨h.1.pres hX9 (f8.fe (by decide)) (o9.ae (by decide)), ?_, ⟨up2_eq _ _ _ _, by omega, fun j hj => by rw [o9 20 (by decide)]; exact hta j hj⟩, ⟨_, r8, rfl, j9⟩, h.2.2.2.2.1.pres (f8.fe (by decide)) (o9.ae (by decide)), h6.pres (f8.fe (by decide)) (o9.ae (by decide)), h7.pres (f8.fe (by decide)) (o9.ae (by decide)), h.2.2.2.2.2.2.2.pres (f8.fe (by decide)) (o9.ae (by decide))⟩
              show X2 m r (tlP (rdE p e r q k m f g lg tp pl_ rs) t pl_) A9
              unfold tlP
              rw [if_neg (by omega), if_neg (by omega)]
              exact h2.pres (o9.ae (by decide))
          · refine q_bipush eX11_tell_60 (by decide +kernel) ?_
            refine q_aload_n eX11_tell_62 rfl ?_
            refine q_getfield eX11_tell_63 gf_X11_49 (hK _ (by decide) (by decide)) (by decide) (xf_1_4 (by first | exact hX9 | exact hX8 | exact hX)) ?_
            refine q_getfield eX11_tell_66 gf_X11_103 (hK _ (by decide) (by decide)) (by decide) (by first | assumption) ?_
            refine q_isub eX11_tell_69 ?_
            refine q_retI eX11_tell_70 rfl (by decide) (by decide) ?_
            refine ⟨rs, ⟨hrd, hr9⟩, PXR_r (lF := L4F ++ [(19, 0)]) (lA := [13, 14, 15]) (by rw [if_pos hCC]; show some (tlA (rdE p e r q k m f g lg tp pl_ rs)) = _; unfold tlA; rw [if_pos (by omega)]) f8 o9 (by decide) (by decide) ?_⟩
            rw [if_pos hCC, if_pos hCC, if_pos hCC]
            refine ⟨h.1.pres hX9 (f8.fe (by decide)) (o9.ae (by decide)), ?_, ⟨up2_eq _ _ _ _, by omega, fun j hj => by rw [o9 20 (by decide)]; exact hta j hj⟩, ⟨_, r8, rfl, j9⟩, h.2.2.2.2.1.pres (f8.fe (by decide)) (o9.ae (by decide)), h6.pres (f8.fe (by decide)) (o9.ae (by decide)), h7.pres (f8.fe (by decide)) (o9.ae (by decide)), h.2.2.2.2.2.2.2.pres (f8.fe (by decide)) (o9.ae (by decide))⟩
            show X2 m r (tlP (rdE p e r q k m f g lg tp pl_ rs) t pl_) A9
            unfold tlP
            rw [if_pos (by omega)]
            exact h2.pres (o9.ae (by decide))
        · refine q_throw0 rfl rfl (by decide +kernel) cl_i in_i th_i th_ot_i (by decide) eX11_tell_25 eX11_tell_28 eX11_tell_29 eX11_tell_32 (by decide) (by decide) (by decide) ?_
          have hCC : ¬ tlC len i kk := by
            rintro ⟨⟨q1, q2⟩, q3, q4⟩
            omega
          refine ⟨rs, ⟨hrd, hr9⟩, PXR_t (lF := []) (lA := []) (by rw [if_neg hCC]) FOff.rfl' Off.rfl' (by decide) (by decide) ?_⟩
          rw [if_neg hCC, if_neg hCC, if_neg hCC]
          exact h
