/-! Reader: numbers, factors -/
def PRQ (s : Int × (Nat → Int)) (F : HF) (A : HA) (al : AL) : PO := fun o F' A' al' => o = .inl (some s.1) ∧ al' = al ∧ Off [13, 14, 15] A A' ∧ FOff [(26, 0), (26, 1), (26, 2), (26, 7), (26, 8), (26, 9), (26, 10)] F F' ∧ RD s.2 F'
theorem nt_PRQ {s : Int × (Nat → Int)} {F : HF} {A : HA} {al : AL} : NT (PRQ s F A al) := by intro E F A al h; cases h.1
section CallR
variable {M M1 : MT} {d d1 mc ms nc ns pc idx : Nat} {Post : PO} {L : List (Option LV)} {st : List LV} {F : HF} {A : HA} {al : AL}
theorem q_callVR (as : List LV) {s : Int × (Nat → Int)} {b ci n : Nat} (hd : decode M.2.1 pc = .ok (.invokevirtual idx, 3)) (hm : MF M1 as.length) (hw : CV M.1.cls idx M1 ci) (hk : al.1 b = (ci + 10, n)) (ev : QE d1 0 0 M1 (vA b :: as) F A al (PRQ s F A al)) (hd1 : d1 < d) (hm1 : nc ≤ mc) (hm2 : ns ≤ ms) (hr : catS st ≤ 8)
    {st0 : List LV} (hst0 : st0 = as.reverse ++ vA b :: st) (k : ∀ (F' : HF) (A' : HA), Off [13, 14, 15] A A' → FOff [(26, 0), (26, 1), (26, 2), (26, 7), (26, 8), (26, 9), (26, 10)] F F' → RD s.2 F' → QW M d mc ms Post nc ns (pc + 3) L (vI s.1 :: st) F' A' al) : QW M d mc ms Post nc ns pc L st0 F A al :=
  q_callV as hd hm hw hk ev nt_PRQ hd1 hm1 hm2 hr hst0 (fun v F' A' al' h => by
    obtain ⟨e, rfl, h1, h2, h3⟩ := h
    obtain rfl := Sum.inl.inj e
    exact k F' A' h1 h2 h3)
theorem q_callVU (as : List LV) {rs : Nat → Int} {b ci n : Nat} (hd : decode M.2.1 pc = .ok (.invokevirtual idx, 3)) (hm : MF M1 as.length) (hw : CV M.1.cls idx M1 ci) (hk : al.1 b = (ci + 10, n)) (ev : QE d1 0 0 M1 (vA b :: as) F A al (PRV rs F A al)) (hd1 : d1 < d) (hm1 : nc ≤ mc) (hm2 : ns ≤ ms) (hr : catS st ≤ 8)
    {st0 : List LV} (hst0 : st0 = as.reverse ++ vA b :: st) (k : ∀ (F' : HF), FOff [(26, 0), (26, 1), (26, 2), (26, 7), (26, 8), (26, 9), (26, 10)] F F' → RD rs F' → QW M d mc ms Post nc ns (pc + 3) L st F' A al) : QW M d mc ms Post nc ns pc L st0 F A al :=
  q_callV as hd hm hw hk ev nt_PRV hd1 hm1 hm2 hr hst0 (fun v F' A' al' h => by
    obtain ⟨e, rfl, rfl, h2, h3⟩ := h
    obtain rfl := Sum.inl.inj e
    exact k F' h2 h3)
end CallR
def RI (n : Nat) (rs : Nat → Int) : Prop := rs 6 = n ∧ (rs 7 = 257 ∨ rs 10 ≤ n) ∧ (0 ≤ rs 10 ∧ rs 10 ≤ 201) ∧ (0 ≤ rs 8 ∧ rs 8 ≤ n) ∧ (0 ≤ rs 9 ∧ rs 9 ≤ 10000) ∧ (0 ≤ rs 7 ∧ rs 7 ≤ 257) ∧ (0 ≤ rs 0 ∧ rs 0 ≤ 3) ∧ (-1 ≤ rs 1 ∧ rs 1 ≤ 200) ∧ (rs 2 = 0 ∨ rs 2 = 1)
theorem RI_next0 {n : Nat} {tp rs : Nat → Int} {A : HA} (a1 : rs 6 = n) (a3 : 0 ≤ rs 10 ∧ rs 10 ≤ 201) (a5 : 0 ≤ rs 9 ∧ rs 9 ≤ 10000) (a7 : 0 ≤ rs 0 ∧ rs 0 ≤ 3) (a8 : -1 ≤ rs 1 ∧ rs 1 ≤ 200) (a9 : rs 2 = 0 ∨ rs 2 = 1) (ht : TA tp A) (hn : n ≤ 200) (h7 : rs 10 ≤ n) : RI n (nxE n tp rs) := by
  have hs := sks_le (n := n) (tp := tp) (n - (rs 10).toNat) (rs 10).toNat (by omega)
  unfold nxE
  generalize sks n tp (n - (rs 10).toNat) (rs 10).toNat = f at hs ⊢
  have hb := bA_range ht hn f
  unfold n8E
  split
  · have hg := fgs_range (n := n) (tp := tp) (n - f) f 0 (by omega) (by decide) (by decide)
    refine ⟨a1, Or.inr ?_, ⟨?_, ?_⟩, ⟨?_, ?_⟩, ⟨?_, ?_⟩, (show (0 : Int) ≤ 256 ∧ (256 : Int) ≤ 257 from ⟨by decide, by decide⟩), a7, a8, a9⟩
    · show ((fgs n tp (n - f) f 0).1 : Int) ≤ n; omega
    · show 0 ≤ ((fgs n tp (n - f) f 0).1 : Int); omega
    · show ((fgs n tp (n - f) f 0).1 : Int) ≤ 201; omega
    · show (0 : Int) ≤ f; omega
    · show (f : Int) ≤ n; omega
    · exact hg.2.2.1
    · exact hg.2.2.2
  · refine ⟨a1, ?_, ⟨?_, ?_⟩, ⟨?_, ?_⟩, a5, hb, a7, a8, a9⟩
    · show bA n tp f = 257 ∨ ((f + 1 : Nat) : Int) ≤ n
      by_cases hf : f < n
      · exact Or.inr (by omega)
      · exact Or.inl (if_neg hf)
    · show 0 ≤ ((f + 1 : Nat) : Int); omega
    · show ((f + 1 : Nat) : Int) ≤ 201; omega
    · show (0 : Int) ≤ f; omega
    · show (f : Int) ≤ n; omega
theorem RI.next {n : Nat} {tp rs : Nat → Int} {A : HA} (h : RI n rs) (ht : TA tp A) (hn : n ≤ 200) (h7 : rs 10 ≤ n) : RI n (nxE n tp rs) := by
  obtain ⟨a1, a2, a3, a4, a5, a6, a7, a8, a9⟩ := h
  exact RI_next0 a1 a3 a5 a7 a8 a9 ht hn h7
theorem RI.fail {n : Nat} {rs : Nat → Int} {w : Int} (h : RI n rs) (hn : n ≤ 200) (hw : 0 ≤ w ∧ w ≤ 3) : RI n (failE rs w) := by
  unfold failE
  split
  · obtain ⟨a1, a2, a3, a4, a5, a6, a7, a8, a9⟩ := h
    exact ⟨a1, a2, a3, a4, a5, a6, hw, ⟨by show -1 ≤ rs 8; omega, by show rs 8 ≤ 200; omega⟩, a9⟩
  · exact h
/-- the reader's surroundings -/
def CX (p e r q N n : Nat) (m : Int) (f : Nat → Int) (g : Int) (lg tp pl_ : Nat → Int) (F : HF) (A : HA) : Prop := XF F ∧ GT p e r q N m f g lg F A ∧ TA tp A ∧ n ≤ 200 ∧ ∀ j, j < 8 → A 17 j = pl_ j ∧ El m r (pl_ j)
theorem CX.pres {p e r q N n : Nat} {m : Int} {f : Nat → Int} {g : Int} {lg tp pl_ : Nat → Int} {F F2 : HF} {A A2 : HA} (h : CX p e r q N n m f g lg tp pl_ F A) (hF : FOff [(26, 0), (26, 1), (26, 2), (26, 7), (26, 8), (26, 9), (26, 10)] F F2) (hA : Off [13, 14, 15] A A2) : CX p e r q N n m f g lg tp pl_ F2 A2 := by
  obtain ⟨h1, h2, h3, h4, h5⟩ := h
  refine ⟨h1.foff hF (by decide), (h2.row (hF.row 2 (by decide))).s3 hA, fun j hj => ?_, h4, fun j hj => ?_⟩
  · rw [hA 20 (by decide)]; exact h3 j hj
  · rw [hA 17 (by decide)]; exact h5 j hj
def figE (n : Nat) (tp : Nat → Int) (most : Int) (rs : Nat → Int) : Int × (Nat → Int) := if rs 7 = 256 then (if most < rs 9 then (0, failE rs 2) else (rs 9, nxE n tp rs)) else (0, failE rs 1)
theorem fig_ok {n : Nat} {tp rs : Nat → Int} {most : Int} {A : HA} (h : RI n rs) (ht : TA tp A) (hn : n ≤ 200) (hm : 0 ≤ most) : (0 ≤ (figE n tp most rs).1 ∧ (figE n tp most rs).1 ≤ most) ∧ RI n (figE n tp most rs).2 := by
  unfold figE
  split
  · next h7 =>
    split
    · exact ⟨⟨Int.le_refl _, hm⟩, h.fail hn ⟨by decide, by decide⟩⟩
    · exact ⟨⟨h.2.2.2.2.1.1, by show rs 9 ≤ most; omega⟩, h.next ht hn (by rcases h.2.1 with q | q; omega; exact q)⟩
  · exact ⟨⟨Int.le_refl _, hm⟩, h.fail hn ⟨by decide, by decide⟩⟩
set_option maxRecDepth 20000 in
theorem ev_figuresR {rs : Nat → Int} {most : Int} {p e r q N n : Nat} {m : Int} {f : Nat → Int} {g : Int} {lg tp pl_ : Nat → Int} {F : HF} {A : HA} {al : AL} (hK : KX al) (hC : CX p e r q N n m f g lg tp pl_ F A) (h : RD rs F) (hI : RI n rs) (hm0 : 0 ≤ most) (hm1 : most ≤ 9999) : QE 4 0 0 mX5_figures [vA 26, vI most] F A al (PRQ (figE n tp most rs) F A al) := by
  refine QE.mk (by decide +kernel) (Nat.le_of_ble_eq_true rfl) ?_
  obtain ⟨hX, hT, ht, hn, hpl⟩ := id hC
  obtain ⟨i6, i7, i10, i8, i9, i7r, i0, i1, i2⟩ := id hI
  refine q_aload_n eX5_figures_0 rfl ?_
  refine q_getfield eX5_figures_1 gf_X5_25 (hK _ (by decide) (by decide)) (by decide) (h 7 (by decide)) ?_
  refine q_sipush eX5_figures_4 (by decide +kernel) ?_
  refine q_icmp_eq (tgt := 17) eX5_figures_7 (by decide) (by first | assumption | exact ⟨by omega, by omega⟩) (by first | assumption | exact ⟨by omega, by omega⟩) (fun c7 => ?_) (fun c7 => ?_)
  · refine q_aload_n eX5_figures_17 rfl ?_
    refine q_getfield eX5_figures_18 gf_X5_31 (hK _ (by decide) (by decide)) (by decide) (h 9 (by decide)) ?_
    refine q_iload_n eX5_figures_21 rfl ?_
    refine q_icmp_le (tgt := 32) eX5_figures_22 (by decide) (by first | assumption | exact ⟨by omega, by omega⟩) (by first | assumption | exact ⟨by omega, by omega⟩) (fun c22 => ?_) (fun c22 => ?_)
    · refine q_aload_n eX5_figures_32 rfl ?_
      refine q_getfield eX5_figures_33 gf_X5_31 (hK _ (by decide) (by decide)) (by decide) (h 9 (by decide)) ?_
      refine q_istore_n eX5_figures_36 (by decide) rfl ?_
      refine q_aload_n eX5_figures_37 rfl ?_
      refine q_callVU [] (M1 := mX5_next) eX5_figures_38 mf_X5_next lk_X5_49 (hK _ (by decide) (by decide)) (ev_next hK hX ht hn i6 h (show rs 10 = ((rs 10).toNat : Int) by omega) (by omega)) (by decide) (by decide) (by decide) (Nat.le_of_ble_eq_true rfl) rfl (fun F9 f9 r9 => ?_)
      refine q_iload_n eX5_figures_41 rfl ?_
      refine q_retI eX5_figures_42 rfl (by decide) (by decide) ?_
      first
      | (rw [show figE n tp most rs = (0, failE rs 1) from if_neg c7]
         exact ⟨rfl, rfl, Off.rfl', f9, r9⟩)
      | (rw [show figE n tp most rs = (0, failE rs 2) from (if_pos c7).trans (if_pos (by omega))]
         exact ⟨rfl, rfl, Off.rfl', f9, r9⟩)
      | (rw [show figE n tp most rs = (rs 9, nxE n tp rs) from (if_pos c7).trans (if_neg (by omega))]
         exact ⟨rfl, rfl, Off.rfl', f9, r9⟩)
    · refine q_aload_n eX5_figures_25 rfl ?_
      refine q_iconst eX5_figures_26 ?_
      refine q_callVU [vI 2] (M1 := mX5_fail) eX5_figures_27 mf_X5_fail lk_X5_56 (hK _ (by decide) (by decide)) (ev_fail hK h ⟨by omega, by omega⟩) (by decide) (by decide) (by decide) (Nat.le_of_ble_eq_true rfl) rfl (fun F9 f9 r9 => ?_)
      refine q_iconst eX5_figures_30 ?_
      refine q_retI eX5_figures_31 rfl (by decide) (by decide) ?_
      first
      | (rw [show figE n tp most rs = (0, failE rs 1) from if_neg c7]
         exact ⟨rfl, rfl, Off.rfl', f9, r9⟩)
      | (rw [show figE n tp most rs = (0, failE rs 2) from (if_pos c7).trans (if_pos (by omega))]
         exact ⟨rfl, rfl, Off.rfl', f9, r9⟩)
      | (rw [show figE n tp most rs = (rs 9, nxE n tp rs) from (if_pos c7).trans (if_neg (by omega))]
         exact ⟨rfl, rfl, Off.rfl', f9, r9⟩)
  · refine q_aload_n eX5_figures_10 rfl ?_
    refine q_iconst eX5_figures_11 ?_
    refine q_callVU [vI 1] (M1 := mX5_fail) eX5_figures_12 mf_X5_fail lk_X5_56 (hK _ (by decide) (by decide)) (ev_fail hK h ⟨by omega, by omega⟩) (by decide) (by decide) (by decide) (Nat.le_of_ble_eq_true rfl) rfl (fun F9 f9 r9 => ?_)
    refine q_iconst eX5_figures_15 ?_
    refine q_retI eX5_figures_16 rfl (by decide) (by decide) ?_
    first
    | (rw [show figE n tp most rs = (0, failE rs 1) from if_neg c7]
       exact ⟨rfl, rfl, Off.rfl', f9, r9⟩)
    | (rw [show figE n tp most rs = (0, failE rs 2) from (if_pos c7).trans (if_pos (by omega))]
       exact ⟨rfl, rfl, Off.rfl', f9, r9⟩)
    | (rw [show figE n tp most rs = (rs 9, nxE n tp rs) from (if_pos c7).trans (if_neg (by omega))]
       exact ⟨rfl, rfl, Off.rfl', f9, r9⟩)
