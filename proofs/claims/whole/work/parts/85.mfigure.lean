/-! the model's reading: numbers, going in -/
section CallN
variable {M M1 : MT} {d d1 mc ms nc ns pc idx : Nat} {Post : PO} {L : List (Option LV)} {st : List LV} {F : HF} {A : HA} {al : AL}
theorem q_callVN (as : List LV) {s : Int × (Nat → Int)} {b ci n : Nat} (hd : decode M.2.1 pc = .ok (.invokevirtual idx, 3)) (hm : MF M1 as.length) (hw : CV M.1.cls idx M1 ci) (hk : al.1 b = (ci + 10, n)) (ev : QE d1 0 0 M1 (vA b :: as) F A al (PRN s F A al)) (hd1 : d1 < d) (hm1 : nc ≤ mc) (hm2 : ns ≤ ms) (hr : catS st ≤ 8)
    {st0 : List LV} (hst0 : st0 = as.reverse ++ vA b :: st) (k : ∀ (F' : HF) (A' : HA), Off SAQ A A' → FOff LQ F F' → RDM s.2 F' → QW M d mc ms Post nc ns (pc + 3) L (vI s.1 :: st) F' A' al) : QW M d mc ms Post nc ns pc L st0 F A al :=
  q_callV as hd hm hw hk ev nt_PRN hd1 hm1 hm2 hr hst0 (fun v F' A' al' h => by
    obtain ⟨e, rfl, h1, h2, h3⟩ := h
    obtain rfl := Sum.inl.inj e
    exact k F' A' h1 h2 h3)
theorem q_callVM (as : List LV) {rs : Nat → Int} {b ci n : Nat} (hd : decode M.2.1 pc = .ok (.invokevirtual idx, 3)) (hm : MF M1 as.length) (hw : CV M.1.cls idx M1 ci) (hk : al.1 b = (ci + 10, n)) (ev : QE d1 0 0 M1 (vA b :: as) F A al (PRM rs F A al)) (hd1 : d1 < d) (hm1 : nc ≤ mc) (hm2 : ns ≤ ms) (hr : catS st ≤ 8)
    {st0 : List LV} (hst0 : st0 = as.reverse ++ vA b :: st) (k : ∀ (F' : HF), FOff LQ F F' → RDM rs F' → QW M d mc ms Post nc ns (pc + 3) L st F' A al) : QW M d mc ms Post nc ns pc L st0 F A al :=
  q_callV as hd hm hw hk ev nt_PRM hd1 hm1 hm2 hr hst0 (fun v F' A' al' h => by
    obtain ⟨e, rfl, rfl, h2, h3⟩ := h
    obtain rfl := Sum.inl.inj e
    exact k F' h2 h3)
theorem q_callVC (as : List LV) {c w : Int} {rs : Nat → Int} {b ci n : Nat} (hd : decode M.2.1 pc = .ok (.invokevirtual idx, 3)) (hm : MF M1 as.length) (hw : CV M.1.cls idx M1 ci) (hk : al.1 b = (ci + 10, n)) (ev : QE d1 0 0 M1 (vA b :: as) F A al (fun o F' A' al' => o = .inl (some (if (chM c w rs) 26 = 0 then 1 else 0)) ∧ al' = al ∧ A' = A ∧ FOff LQ F F' ∧ RDM (chM c w rs) F')) (hd1 : d1 < d) (hm1 : nc ≤ mc) (hm2 : ns ≤ ms) (hr : catS st ≤ 8)
    {st0 : List LV} (hst0 : st0 = as.reverse ++ vA b :: st) (k : ∀ (F' : HF), FOff LQ F F' → RDM (chM c w rs) F' → QW M d mc ms Post nc ns (pc + 3) L (vI (if (chM c w rs) 26 = 0 then 1 else 0) :: st) F' A al) : QW M d mc ms Post nc ns pc L st0 F A al :=
  q_callV as hd hm hw hk ev (by intro E F A al h; cases h.1) hd1 hm1 hm2 hr hst0 (fun v F' A' al' h => by
    obtain ⟨e, rfl, rfl, h2, h3⟩ := h
    obtain rfl := Sum.inl.inj e
    exact k F' h2 h3)
end CallN
def CM (p e r q N n : Nat) (m : Int) (f : Nat → Int) (g : Int) (rt lg tp pl_ : Nat → Int) (F : HF) (A : HA) : Prop := MR F ∧ GY p e r q N m f g rt lg F A ∧ TM tp A ∧ n ≤ 200 ∧ (∀ j, j < 8 → A 49 j = pl_ j ∧ El m r (pl_ j)) ∧ 1 ≤ umE N q
theorem CM.pres {p e r q N n : Nat} {m : Int} {f : Nat → Int} {g : Int} {rt lg tp pl_ : Nat → Int} {F F2 : HF} {A A2 : HA} (h : CM p e r q N n m f g rt lg tp pl_ F A) (hF : FOff LQ F F2) (hA : Off SAQ A A2) : CM p e r q N n m f g rt lg tp pl_ F2 A2 := by
  obtain ⟨h1, h2, h3, h4, h5, h6⟩ := h
  refine ⟨h1.foff hF (by decide), (h2.off hA (by decide) (by decide) (by decide) (by decide)).row (F2 := F2) (fun k hk => hF 44 k (by simp only [List.mem_cons, List.not_mem_nil, or_false] at hk; rcases hk with rfl | rfl | rfl | rfl | rfl | rfl | rfl <;> decide)), fun j hj => ?_, h4, fun j hj => ?_, h6⟩
  · rw [hA 55 (by decide)]; exact h3 j hj
  · rw [hA 49 (by decide)]; exact h5 j hj
def RIM (n : Nat) (rs : Nat → Int) : Prop := rs 20 = n ∧ (0 ≤ rs 21 ∧ rs 21 ≤ n) ∧ (0 ≤ rs 22 ∧ rs 22 ≤ n) ∧ (0 ≤ rs 23 ∧ rs 23 ≤ 1002) ∧ (0 ≤ rs 24 ∧ rs 24 ≤ 1000000) ∧ (0 ≤ rs 25 ∧ rs 25 ≤ 8) ∧ (0 ≤ rs 26 ∧ rs 26 ≤ 3) ∧ (-1 ≤ rs 27 ∧ rs 27 ≤ 200) ∧ (rs 28 = 0 ∨ rs 28 = 1) ∧ (rs 29 = 0 ∨ rs 29 = 1) ∧ (rs 26 = 0 → rs 27 = -1)
def mu (n : Nat) (rs : Nat → Int) : Nat := (n - (rs 21).toNat) + (if rs 23 = 1002 then 0 else 1)
/-- what a step of the reading keeps -/
def KT (n : Nat) (rs rs2 : Nat → Int) : Prop := RIM n rs2 ∧ rs2 25 = rs 25 ∧ rs2 28 = rs 28 ∧ mu n rs2 ≤ mu n rs
theorem KT.refl {n : Nat} {rs : Nat → Int} (h : RIM n rs) : KT n rs rs := ⟨h, rfl, rfl, Nat.le_refl _⟩
theorem KT.trans {n : Nat} {a b c : Nat → Int} (h : KT n a b) (h2 : KT n b c) : KT n a c := ⟨h2.1, h2.2.1.trans h.2.1, h2.2.2.1.trans h.2.2.1, Nat.le_trans h2.2.2.2 h.2.2.2⟩
theorem chm_ok {n : Nat} {rs : Nat → Int} {b w : Int} (h : RIM n rs) (hn : n ≤ 200) (hw : 1 ≤ w ∧ w ≤ 3) : KT n rs (chM b w rs) := by
  unfold chM
  split
  · obtain ⟨a1, a2, a3, a4, a5, a6, a7, a8, a9⟩ := h
    exact ⟨⟨a1, a2, a3, a4, a5, a6, ⟨by show 0 ≤ w; omega, hw.2⟩, ⟨by show -1 ≤ rs 22; omega, by show rs 22 ≤ 200; omega⟩, a9.1, a9.2.1, fun h0 => absurd (show w = 0 from h0) (by omega)⟩, rfl, rfl, Nat.le_refl _⟩
  · exact KT.refl h
theorem ch_23 {rs : Nat → Int} {b w : Int} : chM b w rs 23 = rs 23 := by
  unfold chM
  split <;> rfl
theorem ch_24 {rs : Nat → Int} {b w : Int} : chM b w rs 24 = rs 24 := by
  unfold chM
  split <;> rfl
theorem ch_b {rs : Nat → Int} {b w : Int} (hw : w ≠ 0) (h : chM b w rs 26 = 0) : b ≠ 0 := by
  intro hb
  unfold chM at h
  split at h
  · exact hw h
  · next hc => exact hc ⟨h, hb⟩
theorem go_ok {n : Nat} {tp rs : Nat → Int} {A : HA} (h : RIM n rs) (ht : TM tp A) (hn : n ≤ 200) (h23 : rs 23 ≠ 1002) : KT n rs (gxM n tp rs) ∧ mu n (gxM n tp rs) < mu n rs := by
  obtain ⟨a1, a2, a3, a4, a5, a6, a7, a8, a9, a10⟩ := h
  have hs := skM_le (n := n) (tp := tp) (n - (rs 21).toNat) (rs 21).toNat (by omega)
  have hmu : mu n rs = (n - (rs 21).toNat) + 1 := by unfold mu; rw [if_neg h23]
  unfold gxM
  generalize skM n tp (n - (rs 21).toNat) (rs 21).toNat = f at hs ⊢
  have hb := bM_range ht hn f
  unfold g8M
  split
  · next hf =>
    have hm : mu n (upc (upc (upc rs 21 f) 22 f) 23 1002) = 0 := by
      show (n - ((f : Nat) : Int).toNat) + 0 = 0
      omega
    refine ⟨⟨⟨a1, ⟨by show (0 : Int) ≤ f; omega, by show (f : Int) ≤ n; omega⟩, ⟨by show (0 : Int) ≤ f; omega, by show (f : Int) ≤ n; omega⟩, (show (0 : Int) ≤ 1002 ∧ (1002 : Int) ≤ 1002 from ⟨by decide, by decide⟩), a5, a6, a7, a8, a9, a10⟩, rfl, rfl, by omega⟩, by omega⟩
  · next hf =>
    split
    · next hfig =>
      obtain ⟨k, hk⟩ : ∃ k, n - f = k + 1 := ⟨n - f - 1, by omega⟩
      have hg := fgM_range (n := n) (tp := tp) (n - f) f 0 (by omega) (by decide) (by decide)
      have hg2 : f + 1 ≤ (fgM n tp (n - f) f 0).1 := by
        rw [hk]
        have e : fgM n tp (k + 1) f 0 = fgM n tp k (f + 1) (min 1000000 (10 * 0 + bM n tp f - 48)) := if_pos hfig
        rw [e]
        exact (fgM_range (n := n) (tp := tp) k (f + 1) (min 1000000 (10 * 0 + bM n tp f - 48)) (by omega) (by omega) (by omega)).1
      generalize fgM n tp (n - f) f 0 = S at hg hg2
      have hm : mu n (upc (upc (upc (upc rs 22 f) 23 1000) 24 S.2) 21 S.1) = (n - S.1) + 1 := by
        show (n - ((S.1 : Nat) : Int).toNat) + 1 = _
        rw [Int.toNat_natCast]
      refine ⟨⟨⟨a1, ⟨by show (0 : Int) ≤ S.1; omega, by show (S.1 : Int) ≤ n; omega⟩, ⟨by show (0 : Int) ≤ f; omega, by show (f : Int) ≤ n; omega⟩, (show (0 : Int) ≤ 1000 ∧ (1000 : Int) ≤ 1002 from ⟨by decide, by decide⟩), ⟨hg.2.2.1, hg.2.2.2⟩, a6, a7, a8, a9, a10⟩, rfl, rfl, by omega⟩, by omega⟩
    · have hk1 : 0 ≤ (if sgM (bM n tp f) = 1 then bM n tp f else 1001) ∧ (if sgM (bM n tp f) = 1 then bM n tp f else 1001) ≤ 1001 := by split <;> omega
      generalize (if sgM (bM n tp f) = 1 then bM n tp f else 1001) = c at hk1
      have hm : mu n (upc (upc (upc rs 22 f) 23 c) 21 (f + 1 : Nat)) = (n - (f + 1)) + 1 := by
        show (n - ((f + 1 : Nat) : Int).toNat) + (if c = 1002 then 0 else 1) = _
        rw [if_neg (by omega), Int.toNat_natCast]
      refine ⟨⟨⟨a1, ⟨by show (0 : Int) ≤ (f + 1 : Nat); omega, by show ((f + 1 : Nat) : Int) ≤ n; omega⟩, ⟨by show (0 : Int) ≤ f; omega, by show (f : Int) ≤ n; omega⟩, ⟨hk1.1, by show c ≤ 1002; omega⟩, a5, a6, a7, a8, a9, a10⟩, rfl, rfl, by omega⟩, by omega⟩
theorem ch_26 {n : Nat} {rs : Nat → Int} {b w : Int} (h : RIM n rs) (hw : 1 ≤ w ∧ w ≤ 3) : 0 ≤ chM b w rs 26 ∧ chM b w rs 26 ≤ 3 := by
  unfold chM
  split
  · exact ⟨by show 0 ≤ w; omega, hw.2⟩
  · exact h.2.2.2.2.2.2.1
/-- a number, not above most -/
def fiM (n : Nat) (tp : Nat → Int) (most : Int) (rs : Nat → Int) : Int × (Nat → Int) :=
  if (chM (if rs 23 = 1000 then 1 else 0) 1 rs) 26 = 0 then
    (if (chM (if rs 24 ≤ most then 1 else 0) 2 (chM (if rs 23 = 1000 then 1 else 0) 1 rs)) 26 = 0 then (rs 24, gxM n tp (chM (if rs 24 ≤ most then 1 else 0) 2 (chM (if rs 23 = 1000 then 1 else 0) 1 rs))) else (0, chM (if rs 24 ≤ most then 1 else 0) 2 (chM (if rs 23 = 1000 then 1 else 0) 1 rs)))
  else (0, chM (if rs 23 = 1000 then 1 else 0) 1 rs)
theorem fi_ok {n : Nat} {tp rs : Nat → Int} {most : Int} {A : HA} (h : RIM n rs) (ht : TM tp A) (hn : n ≤ 200) (hm : 0 ≤ most) : (0 ≤ (fiM n tp most rs).1 ∧ (fiM n tp most rs).1 ≤ most) ∧ KT n rs (fiM n tp most rs).2 := by
  have k1 := chm_ok (b := if rs 23 = 1000 then 1 else 0) (w := 1) h hn ⟨by decide, by decide⟩
  by_cases c1 : (chM (if rs 23 = 1000 then 1 else 0) 1 rs) 26 = 0
  · have k2 := chm_ok (b := if rs 24 ≤ most then 1 else 0) (w := 2) k1.1 hn ⟨by decide, by decide⟩
    by_cases c2 : (chM (if rs 24 ≤ most then 1 else 0) 2 (chM (if rs 23 = 1000 then 1 else 0) 1 rs)) 26 = 0
    · have e : fiM n tp most rs = (rs 24, gxM n tp (chM (if rs 24 ≤ most then 1 else 0) 2 (chM (if rs 23 = 1000 then 1 else 0) 1 rs))) := (if_pos c1).trans (if_pos c2)
      rw [e]
      have h24 : rs 24 ≤ most := Classical.byContradiction fun q => ch_b (by decide) c2 (if_neg q)
      have h23 : rs 23 = 1000 := Classical.byContradiction fun q => ch_b (by decide) c1 (if_neg q)
      exact ⟨⟨h.2.2.2.2.1.1, h24⟩, (k1.trans k2).trans (go_ok k2.1 ht hn (by rw [ch_23, ch_23, h23]; decide)).1⟩
    · have e : fiM n tp most rs = (0, chM (if rs 24 ≤ most then 1 else 0) 2 (chM (if rs 23 = 1000 then 1 else 0) 1 rs)) := (if_pos c1).trans (if_neg c2)
      rw [e]
      exact ⟨⟨Int.le_refl _, hm⟩, k1.trans k2⟩
  · have e : fiM n tp most rs = (0, chM (if rs 23 = 1000 then 1 else 0) 1 rs) := if_neg c1
    rw [e]
    exact ⟨⟨Int.le_refl _, hm⟩, k1⟩
/-- one deeper -/
def giM (n : Nat) (tp : Nat → Int) (rs : Nat → Int) : Int × (Nat → Int) := if (chM (if rs 25 < 8 then 1 else 0) 3 rs) 26 = 0 then (1, gxM n tp (upc (chM (if rs 25 < 8 then 1 else 0) 3 rs) 25 (rs 25 + 1))) else (0, chM (if rs 25 < 8 then 1 else 0) 3 rs)
theorem ch_25 {rs : Nat → Int} {b w : Int} : chM b w rs 25 = rs 25 := by
  unfold chM
  split <;> rfl
set_option maxRecDepth 20000 in
theorem lp_fig2 {rs : Nat → Int} {most : Int} {p e r q N n : Nat} {m : Int} {f : Nat → Int} {g : Int} {rt lg tp pl_ : Nat → Int} {F : HF} {A : HA} {al : AL} (hK : KM al) (hC : CM p e r q N n m f g rt lg tp pl_ F A) (h : RDM rs F) (hI : RIM n rs) (hm0 : 0 ≤ most) (hm1 : most ≤ 9999) {b : Int} (hb : b = if rs 23 = 1000 then 1 else 0) :
    QW mX12_figure 4 0 0 (PRN (fiM n tp most rs) F A al) 0 0 16 [some (vA 44), some (vI most), none] [vI b, vA 44] F A al := by
  subst hb
  obtain ⟨hX, hT, ht, hn, hpl, hum⟩ := id hC
  obtain ⟨i20, i21, i22, i23, i24, i25, i26, i27, i28, i29⟩ := id hI
  have c26 := ch_26 (b := if rs 23 = 1000 then 1 else 0) (w := 1) hI ⟨by decide, by decide⟩
  refine q_iconst eX12_figure_16 ?_
  refine q_callVC [vI (if rs 23 = 1000 then 1 else 0), vI 1] (M1 := mX12_check) eX12_figure_17 mf_X12_check lk_X12_259 (hK _ (by decide) (by decide)) (mo_check (b := if rs 23 = 1000 then 1 else 0) (w := 1) (rs := rs) hK h ⟨by have := hI.2.2.2.2.2.2.1; omega, by have := hI.2.2.2.2.2.2.1; omega⟩ (by first | exact ⟨by decide, by decide⟩ | exact ir_ite) ⟨by decide, by decide⟩) (by decide) (by decide) (by decide) (Nat.le_of_ble_eq_true rfl) rfl (fun F1 f1 r1 => ?_)
  have k1 := chm_ok (b := if rs 23 = 1000 then 1 else 0) (w := 1) hI hn ⟨by decide, by decide⟩
  have k24 : F1 44 24 = vI (rs 24) := (r1 24 (by decide)).trans (congrArg vI ch_24)
  refine q_if_eq (tgt := 44) eX12_figure_20 (by decide) ir_ite (fun c20 => ?_) (fun c20 => ?_)
  · refine q_iconst eX12_figure_44 ?_
    refine q_retI eX12_figure_45 rfl (by decide) (by decide) ?_
    rw [show fiM n tp most rs = (0, (chM (if rs 23 = 1000 then 1 else 0) 1 rs)) from if_neg (i0 c20)]
    exact ⟨rfl, rfl, Off.rfl', f1, r1⟩
  · refine q_aload_n eX12_figure_23 rfl ?_
    refine q_aload_n eX12_figure_24 rfl ?_
    refine q_getfield eX12_figure_25 gf_X12_245 (hK _ (by decide) (by decide)) (by decide) k24 ?_
    refine q_iload_n eX12_figure_28 rfl ?_
    refine q_icmp_gt (tgt := 36) eX12_figure_29 (by decide) (by first | assumption | exact ⟨by omega, by omega⟩) (by first | assumption | exact ⟨by omega, by omega⟩) (fun c29 => ?_) (fun c29 => ?_)
    · refine q_iconst eX12_figure_36 ?_
      refine (fun (k37 : ∀ b2 : Int, b2 = (if rs 24 ≤ most then 1 else 0) → QW mX12_figure 4 0 0 (PRN (fiM n tp most rs) F A al) 0 0 37 [some (vA 44), some (vI most), none] [vI b2, vA 44] F1 A al) => k37 _ (by first | exact (if_pos (by omega)).symm | exact (if_neg (by omega)).symm)) (fun b2 hb2 => ?_)
      subst hb2
      refine q_iconst eX12_figure_37 ?_
      refine q_callVC [vI (if rs 24 ≤ most then 1 else 0), vI 2] (M1 := mX12_check) eX12_figure_38 mf_X12_check lk_X12_259 (hK _ (by decide) (by decide)) (mo_check (b := if rs 24 ≤ most then 1 else 0) (w := 2) (rs := (chM (if rs 23 = 1000 then 1 else 0) 1 rs)) hK r1 ⟨by have := k1.1.2.2.2.2.2.2.1; omega, by have := k1.1.2.2.2.2.2.2.1; omega⟩ (by first | exact ⟨by decide, by decide⟩ | exact ir_ite) ⟨by decide, by decide⟩) (by decide) (by decide) (by decide) (Nat.le_of_ble_eq_true rfl) rfl (fun F2 f2 r2 => ?_)
      have k2 := chm_ok (b := if rs 24 ≤ most then 1 else 0) (w := 2) k1.1 hn ⟨by decide, by decide⟩
      have k24b : F2 44 24 = vI (rs 24) := (r2 24 (by decide)).trans (congrArg vI (ch_24.trans ch_24))
      have hX2 := (hX.foff f1 (by decide)).foff f2 (by decide)
      refine q_if_ne (tgt := 46) eX12_figure_41 (by decide) ir_ite (fun c41 => ?_) (fun c41 => ?_)
      · refine q_aload_n eX12_figure_46 rfl ?_
        refine q_getfield eX12_figure_47 gf_X12_245 (hK _ (by decide) (by decide)) (by decide) k24b ?_
        refine q_istore_n eX12_figure_50 (by decide) rfl ?_
        refine q_aload_n eX12_figure_51 rfl ?_
        refine q_callVM [] (M1 := mX12_go) eX12_figure_52 mf_X12_go lk_X12_263 (hK _ (by decide) (by decide)) (mo_go (rs := _) hK hX2 ht hn k2.1.1 (Int.toNat_of_nonneg k2.1.2.1.1).symm (by have := k2.1.2.1; omega) r2) (by decide) (by decide) (by decide) (Nat.le_of_ble_eq_true rfl) rfl (fun F3 f3 r3 => ?_)
        refine q_iload_n eX12_figure_55 rfl ?_
        refine q_retI eX12_figure_56 rfl (by decide) (by decide) ?_
        rw [show fiM n tp most rs = (rs 24, gxM n tp (chM (if rs 24 ≤ most then 1 else 0) 2 (chM (if rs 23 = 1000 then 1 else 0) 1 rs))) from (if_pos (i1 c20)).trans (if_pos (i1 c41))]
        exact ⟨rfl, rfl, Off.rfl', (f1.trans f2).trans f3, r3⟩
      · refine q_iconst eX12_figure_44 ?_
        refine q_retI eX12_figure_45 rfl (by decide) (by decide) ?_
        rw [show fiM n tp most rs = (0, (chM (if rs 24 ≤ most then 1 else 0) 2 (chM (if rs 23 = 1000 then 1 else 0) 1 rs))) from (if_pos (i1 c20)).trans (if_neg (i0 c41))]
        exact ⟨rfl, rfl, Off.rfl', f1.trans f2, r2⟩
    · refine q_iconst eX12_figure_32 ?_
      refine q_goto (tgt := 37) eX12_figure_33 (by decide) ?_
      refine (fun (k37 : ∀ b2 : Int, b2 = (if rs 24 ≤ most then 1 else 0) → QW mX12_figure 4 0 0 (PRN (fiM n tp most rs) F A al) 0 0 37 [some (vA 44), some (vI most), none] [vI b2, vA 44] F1 A al) => k37 _ (by first | exact (if_pos (by omega)).symm | exact (if_neg (by omega)).symm)) (fun b2 hb2 => ?_)
      subst hb2
      refine q_iconst eX12_figure_37 ?_
      refine q_callVC [vI (if rs 24 ≤ most then 1 else 0), vI 2] (M1 := mX12_check) eX12_figure_38 mf_X12_check lk_X12_259 (hK _ (by decide) (by decide)) (mo_check (b := if rs 24 ≤ most then 1 else 0) (w := 2) (rs := (chM (if rs 23 = 1000 then 1 else 0) 1 rs)) hK r1 ⟨by have := k1.1.2.2.2.2.2.2.1; omega, by have := k1.1.2.2.2.2.2.2.1; omega⟩ (by first | exact ⟨by decide, by decide⟩ | exact ir_ite) ⟨by decide, by decide⟩) (by decide) (by decide) (by decide) (Nat.le_of_ble_eq_true rfl) rfl (fun F2 f2 r2 => ?_)
      have k2 := chm_ok (b := if rs 24 ≤ most then 1 else 0) (w := 2) k1.1 hn ⟨by decide, by decide⟩
      have k24b : F2 44 24 = vI (rs 24) := (r2 24 (by decide)).trans (congrArg vI (ch_24.trans ch_24))
      have hX2 := (hX.foff f1 (by decide)).foff f2 (by decide)
      refine q_if_ne (tgt := 46) eX12_figure_41 (by decide) ir_ite (fun c41 => ?_) (fun c41 => ?_)
      · refine q_aload_n eX12_figure_46 rfl ?_
        refine q_getfield eX12_figure_47 gf_X12_245 (hK _ (by decide) (by decide)) (by decide) k24b ?_
        refine q_istore_n eX12_figure_50 (by decide) rfl ?_
        refine q_aload_n eX12_figure_51 rfl ?_
        refine q_callVM [] (M1 := mX12_go) eX12_figure_52 mf_X12_go lk_X12_263 (hK _ (by decide) (by decide)) (mo_go (rs := _) hK hX2 ht hn k2.1.1 (Int.toNat_of_nonneg k2.1.2.1.1).symm (by have := k2.1.2.1; omega) r2) (by decide) (by decide) (by decide) (Nat.le_of_ble_eq_true rfl) rfl (fun F3 f3 r3 => ?_)
        refine q_iload_n eX12_figure_55 rfl ?_
        refine q_retI eX12_figure_56 rfl (by decide) (by decide) ?_
        rw [show fiM n tp most rs = (rs 24, gxM n tp (chM (if rs 24 ≤ most then 1 else 0) 2 (chM (if rs 23 = 1000 then 1 else 0) 1 rs))) from (if_pos (i1 c20)).trans (if_pos (i1 c41))]
        exact ⟨rfl, rfl, Off.rfl', (f1.trans f2).trans f3, r3⟩
      · refine q_iconst eX12_figure_44 ?_
        refine q_retI eX12_figure_45 rfl (by decide) (by decide) ?_
        rw [show fiM n tp most rs = (0, (chM (if rs 24 ≤ most then 1 else 0) 2 (chM (if rs 23 = 1000 then 1 else 0) 1 rs))) from (if_pos (i1 c20)).trans (if_neg (i0 c41))]
        exact ⟨rfl, rfl, Off.rfl', f1.trans f2, r2⟩
set_option maxRecDepth 20000 in
theorem mo_figure {rs : Nat → Int} {most : Int} {p e r q N n : Nat} {m : Int} {f : Nat → Int} {g : Int} {rt lg tp pl_ : Nat → Int} {F : HF} {A : HA} {al : AL} (hK : KM al) (hC : CM p e r q N n m f g rt lg tp pl_ F A) (h : RDM rs F) (hI : RIM n rs) (hm0 : 0 ≤ most) (hm1 : most ≤ 9999)  : QE 4 0 0 mX12_figure [vA 44, vI most] F A al (PRN (fiM n tp most rs) F A al) := by
  refine QE.mk (by decide +kernel) (Nat.le_of_ble_eq_true rfl) ?_
  obtain ⟨hX, hT, ht, hn, hpl, hum⟩ := id hC
  obtain ⟨i20, i21, i22, i23, i24, i25, i26, i27, i28, i29⟩ := id hI
  refine q_aload_n eX12_figure_0 rfl ?_
  refine q_aload_n eX12_figure_1 rfl ?_
  refine q_getfield eX12_figure_2 gf_X12_236 (hK _ (by decide) (by decide)) (by decide) (h 23 (by decide)) ?_
  refine q_sipush eX12_figure_5 (by decide +kernel) ?_
  refine q_icmp_ne (tgt := 15) eX12_figure_8 (by decide) (by first | assumption | exact ⟨by omega, by omega⟩) (by first | assumption | exact ⟨by omega, by omega⟩) (fun c8 => ?_) (fun c8 => ?_)
  · refine q_iconst eX12_figure_15 ?_
    exact lp_fig2 hK hC h hI hm0 hm1 (by first | exact (if_pos (by omega)).symm | exact (if_neg (by omega)).symm)
  · refine q_iconst eX12_figure_11 ?_
    refine q_goto (tgt := 16) eX12_figure_12 (by decide) ?_
    exact lp_fig2 hK hC h hI hm0 hm1 (by first | exact (if_pos (by omega)).symm | exact (if_neg (by omega)).symm)
set_option maxRecDepth 20000 in
theorem lp_gin {rs : Nat → Int} {p e r q N n : Nat} {m : Int} {f : Nat → Int} {g : Int} {rt lg tp pl_ : Nat → Int} {F : HF} {A : HA} {al : AL} (hK : KM al) (hC : CM p e r q N n m f g rt lg tp pl_ F A) (h : RDM rs F) (hI : RIM n rs) (h23 : rs 23 ≠ 1002) {b : Int} (hb : b = if rs 25 < 8 then 1 else 0) :
    QW mX12_goesIn 4 0 0 (PRN (giM n tp rs) F A al) 0 0 15 [some (vA 44)] [vI b, vA 44] F A al := by
  subst hb
  obtain ⟨hX, hT, ht, hn, hpl, hum⟩ := id hC
  obtain ⟨i20, i21, i22, i23, i24, i25, i26, i27, i28, i29⟩ := id hI
  refine q_iconst eX12_goesIn_15 ?_
  refine q_callVC [vI (if rs 25 < 8 then 1 else 0), vI 3] (M1 := mX12_check) eX12_goesIn_16 mf_X12_check lk_X12_259 (hK _ (by decide) (by decide)) (mo_check (b := if rs 25 < 8 then 1 else 0) (w := 3) (rs := rs) hK h ⟨by have := hI.2.2.2.2.2.2.1; omega, by have := hI.2.2.2.2.2.2.1; omega⟩ (by first | exact ⟨by decide, by decide⟩ | exact ir_ite) ⟨by decide, by decide⟩) (by decide) (by decide) (by decide) (Nat.le_of_ble_eq_true rfl) rfl (fun F1 f1 r1 => ?_)
  have k1 := chm_ok (b := if rs 25 < 8 then 1 else 0) (w := 3) hI hn ⟨by decide, by decide⟩
  have k25 : F1 44 25 = vI (rs 25) := (r1 25 (by decide)).trans (congrArg vI ch_25)
  have hX1 := hX.foff f1 (by decide)
  refine q_if_ne (tgt := 24) eX12_goesIn_19 (by decide) ir_ite (fun c19 => ?_) (fun c19 => ?_)
  · refine q_aload_n eX12_goesIn_24 rfl ?_
    refine q_dup eX12_goesIn_25 rfl ?_
    refine q_getfield eX12_goesIn_26 gf_X12_266 (hK _ (by decide) (by decide)) (by decide) k25 ?_
    refine q_iconst eX12_goesIn_29 ?_
    refine q_iadd eX12_goesIn_30 ?_
    refine q_putfield eX12_goesIn_31 pf_X12_266 (hK _ (by decide) (by decide)) (by decide) (FT_i rfl) ?_
    refine q_aload_n eX12_goesIn_34 rfl ?_
    have h8 : rs 25 < 8 := Classical.byContradiction fun q => ch_b (by decide) (i1 c19) (if_neg q)
    have k2 : RIM n (upc (chM (if rs 25 < 8 then 1 else 0) 3 rs) 25 (rs 25 + 1)) := by
      obtain ⟨a1, a2, a3, a4, a5, a6, a7⟩ := k1.1
      exact ⟨a1, a2, a3, a4, a5, ⟨by show 0 ≤ rs 25 + 1; omega, by show rs 25 + 1 ≤ 8; omega⟩, a7⟩
    refine q_callVM [] (M1 := mX12_go) eX12_goesIn_35 mf_X12_go lk_X12_263 (hK _ (by decide) (by decide)) (mo_go (rs := upc (chM (if rs 25 < 8 then 1 else 0) 3 rs) 25 (rs 25 + 1)) hK (hX1.up (by decide)) ht hn k2.1 (Int.toNat_of_nonneg k2.2.1.1).symm (by have := k2.2.1; omega) (r1.up (v := rs 25 + 1))) (by decide) (by decide) (by decide) (Nat.le_of_ble_eq_true rfl) rfl (fun F3 f3 r3 => ?_)
    refine q_iconst eX12_goesIn_38 ?_
    refine q_retZ eX12_goesIn_39 rfl (by first | exact Or.inl rfl | exact Or.inr rfl) (by decide) (by decide) ?_
    rw [show giM n tp rs = (1, gxM n tp (upc (chM (if rs 25 < 8 then 1 else 0) 3 rs) 25 (rs 25 + 1))) from if_pos (i1 c19)]
    exact ⟨rfl, rfl, Off.rfl', (f1.trans (FOff.up (by decide))).trans f3, r3⟩
  · refine q_iconst eX12_goesIn_22 ?_
    refine q_retZ eX12_goesIn_23 rfl (by first | exact Or.inl rfl | exact Or.inr rfl) (by decide) (by decide) ?_
    rw [show giM n tp rs = (0, (chM (if rs 25 < 8 then 1 else 0) 3 rs)) from if_neg (i0 c19)]
    exact ⟨rfl, rfl, Off.rfl', f1, r1⟩
set_option maxRecDepth 20000 in
theorem mo_goesIn {rs : Nat → Int} {p e r q N n : Nat} {m : Int} {f : Nat → Int} {g : Int} {rt lg tp pl_ : Nat → Int} {F : HF} {A : HA} {al : AL} (hK : KM al) (hC : CM p e r q N n m f g rt lg tp pl_ F A) (h : RDM rs F) (hI : RIM n rs) (h23 : rs 23 ≠ 1002)  : QE 4 0 0 mX12_goesIn [vA 44] F A al (PRN (giM n tp rs) F A al) := by
  refine QE.mk (by decide +kernel) (Nat.le_of_ble_eq_true rfl) ?_
  obtain ⟨hX, hT, ht, hn, hpl, hum⟩ := id hC
  obtain ⟨i20, i21, i22, i23, i24, i25, i26, i27, i28, i29⟩ := id hI
  refine q_aload_n eX12_goesIn_0 rfl ?_
  refine q_aload_n eX12_goesIn_1 rfl ?_
  refine q_getfield eX12_goesIn_2 gf_X12_266 (hK _ (by decide) (by decide)) (by decide) (h 25 (by decide)) ?_
  refine q_bipush eX12_goesIn_5 (by decide +kernel) ?_
  refine q_icmp_ge (tgt := 14) eX12_goesIn_7 (by decide) (by first | assumption | exact ⟨by omega, by omega⟩) (by first | assumption | exact ⟨by omega, by omega⟩) (fun c7 => ?_) (fun c7 => ?_)
  · refine q_iconst eX12_goesIn_14 ?_
    exact lp_gin hK hC h hI h23 (by first | exact (if_pos (by omega)).symm | exact (if_neg (by omega)).symm)
  · refine q_iconst eX12_goesIn_10 ?_
    refine q_goto (tgt := 15) eX12_goesIn_11 (by decide) ?_
    exact lp_gin hK hC h hI h23 (by first | exact (if_pos (by omega)).symm | exact (if_neg (by omega)).symm)
theorem gi_ok {n : Nat} {tp rs : Nat → Int} {A : HA} (h : RIM n rs) (ht : TM tp A) (hn : n ≤ 200) (h23 : rs 23 ≠ 1002) : RIM n (giM n tp rs).2 ∧ (giM n tp rs).2 28 = rs 28 ∧ mu n (giM n tp rs).2 ≤ mu n rs ∧ ((giM n tp rs).1 = 0 ∧ (giM n tp rs).2 25 = rs 25 ∨ (giM n tp rs).1 = 1 ∧ (giM n tp rs).2 25 = rs 25 + 1 ∧ rs 25 < 8 ∧ mu n (giM n tp rs).2 < mu n rs) := by
  have k1 := chm_ok (b := if rs 25 < 8 then 1 else 0) (w := 3) h hn ⟨by decide, by decide⟩
  by_cases c1 : (chM (if rs 25 < 8 then 1 else 0) 3 rs) 26 = 0
  · have e : giM n tp rs = (1, gxM n tp (upc (chM (if rs 25 < 8 then 1 else 0) 3 rs) 25 (rs 25 + 1))) := if_pos c1
    rw [e]
    have h8 : rs 25 < 8 := Classical.byContradiction fun q => ch_b (by decide) c1 (if_neg q)
    have k2 : RIM n (upc (chM (if rs 25 < 8 then 1 else 0) 3 rs) 25 (rs 25 + 1)) := by
      obtain ⟨a1, a2, a3, a4, a5, a6, a7⟩ := k1.1
      have := h.2.2.2.2.2.1
      exact ⟨a1, a2, a3, a4, a5, ⟨by show 0 ≤ rs 25 + 1; omega, by show rs 25 + 1 ≤ 8; omega⟩, a7⟩
    have k3 := go_ok (tp := tp) k2 ht hn (by show chM (if rs 25 < 8 then 1 else 0) 3 rs 23 ≠ 1002; rw [ch_23]; exact h23)
    have hmu : mu n (upc (chM (if rs 25 < 8 then 1 else 0) 3 rs) 25 (rs 25 + 1)) ≤ mu n rs := k1.2.2.2
    refine ⟨k3.1.1, k3.1.2.2.1.trans k1.2.2.1, by have := k3.2; exact Nat.le_trans (Nat.le_of_lt this) hmu, Or.inr ⟨rfl, k3.1.2.1, h8, Nat.lt_of_lt_of_le k3.2 hmu⟩⟩
  · have e : giM n tp rs = (0, chM (if rs 25 < 8 then 1 else 0) 3 rs) := if_neg c1
    rw [e]
    exact ⟨k1.1, k1.2.2.1, k1.2.2.2, Or.inl ⟨rfl, k1.2.1⟩⟩
