/-! the model's reading: both times; told -/
def rs0M (n : Nat) (c w : Int) : Nat → Int := fun k => if k = 20 then n else if k = 24 then w else if k = 27 then -1 else if k = 28 then c else 0
theorem gx_ext {n : Nat} {tp a b : Nat → Int} (h : ∀ k, k ≠ 22 → k ≠ 23 → a k = b k) : gxM n tp a = gxM n tp b := by
  unfold gxM
  rw [h 21 (by decide) (by decide)]
  generalize skM n tp (n - (b 21).toNat) (b 21).toNat = f
  funext j
  unfold g8M
  split
  · unfold upc
    by_cases e3 : j = 23
    · rw [if_pos e3, if_pos e3]
    · rw [if_neg e3, if_neg e3]
      by_cases e2 : j = 22
      · rw [if_pos e2, if_pos e2]
      · rw [if_neg e2, if_neg e2]
        split
        · rfl
        · exact h j e2 e3
  · split
    · unfold upc
      by_cases e1 : j = 21
      · rw [if_pos e1, if_pos e1]
      · rw [if_neg e1, if_neg e1]
        by_cases e4 : j = 24
        · rw [if_pos e4, if_pos e4]
        · rw [if_neg e4, if_neg e4]
          by_cases e3 : j = 23
          · rw [if_pos e3, if_pos e3]
          · rw [if_neg e3, if_neg e3]
            by_cases e2 : j = 22
            · rw [if_pos e2, if_pos e2]
            · rw [if_neg e2, if_neg e2]; exact h j e2 e3
    · unfold upc
      by_cases e1 : j = 21
      · rw [if_pos e1, if_pos e1]
      · rw [if_neg e1, if_neg e1]
        by_cases e3 : j = 23
        · rw [if_pos e3, if_pos e3]
        · rw [if_neg e3, if_neg e3]
          by_cases e2 : j = 22
          · rw [if_pos e2, if_pos e2]
          · rw [if_neg e2, if_neg e2]; exact h j e2 e3
def rdsM (p e r q N n : Nat) (m : Int) (f : Nat → Int) (g : Int) (rt lg tp pl_ : Nat → Int) (c w : Int) : Int × (Nat → Int) := xpM n tp m r f (atM p e r q N n m f g rt lg tp pl_ 8) (gxM n tp (rs0M n c w))
def rdM (p e r q N n : Nat) (m : Int) (f : Nat → Int) (g : Int) (rt lg tp pl_ : Nat → Int) (c w : Int) : Int × (Nat → Int) := if (rdsM p e r q N n m f g rt lg tp pl_ c w).2 26 = 0 then ((rdsM p e r q N n m f g rt lg tp pl_ c w).1, chM (if (rdsM p e r q N n m f g rt lg tp pl_ c w).2 23 = 1002 then 1 else 0) 1 (rdsM p e r q N n m f g rt lg tp pl_ c w).2) else rdsM p e r q N n m f g rt lg tp pl_ c w
theorem rs0_ok {n : Nat} {c w : Int} (hc : c = 0 ∨ c = 1) (hw : 0 ≤ w ∧ w ≤ 1000000) : RIM n (rs0M n c w) := by
  refine ⟨rfl, ⟨by show (0 : Int) ≤ 0; decide, by show (0 : Int) ≤ n; omega⟩, ⟨by show (0 : Int) ≤ 0; decide, by show (0 : Int) ≤ n; omega⟩, ⟨by show (0 : Int) ≤ 0; decide, by show (0 : Int) ≤ 1002; decide⟩, hw, ⟨by show (0 : Int) ≤ 0; decide, by show (0 : Int) ≤ 8; decide⟩, ⟨by show (0 : Int) ≤ 0; decide, by show (0 : Int) ≤ 3; decide⟩, ⟨by show (-1 : Int) ≤ -1; decide, by show (-1 : Int) ≤ 200; decide⟩, hc, Or.inl rfl, fun _ => rfl⟩
theorem rdsm_ok {p e r q N n : Nat} {m : Int} {f : Nat → Int} {g : Int} {rt lg tp pl_ : Nat → Int} {F : HF} {A : HA} {c w : Int} (hC : CM p e r q N n m f g rt lg tp pl_ F A) (hc : c = 0 ∨ c = 1) (hw : 0 ≤ w ∧ w ≤ 1000000) : El m r (rdsM p e r q N n m f g rt lg tp pl_ c w).1 ∧ RIM n (rdsM p e r q N n m f g rt lg tp pl_ c w).2 ∧ (rdsM p e r q N n m f g rt lg tp pl_ c w).2 28 = c := by
  have k1 := (go_ok (tp := tp) (rs0_ok (n := n) hc hw) hC.2.2.1 hC.2.2.2.1 (by show (0 : Int) ≠ 1002; decide)).1
  have x1 := xp_ok (f := f) (at_okM hC 8) hC.2.1.1.2.2.2.1 hC.2.1.1.2.2.2.2.1 hC.2.2.1 hC.2.2.2.1 _ k1.1 (by rw [k1.2.1]; rfl)
  exact ⟨x1.1, x1.2.1, x1.2.2.2.1.trans k1.2.2.1⟩
theorem rdm_ok {p e r q N n : Nat} {m : Int} {f : Nat → Int} {g : Int} {rt lg tp pl_ : Nat → Int} {F : HF} {A : HA} {c w : Int} (hC : CM p e r q N n m f g rt lg tp pl_ F A) (hc : c = 0 ∨ c = 1) (hw : 0 ≤ w ∧ w ≤ 1000000) : El m r (rdM p e r q N n m f g rt lg tp pl_ c w).1 ∧ RIM n (rdM p e r q N n m f g rt lg tp pl_ c w).2 := by
  obtain ⟨h1, h2, -⟩ := rdsm_ok hC hc hw
  unfold rdM
  split
  · exact ⟨h1, (chm_ok h2 hC.2.2.2.1 ⟨by decide, by decide⟩).1⟩
  · exact ⟨h1, h2⟩
def LR : List (Nat × Nat) := (44, 28) :: LQ
def PRR (s : Int × (Nat → Int)) (F : HF) (A : HA) (al : AL) : PO := fun o F' A' al' => o = .inl (some s.1) ∧ al' = al ∧ Off SAQ A A' ∧ FOff LR F F' ∧ RDM s.2 F'
theorem nt_PRR {s : Int × (Nat → Int)} {F : HF} {A : HA} {al : AL} : NT (PRR s F A al) := by intro E F A al h; cases h.1
theorem CM.pres2 {p e r q N n : Nat} {m : Int} {f : Nat → Int} {g : Int} {rt lg tp pl_ : Nat → Int} {F F2 : HF} {A : HA} {l : List (Nat × Nat)} (h : CM p e r q N n m f g rt lg tp pl_ F A) (hF : FOff l F F2) (h0 : (l.all fun b => plainF mrefs b.1 b.2) = true) (h1 : ([(44, 1), (44, 2), (44, 3), (44, 4), (44, 5), (44, 6), (44, 11)].all fun q => !(l.contains q)) = true) : CM p e r q N n m f g rt lg tp pl_ F2 A := by
  obtain ⟨z1, z2, z3⟩ := h
  have hf := hF.fe h1
  refine ⟨z1.foff hF h0, z2.row (F2 := F2) (fun k hk => hf (44, k) (by simp only [List.mem_cons, List.not_mem_nil, or_false] at hk; rcases hk with rfl | rfl | rfl | rfl | rfl | rfl | rfl <;> decide)), z3⟩
theorem vI_inj {a b : Int} (h : vI a = vI b) : a = b := by
  injection h
set_option maxRecDepth 20000 in
theorem mo_reads {c w : Int} {rs : Nat → Int} {p e r q N n : Nat} {m : Int} {f : Nat → Int} {g : Int} {rt lg tp pl_ : Nat → Int} {F : HF} {A : HA} {al : AL} (hK : KM al) (hC : CM p e r q N n m f g rt lg tp pl_ F A) (h : RDM rs F) (hc : c = 0 ∨ c = 1) (hw : 0 ≤ w ∧ w ≤ 1000000) (hrs : ∀ k, k ≠ 21 → k ≠ 22 → k ≠ 23 → k ≠ 25 → k ≠ 28 → k ≠ 29 → rs k = rs0M n c w k)  : QE 42 0 0 mX12_reads [vA 44, vI c] F A al (PRR (rdM p e r q N n m f g rt lg tp pl_ c w) F A al) := by
  refine QE.mk (by decide +kernel) (Nat.le_of_ble_eq_true rfl) ?_
  refine q_aload_n eX12_reads_0 rfl ?_
  refine q_iconst eX12_reads_1 ?_
  refine q_putfield eX12_reads_2 pf_X12_227 (hK _ (by decide) (by decide)) (by decide) (FT_i rfl) ?_
  refine q_aload_n eX12_reads_5 rfl ?_
  refine q_iconst eX12_reads_6 ?_
  refine q_putfield eX12_reads_7 pf_X12_266 (hK _ (by decide) (by decide)) (by decide) (FT_i rfl) ?_
  refine q_aload_n eX12_reads_10 rfl ?_
  refine q_iload_n eX12_reads_11 rfl ?_
  refine q_putfield eX12_reads_12 pf_X12_281 (hK _ (by decide) (by decide)) (by decide) (FT_z rfl hc) ?_
  refine q_aload_n eX12_reads_15 rfl ?_
  refine q_iconst eX12_reads_16 ?_
  refine q_putfield eX12_reads_17 pf_X12_287 (hK _ (by decide) (by decide)) (by decide) (FT_z rfl (Or.inl rfl)) ?_
  have hF0 : FOff LR F (up2 (up2 (up2 (up2 F 44 21 (vI 0)) 44 25 (vI 0)) 44 28 (vI c)) 44 29 (vI 0)) := (((FOff.up (by decide)).trans (FOff.up (by decide))).trans (FOff.up (by decide))).trans (FOff.up (by decide))
  have hr0 : RDM (upc (upc (upc (upc rs 21 0) 25 0) 28 c) 29 0) (up2 (up2 (up2 (up2 F 44 21 (vI 0)) 44 25 (vI 0)) 44 28 (vI c)) 44 29 (vI 0)) := h.up.up.up.up
  have hC0 := hC.pres2 hF0 (by decide) (by decide)
  have hxt : gxM n tp (upc (upc (upc (upc rs 21 0) 25 0) 28 c) 29 0) = gxM n tp (rs0M n c w) := gx_ext (fun k h22 h23 => by
    unfold upc
    by_cases e4 : k = 29
    · rw [if_pos e4, e4]; rfl
    rw [if_neg e4]
    by_cases e3 : k = 28
    · rw [if_pos e3, e3]; rfl
    rw [if_neg e3]
    by_cases e2 : k = 25
    · rw [if_pos e2, e2]; rfl
    rw [if_neg e2]
    by_cases e1 : k = 21
    · rw [if_pos e1, e1]; rfl
    rw [if_neg e1]
    exact hrs k e1 h22 h23 e2 e3 e4)
  have h20 : (upc (upc (upc (upc rs 21 0) 25 0) 28 c) 29 0) 20 = n := (hrs 20 (by decide) (by decide) (by decide) (by decide) (by decide) (by decide)).trans rfl
  generalize (upc (upc (upc (upc rs 21 0) 25 0) 28 c) 29 0) = rz at hr0 hxt h20
  generalize hFz : (up2 (up2 (up2 (up2 F 44 21 (vI 0)) 44 25 (vI 0)) 44 28 (vI c)) 44 29 (vI 0)) = Fz at hF0 hr0 hC0
  obtain ⟨hX, hT, ht, hn, hpl, hum⟩ := id hC0
  have hz21 : Fz 44 21 = vI 0 := by rw [← hFz]; exact Eq.trans (up2_ne (by decide)) (Eq.trans (up2_ne (by decide)) (Eq.trans (up2_ne (by decide)) (up2_eq _ _ _ _)))
  refine q_aload_n eX12_reads_20 rfl ?_
  have h21z : rz 21 = (0 : Nat) := by
    have q1 := hr0 21 (by decide)
    rw [hz21] at q1
    exact (vI_inj q1).symm
  refine q_callVM [] (M1 := mX12_go) eX12_reads_21 mf_X12_go lk_X12_263 (hK _ (by decide) (by decide)) (mo_go (i := 0) hK hX ht hn h20 h21z (by omega) hr0) (by decide) (by decide) (by decide) (Nat.le_of_ble_eq_true rfl) rfl (fun F2 f2 r2 => ?_)
  rw [hxt] at r2
  have K2 := (go_ok (tp := tp) (rs0_ok (n := n) hc hw) ht hn (by show (0 : Int) ≠ 1002; decide)).1
  have C2 := hC0.pres f2 Off.rfl'
  refine q_aload_n eX12_reads_24 rfl ?_
  refine q_callVN [] (M1 := mX12_expr) eX12_reads_25 mf_X12_expr lk_X12_275 (hK _ (by decide) (by decide)) (mo_expr (D := 38) (k := 8) hK C2 r2 K2.1 (by rw [K2.2.1]; rfl) (by decide) (at_okM C2 8) (mo_atM hK 8)) (by decide) (by decide) (by decide) (Nat.le_of_ble_eq_true rfl) rfl (fun F3 A3 o3 f3 r3 => ?_)
  have X3 := rdsm_ok (c := c) (w := w) hC hc hw
  have hre : xpM n tp m r f (atM p e r q N n m f g rt lg tp pl_ 8) (gxM n tp (rs0M n c w)) = rdsM p e r q N n m f g rt lg tp pl_ c w := rfl
  rw [hre] at r3
  rw [hre]
  have i23 := X3.2.1.2.2.2.1
  have hst : rdM p e r q N n m f g rt lg tp pl_ c w = if (rdsM p e r q N n m f g rt lg tp pl_ c w).2 26 = 0 then ((rdsM p e r q N n m f g rt lg tp pl_ c w).1, chM (if (rdsM p e r q N n m f g rt lg tp pl_ c w).2 23 = 1002 then 1 else 0) 1 (rdsM p e r q N n m f g rt lg tp pl_ c w).2) else rdsM p e r q N n m f g rt lg tp pl_ c w := rfl
  refine q_istore_n eX12_reads_28 (by decide) rfl ?_
  refine q_aload_n eX12_reads_29 rfl ?_
  refine q_callVP [] (M1 := mX12_fine) eX12_reads_30 mf_X12_fine lk_X12_255 (hK _ (by decide) (by decide)) (mo_fine hK r3 ⟨by have := X3.2.1.2.2.2.2.2.2.1; omega, by have := X3.2.1.2.2.2.2.2.2.1; omega⟩) (by decide) (by decide) (by decide) (Nat.le_of_ble_eq_true rfl) rfl ?_
  refine q_if_eq (tgt := 57) eX12_reads_33 (by decide) ir_ite (fun c33 => ?_) (fun c33 => ?_)
  · refine q_iload_n eX12_reads_57 rfl ?_
    refine q_retI eX12_reads_58 rfl (by decide) (by decide) ?_
    rw [hst, if_neg (i0 c33)]
    exact ⟨rfl, rfl, o3, (hF0.trans (f2.mono (by decide))).trans (f3.mono (by decide)), r3⟩
  · refine q_aload_n eX12_reads_36 rfl ?_
    refine q_aload_n eX12_reads_37 rfl ?_
    refine q_getfield eX12_reads_38 gf_X12_236 (hK _ (by decide) (by decide)) (by decide) (r3 23 (by decide)) ?_
    refine q_sipush eX12_reads_41 (by decide +kernel) ?_
    refine q_icmp_ne (tgt := 51) eX12_reads_44 (by decide) (by first | assumption | exact ⟨by omega, by omega⟩) (by first | assumption | exact ⟨by omega, by omega⟩) (fun c44 => ?_) (fun c44 => ?_)
    · refine q_iconst eX12_reads_51 ?_
      refine (fun (kk : ∀ b : Int, b = (if (rdsM p e r q N n m f g rt lg tp pl_ c w).2 23 = 1002 then 1 else 0) → QW mX12_reads 42 0 0 (PRR (rdM p e r q N n m f g rt lg tp pl_ c w) F A al) 0 0 52 [some (vA 44), some (vI c), some (vI (rdsM p e r q N n m f g rt lg tp pl_ c w).1)] [vI b, vA 44] F3 A3 al) => kk _ (by first | exact (if_pos (by omega)).symm | exact (if_neg (by omega)).symm)) (fun b hb => ?_)
      subst hb
      refine q_iconst eX12_reads_52 ?_
      refine q_callVC [vI (if (rdsM p e r q N n m f g rt lg tp pl_ c w).2 23 = 1002 then 1 else 0), vI 1] (M1 := mX12_check) eX12_reads_53 mf_X12_check lk_X12_259 (hK _ (by decide) (by decide)) (mo_check (b := if (rdsM p e r q N n m f g rt lg tp pl_ c w).2 23 = 1002 then 1 else 0) (w := 1) (rs := (rdsM p e r q N n m f g rt lg tp pl_ c w).2) hK r3 ⟨by have := X3.2.1.2.2.2.2.2.2.1; omega, by have := X3.2.1.2.2.2.2.2.2.1; omega⟩ (by first | exact ⟨by decide, by decide⟩ | exact ir_ite) ⟨by decide, by decide⟩) (by decide) (by decide) (by decide) (Nat.le_of_ble_eq_true rfl) rfl (fun F4 f4 r4 => ?_)
      refine q_pop eX12_reads_56 rfl ?_
      refine q_iload_n eX12_reads_57 rfl ?_
      refine q_retI eX12_reads_58 rfl (by decide) (by decide) ?_
      rw [hst, if_pos (i1 c33)]
      exact ⟨rfl, rfl, o3, ((hF0.trans (f2.mono (by decide))).trans (f3.mono (by decide))).trans (f4.mono (by decide)), r4⟩
    · refine q_iconst eX12_reads_47 ?_
      refine q_goto (tgt := 52) eX12_reads_48 (by decide) ?_
      refine (fun (kk : ∀ b : Int, b = (if (rdsM p e r q N n m f g rt lg tp pl_ c w).2 23 = 1002 then 1 else 0) → QW mX12_reads 42 0 0 (PRR (rdM p e r q N n m f g rt lg tp pl_ c w) F A al) 0 0 52 [some (vA 44), some (vI c), some (vI (rdsM p e r q N n m f g rt lg tp pl_ c w).1)] [vI b, vA 44] F3 A3 al) => kk _ (by first | exact (if_pos (by omega)).symm | exact (if_neg (by omega)).symm)) (fun b hb => ?_)
      subst hb
      refine q_iconst eX12_reads_52 ?_
      refine q_callVC [vI (if (rdsM p e r q N n m f g rt lg tp pl_ c w).2 23 = 1002 then 1 else 0), vI 1] (M1 := mX12_check) eX12_reads_53 mf_X12_check lk_X12_259 (hK _ (by decide) (by decide)) (mo_check (b := if (rdsM p e r q N n m f g rt lg tp pl_ c w).2 23 = 1002 then 1 else 0) (w := 1) (rs := (rdsM p e r q N n m f g rt lg tp pl_ c w).2) hK r3 ⟨by have := X3.2.1.2.2.2.2.2.2.1; omega, by have := X3.2.1.2.2.2.2.2.2.1; omega⟩ (by first | exact ⟨by decide, by decide⟩ | exact ir_ite) ⟨by decide, by decide⟩) (by decide) (by decide) (by decide) (Nat.le_of_ble_eq_true rfl) rfl (fun F4 f4 r4 => ?_)
      refine q_pop eX12_reads_56 rfl ?_
      refine q_iload_n eX12_reads_57 rfl ?_
      refine q_retI eX12_reads_58 rfl (by decide) (by decide) ?_
      rw [hst, if_pos (i1 c33)]
      exact ⟨rfl, rfl, o3, ((hF0.trans (f2.mono (by decide))).trans (f3.mono (by decide))).trans (f4.mono (by decide)), r4⟩
def telM (len : Nat) (i y : Int) (t1 t2 : Int × (Nat → Int)) : Option Int := if (0 ≤ i ∧ i ≤ 7) ∧ 0 ≤ y ∧ y ≤ (len : Int) then some (if t1.2 26 ≠ 0 then -10 - t1.2 26 else if t2.2 29 ≠ 0 then -2 else t2.1) else none
def telF (len : Nat) (i y fp : Int) (t1 t2 : Int × (Nat → Int)) : Int := if (0 ≤ i ∧ i ≤ 7) ∧ 0 ≤ y ∧ y ≤ (len : Int) then (if t1.2 26 ≠ 0 then t1.2 27 else t2.2 27) else fp
def telP (len : Nat) (i y : Int) (pl_ : Nat → Int) (t1 t2 : Int × (Nat → Int)) : Nat → Int := if (0 ≤ i ∧ i ≤ 7) ∧ 0 ≤ y ∧ y ≤ (len : Int) then (if t1.2 26 ≠ 0 then pl_ else if t2.2 29 ≠ 0 then pl_ else upc pl_ i.toNat t2.1) else pl_
def telL (len : Nat) (i y : Int) : Nat := if (0 ≤ i ∧ i ≤ 7) ∧ 0 ≤ y ∧ y ≤ (len : Int) then 0 else len
theorem M4.ofR {F : HF} {rs : Nat → Int} {n : Nat} (h : RDM rs F) (hI : RIM n rs) : M4 (rs 27) F := ⟨h 27 (by decide), rs, fun k h1 h2 => h k (by
  have hk : k = 20 ∨ k = 21 ∨ k = 22 ∨ k = 23 ∨ k = 24 ∨ k = 25 ∨ k = 26 ∨ k = 27 ∨ k = 28 ∨ k = 29 := by omega
  rcases hk with rfl | rfl | rfl | rfl | rfl | rfl | rfl | rfl | rfl | rfl <;> decide), hI.2.2.2.2.1.1, hI.2.2.2.2.1.2⟩
set_option maxRecDepth 20000 in
theorem mo_tell {wo i y : Int} {p e r q N : Nat} {m : Int} {f : Nat → Int} {g : Int} {rt lg pl_ tp mk ck : Nat → Int} {len n dg : Nat} {fp set : Int} {w : Option (Nat → Int)} {S : List Int} {F : HF} {A : HA} {al : AL} (hK : KM al) (h0 : MI p e r q N m f g rt lg pl_ len tp fp n set dg mk ck w S F A) (hwo : F 44 24 = vI wo) (hwr : 0 ≤ wo ∧ wo ≤ 1000000) (hi : InR i) (hy : InR y) : QE 43 0 0 mX12_tell [vA 44, vI i, vI y] F A al (PMR (telM len i y (rdM p e r q N y.toNat m f g rt lg tp pl_ 0 wo) (rdM p e r q N y.toNat m f g rt lg tp pl_ 1 ((rdM p e r q N y.toNat m f g rt lg tp pl_ 0 wo).2 24))) F A al (fun F2 A2 => MI p e r q N m f g rt lg (telP len i y pl_ (rdM p e r q N y.toNat m f g rt lg tp pl_ 0 wo) (rdM p e r q N y.toNat m f g rt lg tp pl_ 1 ((rdM p e r q N y.toNat m f g rt lg tp pl_ 0 wo).2 24))) (telL len i y) tp (telF len i y fp (rdM p e r q N y.toNat m f g rt lg tp pl_ 0 wo) (rdM p e r q N y.toNat m f g rt lg tp pl_ 1 ((rdM p e r q N y.toNat m f g rt lg tp pl_ 0 wo).2 24))) n set dg mk ck w S F2 A2)) := by
  refine QE.mk (by decide +kernel) (Nat.le_of_ble_eq_true rfl) ?_
  have hi_1 := hi.1
  have hi_2 := hi.2
  have hy_1 := hy.1
  have hy_2 := hy.2
  have h := h0.t0
  generalize hF0 : up2 F 44 0 (vI 0) = F1 at h
  have ht0 : F1 44 0 = vI 0 := by rw [← hF0]; exact up2_eq _ _ _ _
  have hoF : FOff SCF F F1 := by rw [← hF0]; exact FOff.up (by decide)
  obtain ⟨⟨hX, hT, h3r, hMH⟩, h2, ⟨hl0, hl1, hta⟩, h4, ⟨⟨h51, h52, h53⟩, h5m, h5c, ⟨hn1, hn63, hnq, hs0, hs1⟩, hdn⟩, h7, ⟨⟨h81, h82⟩, h83⟩⟩ := id h
  obtain ⟨hG, hp, he, hq, hN, hg, ⟨hp2, hp7, he1, he4, hme, hqe, hq3, hNm, hgE⟩, hP, hL, hR⟩ := id hT
  obtain ⟨hm, hr, hf, hm2, hr1, hr6, hN4⟩ := id hG
  have hm4 := hG.m4
  have hq2 := hT.q2
  have hN9 : (N : Int) ≤ 4096 := by rw [hNm]; exact hN4
  have hE : ∀ x : Int, 0 ≤ x ∧ x ≤ (N : Int) - 1 → El m r x := fun x h => ⟨h.1, by rw [← hNm]; omega⟩
  have hNp : 1 ≤ N := by have := el_one (m := m) (r := r) hm2 hr1; have := this.2; omega
  refine q_aload_n eX12_tell_0 rfl ?_
  refine q_iconst eX12_tell_1 ?_
  refine q_putfield eX12_tell_2 pf_X12_1 (hK _ (by decide) (by decide)) (by decide) (FT_i rfl) ?_
  rw [hF0]
  refine q_aload_n eX12_tell_5 rfl ?_
  refine q_iload_n eX12_tell_6 rfl ?_
  refine q_i2l eX12_tell_7 (by first | assumption | exact ⟨by omega, by omega⟩) ?_
  refine q_lconst (v := 0) eX12_tell_8 (by decide +kernel) ?_
  refine q_ldc2 eX12_tell_9 kc_X12_302 ?_
  refine q_callSP [vJ (i), vJ (0), vJ (7)] (M1 := mX12_isIn) eX12_tell_12 mf_X12_isIn lk_X12_206 (mo_isIn (by exact ⟨by omega, by omega⟩) (by exact ⟨by omega, by omega⟩) (by exact ⟨by omega, by omega⟩)) (by decide) (by decide) (by decide) (Nat.le_of_ble_eq_true rfl) rfl ?_
  refine q_if_eq (tgt := 36) eX12_tell_15 (by decide) ir_ite (fun c15 => ?_) (fun c15 => ?_)
  · refine q_iconst eX12_tell_36 ?_
    refine q_iconst eX12_tell_37 ?_
    refine q_right0 eX12_tell_38 lk_X12_304 hK ht0 (by decide) (by decide) (by decide) (Nat.le_of_ble_eq_true rfl) ?_
    refine q_if_ne (tgt := 46) eX12_tell_41 (by decide) (by first | assumption | exact ⟨by omega, by omega⟩) (fun c41 => ?_) (fun c41 => ?_)
    · exact absurd rfl c41
    · refine q_iconst eX12_tell_44 ?_
      refine q_retI eX12_tell_45 rfl (by decide) (by decide) ?_
      have hC_ : ¬ ((0 ≤ i ∧ i ≤ 7) ∧ 0 ≤ y ∧ y ≤ (len : Int)) := by
        first
        | exact fun hc => i0 c15 hc.1
        | exact fun hc => i0 c29 hc.2
      refine PMR_t (if_neg hC_) (up2_eq _ _ _ _) (hoF.trans (FOff.up (l := SCF) (by decide))) (Off.rfl' (l := [])) (by decide) (by decide) ?_
      unfold telL telF telP
      rw [if_neg hC_, if_neg hC_, if_neg hC_]
      exact h.tv
  · refine q_iload_n eX12_tell_18 rfl ?_
    refine q_i2l eX12_tell_19 (by first | assumption | exact ⟨by omega, by omega⟩) ?_
    refine q_lconst (v := 0) eX12_tell_20 (by decide +kernel) ?_
    refine q_aload_n eX12_tell_21 rfl ?_
    refine q_getfield eX12_tell_22 gf_X12_214 (hK _ (by decide) (by decide)) (by decide) (by first | assumption) ?_
    refine q_i2l eX12_tell_25 (by first | assumption | exact ⟨by omega, by omega⟩) ?_
    refine q_callSP [vJ (y), vJ (0), vJ (len)] (M1 := mX12_isIn) eX12_tell_26 mf_X12_isIn lk_X12_206 (mo_isIn (by exact ⟨by omega, by omega⟩) (by exact ⟨by omega, by omega⟩) (by exact ⟨by omega, by omega⟩)) (by decide) (by decide) (by decide) (Nat.le_of_ble_eq_true rfl) rfl ?_
    refine q_if_eq (tgt := 36) eX12_tell_29 (by decide) ir_ite (fun c29 => ?_) (fun c29 => ?_)
    · refine q_iconst eX12_tell_36 ?_
      refine q_iconst eX12_tell_37 ?_
      refine q_right0 eX12_tell_38 lk_X12_304 hK ht0 (by decide) (by decide) (by decide) (Nat.le_of_ble_eq_true rfl) ?_
      refine q_if_ne (tgt := 46) eX12_tell_41 (by decide) (by first | assumption | exact ⟨by omega, by omega⟩) (fun c41 => ?_) (fun c41 => ?_)
      · exact absurd rfl c41
      · refine q_iconst eX12_tell_44 ?_
        refine q_retI eX12_tell_45 rfl (by decide) (by decide) ?_
        have hC_ : ¬ ((0 ≤ i ∧ i ≤ 7) ∧ 0 ≤ y ∧ y ≤ (len : Int)) := by
          first
          | exact fun hc => i0 c15 hc.1
          | exact fun hc => i0 c29 hc.2
        refine PMR_t (if_neg hC_) (up2_eq _ _ _ _) (hoF.trans (FOff.up (l := SCF) (by decide))) (Off.rfl' (l := [])) (by decide) (by decide) ?_
        unfold telL telF telP
        rw [if_neg hC_, if_neg hC_, if_neg hC_]
        exact h.tv
    · refine q_iconst eX12_tell_32 ?_
      refine q_goto (tgt := 37) eX12_tell_33 (by decide) ?_
      refine q_iconst eX12_tell_37 ?_
      refine q_right1 eX12_tell_38 lk_X12_304 hK ht0 (by decide) (by decide) (by decide) (Nat.le_of_ble_eq_true rfl) ?_
      refine q_if_ne (tgt := 46) eX12_tell_41 (by decide) (by first | assumption | exact ⟨by omega, by omega⟩) (fun c41 => ?_) (fun c41 => ?_)
      · have hi15 := i1 c15
        have hy29 := i1 c29
        obtain ⟨t, rfl⟩ : ∃ t : Nat, i = t := ⟨i.toNat, by omega⟩
        obtain ⟨z, rfl⟩ : ∃ z : Nat, y = z := ⟨y.toNat, by omega⟩
        refine q_aload_n eX12_tell_46 rfl ?_
        refine q_iload_n eX12_tell_47 rfl ?_
        refine q_putfield eX12_tell_48 pf_X12_220 (hK _ (by decide) (by decide)) (by decide) (FT_i rfl) ?_
        refine q_aload_n eX12_tell_51 rfl ?_
        refine q_iconst eX12_tell_52 ?_
        refine q_putfield eX12_tell_53 pf_X12_214 (hK _ (by decide) (by decide)) (by decide) (FT_i rfl) ?_
        refine q_aload_n eX12_tell_56 rfl ?_
        refine q_iconst eX12_tell_57 ?_
        refine q_putfield eX12_tell_58 pf_X12_252 (hK _ (by decide) (by decide)) (by decide) (FT_i rfl) ?_
        refine q_aload_n eX12_tell_61 rfl ?_
        refine q_iconst eX12_tell_62 ?_
        refine q_putfield eX12_tell_63 pf_X12_66 (hK _ (by decide) (by decide)) (by decide) (FT_i rfl) ?_
        have hF2 : FOff [(44, 20), (44, 19), (44, 26), (44, 27)] F1 (up2 (up2 (up2 (up2 F1 44 20 (vI z)) 44 19 (vI 0)) 44 26 (vI 0)) 44 27 (vI (-1))) := (((FOff.up (by decide)).trans (FOff.up (by decide))).trans (FOff.up (by decide))).trans (FOff.up (by decide))
        have y20 : (up2 (up2 (up2 (up2 F1 44 20 (vI z)) 44 19 (vI 0)) 44 26 (vI 0)) 44 27 (vI (-1))) 44 20 = vI z := Eq.trans (up2_ne (by decide)) (Eq.trans (up2_ne (by decide)) (Eq.trans (up2_ne (by decide)) (up2_eq _ _ _ _)))
        have y19 : (up2 (up2 (up2 (up2 F1 44 20 (vI z)) 44 19 (vI 0)) 44 26 (vI 0)) 44 27 (vI (-1))) 44 19 = vI 0 := Eq.trans (up2_ne (by decide)) (Eq.trans (up2_ne (by decide)) (up2_eq _ _ _ _))
        have y26 : (up2 (up2 (up2 (up2 F1 44 20 (vI z)) 44 19 (vI 0)) 44 26 (vI 0)) 44 27 (vI (-1))) 44 26 = vI 0 := Eq.trans (up2_ne (by decide)) (up2_eq _ _ _ _)
        have y27 : (up2 (up2 (up2 (up2 F1 44 20 (vI z)) 44 19 (vI 0)) 44 26 (vI 0)) 44 27 (vI (-1))) 44 27 = vI (-1) := up2_eq _ _ _ _
        generalize up2 (up2 (up2 (up2 F1 44 20 (vI z)) 44 19 (vI 0)) 44 26 (vI 0)) 44 27 (vI (-1)) = F2 at hF2 y20 y19 y26 y27
        have hX2 := hX.foff hF2 (by decide)
        have hC1 : CM p e r q N z m f g rt lg tp pl_ F1 A := ⟨hX, hT, hta, by omega, h2, hMH.1⟩
        have hC2 := hC1.pres2 hF2 (by decide) (by decide)
        obtain ⟨-, v, hv, -⟩ := id h4
        have hw24 : F1 44 24 = vI wo := (hoF 44 24 (by decide)).trans hwo
        have hrsv : RDM (fun k => if k = 20 then (z : Int) else if k = 24 then wo else if k = 26 then 0 else if k = 27 then -1 else if k = 21 ∨ k = 22 ∨ k = 23 ∨ k = 25 ∨ k = 28 ∨ k = 29 then v k else 0) F2 := by
          intro k hk
          simp only [List.mem_cons, List.not_mem_nil, or_false] at hk
          rcases hk with rfl | rfl | rfl | rfl | rfl | rfl | rfl | rfl | rfl | rfl
          · exact y20
          · exact (hF2 44 21 (by decide)).trans (hv 21 (by decide) (by decide))
          · exact (hF2 44 22 (by decide)).trans (hv 22 (by decide) (by decide))
          · exact (hF2 44 23 (by decide)).trans (hv 23 (by decide) (by decide))
          · exact (hF2 44 24 (by decide)).trans hw24
          · exact (hF2 44 25 (by decide)).trans (hv 25 (by decide) (by decide))
          · exact y26
          · exact y27
          · exact (hF2 44 28 (by decide)).trans (hv 28 (by decide) (by decide))
          · exact (hF2 44 29 (by decide)).trans (hv 29 (by decide) (by decide))
        have hrsc : ∀ k, k ≠ 21 → k ≠ 22 → k ≠ 23 → k ≠ 25 → k ≠ 28 → k ≠ 29 → (fun k => if k = 20 then (z : Int) else if k = 24 then wo else if k = 26 then 0 else if k = 27 then -1 else if k = 21 ∨ k = 22 ∨ k = 23 ∨ k = 25 ∨ k = 28 ∨ k = 29 then v k else 0) k = rs0M z 0 wo k := by
          intro k k1 k2 k3 k4 k5 k6
          show (if k = 20 then (z : Int) else if k = 24 then wo else if k = 26 then 0 else if k = 27 then -1 else if k = 21 ∨ k = 22 ∨ k = 23 ∨ k = 25 ∨ k = 28 ∨ k = 29 then v k else 0) = if k = 20 then (z : Int) else if k = 24 then wo else if k = 27 then -1 else if k = 28 then 0 else 0
          by_cases a1 : k = 20
          · rw [if_pos a1, if_pos a1]
          rw [if_neg a1, if_neg a1]
          by_cases a2 : k = 24
          · rw [if_pos a2, if_pos a2]
          rw [if_neg a2, if_neg a2]
          by_cases a3 : k = 26
          · rw [if_pos a3, if_neg (by omega), if_neg (by omega)]
          rw [if_neg a3]
          by_cases a4 : k = 27
          · rw [if_pos a4, if_pos a4]
          rw [if_neg a4, if_neg a4, if_neg (by omega), if_neg (by omega)]
        refine q_aload_n eX12_tell_66 rfl ?_
        refine q_iconst eX12_tell_67 ?_
        refine q_callV [vI 0] (M1 := mX12_reads) eX12_tell_68 mf_X12_reads lk_X12_307 (hK _ (by decide) (by decide)) (mo_reads (n := z) (w := wo) (c := 0) hK hC2 hrsv (Or.inl rfl) hwr hrsc) nt_PRR (by decide) (by decide) (by decide) (Nat.le_of_ble_eq_true rfl) (st := []) rfl (fun v9 F9 A9 al9 h9 => ?_)
        obtain ⟨e9, rfl, o9, f9, r9⟩ := h9
        obtain rfl := Sum.inl.inj e9
        have k9 := rdm_ok (c := 0) (w := wo) hC2 (Or.inl rfl) hwr
        have i26 := k9.2.2.2.2.2.2.2.1
        generalize ht1 : (rdM p e r q N z m f g rt lg tp pl_ 0 wo) = t1 at r9 k9 i26
        refine q_pop eX12_tell_71 rfl ?_
        refine q_aload_n eX12_tell_72 rfl ?_
        refine q_callVP [] (M1 := mX12_fine) eX12_tell_73 mf_X12_fine lk_X12_255 (hK _ (by decide) (by decide)) (mo_fine hK r9 ⟨by omega, by omega⟩) (by decide) (by decide) (by decide) (Nat.le_of_ble_eq_true rfl) rfl ?_
        refine q_if_ne (tgt := 87) eX12_tell_76 (by decide) ir_ite (fun c76 => ?_) (fun c76 => ?_)
        · have hC9 := (hC2.pres2 f9 (by decide) (by decide)).pres FOff.rfl' o9
          have h026 : t1.2 26 = 0 := i1 c76
          have hrs2 : RDM (fun k => if k = 21 ∨ k = 22 ∨ k = 23 ∨ k = 25 ∨ k = 28 ∨ k = 29 then t1.2 k else rs0M z 1 (t1.2 24) k) F9 := by
            intro k hk
            simp only [List.mem_cons, List.not_mem_nil, or_false] at hk
            rcases hk with rfl | rfl | rfl | rfl | rfl | rfl | rfl | rfl | rfl | rfl
            · exact (r9 20 (by decide)).trans (congrArg vI k9.2.1)
            · exact r9 21 (by decide)
            · exact r9 22 (by decide)
            · exact r9 23 (by decide)
            · exact r9 24 (by decide)
            · exact r9 25 (by decide)
            · exact (r9 26 (by decide)).trans (congrArg vI h026)
            · exact (r9 27 (by decide)).trans (congrArg vI (k9.2.2.2.2.2.2.2.2.2.2.2 h026))
            · exact r9 28 (by decide)
            · exact r9 29 (by decide)
          have hrs3 : ∀ k, k ≠ 21 → k ≠ 22 → k ≠ 23 → k ≠ 25 → k ≠ 28 → k ≠ 29 → (fun k => if k = 21 ∨ k = 22 ∨ k = 23 ∨ k = 25 ∨ k = 28 ∨ k = 29 then t1.2 k else rs0M z 1 (t1.2 24) k) k = rs0M z 1 (t1.2 24) k := fun k k1 k2 k3 k4 k5 k6 => if_neg (by omega)
          refine q_aload_n eX12_tell_87 rfl ?_
          refine q_iconst eX12_tell_88 ?_
          refine q_callV [vI 1] (M1 := mX12_reads) eX12_tell_89 mf_X12_reads lk_X12_307 (hK _ (by decide) (by decide)) (mo_reads (n := z) (w := t1.2 24) (c := 1) hK hC9 hrs2 (Or.inr rfl) k9.2.2.2.2.2.1 hrs3) nt_PRR (by decide) (by decide) (by decide) (Nat.le_of_ble_eq_true rfl) (st := []) rfl (fun v8 F8 A8 al8 h8_ => ?_)
          obtain ⟨e8, rfl, o8, f8, r8⟩ := h8_
          obtain rfl := Sum.inl.inj e8
          have k8 := rdm_ok (c := 1) (w := t1.2 24) hC9 (Or.inr rfl) k9.2.2.2.2.2.1
          generalize ht2 : rdM p e r q N z m f g rt lg tp pl_ 1 (t1.2 24) = t2 at r8 k8
          have i29 := k8.2.2.2.2.2.2.2.2.2.2.1
          have hb29 : InR (t2.2 29) := by rcases i29 with q | q <;> rw [q] <;> exact ⟨by decide, by decide⟩
          refine q_istore_n eX12_tell_92 (by decide) rfl ?_
          refine q_aload_n eX12_tell_93 rfl ?_
          refine q_getfield eX12_tell_94 gf_X12_287 (hK _ (by decide) (by decide)) (by decide) (r8 29 (by decide)) ?_
          refine q_if_eq (tgt := 103) eX12_tell_97 (by decide) hb29 (fun c97 => ?_) (fun c97 => ?_)
          · refine q_aload_n eX12_tell_103 rfl ?_
            refine q_getfield eX12_tell_104 gf_X12_44 (hK _ (by decide) (by decide)) (by decide) (mr_44_12 ((hX2.foff f9 (by decide)).foff f8 (by decide))) ?_
            refine q_iload_n eX12_tell_107 rfl ?_
            refine q_iload_n eX12_tell_108 rfl ?_
            refine q_iast eX12_tell_109 (hK _ (by decide) (by decide)) (by omega) (by omega) ?_
            refine q_iload_n eX12_tell_110 rfl ?_
            refine q_retI eX12_tell_111 rfl (by decide) (by decide) ?_
            have hCC : (0 ≤ (t : Int) ∧ (t : Int) ≤ 7) ∧ 0 ≤ (z : Int) ∧ (z : Int) ≤ (len : Int) := ⟨hi15, hy29⟩
            have eT1 : rdM p e r q N (z : Int).toNat m f g rt lg tp pl_ 0 wo = t1 := ht1
            rw [eT1]
            have h1 : ¬ t1.2 26 ≠ 0 := fun q => q h026
            have eT2 : rdM p e r q N (z : Int).toNat m f g rt lg tp pl_ 1 (t1.2 24) = t2 := ht2
            rw [eT2]
            have h2_ : ¬ t2.2 29 ≠ 0 := fun q => q c97
            have hFF : FOff ((44, 20) :: (44, 19) :: LR) F1 F8 := ((hF2.mono (by decide)).trans (f9.mono (by decide))).trans (f8.mono (by decide))
            have o98 : Off (49 :: SAQ) A (up2 A8 49 (t : Int).toNat t2.1) := ((o9.trans o8).mono (by decide)).trans (Off.up (by decide))
            refine PMR_r (lF := (44, 20) :: (44, 19) :: LR ++ SCF) ((if_pos hCC).trans (congrArg some ((if_neg h1).trans (if_neg h2_)))) ((hFF 44 0 (by decide)).trans ht0) ((hoF.mono (by decide)).trans (hFF.mono (by decide))) o98 (by decide) (by decide) ?_
            unfold telL telF telP
            rw [if_pos hCC, if_pos hCC, if_pos hCC, if_neg h1, if_neg h1, if_neg h2_]
            refine ⟨h.1.pres (hX.foff hFF (by decide)) (hFF.fe (by decide)) (o98.ae (by decide)), fun j hj => ?_, ⟨(f8 44 19 (by decide)).trans ((f9 44 19 (by decide)).trans y19), by omega, fun j hj => by rw [o98 55 (by decide)]; exact hta j hj⟩, M4.ofR r8 k8.2, h.2.2.2.2.1.pres (hFF.fe (by decide)) (o98.ae (by decide)), h.2.2.2.2.2.1.pres (hFF.fe (by decide)) (o98.ae (by decide)), h.2.2.2.2.2.2.pres (hFF.fe (by decide)) (o98.ae (by decide))⟩
            show up2 A8 49 t t2.1 49 j = upc pl_ t t2.1 j ∧ El m r (upc pl_ t t2.1 j)
            rw [up2_at]
            unfold upc
            by_cases hjt : j = t
            · rw [if_pos hjt, if_pos hjt]; exact ⟨rfl, k8.1⟩
            · rw [if_neg hjt, if_neg hjt, o8 49 (by decide), o9 49 (by decide)]; exact h2 j hj
          · refine q_bipush eX12_tell_100 (by decide +kernel) ?_
            refine q_retI eX12_tell_102 rfl (by decide) (by decide) ?_
            have hCC : (0 ≤ (t : Int) ∧ (t : Int) ≤ 7) ∧ 0 ≤ (z : Int) ∧ (z : Int) ≤ (len : Int) := ⟨hi15, hy29⟩
            have eT1 : rdM p e r q N (z : Int).toNat m f g rt lg tp pl_ 0 wo = t1 := ht1
            rw [eT1]
            have h1 : ¬ t1.2 26 ≠ 0 := fun q => q h026
            have eT2 : rdM p e r q N (z : Int).toNat m f g rt lg tp pl_ 1 (t1.2 24) = t2 := ht2
            rw [eT2]
            have h2_ : t2.2 29 ≠ 0 := c97
            have hFF : FOff ((44, 20) :: (44, 19) :: LR) F1 F8 := ((hF2.mono (by decide)).trans (f9.mono (by decide))).trans (f8.mono (by decide))
            have o98 := o9.trans o8
            refine PMR_r (lF := (44, 20) :: (44, 19) :: LR ++ SCF) ((if_pos hCC).trans (congrArg some ((if_neg h1).trans (if_pos h2_)))) ((hFF 44 0 (by decide)).trans ht0) ((hoF.mono (by decide)).trans (hFF.mono (by decide))) o98 (by decide) (by decide) ?_
            unfold telL telF telP
            rw [if_pos hCC, if_pos hCC, if_pos hCC, if_neg h1, if_neg h1, if_pos h2_]
            exact ⟨h.1.pres (hX.foff hFF (by decide)) (hFF.fe (by decide)) (o98.ae (by decide)), h.2.1.pres (o98.ae (by decide)), ⟨(f8 44 19 (by decide)).trans ((f9 44 19 (by decide)).trans y19), by omega, fun j hj => by rw [o98 55 (by decide)]; exact hta j hj⟩, M4.ofR r8 k8.2, h.2.2.2.2.1.pres (hFF.fe (by decide)) (o98.ae (by decide)), h.2.2.2.2.2.1.pres (hFF.fe (by decide)) (o98.ae (by decide)), h.2.2.2.2.2.2.pres (hFF.fe (by decide)) (o98.ae (by decide))⟩
        · refine q_bipush eX12_tell_79 (by decide +kernel) ?_
          refine q_aload_n eX12_tell_81 rfl ?_
          refine q_getfield eX12_tell_82 gf_X12_252 (hK _ (by decide) (by decide)) (by decide) (r9 26 (by decide)) ?_
          refine q_isub eX12_tell_85 ?_
          refine q_retI eX12_tell_86 rfl (by decide) (by decide) ?_
          have hCC : (0 ≤ (t : Int) ∧ (t : Int) ≤ 7) ∧ 0 ≤ (z : Int) ∧ (z : Int) ≤ (len : Int) := ⟨hi15, hy29⟩
          have eT1 : rdM p e r q N (z : Int).toNat m f g rt lg tp pl_ 0 wo = t1 := ht1
          rw [eT1]
          have h1 : t1.2 26 ≠ 0 := i0 c76
          have hFF : FOff ((44, 20) :: (44, 19) :: LR) F1 F9 := (hF2.mono (by decide)).trans (f9.mono (by decide))
          refine PMR_r (lF := (44, 20) :: (44, 19) :: LR ++ SCF) ((if_pos hCC).trans (congrArg some (if_pos h1))) ((hFF 44 0 (by decide)).trans ht0) ((hoF.mono (by decide)).trans (hFF.mono (by decide))) o9 (by decide) (by decide) ?_
          unfold telL telF telP
          rw [if_pos hCC, if_pos hCC, if_pos hCC, if_pos h1, if_pos h1]
          exact ⟨h.1.pres (hX.foff hFF (by decide)) (hFF.fe (by decide)) (o9.ae (by decide)), h.2.1.pres (o9.ae (by decide)), ⟨(f9 44 19 (by decide)).trans y19, by omega, fun j hj => by rw [o9 55 (by decide)]; exact hta j hj⟩, M4.ofR r9 k9.2, h.2.2.2.2.1.pres (hFF.fe (by decide)) (o9.ae (by decide)), h.2.2.2.2.2.1.pres (hFF.fe (by decide)) (o9.ae (by decide)), h.2.2.2.2.2.2.pres (hFF.fe (by decide)) (o9.ae (by decide))⟩
      · exact absurd c41 (by decide)
