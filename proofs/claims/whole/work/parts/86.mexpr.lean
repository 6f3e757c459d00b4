/-! the model's reading: factors, terms, sums -/
/-- what a reader of the model keeps, at depth 8 - k -/
def TOK (n : Nat) (m : Int) (r k : Nat) (T : (Nat → Int) → Int × (Nat → Int)) : Prop := ∀ rs, RIM n rs → rs 25 + k = 8 → El m r (T rs).1 ∧ KT n rs (T rs).2
def faM (n : Nat) (tp : Nat → Int) (m : Int) (r : Nat) (f : Nat → Int) (T : (Nat → Int) → Int × (Nat → Int)) (rs : Nat → Int) : Int × (Nat → Int) :=
  if (T rs).2 26 = 0 ∧ (T rs).2 23 = 94 then (if (fiM n tp 9999 (gxM n tp (T rs).2)).2 26 = 0 ∧ (fiM n tp 9999 (gxM n tp (T rs).2)).2 28 ≠ 0 then pw m r f (T rs).1 (fiM n tp 9999 (gxM n tp (T rs).2)).1.toNat else 0, (fiM n tp 9999 (gxM n tp (T rs).2)).2) else T rs
def teL (n : Nat) (tp : Nat → Int) (m : Int) (r : Nat) (f : Nat → Int) (T : (Nat → Int) → Int × (Nat → Int)) : Nat → Int × (Nat → Int) → Int × (Nat → Int)
  | 0, s => s
  | k + 1, s => if s.2 26 = 0 ∧ s.2 23 = 42 then teL n tp m r f T k (if (faM n tp m r f T (gxM n tp s.2)).2 26 = 0 ∧ (faM n tp m r f T (gxM n tp s.2)).2 28 ≠ 0 then tm m r f s.1 (faM n tp m r f T (gxM n tp s.2)).1 else 0, (faM n tp m r f T (gxM n tp s.2)).2) else s
def teM (n : Nat) (tp : Nat → Int) (m : Int) (r : Nat) (f : Nat → Int) (T : (Nat → Int) → Int × (Nat → Int)) (rs : Nat → Int) : Int × (Nat → Int) := teL n tp m r f T (n + 1) (faM n tp m r f T rs)
def xpL (n : Nat) (tp : Nat → Int) (m : Int) (r : Nat) (f : Nat → Int) (T : (Nat → Int) → Int × (Nat → Int)) : Nat → Int × (Nat → Int) → Int × (Nat → Int)
  | 0, s => s
  | k + 1, s => if s.2 26 = 0 ∧ (s.2 23 = 43 ∨ s.2 23 = 45) then xpL n tp m r f T k (if (teM n tp m r f T (gxM n tp s.2)).2 26 = 0 ∧ (teM n tp m r f T (gxM n tp s.2)).2 28 ≠ 0 then (if s.2 23 = 43 then pl m r s.1 (teM n tp m r f T (gxM n tp s.2)).1 else mi m r s.1 (teM n tp m r f T (gxM n tp s.2)).1) else 0, (teM n tp m r f T (gxM n tp s.2)).2) else s
def xpM (n : Nat) (tp : Nat → Int) (m : Int) (r : Nat) (f : Nat → Int) (T : (Nat → Int) → Int × (Nat → Int)) (rs : Nat → Int) : Int × (Nat → Int) := xpL n tp m r f T (n + 1) (teM n tp m r f T rs)
section OK
variable {n r k : Nat} {m : Int} {f tp : Nat → Int} {T : (Nat → Int) → Int × (Nat → Int)} {A : HA}
theorem mu_le (n : Nat) (rs : Nat → Int) : mu n rs ≤ n + 1 := by
  unfold mu
  split <;> omega
theorem fa_ok (hT : TOK n m r k T) (hm : 2 ≤ m) (hr : 0 < r) (ht : TM tp A) (hn : n ≤ 200) : TOK n m r k (faM n tp m r f T) := by
  intro rs hI h8
  obtain ⟨h1, h2⟩ := hT rs hI h8
  unfold faM
  split
  · next hc =>
    have k2 := (go_ok (tp := tp) h2.1 ht hn (by omega)).1
    have k3 := (fi_ok (tp := tp) (most := 9999) k2.1 ht hn (by decide)).2
    refine ⟨?_, (h2.trans k2).trans k3⟩
    split
    · exact pw_el hm hr _ _
    · exact el_zero (by omega)
  · exact ⟨h1, h2⟩
theorem teL_ok (hT : TOK n m r k T) (hm : 2 ≤ m) (hr : 0 < r) (ht : TM tp A) (hn : n ≤ 200) : ∀ (c : Nat) (s : Int × (Nat → Int)), El m r s.1 → RIM n s.2 → s.2 25 + k = 8 → El m r (teL n tp m r f T c s).1 ∧ KT n s.2 (teL n tp m r f T c s).2
  | 0, s, h1, h2, _ => ⟨h1, KT.refl h2⟩
  | c + 1, s, h1, h2, h8 => by
    unfold teL
    split
    · next hc =>
      have k2 := (go_ok (tp := tp) h2 ht hn (by omega)).1
      have h3 := fa_ok (f := f) hT hm hr ht hn _ k2.1 (by rw [k2.2.1]; exact h8)
      have h4 := teL_ok hT hm hr ht hn c (if (faM n tp m r f T (gxM n tp s.2)).2 26 = 0 ∧ (faM n tp m r f T (gxM n tp s.2)).2 28 ≠ 0 then tm m r f s.1 (faM n tp m r f T (gxM n tp s.2)).1 else 0, (faM n tp m r f T (gxM n tp s.2)).2) (by
        show El m r (if _ then _ else _)
        split
        · exact tm_el (by omega) _ _
        · exact el_zero (by omega)) h3.2.1 (by
        show (faM n tp m r f T (gxM n tp s.2)).2 25 + _ = 8
        rw [h3.2.2.1, k2.2.1]; exact h8)
      exact ⟨h4.1, (k2.trans h3.2).trans h4.2⟩
    · exact ⟨h1, KT.refl h2⟩
theorem te_ok (hT : TOK n m r k T) (hm : 2 ≤ m) (hr : 0 < r) (ht : TM tp A) (hn : n ≤ 200) : TOK n m r k (teM n tp m r f T) := fun rs hI h8 => by
  have h3 := fa_ok (f := f) hT hm hr ht hn rs hI h8
  have h4 := teL_ok (f := f) hT hm hr ht hn (n + 1) _ h3.1 h3.2.1 (by rw [h3.2.2.1]; exact h8)
  exact ⟨h4.1, h3.2.trans h4.2⟩
theorem xpL_ok (hT : TOK n m r k T) (hm : 2 ≤ m) (hr : 0 < r) (ht : TM tp A) (hn : n ≤ 200) : ∀ (c : Nat) (s : Int × (Nat → Int)), El m r s.1 → RIM n s.2 → s.2 25 + k = 8 → El m r (xpL n tp m r f T c s).1 ∧ KT n s.2 (xpL n tp m r f T c s).2
  | 0, s, h1, h2, _ => ⟨h1, KT.refl h2⟩
  | c + 1, s, h1, h2, h8 => by
    unfold xpL
    split
    · next hc =>
      have k2 := (go_ok (tp := tp) h2 ht hn (by omega)).1
      have h3 := te_ok (f := f) hT hm hr ht hn _ k2.1 (by rw [k2.2.1]; exact h8)
      have h4 := xpL_ok hT hm hr ht hn c (if (teM n tp m r f T (gxM n tp s.2)).2 26 = 0 ∧ (teM n tp m r f T (gxM n tp s.2)).2 28 ≠ 0 then (if s.2 23 = 43 then pl m r s.1 (teM n tp m r f T (gxM n tp s.2)).1 else mi m r s.1 (teM n tp m r f T (gxM n tp s.2)).1) else 0, (teM n tp m r f T (gxM n tp s.2)).2) (by
        show El m r (if _ then (if _ then _ else _) else _)
        split
        · split
          · exact pl_el (by omega) _ _
          · exact mi_el (by omega) _ _
        · exact el_zero (by omega)) h3.2.1 (by
        show (teM n tp m r f T (gxM n tp s.2)).2 25 + _ = 8
        rw [h3.2.2.1, k2.2.1]; exact h8)
      exact ⟨h4.1, (k2.trans h3.2).trans h4.2⟩
    · exact ⟨h1, KT.refl h2⟩
theorem xp_ok (hT : TOK n m r k T) (hm : 2 ≤ m) (hr : 0 < r) (ht : TM tp A) (hn : n ≤ 200) : TOK n m r k (xpM n tp m r f T) := fun rs hI h8 => by
  have h3 := te_ok (f := f) hT hm hr ht hn rs hI h8
  have h4 := xpL_ok (f := f) hT hm hr ht hn (n + 1) _ h3.1 h3.2.1 (by rw [h3.2.2.1]; exact h8)
  exact ⟨h4.1, h3.2.trans h4.2⟩
end OK
/-- a method of the model's reading keeps to T -/
def RCM (D : Nat) (M : MT) (k : Nat) (al : AL) (p e r q N n : Nat) (m : Int) (f : Nat → Int) (g : Int) (rt lg tp pl_ : Nat → Int) (T : (Nat → Int) → Int × (Nat → Int)) : Prop :=
  ∀ (rs : Nat → Int) (F : HF) (A : HA), CM p e r q N n m f g rt lg tp pl_ F A → RDM rs F → RIM n rs → rs 25 + k = 8 → QE D 0 0 M [vA 44] F A al (PRN (T rs) F A al)
set_option maxRecDepth 20000 in
theorem mo_factor {rs : Nat → Int} {D k : Nat} {T : (Nat → Int) → Int × (Nat → Int)} {p e r q N n : Nat} {m : Int} {f : Nat → Int} {g : Int} {rt lg tp pl_ : Nat → Int} {F : HF} {A : HA} {al : AL} (hK : KM al) (hC : CM p e r q N n m f g rt lg tp pl_ F A) (h : RDM rs F) (hI : RIM n rs) (h8 : rs 25 + k = 8) (hD : 6 ≤ D) (hTO : TOK n m r k T) (hRC : RCM D mX12_atom k al p e r q N n m f g rt lg tp pl_ T)  : QE (D + 1) 0 0 mX12_factor [vA 44] F A al (PRN (faM n tp m r f T rs) F A al) := by
  refine QE.mk (by decide +kernel) (Nat.le_of_ble_eq_true rfl) ?_
  obtain ⟨hX, hT, ht, hn, hpl, hum⟩ := id hC
  obtain ⟨i20, i21, i22, i23, i24, i25, i26, i27, i28, i29⟩ := id hI
  obtain ⟨hG, hp, he, hq, hN, hg, ⟨hp2, hp7, he1, he4, hme, hqe, hq3, hNm, hgE⟩, hP, hL, hR⟩ := id hT
  obtain ⟨hm, hr, hf, hm2, hr1, hr6, hN4⟩ := id hG
  have hm4 := hG.m4
  refine q_aload_n eX12_factor_0 rfl ?_
  refine q_callVN [] (M1 := mX12_atom) eX12_factor_1 mf_X12_atom lk_X12_278 (hK _ (by decide) (by decide)) (hRC rs F A hC h hI h8) (by omega) (by decide) (by decide) (Nat.le_of_ble_eq_true rfl) rfl (fun F1 A1 o1 f1 r1 => ?_)
  obtain ⟨E1, K1⟩ := hTO rs hI h8
  have I1 := K1.1
  have C1 := hC.pres f1 o1
  have i23_1 := I1.2.2.2.1
  have hst : faM n tp m r f T rs = if (T rs).2 26 = 0 ∧ (T rs).2 23 = 94 then (if (fiM n tp 9999 (gxM n tp (T rs).2)).2 26 = 0 ∧ (fiM n tp 9999 (gxM n tp (T rs).2)).2 28 ≠ 0 then pw m r f (T rs).1 (fiM n tp 9999 (gxM n tp (T rs).2)).1.toNat else 0, (fiM n tp 9999 (gxM n tp (T rs).2)).2) else T rs := rfl
  refine q_istore_n eX12_factor_4 (by decide) rfl ?_
  refine q_aload_n eX12_factor_5 rfl ?_
  refine q_callVP [] (M1 := mX12_fine) eX12_factor_6 mf_X12_fine lk_X12_255 (hK _ (by decide) (by decide)) (mo_fine hK r1 ⟨by have := I1.2.2.2.2.2.2.1; omega, by have := I1.2.2.2.2.2.2.1; omega⟩) (by omega) (by decide) (by decide) (Nat.le_of_ble_eq_true rfl) rfl ?_
  refine q_if_eq (tgt := 21) eX12_factor_9 (by decide) ir_ite (fun c9 => ?_) (fun c9 => ?_)
  · refine q_iload_n eX12_factor_21 rfl ?_
    refine q_retI eX12_factor_22 rfl (by decide) (by decide) ?_
    first
    | (rw [hst, if_neg (fun q => i0 c9 q.1)]
       exact ⟨rfl, rfl, o1, f1, r1⟩)
    | (rw [hst, if_neg (fun q => c18 q.2)]
       exact ⟨rfl, rfl, o1, f1, r1⟩)
  · refine q_aload_n eX12_factor_12 rfl ?_
    refine q_getfield eX12_factor_13 gf_X12_236 (hK _ (by decide) (by decide)) (by decide) (r1 23 (by decide)) ?_
    refine q_bipush eX12_factor_16 (by decide +kernel) ?_
    refine q_icmp_eq (tgt := 23) eX12_factor_18 (by decide) (by first | assumption | exact ⟨by omega, by omega⟩) (by first | assumption | exact ⟨by omega, by omega⟩) (fun c18 => ?_) (fun c18 => ?_)
    · refine q_aload_n eX12_factor_23 rfl ?_
      refine q_callVM [] (M1 := mX12_go) eX12_factor_24 mf_X12_go lk_X12_263 (hK _ (by decide) (by decide)) (mo_go hK C1.1 C1.2.2.1 hn I1.1 (Int.toNat_of_nonneg I1.2.1.1).symm (by have := I1.2.1; omega) r1) (by omega) (by decide) (by decide) (Nat.le_of_ble_eq_true rfl) rfl (fun F2 f2 r2 => ?_)
      have K2 := (go_ok (tp := tp) I1 ht hn (by omega)).1
      have C2 := C1.pres f2 Off.rfl'
      have F2k := fi_ok (tp := tp) (most := 9999) K2.1 ht hn (by decide)
      refine q_aload_n eX12_factor_27 rfl ?_
      refine q_sipush eX12_factor_28 (by decide +kernel) ?_
      refine q_callVN [vI 9999] (M1 := mX12_figure) eX12_factor_31 mf_X12_figure lk_X12_269 (hK _ (by decide) (by decide)) (mo_figure hK C2 r2 K2.1 (by decide) (by decide)) (by omega) (by decide) (by decide) (Nat.le_of_ble_eq_true rfl) rfl (fun F3 A3 o3 f3 r3 => ?_)
      have C3 := C2.pres f3 o3
      have I3 := F2k.2.1
      have hb28 : InR ((fiM n tp 9999 (gxM n tp (T rs).2)).2 28) := by rcases I3.2.2.2.2.2.2.2.2.1 with q | q <;> rw [q] <;> exact ⟨by decide, by decide⟩
      rw [← Int.toNat_of_nonneg F2k.1.1]
      refine q_istore_n eX12_factor_34 (by decide) rfl ?_
      refine q_aload_n eX12_factor_35 rfl ?_
      refine q_callVP [] (M1 := mX12_fine) eX12_factor_36 mf_X12_fine lk_X12_255 (hK _ (by decide) (by decide)) (mo_fine hK r3 ⟨by have := I3.2.2.2.2.2.2.1; omega, by have := I3.2.2.2.2.2.2.1; omega⟩) (by omega) (by decide) (by decide) (Nat.le_of_ble_eq_true rfl) rfl ?_
      refine q_if_eq (tgt := 59) eX12_factor_39 (by decide) ir_ite (fun c39 => ?_) (fun c39 => ?_)
      · refine q_iconst eX12_factor_59 ?_
        refine q_retI eX12_factor_60 rfl (by decide) (by decide) ?_
        have h94 : (T rs).2 26 = 0 ∧ (T rs).2 23 = 94 := ⟨i1 c9, by omega⟩
        rw [hst, if_pos h94]
        first
        | (rw [if_neg (fun q => i0 c39 q.1)]
           exact ⟨rfl, rfl, o1.trans o3, (f1.trans f2).trans f3, r3⟩)
        | (rw [if_neg (fun q => q.2 c46)]
           exact ⟨rfl, rfl, o1.trans o3, (f1.trans f2).trans f3, r3⟩)
        | (rw [if_pos ⟨i1 c39, c46⟩]
           exact ⟨rfl, rfl, (o1.trans o3).trans (h4.mono (by decide)), (f1.trans f2).trans f3, r3⟩)
      · refine q_aload_n eX12_factor_42 rfl ?_
        refine q_getfield eX12_factor_43 gf_X12_281 (hK _ (by decide) (by decide)) (by decide) (r3 28 (by decide)) ?_
        refine q_if_eq (tgt := 59) eX12_factor_46 (by decide) hb28 (fun c46 => ?_) (fun c46 => ?_)
        · refine q_iconst eX12_factor_59 ?_
          refine q_retI eX12_factor_60 rfl (by decide) (by decide) ?_
          have h94 : (T rs).2 26 = 0 ∧ (T rs).2 23 = 94 := ⟨i1 c9, by omega⟩
          rw [hst, if_pos h94]
          first
          | (rw [if_neg (fun q => i0 c39 q.1)]
             exact ⟨rfl, rfl, o1.trans o3, (f1.trans f2).trans f3, r3⟩)
          | (rw [if_neg (fun q => q.2 c46)]
             exact ⟨rfl, rfl, o1.trans o3, (f1.trans f2).trans f3, r3⟩)
          | (rw [if_pos ⟨i1 c39, c46⟩]
             exact ⟨rfl, rfl, (o1.trans o3).trans (h4.mono (by decide)), (f1.trans f2).trans f3, r3⟩)
        · refine q_aload_n eX12_factor_49 rfl ?_
          refine q_iload_n eX12_factor_50 rfl ?_
          refine q_iload_n eX12_factor_51 rfl ?_
          refine q_i2l eX12_factor_52 (by first | assumption | exact ⟨by omega, by omega⟩) ?_
          refine q_callVQ [vI (T rs).1, vJ ((fiM n tp 9999 (gxM n tp (T rs).2)).1.toNat : Nat)] (M1 := mX12_raised) eX12_factor_53 mf_X12_raised lk_X12_147 (hK _ (by decide) (by decide)) (mo_raised hK C3.1 C3.2.1.1 E1 (by omega)) (by omega) (by decide) (by decide) (Nat.le_of_ble_eq_true rfl) rfl (fun A4 h4 => ?_)
          refine q_goto (tgt := 60) eX12_factor_56 (by decide) ?_
          refine q_retI eX12_factor_60 rfl (by decide) (by decide) ?_
          have h94 : (T rs).2 26 = 0 ∧ (T rs).2 23 = 94 := ⟨i1 c9, by omega⟩
          rw [hst, if_pos h94]
          first
          | (rw [if_neg (fun q => i0 c39 q.1)]
             exact ⟨rfl, rfl, o1.trans o3, (f1.trans f2).trans f3, r3⟩)
          | (rw [if_neg (fun q => q.2 c46)]
             exact ⟨rfl, rfl, o1.trans o3, (f1.trans f2).trans f3, r3⟩)
          | (rw [if_pos ⟨i1 c39, c46⟩]
             exact ⟨rfl, rfl, (o1.trans o3).trans (h4.mono (by decide)), (f1.trans f2).trans f3, r3⟩)
    · refine q_iload_n eX12_factor_21 rfl ?_
      refine q_retI eX12_factor_22 rfl (by decide) (by decide) ?_
      first
      | (rw [hst, if_neg (fun q => i0 c9 q.1)]
         exact ⟨rfl, rfl, o1, f1, r1⟩)
      | (rw [hst, if_neg (fun q => c18 q.2)]
         exact ⟨rfl, rfl, o1, f1, r1⟩)
set_option maxRecDepth 20000 in
theorem lp_mterm {S : Int × (Nat → Int)} {D k : Nat} {T : (Nat → Int) → Int × (Nat → Int)} {p e r q N n : Nat} {m : Int} {f : Nat → Int} {g : Int} {rt lg tp pl_ : Nat → Int} {F0 : HF} {A0 : HA} {al : AL} (hK : KM al) (hC0 : CM p e r q N n m f g rt lg tp pl_ F0 A0) (hD : 6 ≤ D) (hTO : TOK n m r k T) (hRC : RCM D mX12_atom k al p e r q N n m f g rt lg tp pl_ T) : ∀ (c : Nat) (s : Int × (Nat → Int)) (F : HF) (A : HA) (l2 : Option LV), mu n s.2 ≤ c → Off SAQ A0 A → FOff LQ F0 F → RDM s.2 F → El m r s.1 → RIM n s.2 → s.2 25 + k = 8 → teL n tp m r f T c s = S →
    QW mX12_term (D + 2) 0 0 (PRN S F0 A0 al) 0 0 5 [some (vA 44), some (vI s.1), l2] [] F A al := by
  intro c
  induction c with
  | zero =>
    intro s F A l2 hmu ho hF h hE hI h8 hS
    have hC := hC0.pres hF ho
    obtain ⟨hX, hT, ht, hn, hpl, hum⟩ := id hC
    have h23 : s.2 23 = 1002 := by
      refine Classical.byContradiction fun q => ?_
      unfold mu at hmu
      rw [if_neg q] at hmu
      omega
    have hS' : s = S := hS
    subst hS'
    refine q_aload_n eX12_term_5 rfl ?_
    refine q_callVP [] (M1 := mX12_fine) eX12_term_6 mf_X12_fine lk_X12_255 (hK _ (by decide) (by decide)) (mo_fine hK h ⟨by have := hI.2.2.2.2.2.2.1; omega, by have := hI.2.2.2.2.2.2.1; omega⟩) (by omega) (by decide) (by decide) (Nat.le_of_ble_eq_true rfl) rfl ?_
    refine q_if_eq (tgt := 58) eX12_term_9 (by decide) ir_ite (fun c9 => ?_) (fun c9 => ?_)
    · refine q_iload_n eX12_term_58 rfl ?_
      refine q_retI eX12_term_59 rfl (by decide) (by decide) ?_
      exact ⟨rfl, rfl, ho, hF, h⟩
    · refine q_aload_n eX12_term_12 rfl ?_
      refine q_getfield eX12_term_13 gf_X12_236 (hK _ (by decide) (by decide)) (by decide) (h 23 (by decide)) ?_
      refine q_bipush eX12_term_16 (by decide +kernel) ?_
      refine q_icmp_ne (tgt := 58) eX12_term_18 (by decide) (by first | assumption | exact ⟨by omega, by omega⟩) (by first | assumption | exact ⟨by omega, by omega⟩) (fun c18 => ?_) (fun c18 => ?_)
      · refine q_iload_n eX12_term_58 rfl ?_
        refine q_retI eX12_term_59 rfl (by decide) (by decide) ?_
        exact ⟨rfl, rfl, ho, hF, h⟩
      · exact absurd h23 (by omega)
  | succ c ih =>
    intro s F A l2 hmu ho hF h hE hI h8 hS
    have hC := hC0.pres hF ho
    obtain ⟨hX, hT, ht, hn, hpl, hum⟩ := id hC
    obtain ⟨hG, hp, he, hq, hN, hg, ⟨hp2, hp7, he1, he4, hme, hqe, hq3, hNm, hgE⟩, hP, hL, hR⟩ := id hT
    obtain ⟨hm, hr, hf, hm2, hr1, hr6, hN4⟩ := id hG
    have hm4 := hG.m4
    have hI23 := hI.2.2.2.1
    have hst : teL n tp m r f T (c + 1) s = if s.2 26 = 0 ∧ s.2 23 = 42 then teL n tp m r f T c (if (faM n tp m r f T (gxM n tp s.2)).2 26 = 0 ∧ (faM n tp m r f T (gxM n tp s.2)).2 28 ≠ 0 then tm m r f s.1 (faM n tp m r f T (gxM n tp s.2)).1 else 0, (faM n tp m r f T (gxM n tp s.2)).2) else s := rfl
    rw [hst] at hS
    refine q_aload_n eX12_term_5 rfl ?_
    refine q_callVP [] (M1 := mX12_fine) eX12_term_6 mf_X12_fine lk_X12_255 (hK _ (by decide) (by decide)) (mo_fine hK h ⟨by have := hI.2.2.2.2.2.2.1; omega, by have := hI.2.2.2.2.2.2.1; omega⟩) (by omega) (by decide) (by decide) (Nat.le_of_ble_eq_true rfl) rfl ?_
    refine q_if_eq (tgt := 58) eX12_term_9 (by decide) ir_ite (fun c9 => ?_) (fun c9 => ?_)
    · refine q_iload_n eX12_term_58 rfl ?_
      refine q_retI eX12_term_59 rfl (by decide) (by decide) ?_
      first
      | (rw [if_neg (fun q => i0 c9 q.1)] at hS
         subst hS
         exact ⟨rfl, rfl, ho, hF, h⟩)
      | (rw [if_neg (fun q => c18 q.2)] at hS
         subst hS
         exact ⟨rfl, rfl, ho, hF, h⟩)
    · refine q_aload_n eX12_term_12 rfl ?_
      refine q_getfield eX12_term_13 gf_X12_236 (hK _ (by decide) (by decide)) (by decide) (h 23 (by decide)) ?_
      refine q_bipush eX12_term_16 (by decide +kernel) ?_
      refine q_icmp_ne (tgt := 58) eX12_term_18 (by decide) (by first | assumption | exact ⟨by omega, by omega⟩) (by first | assumption | exact ⟨by omega, by omega⟩) (fun c18 => ?_) (fun c18 => ?_)
      · refine q_iload_n eX12_term_58 rfl ?_
        refine q_retI eX12_term_59 rfl (by decide) (by decide) ?_
        first
        | (rw [if_neg (fun q => i0 c9 q.1)] at hS
           subst hS
           exact ⟨rfl, rfl, ho, hF, h⟩)
        | (rw [if_neg (fun q => c18 q.2)] at hS
           subst hS
           exact ⟨rfl, rfl, ho, hF, h⟩)
      · refine q_aload_n eX12_term_21 rfl ?_
        refine q_callVM [] (M1 := mX12_go) eX12_term_22 mf_X12_go lk_X12_263 (hK _ (by decide) (by decide)) (mo_go hK hC.1 hC.2.2.1 hn hI.1 (Int.toNat_of_nonneg hI.2.1.1).symm (by have := hI.2.1; omega) h) (by omega) (by decide) (by decide) (Nat.le_of_ble_eq_true rfl) rfl (fun F2 f2 r2 => ?_)
        have K2 := go_ok (tp := tp) hI ht hn (by omega)
        have C2 := hC.pres f2 Off.rfl'
        have h82 : gxM n tp s.2 25 + (k : Int) = 8 := by rw [K2.1.2.1]; exact h8
        refine q_aload_n eX12_term_25 rfl ?_
        refine q_callVN [] (M1 := mX12_factor) eX12_term_26 mf_X12_factor lk_X12_296 (hK _ (by decide) (by decide)) (mo_factor hK C2 r2 K2.1.1 h82 hD hTO hRC) (by omega) (by decide) (by decide) (Nat.le_of_ble_eq_true rfl) rfl (fun F3 A3 o3 f3 r3 => ?_)
        have C3 := C2.pres f3 o3
        have K3 := fa_ok (f := f) hTO hm2 (show 0 < r by omega) ht hn _ K2.1.1 h82
        have I3 := K3.2.1
        have h83 : (faM n tp m r f T (gxM n tp s.2)).2 25 + (k : Int) = 8 := by rw [K3.2.2.1]; exact h82
        have hmu3 : mu n (faM n tp m r f T (gxM n tp s.2)).2 ≤ c := by have := K3.2.2.2.2; have := K2.2; omega
        have hb28 : InR ((faM n tp m r f T (gxM n tp s.2)).2 28) := by rcases I3.2.2.2.2.2.2.2.2.1 with q | q <;> rw [q] <;> exact ⟨by decide, by decide⟩
        refine q_istore_n eX12_term_29 (by decide) rfl ?_
        refine q_aload_n eX12_term_30 rfl ?_
        refine q_callVP [] (M1 := mX12_fine) eX12_term_31 mf_X12_fine lk_X12_255 (hK _ (by decide) (by decide)) (mo_fine hK r3 ⟨by have := I3.2.2.2.2.2.2.1; omega, by have := I3.2.2.2.2.2.2.1; omega⟩) (by omega) (by decide) (by decide) (Nat.le_of_ble_eq_true rfl) rfl ?_
        refine q_if_eq (tgt := 53) eX12_term_34 (by decide) ir_ite (fun c34 => ?_) (fun c34 => ?_)
        · refine q_iconst eX12_term_53 ?_
          refine q_istore_n eX12_term_54 (by decide) rfl ?_
          refine q_goto (tgt := 5) eX12_term_55 (by decide) ?_
          rw [if_pos ⟨i1 c9, by omega⟩] at hS
          first
          | (rw [if_neg (fun q => i0 c34 q.1)] at hS
             exact ih (0, (faM n tp m r f T (gxM n tp s.2)).2) F3 A3 _ hmu3 (ho.trans o3) ((hF.trans f2).trans f3) r3 (el_zero (by omega)) I3 h83 hS)
          | (rw [if_neg (fun q => q.2 c41)] at hS
             exact ih (0, (faM n tp m r f T (gxM n tp s.2)).2) F3 A3 _ hmu3 (ho.trans o3) ((hF.trans f2).trans f3) r3 (el_zero (by omega)) I3 h83 hS)
          | (rw [if_pos ⟨i1 c34, c41⟩] at hS
             exact ih (tm m r f s.1 (faM n tp m r f T (gxM n tp s.2)).1, (faM n tp m r f T (gxM n tp s.2)).2) F3 A4 _ hmu3 ((ho.trans o3).trans (h4.mono (by decide))) ((hF.trans f2).trans f3) r3 (tm_el (by omega) _ _) I3 h83 hS)
        · refine q_aload_n eX12_term_37 rfl ?_
          refine q_getfield eX12_term_38 gf_X12_281 (hK _ (by decide) (by decide)) (by decide) (r3 28 (by decide)) ?_
          refine q_if_eq (tgt := 53) eX12_term_41 (by decide) hb28 (fun c41 => ?_) (fun c41 => ?_)
          · refine q_iconst eX12_term_53 ?_
            refine q_istore_n eX12_term_54 (by decide) rfl ?_
            refine q_goto (tgt := 5) eX12_term_55 (by decide) ?_
            rw [if_pos ⟨i1 c9, by omega⟩] at hS
            first
            | (rw [if_neg (fun q => i0 c34 q.1)] at hS
               exact ih (0, (faM n tp m r f T (gxM n tp s.2)).2) F3 A3 _ hmu3 (ho.trans o3) ((hF.trans f2).trans f3) r3 (el_zero (by omega)) I3 h83 hS)
            | (rw [if_neg (fun q => q.2 c41)] at hS
               exact ih (0, (faM n tp m r f T (gxM n tp s.2)).2) F3 A3 _ hmu3 (ho.trans o3) ((hF.trans f2).trans f3) r3 (el_zero (by omega)) I3 h83 hS)
            | (rw [if_pos ⟨i1 c34, c41⟩] at hS
               exact ih (tm m r f s.1 (faM n tp m r f T (gxM n tp s.2)).1, (faM n tp m r f T (gxM n tp s.2)).2) F3 A4 _ hmu3 ((ho.trans o3).trans (h4.mono (by decide))) ((hF.trans f2).trans f3) r3 (tm_el (by omega) _ _) I3 h83 hS)
          · refine q_aload_n eX12_term_44 rfl ?_
            refine q_iload_n eX12_term_45 rfl ?_
            refine q_iload_n eX12_term_46 rfl ?_
            refine q_callVQ [vI s.1, vI (faM n tp m r f T (gxM n tp s.2)).1] (M1 := mX12_times) eX12_term_47 mf_X12_times lk_X12_132 (hK _ (by decide) (by decide)) (mo_times hK C3.1 C3.2.1.1 hE K3.1) (by omega) (by decide) (by decide) (Nat.le_of_ble_eq_true rfl) rfl (fun A4 h4 => ?_)
            refine q_goto (tgt := 54) eX12_term_50 (by decide) ?_
            refine q_istore_n eX12_term_54 (by decide) rfl ?_
            refine q_goto (tgt := 5) eX12_term_55 (by decide) ?_
            rw [if_pos ⟨i1 c9, by omega⟩] at hS
            first
            | (rw [if_neg (fun q => i0 c34 q.1)] at hS
               exact ih (0, (faM n tp m r f T (gxM n tp s.2)).2) F3 A3 _ hmu3 (ho.trans o3) ((hF.trans f2).trans f3) r3 (el_zero (by omega)) I3 h83 hS)
            | (rw [if_neg (fun q => q.2 c41)] at hS
               exact ih (0, (faM n tp m r f T (gxM n tp s.2)).2) F3 A3 _ hmu3 (ho.trans o3) ((hF.trans f2).trans f3) r3 (el_zero (by omega)) I3 h83 hS)
            | (rw [if_pos ⟨i1 c34, c41⟩] at hS
               exact ih (tm m r f s.1 (faM n tp m r f T (gxM n tp s.2)).1, (faM n tp m r f T (gxM n tp s.2)).2) F3 A4 _ hmu3 ((ho.trans o3).trans (h4.mono (by decide))) ((hF.trans f2).trans f3) r3 (tm_el (by omega) _ _) I3 h83 hS)
set_option maxRecDepth 20000 in
theorem mo_term {rs : Nat → Int} {D k : Nat} {T : (Nat → Int) → Int × (Nat → Int)} {p e r q N n : Nat} {m : Int} {f : Nat → Int} {g : Int} {rt lg tp pl_ : Nat → Int} {F : HF} {A : HA} {al : AL} (hK : KM al) (hC : CM p e r q N n m f g rt lg tp pl_ F A) (h : RDM rs F) (hI : RIM n rs) (h8 : rs 25 + k = 8) (hD : 6 ≤ D) (hTO : TOK n m r k T) (hRC : RCM D mX12_atom k al p e r q N n m f g rt lg tp pl_ T)  : QE (D + 2) 0 0 mX12_term [vA 44] F A al (PRN (teM n tp m r f T rs) F A al) := by
  refine QE.mk (by decide +kernel) (Nat.le_of_ble_eq_true rfl) ?_
  obtain ⟨hX, hT, ht, hn, hpl, hum⟩ := id hC
  obtain ⟨i20, i21, i22, i23, i24, i25, i26, i27, i28, i29⟩ := id hI
  obtain ⟨hG, hp, he, hq, hN, hg, ⟨hp2, hp7, he1, he4, hme, hqe, hq3, hNm, hgE⟩, hP, hL, hR⟩ := id hT
  obtain ⟨hm, hr, hf, hm2, hr1, hr6, hN4⟩ := id hG
  have hm4 := hG.m4
  refine q_aload_n eX12_term_0 rfl ?_
  refine q_callVN [] (M1 := mX12_factor) eX12_term_1 mf_X12_factor lk_X12_296 (hK _ (by decide) (by decide)) (mo_factor hK hC h hI h8 hD hTO hRC) (by omega) (by decide) (by decide) (Nat.le_of_ble_eq_true rfl) rfl (fun F1 A1 o1 f1 r1 => ?_)
  refine q_istore_n eX12_term_4 (by decide) rfl ?_
  have K1 := fa_ok (f := f) hTO hm2 (show 0 < r by omega) ht hn rs hI h8
  exact lp_mterm hK hC hD hTO hRC (n + 1) _ F1 A1 _ (mu_le n _) o1 f1 r1 K1.1 K1.2.1 (by rw [K1.2.2.1]; exact h8) rfl
set_option maxRecDepth 20000 in
theorem lp_mexpr {S : Int × (Nat → Int)} {D k : Nat} {T : (Nat → Int) → Int × (Nat → Int)} {p e r q N n : Nat} {m : Int} {f : Nat → Int} {g : Int} {rt lg tp pl_ : Nat → Int} {F0 : HF} {A0 : HA} {al : AL} (hK : KM al) (hC0 : CM p e r q N n m f g rt lg tp pl_ F0 A0) (hD : 6 ≤ D) (hTO : TOK n m r k T) (hRC : RCM D mX12_atom k al p e r q N n m f g rt lg tp pl_ T) : ∀ (c : Nat) (s : Int × (Nat → Int)) (F : HF) (A : HA) (l2 l3 : Option LV), mu n s.2 ≤ c → Off SAQ A0 A → FOff LQ F0 F → RDM s.2 F → El m r s.1 → RIM n s.2 → s.2 25 + k = 8 → xpL n tp m r f T c s = S →
    QW mX12_expr (D + 3) 0 0 (PRN S F0 A0 al) 0 0 5 [some (vA 44), some (vI s.1), l2, l3] [] F A al := by
  intro c
  induction c with
  | zero =>
    intro s F A l2 l3 hmu ho hF h hE hI h8 hS
    have hC := hC0.pres hF ho
    obtain ⟨hX, hT, ht, hn, hpl, hum⟩ := id hC
    have h23 : s.2 23 = 1002 := by
      refine Classical.byContradiction fun q => ?_
      unfold mu at hmu
      rw [if_neg q] at hmu
      omega
    have hS' : s = S := hS
    subst hS'
    refine q_aload_n eX12_expr_5 rfl ?_
    refine q_callVP [] (M1 := mX12_fine) eX12_expr_6 mf_X12_fine lk_X12_255 (hK _ (by decide) (by decide)) (mo_fine hK h ⟨by have := hI.2.2.2.2.2.2.1; omega, by have := hI.2.2.2.2.2.2.1; omega⟩) (by omega) (by decide) (by decide) (Nat.le_of_ble_eq_true rfl) rfl ?_
    refine q_if_eq (tgt := 83) eX12_expr_9 (by decide) ir_ite (fun c9 => ?_) (fun c9 => ?_)
    · refine q_iload_n eX12_expr_83 rfl ?_
      refine q_retI eX12_expr_84 rfl (by decide) (by decide) ?_
      exact ⟨rfl, rfl, ho, hF, h⟩
    · refine q_aload_n eX12_expr_12 rfl ?_
      refine q_getfield eX12_expr_13 gf_X12_236 (hK _ (by decide) (by decide)) (by decide) (h 23 (by decide)) ?_
      refine q_bipush eX12_expr_16 (by decide +kernel) ?_
      refine q_icmp_eq (tgt := 30) eX12_expr_18 (by decide) (by first | assumption | exact ⟨by omega, by omega⟩) (by first | assumption | exact ⟨by omega, by omega⟩) (fun c18 => ?_) (fun c18 => ?_)
      · exact absurd h23 (by omega)
      · refine q_aload_n eX12_expr_21 rfl ?_
        refine q_getfield eX12_expr_22 gf_X12_236 (hK _ (by decide) (by decide)) (by decide) (h 23 (by decide)) ?_
        refine q_bipush eX12_expr_25 (by decide +kernel) ?_
        refine q_icmp_ne (tgt := 83) eX12_expr_27 (by decide) (by first | assumption | exact ⟨by omega, by omega⟩) (by first | assumption | exact ⟨by omega, by omega⟩) (fun c27 => ?_) (fun c27 => ?_)
        · refine q_iload_n eX12_expr_83 rfl ?_
          refine q_retI eX12_expr_84 rfl (by decide) (by decide) ?_
          exact ⟨rfl, rfl, ho, hF, h⟩
        · exact absurd h23 (by omega)
  | succ c ih =>
    intro s F A l2 l3 hmu ho hF h hE hI h8 hS
    have hC := hC0.pres hF ho
    obtain ⟨hX, hT, ht, hn, hpl, hum⟩ := id hC
    obtain ⟨hG, hp, he, hq, hN, hg, ⟨hp2, hp7, he1, he4, hme, hqe, hq3, hNm, hgE⟩, hP, hL, hR⟩ := id hT
    obtain ⟨hm, hr, hf, hm2, hr1, hr6, hN4⟩ := id hG
    have hm4 := hG.m4
    have hI23 := hI.2.2.2.1
    have hst : xpL n tp m r f T (c + 1) s = if s.2 26 = 0 ∧ (s.2 23 = 43 ∨ s.2 23 = 45) then xpL n tp m r f T c (if (teM n tp m r f T (gxM n tp s.2)).2 26 = 0 ∧ (teM n tp m r f T (gxM n tp s.2)).2 28 ≠ 0 then (if s.2 23 = 43 then pl m r s.1 (teM n tp m r f T (gxM n tp s.2)).1 else mi m r s.1 (teM n tp m r f T (gxM n tp s.2)).1) else 0, (teM n tp m r f T (gxM n tp s.2)).2) else s := rfl
    rw [hst] at hS
    refine q_aload_n eX12_expr_5 rfl ?_
    refine q_callVP [] (M1 := mX12_fine) eX12_expr_6 mf_X12_fine lk_X12_255 (hK _ (by decide) (by decide)) (mo_fine hK h ⟨by have := hI.2.2.2.2.2.2.1; omega, by have := hI.2.2.2.2.2.2.1; omega⟩) (by omega) (by decide) (by decide) (Nat.le_of_ble_eq_true rfl) rfl ?_
    refine q_if_eq (tgt := 83) eX12_expr_9 (by decide) ir_ite (fun c9 => ?_) (fun c9 => ?_)
    · refine q_iload_n eX12_expr_83 rfl ?_
      refine q_retI eX12_expr_84 rfl (by decide) (by decide) ?_
      first
      | (rw [if_neg (fun q => i0 c9 q.1)] at hS
         subst hS
         exact ⟨rfl, rfl, ho, hF, h⟩)
      | (rw [if_neg (fun q => by rcases q.2 with q | q; exact c18 q; exact c27 q)] at hS
         subst hS
         exact ⟨rfl, rfl, ho, hF, h⟩)
    · refine q_aload_n eX12_expr_12 rfl ?_
      refine q_getfield eX12_expr_13 gf_X12_236 (hK _ (by decide) (by decide)) (by decide) (h 23 (by decide)) ?_
      refine q_bipush eX12_expr_16 (by decide +kernel) ?_
      refine q_icmp_eq (tgt := 30) eX12_expr_18 (by decide) (by first | assumption | exact ⟨by omega, by omega⟩) (by first | assumption | exact ⟨by omega, by omega⟩) (fun c18 => ?_) (fun c18 => ?_)
      · refine (fun (k44 : ∀ z : Int, (s.2 23 = 43 ∧ z = 1 ∨ s.2 23 = 45 ∧ z = -1) → QW mX12_expr (D + 3) 0 0 (PRN S F0 A0 al) 0 0 44 [some (vA 44), some (vI s.1), l2, l3] [vI z] F A al) => ?_) (fun z hz => ?_)
        · refine q_aload_n eX12_expr_30 rfl ?_
          refine q_getfield eX12_expr_31 gf_X12_236 (hK _ (by decide) (by decide)) (by decide) (h 23 (by decide)) ?_
          refine q_bipush eX12_expr_34 (by decide +kernel) ?_
          refine q_icmp_ne (tgt := 43) eX12_expr_36 (by decide) (by first | assumption | exact ⟨by omega, by omega⟩) (by first | assumption | exact ⟨by omega, by omega⟩) (fun c36 => ?_) (fun c36 => ?_)
          · refine q_iconst eX12_expr_43 ?_
            exact k44 _ (by omega)
          · refine q_iconst eX12_expr_39 ?_
            refine q_goto (tgt := 44) eX12_expr_40 (by decide) ?_
            exact k44 _ (by omega)
        rw [if_pos ⟨i1 c9, by omega⟩] at hS
        refine q_istore_n eX12_expr_44 (by decide) rfl ?_
        refine q_aload_n eX12_expr_45 rfl ?_
        refine q_callVM [] (M1 := mX12_go) eX12_expr_46 mf_X12_go lk_X12_263 (hK _ (by decide) (by decide)) (mo_go hK hC.1 hC.2.2.1 hn hI.1 (Int.toNat_of_nonneg hI.2.1.1).symm (by have := hI.2.1; omega) h) (by omega) (by decide) (by decide) (Nat.le_of_ble_eq_true rfl) rfl (fun F2 f2 r2 => ?_)
        have K2 := go_ok (tp := tp) hI ht hn (by omega)
        have C2 := hC.pres f2 Off.rfl'
        have h82 : gxM n tp s.2 25 + (k : Int) = 8 := by rw [K2.1.2.1]; exact h8
        refine q_aload_n eX12_expr_49 rfl ?_
        refine q_callVN [] (M1 := mX12_term) eX12_expr_50 mf_X12_term lk_X12_299 (hK _ (by decide) (by decide)) (mo_term hK C2 r2 K2.1.1 h82 hD hTO hRC) (by omega) (by decide) (by decide) (Nat.le_of_ble_eq_true rfl) rfl (fun F3 A3 o3 f3 r3 => ?_)
        have C3 := C2.pres f3 o3
        have K3 := te_ok (f := f) hTO hm2 (show 0 < r by omega) ht hn _ K2.1.1 h82
        have I3 := K3.2.1
        have h83 : (teM n tp m r f T (gxM n tp s.2)).2 25 + (k : Int) = 8 := by rw [K3.2.2.1]; exact h82
        have hmu3 : mu n (teM n tp m r f T (gxM n tp s.2)).2 ≤ c := by have := K3.2.2.2.2; have := K2.2; omega
        have hb28 : InR ((teM n tp m r f T (gxM n tp s.2)).2 28) := by rcases I3.2.2.2.2.2.2.2.2.1 with q | q <;> rw [q] <;> exact ⟨by decide, by decide⟩
        refine q_istore_n eX12_expr_53 (by decide) rfl ?_
        refine q_aload_n eX12_expr_54 rfl ?_
        refine q_callVP [] (M1 := mX12_fine) eX12_expr_55 mf_X12_fine lk_X12_255 (hK _ (by decide) (by decide)) (mo_fine hK r3 ⟨by have := I3.2.2.2.2.2.2.1; omega, by have := I3.2.2.2.2.2.2.1; omega⟩) (by omega) (by decide) (by decide) (Nat.le_of_ble_eq_true rfl) rfl ?_
        refine q_if_eq (tgt := 78) eX12_expr_58 (by decide) ir_ite (fun c58 => ?_) (fun c58 => ?_)
        · refine q_iconst eX12_expr_78 ?_
          refine q_istore_n eX12_expr_79 (by decide) rfl ?_
          refine q_goto (tgt := 5) eX12_expr_80 (by decide) ?_
          first
          | (rw [if_neg (fun q => i0 c58 q.1)] at hS
             exact ih (0, (teM n tp m r f T (gxM n tp s.2)).2) F3 A3 _ _ hmu3 (ho.trans o3) ((hF.trans f2).trans f3) r3 (el_zero (by omega)) I3 h83 hS)
          | (rw [if_neg (fun q => q.2 c65)] at hS
             exact ih (0, (teM n tp m r f T (gxM n tp s.2)).2) F3 A3 _ _ hmu3 (ho.trans o3) ((hF.trans f2).trans f3) r3 (el_zero (by omega)) I3 h83 hS)
        · refine q_aload_n eX12_expr_61 rfl ?_
          refine q_getfield eX12_expr_62 gf_X12_281 (hK _ (by decide) (by decide)) (by decide) (r3 28 (by decide)) ?_
          refine q_if_eq (tgt := 78) eX12_expr_65 (by decide) hb28 (fun c65 => ?_) (fun c65 => ?_)
          · refine q_iconst eX12_expr_78 ?_
            refine q_istore_n eX12_expr_79 (by decide) rfl ?_
            refine q_goto (tgt := 5) eX12_expr_80 (by decide) ?_
            first
            | (rw [if_neg (fun q => i0 c58 q.1)] at hS
               exact ih (0, (teM n tp m r f T (gxM n tp s.2)).2) F3 A3 _ _ hmu3 (ho.trans o3) ((hF.trans f2).trans f3) r3 (el_zero (by omega)) I3 h83 hS)
            | (rw [if_neg (fun q => q.2 c65)] at hS
               exact ih (0, (teM n tp m r f T (gxM n tp s.2)).2) F3 A3 _ _ hmu3 (ho.trans o3) ((hF.trans f2).trans f3) r3 (el_zero (by omega)) I3 h83 hS)
          · refine q_aload_n eX12_expr_68 rfl ?_
            refine q_iload_n eX12_expr_69 rfl ?_
            refine q_iload_n eX12_expr_70 rfl ?_
            refine q_iload_n eX12_expr_71 rfl ?_
            rw [if_pos ⟨i1 c58, c65⟩] at hS
            rcases hz with ⟨hz1, rfl⟩ | ⟨hz1, rfl⟩
            · rw [if_pos hz1] at hS
              refine q_callVQ [vI s.1, vI (teM n tp m r f T (gxM n tp s.2)).1, vI 1] (M1 := mX12_added) eX12_expr_72 mf_X12_added lk_X12_175 (hK _ (by decide) (by decide)) (mo_plus hK C3.1 C3.2.1.1 hE K3.1) (by omega) (by decide) (by decide) (Nat.le_of_ble_eq_true rfl) rfl (fun A4 h4 => ?_)
              refine q_goto (tgt := 79) eX12_expr_75 (by decide) ?_
              refine q_istore_n eX12_expr_79 (by decide) rfl ?_
              refine q_goto (tgt := 5) eX12_expr_80 (by decide) ?_
              exact ih (pl m r s.1 (teM n tp m r f T (gxM n tp s.2)).1, (teM n tp m r f T (gxM n tp s.2)).2) F3 A4 _ _ hmu3 ((ho.trans o3).trans (h4.mono (by decide))) ((hF.trans f2).trans f3) r3 (pl_el (by omega) _ _) I3 h83 hS
            · rw [if_neg (by omega)] at hS
              refine q_callVQ [vI s.1, vI (teM n tp m r f T (gxM n tp s.2)).1, vI (-1)] (M1 := mX12_added) eX12_expr_72 mf_X12_added lk_X12_175 (hK _ (by decide) (by decide)) (mo_minus hK C3.1 C3.2.1.1 hE K3.1) (by omega) (by decide) (by decide) (Nat.le_of_ble_eq_true rfl) rfl (fun A4 h4 => ?_)
              refine q_goto (tgt := 79) eX12_expr_75 (by decide) ?_
              refine q_istore_n eX12_expr_79 (by decide) rfl ?_
              refine q_goto (tgt := 5) eX12_expr_80 (by decide) ?_
              exact ih (mi m r s.1 (teM n tp m r f T (gxM n tp s.2)).1, (teM n tp m r f T (gxM n tp s.2)).2) F3 A4 _ _ hmu3 ((ho.trans o3).trans (h4.mono (by decide))) ((hF.trans f2).trans f3) r3 (mi_el (by omega) _ _) I3 h83 hS
      · refine q_aload_n eX12_expr_21 rfl ?_
        refine q_getfield eX12_expr_22 gf_X12_236 (hK _ (by decide) (by decide)) (by decide) (h 23 (by decide)) ?_
        refine q_bipush eX12_expr_25 (by decide +kernel) ?_
        refine q_icmp_ne (tgt := 83) eX12_expr_27 (by decide) (by first | assumption | exact ⟨by omega, by omega⟩) (by first | assumption | exact ⟨by omega, by omega⟩) (fun c27 => ?_) (fun c27 => ?_)
        · refine q_iload_n eX12_expr_83 rfl ?_
          refine q_retI eX12_expr_84 rfl (by decide) (by decide) ?_
          first
          | (rw [if_neg (fun q => i0 c9 q.1)] at hS
             subst hS
             exact ⟨rfl, rfl, ho, hF, h⟩)
          | (rw [if_neg (fun q => by rcases q.2 with q | q; exact c18 q; exact c27 q)] at hS
             subst hS
             exact ⟨rfl, rfl, ho, hF, h⟩)
        · refine (fun (k44 : ∀ z : Int, (s.2 23 = 43 ∧ z = 1 ∨ s.2 23 = 45 ∧ z = -1) → QW mX12_expr (D + 3) 0 0 (PRN S F0 A0 al) 0 0 44 [some (vA 44), some (vI s.1), l2, l3] [vI z] F A al) => ?_) (fun z hz => ?_)
          · refine q_aload_n eX12_expr_30 rfl ?_
            refine q_getfield eX12_expr_31 gf_X12_236 (hK _ (by decide) (by decide)) (by decide) (h 23 (by decide)) ?_
            refine q_bipush eX12_expr_34 (by decide +kernel) ?_
            refine q_icmp_ne (tgt := 43) eX12_expr_36 (by decide) (by first | assumption | exact ⟨by omega, by omega⟩) (by first | assumption | exact ⟨by omega, by omega⟩) (fun c36 => ?_) (fun c36 => ?_)
            · refine q_iconst eX12_expr_43 ?_
              exact k44 _ (by omega)
            · refine q_iconst eX12_expr_39 ?_
              refine q_goto (tgt := 44) eX12_expr_40 (by decide) ?_
              exact k44 _ (by omega)
          rw [if_pos ⟨i1 c9, by omega⟩] at hS
          refine q_istore_n eX12_expr_44 (by decide) rfl ?_
          refine q_aload_n eX12_expr_45 rfl ?_
          refine q_callVM [] (M1 := mX12_go) eX12_expr_46 mf_X12_go lk_X12_263 (hK _ (by decide) (by decide)) (mo_go hK hC.1 hC.2.2.1 hn hI.1 (Int.toNat_of_nonneg hI.2.1.1).symm (by have := hI.2.1; omega) h) (by omega) (by decide) (by decide) (Nat.le_of_ble_eq_true rfl) rfl (fun F2 f2 r2 => ?_)
          have K2 := go_ok (tp := tp) hI ht hn (by omega)
          have C2 := hC.pres f2 Off.rfl'
          have h82 : gxM n tp s.2 25 + (k : Int) = 8 := by rw [K2.1.2.1]; exact h8
          refine q_aload_n eX12_expr_49 rfl ?_
          refine q_callVN [] (M1 := mX12_term) eX12_expr_50 mf_X12_term lk_X12_299 (hK _ (by decide) (by decide)) (mo_term hK C2 r2 K2.1.1 h82 hD hTO hRC) (by omega) (by decide) (by decide) (Nat.le_of_ble_eq_true rfl) rfl (fun F3 A3 o3 f3 r3 => ?_)
          have C3 := C2.pres f3 o3
          have K3 := te_ok (f := f) hTO hm2 (show 0 < r by omega) ht hn _ K2.1.1 h82
          have I3 := K3.2.1
          have h83 : (teM n tp m r f T (gxM n tp s.2)).2 25 + (k : Int) = 8 := by rw [K3.2.2.1]; exact h82
          have hmu3 : mu n (teM n tp m r f T (gxM n tp s.2)).2 ≤ c := by have := K3.2.2.2.2; have := K2.2; omega
          have hb28 : InR ((teM n tp m r f T (gxM n tp s.2)).2 28) := by rcases I3.2.2.2.2.2.2.2.2.1 with q | q <;> rw [q] <;> exact ⟨by decide, by decide⟩
          refine q_istore_n eX12_expr_53 (by decide) rfl ?_
          refine q_aload_n eX12_expr_54 rfl ?_
          refine q_callVP [] (M1 := mX12_fine) eX12_expr_55 mf_X12_fine lk_X12_255 (hK _ (by decide) (by decide)) (mo_fine hK r3 ⟨by have := I3.2.2.2.2.2.2.1; omega, by have := I3.2.2.2.2.2.2.1; omega⟩) (by omega) (by decide) (by decide) (Nat.le_of_ble_eq_true rfl) rfl ?_
          refine q_if_eq (tgt := 78) eX12_expr_58 (by decide) ir_ite (fun c58 => ?_) (fun c58 => ?_)
          · refine q_iconst eX12_expr_78 ?_
            refine q_istore_n eX12_expr_79 (by decide) rfl ?_
            refine q_goto (tgt := 5) eX12_expr_80 (by decide) ?_
            first
            | (rw [if_neg (fun q => i0 c58 q.1)] at hS
               exact ih (0, (teM n tp m r f T (gxM n tp s.2)).2) F3 A3 _ _ hmu3 (ho.trans o3) ((hF.trans f2).trans f3) r3 (el_zero (by omega)) I3 h83 hS)
            | (rw [if_neg (fun q => q.2 c65)] at hS
               exact ih (0, (teM n tp m r f T (gxM n tp s.2)).2) F3 A3 _ _ hmu3 (ho.trans o3) ((hF.trans f2).trans f3) r3 (el_zero (by omega)) I3 h83 hS)
          · refine q_aload_n eX12_expr_61 rfl ?_
            refine q_getfield eX12_expr_62 gf_X12_281 (hK _ (by decide) (by decide)) (by decide) (r3 28 (by decide)) ?_
            refine q_if_eq (tgt := 78) eX12_expr_65 (by decide) hb28 (fun c65 => ?_) (fun c65 => ?_)
            · refine q_iconst eX12_expr_78 ?_
              refine q_istore_n eX12_expr_79 (by decide) rfl ?_
              refine q_goto (tgt := 5) eX12_expr_80 (by decide) ?_
              first
              | (rw [if_neg (fun q => i0 c58 q.1)] at hS
                 exact ih (0, (teM n tp m r f T (gxM n tp s.2)).2) F3 A3 _ _ hmu3 (ho.trans o3) ((hF.trans f2).trans f3) r3 (el_zero (by omega)) I3 h83 hS)
              | (rw [if_neg (fun q => q.2 c65)] at hS
                 exact ih (0, (teM n tp m r f T (gxM n tp s.2)).2) F3 A3 _ _ hmu3 (ho.trans o3) ((hF.trans f2).trans f3) r3 (el_zero (by omega)) I3 h83 hS)
            · refine q_aload_n eX12_expr_68 rfl ?_
              refine q_iload_n eX12_expr_69 rfl ?_
              refine q_iload_n eX12_expr_70 rfl ?_
              refine q_iload_n eX12_expr_71 rfl ?_
              rw [if_pos ⟨i1 c58, c65⟩] at hS
              rcases hz with ⟨hz1, rfl⟩ | ⟨hz1, rfl⟩
              · rw [if_pos hz1] at hS
                refine q_callVQ [vI s.1, vI (teM n tp m r f T (gxM n tp s.2)).1, vI 1] (M1 := mX12_added) eX12_expr_72 mf_X12_added lk_X12_175 (hK _ (by decide) (by decide)) (mo_plus hK C3.1 C3.2.1.1 hE K3.1) (by omega) (by decide) (by decide) (Nat.le_of_ble_eq_true rfl) rfl (fun A4 h4 => ?_)
                refine q_goto (tgt := 79) eX12_expr_75 (by decide) ?_
                refine q_istore_n eX12_expr_79 (by decide) rfl ?_
                refine q_goto (tgt := 5) eX12_expr_80 (by decide) ?_
                exact ih (pl m r s.1 (teM n tp m r f T (gxM n tp s.2)).1, (teM n tp m r f T (gxM n tp s.2)).2) F3 A4 _ _ hmu3 ((ho.trans o3).trans (h4.mono (by decide))) ((hF.trans f2).trans f3) r3 (pl_el (by omega) _ _) I3 h83 hS
              · rw [if_neg (by omega)] at hS
                refine q_callVQ [vI s.1, vI (teM n tp m r f T (gxM n tp s.2)).1, vI (-1)] (M1 := mX12_added) eX12_expr_72 mf_X12_added lk_X12_175 (hK _ (by decide) (by decide)) (mo_minus hK C3.1 C3.2.1.1 hE K3.1) (by omega) (by decide) (by decide) (Nat.le_of_ble_eq_true rfl) rfl (fun A4 h4 => ?_)
                refine q_goto (tgt := 79) eX12_expr_75 (by decide) ?_
                refine q_istore_n eX12_expr_79 (by decide) rfl ?_
                refine q_goto (tgt := 5) eX12_expr_80 (by decide) ?_
                exact ih (mi m r s.1 (teM n tp m r f T (gxM n tp s.2)).1, (teM n tp m r f T (gxM n tp s.2)).2) F3 A4 _ _ hmu3 ((ho.trans o3).trans (h4.mono (by decide))) ((hF.trans f2).trans f3) r3 (mi_el (by omega) _ _) I3 h83 hS
set_option maxRecDepth 20000 in
theorem mo_expr {rs : Nat → Int} {D k : Nat} {T : (Nat → Int) → Int × (Nat → Int)} {p e r q N n : Nat} {m : Int} {f : Nat → Int} {g : Int} {rt lg tp pl_ : Nat → Int} {F : HF} {A : HA} {al : AL} (hK : KM al) (hC : CM p e r q N n m f g rt lg tp pl_ F A) (h : RDM rs F) (hI : RIM n rs) (h8 : rs 25 + k = 8) (hD : 6 ≤ D) (hTO : TOK n m r k T) (hRC : RCM D mX12_atom k al p e r q N n m f g rt lg tp pl_ T)  : QE (D + 3) 0 0 mX12_expr [vA 44] F A al (PRN (xpM n tp m r f T rs) F A al) := by
  refine QE.mk (by decide +kernel) (Nat.le_of_ble_eq_true rfl) ?_
  obtain ⟨hX, hT, ht, hn, hpl, hum⟩ := id hC
  obtain ⟨i20, i21, i22, i23, i24, i25, i26, i27, i28, i29⟩ := id hI
  obtain ⟨hG, hp, he, hq, hN, hg, ⟨hp2, hp7, he1, he4, hme, hqe, hq3, hNm, hgE⟩, hP, hL, hR⟩ := id hT
  obtain ⟨hm, hr, hf, hm2, hr1, hr6, hN4⟩ := id hG
  have hm4 := hG.m4
  refine q_aload_n eX12_expr_0 rfl ?_
  refine q_callVN [] (M1 := mX12_term) eX12_expr_1 mf_X12_term lk_X12_299 (hK _ (by decide) (by decide)) (mo_term hK hC h hI h8 hD hTO hRC) (by omega) (by decide) (by decide) (Nat.le_of_ble_eq_true rfl) rfl (fun F1 A1 o1 f1 r1 => ?_)
  refine q_istore_n eX12_expr_4 (by decide) rfl ?_
  have K1 := te_ok (f := f) hTO hm2 (show 0 < r by omega) ht hn rs hI h8
  exact lp_mexpr hK hC hD hTO hRC (n + 1) _ F1 A1 _ _ (mu_le n _) o1 f1 r1 K1.1 K1.2.1 (by rw [K1.2.2.1]; exact h8) rfl
