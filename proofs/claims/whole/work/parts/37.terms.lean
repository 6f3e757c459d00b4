/-! Reader: factors, terms -/
def RMok (n : Nat) (m : Int) (r : Nat) (T : (Nat → Int) → Int × (Nat → Int)) : Prop := ∀ rs, RI n rs → El m r (T rs).1 ∧ RI n (T rs).2
def facE (n : Nat) (tp : Nat → Int) (m : Int) (r : Nat) (f : Nat → Int) (T : (Nat → Int) → Int × (Nat → Int)) (rs : Nat → Int) : Int × (Nat → Int) :=
  if (T rs).2 0 = 0 ∧ (T rs).2 7 = 94 then (pw m r f (T rs).1 (figE n tp 9999 (nxE n tp (T rs).2)).1.toNat, (figE n tp 9999 (nxE n tp (T rs).2)).2) else T rs
def fcL (n : Nat) (tp : Nat → Int) (m : Int) (r : Nat) (f : Nat → Int) (T : (Nat → Int) → Int × (Nat → Int)) : Nat → Int × (Nat → Int) → Int × (Nat → Int)
  | 0, s => s
  | k + 1, s => if s.2 0 = 0 ∧ s.2 7 = 42 then fcL n tp m r f T k (tm m r f s.1 (facE n tp m r f T (nxE n tp s.2)).1, (facE n tp m r f T (nxE n tp s.2)).2) else s
def facsE (n : Nat) (tp : Nat → Int) (m : Int) (r : Nat) (f : Nat → Int) (T : (Nat → Int) → Int × (Nat → Int)) (rs : Nat → Int) : Int × (Nat → Int) := fcL n tp m r f T n (facE n tp m r f T rs)
def tmL (n : Nat) (tp : Nat → Int) (m : Int) (r : Nat) (f : Nat → Int) (T : (Nat → Int) → Int × (Nat → Int)) : Nat → Int × (Nat → Int) → Int × (Nat → Int)
  | 0, s => s
  | k + 1, s => if s.2 0 = 0 ∧ (s.2 7 = 43 ∨ s.2 7 = 45) then tmL n tp m r f T k ((if s.2 7 = 45 then mi m r s.1 (facsE n tp m r f T (nxE n tp s.2)).1 else pl m r s.1 (facsE n tp m r f T (nxE n tp s.2)).1), (facsE n tp m r f T (nxE n tp s.2)).2) else s
def tmsE (n : Nat) (tp : Nat → Int) (m : Int) (r : Nat) (f : Nat → Int) (T : (Nat → Int) → Int × (Nat → Int)) (rs : Nat → Int) : Int × (Nat → Int) := tmL n tp m r f T n (facsE n tp m r f T rs)
section RM
variable {n : Nat} {m : Int} {r : Nat} {f tp : Nat → Int} {T : (Nat → Int) → Int × (Nat → Int)} {A : HA}
theorem RI.nx {rs : Nat → Int} (h : RI n rs) (ht : TA tp A) (hn : n ≤ 200) (h7 : rs 7 ≠ 257) : RI n (nxE n tp rs) := h.next ht hn (by rcases h.2.1 with q | q; exact absurd q h7; exact q)
theorem fac_ok (hT : RMok n m r T) (hm : 2 ≤ m) (hr : 0 < r) (ht : TA tp A) (hn : n ≤ 200) : RMok n m r (facE n tp m r f T) := by
  intro rs hI
  obtain ⟨h1, h2⟩ := hT rs hI
  unfold facE
  split
  · next hc => exact ⟨pw_el hm hr _ _, (fig_ok (h2.nx ht hn (by omega)) ht hn (by decide)).2⟩
  · exact ⟨h1, h2⟩
theorem fcL_ok (hT : RMok n m r T) (hm : 2 ≤ m) (hr : 0 < r) (ht : TA tp A) (hn : n ≤ 200) : ∀ (k : Nat) (s : Int × (Nat → Int)), El m r s.1 → RI n s.2 → El m r (fcL n tp m r f T k s).1 ∧ RI n (fcL n tp m r f T k s).2
  | 0, s, h1, h2 => ⟨h1, h2⟩
  | k + 1, s, h1, h2 => by
    unfold fcL
    split
    · next hc =>
      have h3 := fac_ok (f := f) hT hm hr ht hn _ (h2.nx ht hn (by omega))
      exact fcL_ok hT hm hr ht hn k _ (tm_el (by omega) _ _) h3.2
    · exact ⟨h1, h2⟩
theorem facs_ok (hT : RMok n m r T) (hm : 2 ≤ m) (hr : 0 < r) (ht : TA tp A) (hn : n ≤ 200) : RMok n m r (facsE n tp m r f T) := fun rs hI =>
  fcL_ok hT hm hr ht hn n _ (fac_ok hT hm hr ht hn rs hI).1 (fac_ok hT hm hr ht hn rs hI).2
theorem tmL_ok (hT : RMok n m r T) (hm : 2 ≤ m) (hr : 0 < r) (ht : TA tp A) (hn : n ≤ 200) : ∀ (k : Nat) (s : Int × (Nat → Int)), El m r s.1 → RI n s.2 → El m r (tmL n tp m r f T k s).1 ∧ RI n (tmL n tp m r f T k s).2
  | 0, s, h1, h2 => ⟨h1, h2⟩
  | k + 1, s, h1, h2 => by
    unfold tmL
    split
    · next hc =>
      have h3 := facs_ok (f := f) hT hm hr ht hn _ (h2.nx ht hn (by omega))
      refine tmL_ok hT hm hr ht hn k _ ?_ h3.2
      show El m r (if s.2 7 = 45 then mi m r s.1 _ else pl m r s.1 _)
      split
      · exact mi_el (by omega) _ _
      · exact pl_el (by omega) _ _
    · exact ⟨h1, h2⟩
theorem tms_ok (hT : RMok n m r T) (hm : 2 ≤ m) (hr : 0 < r) (ht : TA tp A) (hn : n ≤ 200) : RMok n m r (tmsE n tp m r f T) := fun rs hI =>
  tmL_ok hT hm hr ht hn n _ (facs_ok hT hm hr ht hn rs hI).1 (facs_ok hT hm hr ht hn rs hI).2
end RM
/-- a method of the reader keeps to T -/
def RC (D : Nat) (M : MT) (op : Int) (al : AL) (p e r q N n : Nat) (m : Int) (f : Nat → Int) (g : Int) (lg tp pl_ : Nat → Int) (T : (Nat → Int) → Int × (Nat → Int)) : Prop :=
  ∀ (rs : Nat → Int) (F : HF) (A : HA), CX p e r q N n m f g lg tp pl_ F A → RD rs F → RI n rs → QE D 0 0 M [vA 26, vI op] F A al (PRQ (T rs) F A al)
set_option maxRecDepth 20000 in
theorem ev_factor {rs : Nat → Int} {D : Nat} {op : Int} {T : (Nat → Int) → Int × (Nat → Int)} {p e r q N n : Nat} {m : Int} {f : Nat → Int} {g : Int} {lg tp pl_ : Nat → Int} {F : HF} {A : HA} {al : AL} (hK : KX al) (hC : CX p e r q N n m f g lg tp pl_ F A) (h : RD rs F) (hI : RI n rs) (hD : 5 ≤ D) (hRT : RMok n m r T) (hRC : RC D mX5_atom op al p e r q N n m f g lg tp pl_ T)  : QE (D + 1) 0 0 mX5_factor [vA 26, vI op] F A al (PRQ (facE n tp m r f T rs) F A al) := by
  refine QE.mk (by decide +kernel) (Nat.le_of_ble_eq_true rfl) ?_
  obtain ⟨hX, hT, ht, hn, hpl⟩ := id hC
  obtain ⟨i6, i7, i10, i8, i9, i7r, i0, i1, i2⟩ := id hI
  obtain ⟨hG, hp, he, hq, hN, hg, ⟨hp2, hp7, he1, he4, hme, hqe, hq3, hNm, hgE⟩, hP, hL, hIm⟩ := id hT
  obtain ⟨hm, hr, hf, hm2, hr1, hr6, hN4⟩ := id hG
  have hm4 := hG.m4
  refine q_aload_n eX5_factor_0 rfl ?_
  refine q_iload_n eX5_factor_1 rfl ?_
  refine q_callVR [vI op] (M1 := mX5_atom) eX5_factor_2 mf_X5_atom lk_X5_104 (hK _ (by decide) (by decide)) (hRC rs F A hC h hI) (by omega) (by decide) (by decide) (Nat.le_of_ble_eq_true rfl) rfl (fun F1 A1 o1 f1 r1 => ?_)
  have C1 := hC.pres f1 o1
  obtain ⟨E1, I1⟩ := hRT rs hI
  obtain ⟨j6, j7, j10, j8, j9, j7r, j0, j1, j2⟩ := id I1
  have hst : facE n tp m r f T rs = if (T rs).2 0 = 0 ∧ (T rs).2 7 = 94 then (pw m r f (T rs).1 (figE n tp 9999 (nxE n tp (T rs).2)).1.toNat, (figE n tp 9999 (nxE n tp (T rs).2)).2) else T rs := rfl
  refine q_istore_n eX5_factor_5 (by decide) rfl ?_
  refine q_aload_n eX5_factor_6 rfl ?_
  refine q_getfield eX5_factor_7 gf_X5_9 (hK _ (by decide) (by decide)) (by decide) (r1 0 (by decide)) ?_
  refine q_if_ne (tgt := 42) eX5_factor_10 (by decide) (by first | assumption | exact ⟨by omega, by omega⟩) (fun c10 => ?_) (fun c10 => ?_)
  · refine q_iload_n eX5_factor_42 rfl ?_
    refine q_retI eX5_factor_43 rfl (by decide) (by decide) ?_
    first
    | (rw [hst, if_neg (fun q => c10 q.1)]
       exact ⟨rfl, rfl, o1, f1, r1⟩)
    | (rw [hst, if_neg (fun q => c19 q.2)]
       exact ⟨rfl, rfl, o1, f1, r1⟩)
    | (rw [hst, if_pos ⟨by omega, by omega⟩]
       exact ⟨rfl, rfl, (o1.trans o3).trans h4, (f1.trans f2).trans f3, r3⟩)
  · refine q_aload_n eX5_factor_13 rfl ?_
    refine q_getfield eX5_factor_14 gf_X5_25 (hK _ (by decide) (by decide)) (by decide) (r1 7 (by decide)) ?_
    refine q_bipush eX5_factor_17 (by decide +kernel) ?_
    refine q_icmp_ne (tgt := 42) eX5_factor_19 (by decide) (by first | assumption | exact ⟨by omega, by omega⟩) (by first | assumption | exact ⟨by omega, by omega⟩) (fun c19 => ?_) (fun c19 => ?_)
    · refine q_iload_n eX5_factor_42 rfl ?_
      refine q_retI eX5_factor_43 rfl (by decide) (by decide) ?_
      first
      | (rw [hst, if_neg (fun q => c10 q.1)]
         exact ⟨rfl, rfl, o1, f1, r1⟩)
      | (rw [hst, if_neg (fun q => c19 q.2)]
         exact ⟨rfl, rfl, o1, f1, r1⟩)
      | (rw [hst, if_pos ⟨by omega, by omega⟩]
         exact ⟨rfl, rfl, (o1.trans o3).trans h4, (f1.trans f2).trans f3, r3⟩)
    · refine q_aload_n eX5_factor_22 rfl ?_
      refine q_callVU [] (M1 := mX5_next) eX5_factor_23 mf_X5_next lk_X5_49 (hK _ (by decide) (by decide)) (ev_next hK C1.1 C1.2.2.1 hn j6 r1 (Int.toNat_of_nonneg j10.1).symm (by omega)) (by omega) (by decide) (by decide) (Nat.le_of_ble_eq_true rfl) rfl (fun F2 f2 r2 => ?_)
      have C2 := C1.pres f2 Off.rfl'
      have I2 := I1.nx ht hn (show (T rs).2 7 ≠ 257 by omega)
      have F2k := fig_ok (most := 9999) I2 ht hn (by decide)
      refine q_aload_n eX5_factor_26 rfl ?_
      refine q_getfield eX5_factor_27 gf_X5_37 (hK _ (by decide) (by decide)) (by decide) (xf_26_3 (by first | exact hX | exact C2.1)) ?_
      refine q_iload_n eX5_factor_30 rfl ?_
      refine q_aload_n eX5_factor_31 rfl ?_
      refine q_sipush eX5_factor_32 (by decide +kernel) ?_
      refine q_callVR [vI 9999] (M1 := mX5_figures) eX5_factor_35 mf_X5_figures lk_X5_107 (hK _ (by decide) (by decide)) (ev_figuresR hK C2 r2 I2 (by decide) (by decide)) (by omega) (by decide) (by decide) (Nat.le_of_ble_eq_true rfl) rfl (fun F3 A3 o3 f3 r3 => ?_)
      have C3 := C2.pres f3 o3
      rw [← Int.toNat_of_nonneg F2k.1.1]
      refine q_callVQ [vI (T rs).1, vI ((figE n tp 9999 (nxE n tp (T rs).2)).1.toNat : Nat)] (M1 := mX2_power) eX5_factor_38 mf_X2_power lk_X5_110 (hK _ (by decide) (by decide)) (ev_power hK C3.1 C3.2.1.1 E1 (by omega)) (by omega) (by decide) (by decide) (Nat.le_of_ble_eq_true rfl) rfl (fun A4 h4 => ?_)
      refine q_istore_n eX5_factor_41 (by decide) rfl ?_
      refine q_iload_n eX5_factor_42 rfl ?_
      refine q_retI eX5_factor_43 rfl (by decide) (by decide) ?_
      first
      | (rw [hst, if_neg (fun q => c10 q.1)]
         exact ⟨rfl, rfl, o1, f1, r1⟩)
      | (rw [hst, if_neg (fun q => c19 q.2)]
         exact ⟨rfl, rfl, o1, f1, r1⟩)
      | (rw [hst, if_pos ⟨by omega, by omega⟩]
         exact ⟨rfl, rfl, (o1.trans o3).trans h4, (f1.trans f2).trans f3, r3⟩)
set_option maxRecDepth 20000 in
theorem lp_factors {S : Int × (Nat → Int)} {D : Nat} {op : Int} {T : (Nat → Int) → Int × (Nat → Int)} {p e r q N n : Nat} {m : Int} {f : Nat → Int} {g : Int} {lg tp pl_ : Nat → Int} {F0 : HF} {A0 : HA} {al : AL} (hK : KX al) (hC0 : CX p e r q N n m f g lg tp pl_ F0 A0) (hD : 5 ≤ D) (hRT : RMok n m r T) (hRC : RC D mX5_atom op al p e r q N n m f g lg tp pl_ T)  : ∀ (k i : Nat) (s : Int × (Nat → Int)) (F : HF) (A : HA), i + k = n → Off [13, 14, 15] A0 A → FOff [(26, 0), (26, 1), (26, 2), (26, 7), (26, 8), (26, 9), (26, 10)] F0 F → RD s.2 F → El m r s.1 → RI n s.2 → fcL n tp m r f T k s = S →
    QW mX5_factors (D + 2) 0 0 (PRQ S F0 A0 al) 0 0 8 [some (vA 26), some (vI op), some (vI s.1), some (vI i)] [] F A al := by
  intro k
  induction k with
  | zero =>
    intro i s F A hi ho hF h hE hI hS
    have hC := hC0.pres hF ho
    obtain ⟨hX, hT, ht, hn, hpl⟩ := id hC
    have f6 : F 26 6 = vI n := by rw [← hI.1]; exact h 6 (by decide)
    subst hS
    refine q_iload_n eX5_factors_8 rfl ?_
    refine q_aload_n eX5_factors_9 rfl ?_
    refine q_getfield eX5_factors_10 gf_X5_22 (hK _ (by decide) (by decide)) (by decide) f6 ?_
    refine q_icmp_ge (tgt := 56) eX5_factors_13 (by decide) (by first | assumption | exact ⟨by omega, by omega⟩) (by first | assumption | exact ⟨by omega, by omega⟩) (fun c13 => ?_) (fun c13 => ?_)
    · refine q_iload_n eX5_factors_56 rfl ?_
      refine q_retI eX5_factors_57 rfl (by decide) (by decide) ?_
      exact ⟨rfl, rfl, ho, hF, h⟩
    · exact absurd c13 (by omega)
  | succ k ih =>
    intro i s F A hi ho hF h hE hI hS
    have hC := hC0.pres hF ho
    obtain ⟨hX, hT, ht, hn, hpl⟩ := id hC
    obtain ⟨i6, i7, i10, i8, i9, i7r, i0, i1, i2⟩ := id hI
    have f6 : F 26 6 = vI n := by rw [← hI.1]; exact h 6 (by decide)
    have f0 : F 26 0 = vI (s.2 0) := h 0 (by decide)
    have f7 : F 26 7 = vI (s.2 7) := h 7 (by decide)
    have hm2 := hT.1.2.2.2.1
    have hr1 := hT.1.2.2.2.2.1
    have hst : fcL n tp m r f T (k + 1) s = if s.2 0 = 0 ∧ s.2 7 = 42 then fcL n tp m r f T k (tm m r f s.1 (facE n tp m r f T (nxE n tp s.2)).1, (facE n tp m r f T (nxE n tp s.2)).2) else s := rfl
    rw [hst] at hS
    refine q_iload_n eX5_factors_8 rfl ?_
    refine q_aload_n eX5_factors_9 rfl ?_
    refine q_getfield eX5_factors_10 gf_X5_22 (hK _ (by decide) (by decide)) (by decide) f6 ?_
    refine q_icmp_ge (tgt := 56) eX5_factors_13 (by decide) (by first | assumption | exact ⟨by omega, by omega⟩) (by first | assumption | exact ⟨by omega, by omega⟩) (fun c13 => ?_) (fun c13 => ?_)
    · exact absurd c13 (by omega)
    · refine q_aload_n eX5_factors_16 rfl ?_
      refine q_getfield eX5_factors_17 gf_X5_9 (hK _ (by decide) (by decide)) (by decide) f0 ?_
      refine q_if_ne (tgt := 56) eX5_factors_20 (by decide) (by first | assumption | exact ⟨by omega, by omega⟩) (fun c20 => ?_) (fun c20 => ?_)
      · refine q_iload_n eX5_factors_56 rfl ?_
        refine q_retI eX5_factors_57 rfl (by decide) (by decide) ?_
        first
        | (rw [if_neg (fun q => c20 q.1)] at hS
           subst hS
           exact ⟨rfl, rfl, ho, hF, h⟩)
        | (rw [if_neg (fun q => c29 q.2)] at hS
           subst hS
           exact ⟨rfl, rfl, ho, hF, h⟩)
      · refine q_aload_n eX5_factors_23 rfl ?_
        refine q_getfield eX5_factors_24 gf_X5_25 (hK _ (by decide) (by decide)) (by decide) f7 ?_
        refine q_bipush eX5_factors_27 (by decide +kernel) ?_
        refine q_icmp_ne (tgt := 56) eX5_factors_29 (by decide) (by first | assumption | exact ⟨by omega, by omega⟩) (by first | assumption | exact ⟨by omega, by omega⟩) (fun c29 => ?_) (fun c29 => ?_)
        · refine q_iload_n eX5_factors_56 rfl ?_
          refine q_retI eX5_factors_57 rfl (by decide) (by decide) ?_
          first
          | (rw [if_neg (fun q => c20 q.1)] at hS
             subst hS
             exact ⟨rfl, rfl, ho, hF, h⟩)
          | (rw [if_neg (fun q => c29 q.2)] at hS
             subst hS
             exact ⟨rfl, rfl, ho, hF, h⟩)
        · refine q_aload_n eX5_factors_32 rfl ?_
          refine q_callVU [] (M1 := mX5_next) eX5_factors_33 mf_X5_next lk_X5_49 (hK _ (by decide) (by decide)) (ev_next hK hX ht hn i6 h (Int.toNat_of_nonneg i10.1).symm (by omega)) (by omega) (by decide) (by decide) (Nat.le_of_ble_eq_true rfl) rfl (fun F2 f2 r2 => ?_)
          have C2 := hC.pres f2 Off.rfl'
          have I2 := hI.nx ht hn (show s.2 7 ≠ 257 by omega)
          have hX2 := C2.1
          refine q_aload_n eX5_factors_36 rfl ?_
          refine q_getfield eX5_factors_37 gf_X5_37 (hK _ (by decide) (by decide)) (by decide) (xf_26_3 (by first | exact hX | exact hX2)) ?_
          refine q_iload_n eX5_factors_40 rfl ?_
          refine q_aload_n eX5_factors_41 rfl ?_
          refine q_iload_n eX5_factors_42 rfl ?_
          refine q_callVR [vI op] (M1 := mX5_factor) eX5_factors_43 mf_X5_factor lk_X5_98 (hK _ (by decide) (by decide)) (ev_factor hK C2 r2 I2 hD hRT hRC) (by omega) (by decide) (by decide) (Nat.le_of_ble_eq_true rfl) rfl (fun F3 A3 o3 f3 r3 => ?_)
          have C3 := C2.pres f3 o3
          have I3 := fac_ok (f := f) hRT hm2 hr1 ht hn _ I2
          refine q_callVQ [vI s.1, vI (facE n tp m r f T (nxE n tp s.2)).1] (M1 := mX2_times) eX5_factors_46 mf_X2_times lk_X5_101 (hK _ (by decide) (by decide)) (ev_times hK C3.1 C3.2.1.1 hE I3.1) (by omega) (by decide) (by decide) (Nat.le_of_ble_eq_true rfl) rfl (fun A4 h4 => ?_)
          refine q_istore_n eX5_factors_49 (by decide) rfl ?_
          refine q_iinc eX5_factors_50 rfl (by decide) rfl ?_
          refine q_goto (tgt := 8) eX5_factors_53 (by decide) ?_
          rw [if_pos ⟨by omega, by omega⟩] at hS
          exact ih (i + 1) (tm m r f s.1 (facE n tp m r f T (nxE n tp s.2)).1, (facE n tp m r f T (nxE n tp s.2)).2) F3 A4 (by omega) ((ho.trans o3).trans h4) ((hF.trans f2).trans f3) r3 (tm_el (by omega) _ _) I3.2 hS
set_option maxRecDepth 20000 in
theorem ev_factors {rs : Nat → Int} {D : Nat} {op : Int} {T : (Nat → Int) → Int × (Nat → Int)} {p e r q N n : Nat} {m : Int} {f : Nat → Int} {g : Int} {lg tp pl_ : Nat → Int} {F : HF} {A : HA} {al : AL} (hK : KX al) (hC : CX p e r q N n m f g lg tp pl_ F A) (h : RD rs F) (hI : RI n rs) (hD : 5 ≤ D) (hRT : RMok n m r T) (hRC : RC D mX5_atom op al p e r q N n m f g lg tp pl_ T)  : QE (D + 2) 0 0 mX5_factors [vA 26, vI op] F A al (PRQ (facsE n tp m r f T rs) F A al) := by
  refine QE.mk (by decide +kernel) (Nat.le_of_ble_eq_true rfl) ?_
  obtain ⟨hX, hT, ht, hn, hpl⟩ := id hC
  obtain ⟨i6, i7, i10, i8, i9, i7r, i0, i1, i2⟩ := id hI
  obtain ⟨hG, hp, he, hq, hN, hg, ⟨hp2, hp7, he1, he4, hme, hqe, hq3, hNm, hgE⟩, hP, hL, hIm⟩ := id hT
  obtain ⟨hm, hr, hf, hm2, hr1, hr6, hN4⟩ := id hG
  have hm4 := hG.m4
  refine q_aload_n eX5_factors_0 rfl ?_
  refine q_iload_n eX5_factors_1 rfl ?_
  refine q_callVR [vI op] (M1 := mX5_factor) eX5_factors_2 mf_X5_factor lk_X5_98 (hK _ (by decide) (by decide)) (ev_factor hK hC h hI hD hRT hRC) (by omega) (by decide) (by decide) (Nat.le_of_ble_eq_true rfl) rfl (fun F1 A1 o1 f1 r1 => ?_)
  refine q_istore_n eX5_factors_5 (by decide) rfl ?_
  refine q_iconst eX5_factors_6 ?_
  refine q_istore_n eX5_factors_7 (by decide) rfl ?_
  have I1 := fac_ok (f := f) hRT hm2 hr1 ht hn _ hI
  exact lp_factors hK hC hD hRT hRC n 0 _ F1 A1 (by omega) o1 f1 r1 I1.1 I1.2 rfl
set_option maxRecDepth 20000 in
theorem lp_terms {S : Int × (Nat → Int)} {D : Nat} {op : Int} {T : (Nat → Int) → Int × (Nat → Int)} {p e r q N n : Nat} {m : Int} {f : Nat → Int} {g : Int} {lg tp pl_ : Nat → Int} {F0 : HF} {A0 : HA} {al : AL} (hK : KX al) (hC0 : CX p e r q N n m f g lg tp pl_ F0 A0) (hD : 5 ≤ D) (hRT : RMok n m r T) (hRC : RC D mX5_atom op al p e r q N n m f g lg tp pl_ T)  : ∀ (k i : Nat) (s : Int × (Nat → Int)) (F : HF) (A : HA) (l4 l5 : Option LV), i + k = n → Off [13, 14, 15] A0 A → FOff [(26, 0), (26, 1), (26, 2), (26, 7), (26, 8), (26, 9), (26, 10)] F0 F → RD s.2 F → El m r s.1 → RI n s.2 → tmL n tp m r f T k s = S →
    QW mX5_terms (D + 3) 0 0 (PRQ S F0 A0 al) 0 0 8 [some (vA 26), some (vI op), some (vI s.1), some (vI i), l4, l5] [] F A al := by
  intro k
  induction k with
  | zero =>
    intro i s F A l4 l5 hi ho hF h hE hI hS
    have hC := hC0.pres hF ho
    obtain ⟨hX, hT, ht, hn, hpl⟩ := id hC
    have f6 : F 26 6 = vI n := by rw [← hI.1]; exact h 6 (by decide)
    subst hS
    refine q_iload_n eX5_terms_8 rfl ?_
    refine q_aload_n eX5_terms_9 rfl ?_
    refine q_getfield eX5_terms_10 gf_X5_22 (hK _ (by decide) (by decide)) (by decide) f6 ?_
    refine q_icmp_ge (tgt := 103) eX5_terms_13 (by decide) (by first | assumption | exact ⟨by omega, by omega⟩) (by first | assumption | exact ⟨by omega, by omega⟩) (fun c13 => ?_) (fun c13 => ?_)
    · refine q_iload_n eX5_terms_103 rfl ?_
      refine q_retI eX5_terms_104 rfl (by decide) (by decide) ?_
      exact ⟨rfl, rfl, ho, hF, h⟩
    · exact absurd c13 (by omega)
  | succ k ih =>
    intro i s F A l4 l5 hi ho hF h hE hI hS
    have hC := hC0.pres hF ho
    obtain ⟨hX, hT, ht, hn, hpl⟩ := id hC
    obtain ⟨i6, i7, i10, i8, i9, i7r, i0, i1, i2⟩ := id hI
    have f6 : F 26 6 = vI n := by rw [← hI.1]; exact h 6 (by decide)
    have f0 : F 26 0 = vI (s.2 0) := h 0 (by decide)
    have f7 : F 26 7 = vI (s.2 7) := h 7 (by decide)
    have hm2 := hT.1.2.2.2.1
    have hr1 := hT.1.2.2.2.2.1
    have hst : tmL n tp m r f T (k + 1) s = if s.2 0 = 0 ∧ (s.2 7 = 43 ∨ s.2 7 = 45) then tmL n tp m r f T k ((if s.2 7 = 45 then mi m r s.1 (facsE n tp m r f T (nxE n tp s.2)).1 else pl m r s.1 (facsE n tp m r f T (nxE n tp s.2)).1), (facsE n tp m r f T (nxE n tp s.2)).2) else s := rfl
    rw [hst] at hS
    have k57 : ∀ z : Int, s.2 0 = 0 → (s.2 7 = 43 ∧ z = 0 ∨ s.2 7 = 45 ∧ z = 1) → QW mX5_terms (D + 3) 0 0 (PRQ S F0 A0 al) 0 0 57 [some (vA 26), some (vI op), some (vI s.1), some (vI i), some (vI z), l5] [] F A al := by
      intro z z0 z1
      have hz : InR z := by rcases z1 with q | q <;> rw [q.2] <;> exact ⟨by decide, by decide⟩
      refine q_aload_n eX5_terms_57 rfl ?_
      refine q_callVU [] (M1 := mX5_next) eX5_terms_58 mf_X5_next lk_X5_49 (hK _ (by decide) (by decide)) (ev_next hK hX ht hn i6 h (Int.toNat_of_nonneg i10.1).symm (by omega)) (by omega) (by decide) (by decide) (Nat.le_of_ble_eq_true rfl) rfl (fun F2 f2 r2 => ?_)
      have C2 := hC.pres f2 Off.rfl'
      have I2 := hI.nx ht hn (show s.2 7 ≠ 257 by omega)
      have hX2 := C2.1
      refine q_aload_n eX5_terms_61 rfl ?_
      refine q_iload_n eX5_terms_62 rfl ?_
      refine q_callVR [vI op] (M1 := mX5_factors) eX5_terms_63 mf_X5_factors lk_X5_87 (hK _ (by decide) (by decide)) (ev_factors hK C2 r2 I2 hD hRT hRC) (by omega) (by decide) (by decide) (Nat.le_of_ble_eq_true rfl) rfl (fun F3 A3 o3 f3 r3 => ?_)
      have C3 := C2.pres f3 o3
      have I3 := facs_ok (f := f) hRT hm2 hr1 ht hn _ I2
      have hX3 := C3.1
      refine q_istore eX5_terms_66 (by decide) rfl ?_
      refine q_iload eX5_terms_68 rfl ?_
      refine q_if_eq (tgt := 86) eX5_terms_70 (by decide) (by first | assumption | exact ⟨by omega, by omega⟩) (fun c70 => ?_) (fun c70 => ?_)
      · refine q_aload_n eX5_terms_86 rfl ?_
        refine q_getfield eX5_terms_87 gf_X5_37 (hK _ (by decide) (by decide)) (by decide) (xf_26_3 (by first | exact hX | exact hX3)) ?_
        refine q_iload_n eX5_terms_90 rfl ?_
        refine q_iload eX5_terms_91 rfl ?_
        refine q_callVP [vI s.1, vI (facsE n tp m r f T (nxE n tp s.2)).1] (M1 := mX2_plus) eX5_terms_93 mf_X2_plus lk_X5_95 (hK _ (by decide) (by decide)) (ev_plus hK C3.1 C3.2.1.1 hE I3.1) (by omega) (by decide) (by decide) (Nat.le_of_ble_eq_true rfl) rfl ?_
        refine q_istore_n eX5_terms_96 (by decide) rfl ?_
        refine q_iinc eX5_terms_97 rfl (by decide) rfl ?_
        refine q_goto (tgt := 8) eX5_terms_100 (by decide) ?_
        rw [if_pos ⟨z0, by omega⟩] at hS
        first
        | (rw [if_pos (show s.2 7 = 45 by omega)] at hS
           exact ih (i + 1) (mi m r s.1 (facsE n tp m r f T (nxE n tp s.2)).1, (facsE n tp m r f T (nxE n tp s.2)).2) F3 A3 _ _ (by omega) (ho.trans o3) ((hF.trans f2).trans f3) r3 (mi_el (by omega) _ _) I3.2 hS)
        | (rw [if_neg (show ¬ s.2 7 = 45 by omega)] at hS
           exact ih (i + 1) (pl m r s.1 (facsE n tp m r f T (nxE n tp s.2)).1, (facsE n tp m r f T (nxE n tp s.2)).2) F3 A3 _ _ (by omega) (ho.trans o3) ((hF.trans f2).trans f3) r3 (pl_el (by omega) _ _) I3.2 hS)
      · refine q_aload_n eX5_terms_73 rfl ?_
        refine q_getfield eX5_terms_74 gf_X5_37 (hK _ (by decide) (by decide)) (by decide) (xf_26_3 (by first | exact hX | exact hX3)) ?_
        refine q_iload_n eX5_terms_77 rfl ?_
        refine q_iload eX5_terms_78 rfl ?_
        refine q_callVP [vI s.1, vI (facsE n tp m r f T (nxE n tp s.2)).1] (M1 := mX2_minus) eX5_terms_80 mf_X2_minus lk_X5_90 (hK _ (by decide) (by decide)) (ev_minus hK C3.1 C3.2.1.1 hE I3.1) (by omega) (by decide) (by decide) (Nat.le_of_ble_eq_true rfl) rfl ?_
        refine q_goto (tgt := 96) eX5_terms_83 (by decide) ?_
        refine q_istore_n eX5_terms_96 (by decide) rfl ?_
        refine q_iinc eX5_terms_97 rfl (by decide) rfl ?_
        refine q_goto (tgt := 8) eX5_terms_100 (by decide) ?_
        rw [if_pos ⟨z0, by omega⟩] at hS
        first
        | (rw [if_pos (show s.2 7 = 45 by omega)] at hS
           exact ih (i + 1) (mi m r s.1 (facsE n tp m r f T (nxE n tp s.2)).1, (facsE n tp m r f T (nxE n tp s.2)).2) F3 A3 _ _ (by omega) (ho.trans o3) ((hF.trans f2).trans f3) r3 (mi_el (by omega) _ _) I3.2 hS)
        | (rw [if_neg (show ¬ s.2 7 = 45 by omega)] at hS
           exact ih (i + 1) (pl m r s.1 (facsE n tp m r f T (nxE n tp s.2)).1, (facsE n tp m r f T (nxE n tp s.2)).2) F3 A3 _ _ (by omega) (ho.trans o3) ((hF.trans f2).trans f3) r3 (pl_el (by omega) _ _) I3.2 hS)
    refine q_iload_n eX5_terms_8 rfl ?_
    refine q_aload_n eX5_terms_9 rfl ?_
    refine q_getfield eX5_terms_10 gf_X5_22 (hK _ (by decide) (by decide)) (by decide) f6 ?_
    refine q_icmp_ge (tgt := 103) eX5_terms_13 (by decide) (by first | assumption | exact ⟨by omega, by omega⟩) (by first | assumption | exact ⟨by omega, by omega⟩) (fun c13 => ?_) (fun c13 => ?_)
    · exact absurd c13 (by omega)
    · refine q_aload_n eX5_terms_16 rfl ?_
      refine q_getfield eX5_terms_17 gf_X5_9 (hK _ (by decide) (by decide)) (by decide) f0 ?_
      refine q_if_ne (tgt := 103) eX5_terms_20 (by decide) (by first | assumption | exact ⟨by omega, by omega⟩) (fun c20 => ?_) (fun c20 => ?_)
      · refine q_iload_n eX5_terms_103 rfl ?_
        refine q_retI eX5_terms_104 rfl (by decide) (by decide) ?_
        first
        | (rw [if_neg (fun q => c20 q.1)] at hS
           subst hS
           exact ⟨rfl, rfl, ho, hF, h⟩)
        | (rw [if_neg (fun q => by rcases q.2 with q | q; exact c29 q; exact c38 q)] at hS
           subst hS
           exact ⟨rfl, rfl, ho, hF, h⟩)
      · refine q_aload_n eX5_terms_23 rfl ?_
        refine q_getfield eX5_terms_24 gf_X5_25 (hK _ (by decide) (by decide)) (by decide) f7 ?_
        refine q_bipush eX5_terms_27 (by decide +kernel) ?_
        refine q_icmp_eq (tgt := 41) eX5_terms_29 (by decide) (by first | assumption | exact ⟨by omega, by omega⟩) (by first | assumption | exact ⟨by omega, by omega⟩) (fun c29 => ?_) (fun c29 => ?_)
        · refine q_aload_n eX5_terms_41 rfl ?_
          refine q_getfield eX5_terms_42 gf_X5_25 (hK _ (by decide) (by decide)) (by decide) f7 ?_
          refine q_bipush eX5_terms_45 (by decide +kernel) ?_
          refine q_icmp_ne (tgt := 54) eX5_terms_47 (by decide) (by first | assumption | exact ⟨by omega, by omega⟩) (by first | assumption | exact ⟨by omega, by omega⟩) (fun c47 => ?_) (fun c47 => ?_)
          · refine q_iconst eX5_terms_54 ?_
            refine q_istore eX5_terms_55 (by decide) rfl ?_
            exact k57 _ (by omega) (by omega)
          · refine q_iconst eX5_terms_50 ?_
            refine q_goto (tgt := 55) eX5_terms_51 (by decide) ?_
            refine q_istore eX5_terms_55 (by decide) rfl ?_
            exact k57 _ (by omega) (by omega)
        · refine q_aload_n eX5_terms_32 rfl ?_
          refine q_getfield eX5_terms_33 gf_X5_25 (hK _ (by decide) (by decide)) (by decide) f7 ?_
          refine q_bipush eX5_terms_36 (by decide +kernel) ?_
          refine q_icmp_ne (tgt := 103) eX5_terms_38 (by decide) (by first | assumption | exact ⟨by omega, by omega⟩) (by first | assumption | exact ⟨by omega, by omega⟩) (fun c38 => ?_) (fun c38 => ?_)
          · refine q_iload_n eX5_terms_103 rfl ?_
            refine q_retI eX5_terms_104 rfl (by decide) (by decide) ?_
            first
            | (rw [if_neg (fun q => c20 q.1)] at hS
               subst hS
               exact ⟨rfl, rfl, ho, hF, h⟩)
            | (rw [if_neg (fun q => by rcases q.2 with q | q; exact c29 q; exact c38 q)] at hS
               subst hS
               exact ⟨rfl, rfl, ho, hF, h⟩)
          · refine q_aload_n eX5_terms_41 rfl ?_
            refine q_getfield eX5_terms_42 gf_X5_25 (hK _ (by decide) (by decide)) (by decide) f7 ?_
            refine q_bipush eX5_terms_45 (by decide +kernel) ?_
            refine q_icmp_ne (tgt := 54) eX5_terms_47 (by decide) (by first | assumption | exact ⟨by omega, by omega⟩) (by first | assumption | exact ⟨by omega, by omega⟩) (fun c47 => ?_) (fun c47 => ?_)
            · refine q_iconst eX5_terms_54 ?_
              refine q_istore eX5_terms_55 (by decide) rfl ?_
              exact k57 _ (by omega) (by omega)
            · refine q_iconst eX5_terms_50 ?_
              refine q_goto (tgt := 55) eX5_terms_51 (by decide) ?_
              refine q_istore eX5_terms_55 (by decide) rfl ?_
              exact k57 _ (by omega) (by omega)
set_option maxRecDepth 20000 in
theorem ev_terms {rs : Nat → Int} {D : Nat} {op : Int} {T : (Nat → Int) → Int × (Nat → Int)} {p e r q N n : Nat} {m : Int} {f : Nat → Int} {g : Int} {lg tp pl_ : Nat → Int} {F : HF} {A : HA} {al : AL} (hK : KX al) (hC : CX p e r q N n m f g lg tp pl_ F A) (h : RD rs F) (hI : RI n rs) (hD : 5 ≤ D) (hRT : RMok n m r T) (hRC : RC D mX5_atom op al p e r q N n m f g lg tp pl_ T)  : QE (D + 3) 0 0 mX5_terms [vA 26, vI op] F A al (PRQ (tmsE n tp m r f T rs) F A al) := by
  refine QE.mk (by decide +kernel) (Nat.le_of_ble_eq_true rfl) ?_
  obtain ⟨hX, hT, ht, hn, hpl⟩ := id hC
  obtain ⟨i6, i7, i10, i8, i9, i7r, i0, i1, i2⟩ := id hI
  obtain ⟨hG, hp, he, hq, hN, hg, ⟨hp2, hp7, he1, he4, hme, hqe, hq3, hNm, hgE⟩, hP, hL, hIm⟩ := id hT
  obtain ⟨hm, hr, hf, hm2, hr1, hr6, hN4⟩ := id hG
  have hm4 := hG.m4
  refine q_aload_n eX5_terms_0 rfl ?_
  refine q_iload_n eX5_terms_1 rfl ?_
  refine q_callVR [vI op] (M1 := mX5_factors) eX5_terms_2 mf_X5_factors lk_X5_87 (hK _ (by decide) (by decide)) (ev_factors hK hC h hI hD hRT hRC) (by omega) (by decide) (by decide) (Nat.le_of_ble_eq_true rfl) rfl (fun F1 A1 o1 f1 r1 => ?_)
  refine q_istore_n eX5_terms_5 (by decide) rfl ?_
  refine q_iconst eX5_terms_6 ?_
  refine q_istore_n eX5_terms_7 (by decide) rfl ?_
  have I1 := facs_ok (f := f) hRT hm2 hr1 ht hn _ hI
  exact lp_terms hK hC hD hRT hRC n 0 _ F1 A1 _ _ (by omega) o1 f1 r1 I1.1 I1.2 rfl
