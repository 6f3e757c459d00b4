/-! Reader: bytes, tokens -/
def RD (rs : Nat → Int) (F : HF) : Prop := ∀ k, k ∈ [0, 1, 2, 6, 7, 8, 9, 10] → F 26 k = vI (rs k)
theorem RD.up {rs : Nat → Int} {F : HF} {k : Nat} {v : Int} (h : RD rs F) : RD (upc rs k v) (up2 F 26 k (vI v)) := by
  intro j hj
  rw [up2_at]
  unfold upc
  split
  · rfl
  · exact h j hj
theorem RD.same {rs rs2 : Nat → Int} {F : HF} (h : RD rs F) (e : ∀ k, rs2 k = rs k) : RD rs2 F := fun k hk => by rw [e k]; exact h k hk
def PRV (rs : Nat → Int) (F : HF) (A : HA) (al : AL) : PO := fun o F' A' al' => o = .inl none ∧ al' = al ∧ A' = A ∧ FOff [(26, 0), (26, 1), (26, 2), (26, 7), (26, 8), (26, 9), (26, 10)] F F' ∧ RD rs F'
theorem nt_PRV {rs : Nat → Int} {F : HF} {A : HA} {al : AL} : NT (PRV rs F A al) := by intro E F A al h; cases h.1
/-- the tape: n bytes told -/
def TA (tp : Nat → Int) (A : HA) : Prop := ∀ j, j < 200 → A 20 j = tp j ∧ 0 ≤ tp j ∧ tp j < 256
def bA (n : Nat) (tp : Nat → Int) (i : Nat) : Int := if i < n then tp i else 257
theorem bA_range {n : Nat} {tp : Nat → Int} {A : HA} (h : TA tp A) (hn : n ≤ 200) (i : Nat) : 0 ≤ bA n tp i ∧ bA n tp i ≤ 257 := by
  unfold bA
  split
  · have := (h i (by omega)).2; omega
  · omega
def failE (rs : Nat → Int) (w : Int) : Nat → Int := if rs 0 = 0 then upc (upc rs 0 w) 1 (rs 8) else rs
set_option maxRecDepth 20000 in
theorem ev_byteAt {n i : Nat} {tp : Nat → Int} {F : HF} {A : HA} {al : AL} (hK : KX al) (hX : XF F) (ht : TA tp A) (h6 : F 26 6 = vI n) (hn : n ≤ 200) (hi : i < 2147483648) : QE 1 0 0 mX5_byteAt [vA 26, vI i] F A al (PI (bA n tp i) F A al) := by
  refine QE.mk (by decide +kernel) (Nat.le_of_ble_eq_true rfl) ?_
  refine q_iload_n eX5_byteAt_0 rfl ?_
  refine q_aload_n eX5_byteAt_1 rfl ?_
  refine q_getfield eX5_byteAt_2 gf_X5_22 (hK _ (by decide) (by decide)) (by decide) h6 ?_
  refine q_icmp_ge (tgt := 22) eX5_byteAt_5 (by decide) (by first | assumption | exact ⟨by omega, by omega⟩) (by first | assumption | exact ⟨by omega, by omega⟩) (fun c5 => ?_) (fun c5 => ?_)
  · refine q_sipush eX5_byteAt_22 (by decide +kernel) ?_
    refine q_retI eX5_byteAt_25 rfl (by decide) (by decide) ?_
    refine PI_ok ?_
    unfold bA
    first
    | (rw [if_pos (by omega)])
    | (rw [if_neg (by omega)])
  · refine q_aload_n eX5_byteAt_8 rfl ?_
    refine q_getfield eX5_byteAt_9 gf_X5_45 (hK _ (by decide) (by decide)) (by decide) (xf_26_5 hX) ?_
    refine q_getfield eX5_byteAt_12 gf_X5_60 (hK _ (by decide) (by decide)) (by decide) (xf_19_1 hX) ?_
    refine q_iload_n eX5_byteAt_15 rfl ?_
    refine q_callSP [vA 20, vI i] (M1 := mX7_at) eX5_byteAt_16 mf_X7_at lk_X5_65 (ev_atN (hK _ (by decide) (by decide)) (show i < 200 by omega) (by decide)) (by decide) (by decide) (by decide) (Nat.le_of_ble_eq_true rfl) rfl ?_
    rw [(ht i (by omega)).1]
    refine q_goto (tgt := 25) eX5_byteAt_19 (by decide) ?_
    refine q_retI eX5_byteAt_25 rfl (by decide) (by decide) ?_
    refine PI_ok ?_
    unfold bA
    first
    | (rw [if_pos (by omega)])
    | (rw [if_neg (by omega)])
set_option maxRecDepth 20000 in
theorem ev_isFigure {x : Int} {F : HF} {A : HA} {al : AL} (hx : InR x) : QE 0 0 0 mX5_isFigure [vI x] F A al (PI (if 48 ≤ x ∧ x ≤ 57 then 1 else 0) F A al) := by
  refine QE.mk (by decide +kernel) (Nat.le_of_ble_eq_true rfl) ?_
  refine q_iload_n eX5_isFigure_0 rfl ?_
  refine q_bipush eX5_isFigure_1 (by decide +kernel) ?_
  refine q_icmp_lt (tgt := 16) eX5_isFigure_3 (by decide) (by first | assumption | exact ⟨by omega, by omega⟩) (by first | assumption | exact ⟨by omega, by omega⟩) (fun c3 => ?_) (fun c3 => ?_)
  · refine q_iconst eX5_isFigure_16 ?_
    refine q_retZ eX5_isFigure_17 rfl (by first | exact Or.inl rfl | exact Or.inr rfl | assumption) (by decide) (by decide) ?_
    refine PI_ok ?_
    first
    | (rw [if_pos (by omega)])
    | (rw [if_neg (by omega)])
  · refine q_iload_n eX5_isFigure_6 rfl ?_
    refine q_bipush eX5_isFigure_7 (by decide +kernel) ?_
    refine q_icmp_gt (tgt := 16) eX5_isFigure_9 (by decide) (by first | assumption | exact ⟨by omega, by omega⟩) (by first | assumption | exact ⟨by omega, by omega⟩) (fun c9 => ?_) (fun c9 => ?_)
    · refine q_iconst eX5_isFigure_16 ?_
      refine q_retZ eX5_isFigure_17 rfl (by first | exact Or.inl rfl | exact Or.inr rfl | assumption) (by decide) (by decide) ?_
      refine PI_ok ?_
      first
      | (rw [if_pos (by omega)])
      | (rw [if_neg (by omega)])
    · refine q_iconst eX5_isFigure_12 ?_
      refine q_goto (tgt := 17) eX5_isFigure_13 (by decide) ?_
      refine q_retZ eX5_isFigure_17 rfl (by first | exact Or.inl rfl | exact Or.inr rfl | assumption) (by decide) (by decide) ?_
      refine PI_ok ?_
      first
      | (rw [if_pos (by omega)])
      | (rw [if_neg (by omega)])
set_option maxRecDepth 20000 in
theorem ev_fail {rs : Nat → Int} {w : Int} {F : HF} {A : HA} {al : AL} (hK : KX al) (h : RD rs F) (hr0 : InR (rs 0)) : QE 1 0 0 mX5_fail [vA 26, vI w] F A al (PRV (failE rs w) F A al) := by
  refine QE.mk (by decide +kernel) (Nat.le_of_ble_eq_true rfl) ?_
  refine q_aload_n eX5_fail_0 rfl ?_
  refine q_getfield eX5_fail_1 gf_X5_9 (hK _ (by decide) (by decide)) (by decide) (h 0 (by decide)) ?_
  refine q_if_ne (tgt := 20) eX5_fail_4 (by decide) hr0 (fun c4 => ?_) (fun c4 => ?_)
  · refine q_retV eX5_fail_20 rfl (by decide) (by decide) ?_
    first
    | (rw [show failE rs w = rs from if_neg c4]
       exact ⟨rfl, rfl, rfl, FOff.rfl', h⟩)
    | (rw [show failE rs w = upc (upc rs 0 w) 1 (rs 8) from if_pos (Classical.byContradiction c4)]
       exact ⟨rfl, rfl, rfl, (FOff.up (by decide)).trans (FOff.up (by decide)), h.up.up⟩)
    | (rw [show failE rs w = upc (upc rs 0 w) 1 (rs 8) from if_pos c4]
       exact ⟨rfl, rfl, rfl, (FOff.up (by decide)).trans (FOff.up (by decide)), h.up.up⟩)
  · refine q_aload_n eX5_fail_7 rfl ?_
    refine q_iload_n eX5_fail_8 rfl ?_
    refine q_putfield eX5_fail_9 pf_X5_9 (hK _ (by decide) (by decide)) (by decide) (FT_i rfl) ?_
    refine q_aload_n eX5_fail_12 rfl ?_
    refine q_aload_n eX5_fail_13 rfl ?_
    refine q_getfield eX5_fail_14 gf_X5_28 (hK _ (by decide) (by decide)) (by decide) (Eq.trans (up2_ne (by decide)) (h 8 (by decide))) ?_
    refine q_putfield eX5_fail_17 pf_X5_15 (hK _ (by decide) (by decide)) (by decide) (FT_i rfl) ?_
    refine q_retV eX5_fail_20 rfl (by decide) (by decide) ?_
    first
    | (rw [show failE rs w = rs from if_neg c4]
       exact ⟨rfl, rfl, rfl, FOff.rfl', h⟩)
    | (rw [show failE rs w = upc (upc rs 0 w) 1 (rs 8) from if_pos (Classical.byContradiction c4)]
       exact ⟨rfl, rfl, rfl, (FOff.up (by decide)).trans (FOff.up (by decide)), h.up.up⟩)
    | (rw [show failE rs w = upc (upc rs 0 w) 1 (rs 8) from if_pos c4]
       exact ⟨rfl, rfl, rfl, (FOff.up (by decide)).trans (FOff.up (by decide)), h.up.up⟩)
def fgs (n : Nat) (tp : Nat → Int) : Nat → Nat → Int → Nat × Int
  | 0, i, w => (i, w)
  | k + 1, i, w => if 48 ≤ bA n tp i ∧ bA n tp i ≤ 57 then fgs n tp k (i + 1) (min (w * 10 + bA n tp i - 48) 10000) else (i, w)
theorem fgs_range {n : Nat} {tp : Nat → Int} : ∀ (k i : Nat) (w : Int), i + k = n → 0 ≤ w → w ≤ 10000 → i ≤ (fgs n tp k i w).1 ∧ (fgs n tp k i w).1 ≤ n ∧ 0 ≤ (fgs n tp k i w).2 ∧ (fgs n tp k i w).2 ≤ 10000
  | 0, i, w, h, h1, h2 => ⟨Nat.le_refl _, by show i ≤ n; omega, h1, h2⟩
  | k + 1, i, w, h, h1, h2 => by
    unfold fgs
    split
    · next hc =>
      obtain ⟨a1, a2, a3, a4⟩ := fgs_range (n := n) (tp := tp) k (i + 1) (min (w * 10 + bA n tp i - 48) 10000) (by omega) (by omega) (by omega)
      exact ⟨by omega, a2, a3, a4⟩
    · exact ⟨Nat.le_refl _, by show i ≤ n; omega, h1, h2⟩
set_option maxRecDepth 20000 in
theorem lp_takeFigures {n : Nat} {tp rs : Nat → Int} {S : Nat × Int} {F0 : HF} {A : HA} {al : AL} (hK : KX al) (hX0 : XF F0) (ht : TA tp A) (hn : n ≤ 200) (hrs : rs 6 = n) : ∀ (k i : Nat) (w : Int) (F : HF), i + k = n → 0 ≤ w → w ≤ 10000 → FOff [(26, 0), (26, 1), (26, 2), (26, 7), (26, 8), (26, 9), (26, 10)] F0 F → RD (upc (upc rs 9 w) 10 i) F → fgs n tp k i w = S →
    QW mX5_takeFigures 2 0 0 (PRV (upc (upc rs 9 S.2) 10 S.1) F0 A al) 0 0 20 [some (vA 26)] [] F A al := by
  intro k
  induction k with
  | zero =>
    intro i w F hi hw hw2 ho h hS
    have hX := hX0.foff ho (by decide)
    have f10 : F 26 10 = vI i := h 10 (by decide)
    have f6 : F 26 6 = vI n := by rw [← hrs]; exact h 6 (by decide)
    subst hS
    refine q_aload_n eX5_takeFigures_20 rfl ?_
    refine q_getfield eX5_takeFigures_21 gf_X5_34 (hK _ (by decide) (by decide)) (by decide) f10 ?_
    refine q_aload_n eX5_takeFigures_24 rfl ?_
    refine q_getfield eX5_takeFigures_25 gf_X5_22 (hK _ (by decide) (by decide)) (by decide) f6 ?_
    refine q_icmp_ge (tgt := 87) eX5_takeFigures_28 (by decide) (by first | assumption | exact ⟨by omega, by omega⟩) (by first | assumption | exact ⟨by omega, by omega⟩) (fun c28 => ?_) (fun c28 => ?_)
    · refine q_retV eX5_takeFigures_87 rfl (by decide) (by decide) ?_
      exact ⟨rfl, rfl, rfl, ho, h⟩
    · exact absurd c28 (by omega)
  | succ k ih =>
    intro i w F hi hw hw2 ho h hS
    have hX := hX0.foff ho (by decide)
    have f10 : F 26 10 = vI i := h 10 (by decide)
    have f9 : F 26 9 = vI w := h 9 (by decide)
    have f6 : F 26 6 = vI n := by rw [← hrs]; exact h 6 (by decide)
    have hb := bA_range ht hn i
    have hr : InR (if 48 ≤ bA n tp i ∧ bA n tp i ≤ 57 then 1 else 0) := by split <;> exact ⟨by decide, by decide⟩
    have hst : fgs n tp (k + 1) i w = if 48 ≤ bA n tp i ∧ bA n tp i ≤ 57 then fgs n tp k (i + 1) (min (w * 10 + bA n tp i - 48) 10000) else (i, w) := rfl
    rw [hst] at hS
    refine q_aload_n eX5_takeFigures_20 rfl ?_
    refine q_getfield eX5_takeFigures_21 gf_X5_34 (hK _ (by decide) (by decide)) (by decide) (by first | exact f10 | exact Eq.trans (up2_ne (by decide)) f10) ?_
    refine q_aload_n eX5_takeFigures_24 rfl ?_
    refine q_getfield eX5_takeFigures_25 gf_X5_22 (hK _ (by decide) (by decide)) (by decide) f6 ?_
    refine q_icmp_ge (tgt := 87) eX5_takeFigures_28 (by decide) (by first | assumption | exact ⟨by omega, by omega⟩) (by first | assumption | exact ⟨by omega, by omega⟩) (fun c28 => ?_) (fun c28 => ?_)
    · exact absurd c28 (by omega)
    · refine q_aload_n eX5_takeFigures_31 rfl ?_
      refine q_aload_n eX5_takeFigures_32 rfl ?_
      refine q_getfield eX5_takeFigures_33 gf_X5_34 (hK _ (by decide) (by decide)) (by decide) (by first | exact f10 | exact Eq.trans (up2_ne (by decide)) f10) ?_
      refine q_callVP [vI i] (M1 := mX5_byteAt) eX5_takeFigures_36 mf_X5_byteAt lk_X5_71 (hK _ (by decide) (by decide)) (ev_byteAt hK hX ht f6 hn (by omega)) (by decide) (by decide) (by decide) (Nat.le_of_ble_eq_true rfl) rfl ?_
      refine q_callSP [vI (bA n tp i)] (M1 := mX5_isFigure) eX5_takeFigures_39 mf_X5_isFigure lk_X5_74 (ev_isFigure (by exact ⟨by omega, by omega⟩)) (by decide) (by decide) (by decide) (Nat.le_of_ble_eq_true rfl) rfl ?_
      refine q_if_eq (tgt := 87) eX5_takeFigures_42 (by decide) (by first | assumption | exact ⟨by omega, by omega⟩) (fun c42 => ?_) (fun c42 => ?_)
      · refine q_retV eX5_takeFigures_87 rfl (by decide) (by decide) ?_
        rw [if_neg (fun q => by rw [if_pos q] at c42; exact absurd c42 (by decide))] at hS
        subst hS
        exact ⟨rfl, rfl, rfl, ho, h⟩
      · refine q_aload_n eX5_takeFigures_45 rfl ?_
        refine q_aload_n eX5_takeFigures_46 rfl ?_
        refine q_getfield eX5_takeFigures_47 gf_X5_31 (hK _ (by decide) (by decide)) (by decide) f9 ?_
        refine q_bipush eX5_takeFigures_50 (by decide +kernel) ?_
        refine q_imul eX5_takeFigures_52 ?_
        refine q_aload_n eX5_takeFigures_53 rfl ?_
        refine q_aload_n eX5_takeFigures_54 rfl ?_
        refine q_getfield eX5_takeFigures_55 gf_X5_34 (hK _ (by decide) (by decide)) (by decide) (by first | exact f10 | exact Eq.trans (up2_ne (by decide)) f10) ?_
        refine q_callVP [vI i] (M1 := mX5_byteAt) eX5_takeFigures_58 mf_X5_byteAt lk_X5_71 (hK _ (by decide) (by decide)) (ev_byteAt hK hX ht f6 hn (by omega)) (by decide) (by decide) (by decide) (Nat.le_of_ble_eq_true rfl) rfl ?_
        refine q_iadd eX5_takeFigures_61 ?_
        refine q_bipush eX5_takeFigures_62 (by decide +kernel) ?_
        refine q_isub eX5_takeFigures_64 ?_
        refine q_sipush eX5_takeFigures_65 (by decide +kernel) ?_
        refine q_callSP [vI (w * 10 + bA n tp i - 48), vI 10000] (M1 := mJ9_min_7cf53) eX5_takeFigures_68 mf_J9_min_7cf53 lk_X5_81 (ev_min (by exact ⟨by omega, by omega⟩) (by exact ⟨by omega, by omega⟩)) (by decide) (by decide) (by decide) (Nat.le_of_ble_eq_true rfl) rfl ?_
        refine q_putfield eX5_takeFigures_71 pf_X5_31 (hK _ (by decide) (by decide)) (by decide) (FT_i rfl) ?_
        refine q_aload_n eX5_takeFigures_74 rfl ?_
        refine q_dup eX5_takeFigures_75 rfl ?_
        refine q_getfield eX5_takeFigures_76 gf_X5_34 (hK _ (by decide) (by decide)) (by decide) (by first | exact f10 | exact Eq.trans (up2_ne (by decide)) f10) ?_
        refine q_iconst eX5_takeFigures_79 ?_
        refine q_iadd eX5_takeFigures_80 ?_
        refine q_putfield eX5_takeFigures_81 pf_X5_34 (hK _ (by decide) (by decide)) (by decide) (FT_i rfl) ?_
        refine q_goto (tgt := 20) eX5_takeFigures_84 (by decide) ?_
        have hf : 48 ≤ bA n tp i ∧ bA n tp i ≤ 57 := Classical.byContradiction fun q => c42 (if_neg q)
        rw [if_pos hf] at hS
        refine ih (i + 1) _ _ (by omega) (by omega) (by omega) ((ho.trans (FOff.up (by decide))).trans (FOff.up (by decide))) ?_ hS
        refine RD.same (h.up.up) (fun j => ?_)
        unfold upc
        by_cases e10 : j = 10
        · rw [if_pos e10, if_pos e10]; rfl
        · rw [if_neg e10, if_neg e10]
          by_cases e9 : j = 9
          · rw [if_pos e9, if_pos e9]
          · rw [if_neg e9, if_neg e9, if_neg e10, if_neg e9]
/-- a number's token from f on -/
def tkE (n : Nat) (tp rs : Nat → Int) (f : Nat) : Nat → Int := upc (upc (upc rs 7 256) 9 (fgs n tp (n - f) f 0).2) 10 (fgs n tp (n - f) f 0).1
set_option maxRecDepth 20000 in
theorem ev_takeFigures {n f : Nat} {tp rs : Nat → Int} {F : HF} {A : HA} {al : AL} (hK : KX al) (hX : XF F) (ht : TA tp A) (hn : n ≤ 200) (hrs : rs 6 = n) (h : RD rs F) (h8 : F 26 8 = vI f) (hf : f ≤ n) : QE 2 0 0 mX5_takeFigures [vA 26] F A al (PRV (tkE n tp rs f) F A al) := by
  refine QE.mk (by decide +kernel) (Nat.le_of_ble_eq_true rfl) ?_
  refine q_aload_n eX5_takeFigures_0 rfl ?_
  refine q_sipush eX5_takeFigures_1 (by decide +kernel) ?_
  refine q_putfield eX5_takeFigures_4 pf_X5_25 (hK _ (by decide) (by decide)) (by decide) (FT_i rfl) ?_
  refine q_aload_n eX5_takeFigures_7 rfl ?_
  refine q_iconst eX5_takeFigures_8 ?_
  refine q_putfield eX5_takeFigures_9 pf_X5_31 (hK _ (by decide) (by decide)) (by decide) (FT_i rfl) ?_
  refine q_aload_n eX5_takeFigures_12 rfl ?_
  refine q_aload_n eX5_takeFigures_13 rfl ?_
  refine q_getfield eX5_takeFigures_14 gf_X5_28 (hK _ (by decide) (by decide)) (by decide) (Eq.trans (up2_ne (by decide)) (Eq.trans (up2_ne (by decide)) h8)) ?_
  refine q_putfield eX5_takeFigures_17 pf_X5_34 (hK _ (by decide) (by decide)) (by decide) (FT_i rfl) ?_
  refine lp_takeFigures (rs := upc rs 7 256) hK hX ht hn (show upc rs 7 256 6 = n from hrs) (n - f) f 0 _ (by omega) (by decide) (by decide) (((FOff.up (by decide)).trans (FOff.up (by decide))).trans (FOff.up (by decide))) h.up.up.up rfl
def sks (n : Nat) (tp : Nat → Int) : Nat → Nat → Nat
  | 0, i => i
  | k + 1, i => if bA n tp i = 32 ∨ bA n tp i = 10 then sks n tp k (i + 1) else i
theorem sks_le {n : Nat} {tp : Nat → Int} : ∀ (k i : Nat), i + k = n → i ≤ sks n tp k i ∧ sks n tp k i ≤ n
  | 0, i, h => ⟨Nat.le_refl _, by show i ≤ n; omega⟩
  | k + 1, i, h => by
    unfold sks
    split
    · have := sks_le (n := n) (tp := tp) k (i + 1) (by omega); omega
    · omega
/-- the token at f -/
def n8E (n : Nat) (tp rs : Nat → Int) (f : Nat) : Nat → Int := if 48 ≤ bA n tp f ∧ bA n tp f ≤ 57 then tkE n tp (upc (upc (upc rs 8 f) 7 (bA n tp f)) 10 (f + 1 : Nat)) f else upc (upc (upc rs 8 f) 7 (bA n tp f)) 10 (f + 1 : Nat)
def nxE (n : Nat) (tp rs : Nat → Int) : Nat → Int := n8E n tp rs (sks n tp (n - (rs 10).toNat) (rs 10).toNat)
set_option maxRecDepth 20000 in
theorem lp_next {n f0 : Nat} {tp rs : Nat → Int} {F0 : HF} {A : HA} {al : AL} (hK : KX al) (hX0 : XF F0) (ht : TA tp A) (hn : n ≤ 200) (hrs : rs 6 = n) : ∀ (k i : Nat) (F : HF), i + k = n → FOff [(26, 0), (26, 1), (26, 2), (26, 7), (26, 8), (26, 9), (26, 10)] F0 F → RD (upc rs 8 i) F → sks n tp k i = f0 →
    QW mX5_next 3 0 0 (PRV (n8E n tp rs f0) F0 A al) 0 0 8 [some (vA 26)] [] F A al := by
  have hout : ∀ (i : Nat) (F : HF), i ≤ n → FOff [(26, 0), (26, 1), (26, 2), (26, 7), (26, 8), (26, 9), (26, 10)] F0 F → RD (upc rs 8 i) F → i = f0 → QW mX5_next 3 0 0 (PRV (n8E n tp rs f0) F0 A al) 0 0 58 [some (vA 26)] [] F A al := by
    intro i F hi ho h hS
    subst hS
    have hX := hX0.foff ho (by decide)
    have f8 : F 26 8 = vI i := h 8 (by decide)
    have f6 : F 26 6 = vI n := by rw [← hrs]; exact h 6 (by decide)
    have hb := bA_range ht hn i
    have hr : InR (if 48 ≤ bA n tp i ∧ bA n tp i ≤ 57 then 1 else 0) := by split <;> exact ⟨by decide, by decide⟩
    have h2 : RD (upc (upc (upc rs 8 i) 7 (bA n tp i)) 10 (i + 1 : Nat)) (up2 (up2 F 26 7 (vI (bA n tp i))) 26 10 (vI (i + 1 : Nat))) := h.up.up
    have ho2 := (ho.trans (FOff.up (a := 26) (k := 7) (v := vI (bA n tp i)) (by decide))).trans (FOff.up (a := 26) (k := 10) (v := vI (i + 1 : Nat)) (by decide))
    have hst : n8E n tp rs i = if 48 ≤ bA n tp i ∧ bA n tp i ≤ 57 then tkE n tp (upc (upc (upc rs 8 i) 7 (bA n tp i)) 10 (i + 1 : Nat)) i else upc (upc (upc rs 8 i) 7 (bA n tp i)) 10 (i + 1 : Nat) := rfl
    rw [hst]
    refine q_aload_n eX5_next_58 rfl ?_
    refine q_aload_n eX5_next_59 rfl ?_
    refine q_aload_n eX5_next_60 rfl ?_
    refine q_getfield eX5_next_61 gf_X5_28 (hK _ (by decide) (by decide)) (by decide) (by first | exact f8 | exact Eq.trans (up2_ne (by decide)) f8) ?_
    refine q_callVP [vI i] (M1 := mX5_byteAt) eX5_next_64 mf_X5_byteAt lk_X5_71 (hK _ (by decide) (by decide)) (ev_byteAt hK hX ht f6 hn (by omega)) (by decide) (by decide) (by decide) (Nat.le_of_ble_eq_true rfl) rfl ?_
    refine q_putfield eX5_next_67 pf_X5_25 (hK _ (by decide) (by decide)) (by decide) (FT_i rfl) ?_
    refine q_aload_n eX5_next_70 rfl ?_
    refine q_aload_n eX5_next_71 rfl ?_
    refine q_getfield eX5_next_72 gf_X5_28 (hK _ (by decide) (by decide)) (by decide) (by first | exact f8 | exact Eq.trans (up2_ne (by decide)) f8) ?_
    refine q_iconst eX5_next_75 ?_
    refine q_iadd eX5_next_76 ?_
    refine q_putfield eX5_next_77 pf_X5_34 (hK _ (by decide) (by decide)) (by decide) (FT_i rfl) ?_
    refine q_aload_n eX5_next_80 rfl ?_
    refine q_getfield eX5_next_81 gf_X5_25 (hK _ (by decide) (by decide)) (by decide) (Eq.trans (up2_ne (by decide)) (up2_eq _ _ _ _)) ?_
    refine q_callSP [vI (bA n tp i)] (M1 := mX5_isFigure) eX5_next_84 mf_X5_isFigure lk_X5_74 (ev_isFigure (by exact ⟨by omega, by omega⟩)) (by decide) (by decide) (by decide) (Nat.le_of_ble_eq_true rfl) rfl ?_
    refine q_if_eq (tgt := 94) eX5_next_87 (by decide) (by first | assumption | exact ⟨by omega, by omega⟩) (fun c87 => ?_) (fun c87 => ?_)
    · refine q_retV eX5_next_94 rfl (by decide) (by decide) ?_
      first
      | (rw [if_neg (fun q => by rw [if_pos q] at c87; exact absurd c87 (by decide))]
         exact ⟨rfl, rfl, rfl, ho2, h2⟩)
      | (rw [if_pos (Classical.byContradiction fun q => c87 (if_neg q))]
         exact ⟨rfl, rfl, rfl, ho2.trans g9, r9⟩)
    · refine q_aload_n eX5_next_90 rfl ?_
      refine q_callV [] (M1 := mX5_takeFigures) eX5_next_91 mf_X5_takeFigures lk_X5_78 (hK _ (by decide) (by decide)) (ev_takeFigures hK (hX0.foff ho2 (by decide)) ht hn (show upc (upc (upc rs 8 i) 7 (bA n tp i)) 10 (i + 1 : Nat) 6 = n from hrs) h2 (Eq.trans (up2_ne (by decide)) (Eq.trans (up2_ne (by decide)) f8)) hi) nt_PRV (by decide) (by decide) (by decide) (Nat.le_of_ble_eq_true rfl) (st := []) rfl (fun v9 F9 A9 al9 h9 => ?_)
      obtain ⟨e9, rfl, rfl, g9, r9⟩ := h9
      obtain rfl := Sum.inl.inj e9
      refine q_retV eX5_next_94 rfl (by decide) (by decide) ?_
      first
      | (rw [if_neg (fun q => by rw [if_pos q] at c87; exact absurd c87 (by decide))]
         exact ⟨rfl, rfl, rfl, ho2, h2⟩)
      | (rw [if_pos (Classical.byContradiction fun q => c87 (if_neg q))]
         exact ⟨rfl, rfl, rfl, ho2.trans g9, r9⟩)
  intro k
  induction k with
  | zero =>
    intro i F hi ho h hS
    have hX := hX0.foff ho (by decide)
    have f8 : F 26 8 = vI i := h 8 (by decide)
    have f6 : F 26 6 = vI n := by rw [← hrs]; exact h 6 (by decide)
    refine q_aload_n eX5_next_8 rfl ?_
    refine q_getfield eX5_next_9 gf_X5_28 (hK _ (by decide) (by decide)) (by decide) f8 ?_
    refine q_aload_n eX5_next_12 rfl ?_
    refine q_getfield eX5_next_13 gf_X5_22 (hK _ (by decide) (by decide)) (by decide) f6 ?_
    refine q_icmp_ge (tgt := 58) eX5_next_16 (by decide) (by first | assumption | exact ⟨by omega, by omega⟩) (by first | assumption | exact ⟨by omega, by omega⟩) (fun c16 => ?_) (fun c16 => ?_)
    · exact hout i F (by omega) ho h hS
    · exact absurd c16 (by omega)
  | succ k ih =>
    intro i F hi ho h hS
    have hX := hX0.foff ho (by decide)
    have f8 : F 26 8 = vI i := h 8 (by decide)
    have f6 : F 26 6 = vI n := by rw [← hrs]; exact h 6 (by decide)
    have hb := bA_range ht hn i
    have hst : sks n tp (k + 1) i = if bA n tp i = 32 ∨ bA n tp i = 10 then sks n tp k (i + 1) else i := rfl
    rw [hst] at hS
    refine q_aload_n eX5_next_8 rfl ?_
    refine q_getfield eX5_next_9 gf_X5_28 (hK _ (by decide) (by decide)) (by decide) f8 ?_
    refine q_aload_n eX5_next_12 rfl ?_
    refine q_getfield eX5_next_13 gf_X5_22 (hK _ (by decide) (by decide)) (by decide) f6 ?_
    refine q_icmp_ge (tgt := 58) eX5_next_16 (by decide) (by first | assumption | exact ⟨by omega, by omega⟩) (by first | assumption | exact ⟨by omega, by omega⟩) (fun c16 => ?_) (fun c16 => ?_)
    · exact absurd c16 (by omega)
    · refine q_aload_n eX5_next_19 rfl ?_
      refine q_aload_n eX5_next_20 rfl ?_
      refine q_getfield eX5_next_21 gf_X5_28 (hK _ (by decide) (by decide)) (by decide) f8 ?_
      refine q_callVP [vI i] (M1 := mX5_byteAt) eX5_next_24 mf_X5_byteAt lk_X5_71 (hK _ (by decide) (by decide)) (ev_byteAt hK hX ht f6 hn (by omega)) (by decide) (by decide) (by decide) (Nat.le_of_ble_eq_true rfl) rfl ?_
      refine q_bipush eX5_next_27 (by decide +kernel) ?_
      refine q_icmp_eq (tgt := 45) eX5_next_29 (by decide) (by first | assumption | exact ⟨by omega, by omega⟩) (by first | assumption | exact ⟨by omega, by omega⟩) (fun c29 => ?_) (fun c29 => ?_)
      · refine q_aload_n eX5_next_45 rfl ?_
        refine q_dup eX5_next_46 rfl ?_
        refine q_getfield eX5_next_47 gf_X5_28 (hK _ (by decide) (by decide)) (by decide) f8 ?_
        refine q_iconst eX5_next_50 ?_
        refine q_iadd eX5_next_51 ?_
        refine q_putfield eX5_next_52 pf_X5_28 (hK _ (by decide) (by decide)) (by decide) (FT_i rfl) ?_
        refine q_goto (tgt := 8) eX5_next_55 (by decide) ?_
        rw [if_pos (by omega)] at hS
        refine ih (i + 1) _ (by omega) (ho.trans (FOff.up (by decide))) (RD.same h.up (fun j => ?_)) hS
        unfold upc
        by_cases e8 : j = 8
        · rw [if_pos e8, if_pos e8]; rfl
        · rw [if_neg e8, if_neg e8, if_neg e8]
      · refine q_aload_n eX5_next_32 rfl ?_
        refine q_aload_n eX5_next_33 rfl ?_
        refine q_getfield eX5_next_34 gf_X5_28 (hK _ (by decide) (by decide)) (by decide) f8 ?_
        refine q_callVP [vI i] (M1 := mX5_byteAt) eX5_next_37 mf_X5_byteAt lk_X5_71 (hK _ (by decide) (by decide)) (ev_byteAt hK hX ht f6 hn (by omega)) (by decide) (by decide) (by decide) (Nat.le_of_ble_eq_true rfl) rfl ?_
        refine q_bipush eX5_next_40 (by decide +kernel) ?_
        refine q_icmp_ne (tgt := 58) eX5_next_42 (by decide) (by first | assumption | exact ⟨by omega, by omega⟩) (by first | assumption | exact ⟨by omega, by omega⟩) (fun c42 => ?_) (fun c42 => ?_)
        · rw [if_neg (by omega)] at hS
          exact hout i F (by omega) ho h hS
        · refine q_aload_n eX5_next_45 rfl ?_
          refine q_dup eX5_next_46 rfl ?_
          refine q_getfield eX5_next_47 gf_X5_28 (hK _ (by decide) (by decide)) (by decide) f8 ?_
          refine q_iconst eX5_next_50 ?_
          refine q_iadd eX5_next_51 ?_
          refine q_putfield eX5_next_52 pf_X5_28 (hK _ (by decide) (by decide)) (by decide) (FT_i rfl) ?_
          refine q_goto (tgt := 8) eX5_next_55 (by decide) ?_
          rw [if_pos (by omega)] at hS
          refine ih (i + 1) _ (by omega) (ho.trans (FOff.up (by decide))) (RD.same h.up (fun j => ?_)) hS
          unfold upc
          by_cases e8 : j = 8
          · rw [if_pos e8, if_pos e8]; rfl
          · rw [if_neg e8, if_neg e8, if_neg e8]
set_option maxRecDepth 20000 in
theorem ev_next {n b : Nat} {tp rs : Nat → Int} {F : HF} {A : HA} {al : AL} (hK : KX al) (hX : XF F) (ht : TA tp A) (hn : n ≤ 200) (hrs : rs 6 = n) (h : RD rs F) (hb : rs 10 = b) (hbn : b ≤ n) : QE 3 0 0 mX5_next [vA 26] F A al (PRV (nxE n tp rs) F A al) := by
  refine QE.mk (by decide +kernel) (Nat.le_of_ble_eq_true rfl) ?_
  refine q_aload_n eX5_next_0 rfl ?_
  refine q_aload_n eX5_next_1 rfl ?_
  refine q_getfield eX5_next_2 gf_X5_34 (hK _ (by decide) (by decide)) (by decide) (Eq.trans (h 10 (by decide)) (by rw [hb])) ?_
  refine q_putfield eX5_next_5 pf_X5_28 (hK _ (by decide) (by decide)) (by decide) (FT_i rfl) ?_
  have hnx : nxE n tp rs = n8E n tp rs (sks n tp (n - b) b) := by unfold nxE; rw [hb]; rfl
  rw [hnx]
  exact lp_next hK hX ht hn hrs (n - b) b _ (by omega) (FOff.up (by decide)) h.up rfl
