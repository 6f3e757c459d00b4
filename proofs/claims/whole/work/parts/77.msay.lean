/-! the model: speech -/
def MS (S : List Int) (F : HF) (A : HA) : Prop := F 44 52 = vI S.length ∧ ∀ j, j < S.length → A 65 j = S.getD j 0
def PMS (T : List Int) (F : HF) (A : HA) (al : AL) : PO := fun o F' A' al' => o = .inl none ∧ al' = al ∧ FOff [(44, 52)] F F' ∧ Off [65] A A' ∧ MS T F' A'
theorem nt_PMS {T : List Int} {F : HF} {A : HA} {al : AL} : NT (PMS T F A al) := by intro E F A al h; cases h.1
theorem MS.app {S : List Int} {F : HF} {A : HA} {x : Int} (h : MS S F A) : MS (S ++ [x]) (up2 F 44 52 (vI (S.length + 1 : Nat))) (up2 A 65 S.length x) := by
  refine ⟨?_, fun j hj => ?_⟩
  · rw [up2_eq, List.length_append]
    rfl
  · rw [List.length_append] at hj
    rw [up2_at]
    by_cases he : j = S.length
    · rw [if_pos he, he, List.getD_eq_getElem?_getD, List.getElem?_append_right (Nat.le_refl _), Nat.sub_self]
      rfl
    · have hj2 : j < S.length := by simp at hj; omega
      rw [if_neg he, h.2 j hj2, List.getD_eq_getElem?_getD, List.getD_eq_getElem?_getD, List.getElem?_append_left hj2]
theorem bm_small {x : Int} (h : 0 ≤ x) (h2 : x < 128) : x.bmod 256 = x := by
  rw [bm_sb, Int.emod_eq_of_lt h (by omega)]
  exact if_pos h2
theorem fg_zero : ∀ k, fgE 0 k = []
  | 0 => rfl
  | k + 1 => by
    have hp : 0 < (10 : Int) ^ k := Int.pow_pos (by decide)
    unfold fgE
    rw [if_neg (by omega), fg_zero k]
    rfl
theorem fg_step {x : Int} (hx : 1 ≤ x) : ∀ k, fgE x (k + 1) = fgE (x / 10) k ++ [48 + x % 10]
  | 0 => by
    show (if (10 : Int) ^ 0 ≤ x then [48 + x / 10 ^ 0 % 10] else []) ++ [] = [] ++ [48 + x % 10]
    rw [Int.pow_zero, if_pos hx, Int.ediv_one]
    rfl
  | k + 1 => by
    have ih := fg_step hx k
    have hp : 0 < (10 : Int) ^ k := Int.pow_pos (by decide)
    have e1 : x / 10 ^ (k + 1) = x / 10 / 10 ^ k := by
      rw [Int.pow_succ, Int.mul_comm, Int.ediv_ediv_of_nonneg (by decide)]
    have e2 : (10 : Int) ^ (k + 1) ≤ x ↔ (10 : Int) ^ k ≤ x / 10 := by
      rw [Int.pow_succ]
      omega
    show (if (10 : Int) ^ (k + 1) ≤ x then [48 + x / 10 ^ (k + 1) % 10] else []) ++ fgE x (k + 1) = ((if (10 : Int) ^ k ≤ x / 10 then [48 + x / 10 / 10 ^ k % 10] else []) ++ fgE (x / 10) k) ++ [48 + x % 10]
    rw [ih, e1, List.append_assoc]
    by_cases hc : (10 : Int) ^ k ≤ x / 10
    · rw [if_pos hc, if_pos (e2.mpr hc)]
    · rw [if_neg hc, if_neg (fun h => hc (e2.mp h))]
set_option maxRecDepth 20000 in
theorem mo_says {S : List Int} {x : Int} {F : HF} {A : HA} {al : AL} (hK : KM al) (hX : MR F) (hx : 0 ≤ x) (hx2 : x < 128) (h : MS S F A) (hl : S.length < 128) : QE 0 0 0 mX12_says [vA 44, vI x] F A al (PMS (S ++ [x]) F A al) := by
  refine QE.mk (by decide +kernel) (Nat.le_of_ble_eq_true rfl) ?_
  refine q_aload_n eX12_says_0 rfl ?_
  refine q_getfield eX12_says_1 gf_X12_99 (hK _ (by decide) (by decide)) (by decide) (mr_44_51 hX) ?_
  refine q_aload_n eX12_says_4 rfl ?_
  refine q_getfield eX12_says_5 gf_X12_437 (hK _ (by decide) (by decide)) (by decide) (by first | assumption | exact h.1) ?_
  refine q_iload_n eX12_says_8 rfl ?_
  refine q_i2b eX12_says_9 ?_
  rw [bm_small hx hx2]
  refine q_bast eX12_says_10 (hK _ (by decide) (by decide)) (by omega) (by omega) (by omega) (by omega) ?_
  refine q_aload_n eX12_says_11 rfl ?_
  refine q_dup eX12_says_12 rfl ?_
  refine q_getfield eX12_says_13 gf_X12_437 (hK _ (by decide) (by decide)) (by decide) (by first | assumption | exact h.1) ?_
  refine q_iconst eX12_says_16 ?_
  refine q_iadd eX12_says_17 ?_
  refine q_putfield eX12_says_18 pf_X12_437 (hK _ (by decide) (by decide)) (by decide) (FT_i rfl) ?_
  refine q_retV eX12_says_21 rfl (by decide) (by decide) ?_
  exact ⟨rfl, rfl, FOff.up (by simp), Off.up (by simp), h.app⟩
set_option maxRecDepth 20000 in
theorem mo_saysNumber {al : AL} (hK : KM al) : ∀ (k : Nat) {S : List Int} {x : Int} {F : HF} {A : HA}, MR F → 1 ≤ x → x < 10 ^ (k + 1) → x < 2147483648 → MS S F A → S.length + (k + 1) ≤ 128 → QE (k + 1) 0 0 mX12_saysNumber [vA 44, vI x] F A al (PMS (S ++ fgE x (k + 1)) F A al) := by
  intro k
  induction k with
  | zero =>
    intro S x F A hX hx hx2 hx3 h hl
    have hx9 : x < 10 := hx2
    refine QE.mk (by decide +kernel) (Nat.le_of_ble_eq_true rfl) ?_
    refine q_iload_n eX12_saysNumber_0 rfl ?_
    refine q_bipush eX12_saysNumber_1 (by decide +kernel) ?_
    refine q_icmp_le (tgt := 14) eX12_saysNumber_3 (by decide) (by first | assumption | exact ⟨by omega, by omega⟩) (by first | assumption | exact ⟨by omega, by omega⟩) (fun c3 => ?_) (fun c3 => ?_)
    · refine q_aload_n eX12_saysNumber_14 rfl ?_
      refine q_bipush eX12_saysNumber_15 (by decide +kernel) ?_
      refine q_iload_n eX12_saysNumber_17 rfl ?_
      refine q_bipush eX12_saysNumber_18 (by decide +kernel) ?_
      refine q_irem eX12_saysNumber_20 (by omega) (by omega) (by omega) (by omega) ?_
      refine q_iadd eX12_saysNumber_21 ?_
      refine q_callV [vI (48 + x % 10)] (M1 := mX12_says) eX12_saysNumber_22 mf_X12_says lk_X12_443 (hK _ (by decide) (by decide)) ((by first | exact mo_says hK hX9 (by omega) (by omega) s9 (by rw [List.length_append]; omega) | exact mo_says hK hX (by omega) (by omega) h (by omega))) nt_PMS (by omega) (by decide) (by decide) (Nat.le_of_ble_eq_true rfl) (st := []) rfl (fun v8 F8 A8 al8 h9_ => ?_)
      obtain ⟨e8, rfl, f8, o8, s8⟩ := h9_
      obtain rfl := Sum.inl.inj e8
      refine q_retV eX12_saysNumber_25 rfl (by decide) (by decide) ?_
      exact ⟨rfl, rfl, f8, o8, by rw [fg_step hx 0]; exact s8⟩
    · exact absurd hx9 (by omega)
  | succ k ih =>
    intro S x F A hX hx hx2 hx3 h hl
    have hx10 : x / 10 < 10 ^ (k + 1) := by
      rw [Int.pow_succ] at hx2
      omega
    refine QE.mk (by decide +kernel) (Nat.le_of_ble_eq_true rfl) ?_
    refine q_iload_n eX12_saysNumber_0 rfl ?_
    refine q_bipush eX12_saysNumber_1 (by decide +kernel) ?_
    refine q_icmp_le (tgt := 14) eX12_saysNumber_3 (by decide) (by first | assumption | exact ⟨by omega, by omega⟩) (by first | assumption | exact ⟨by omega, by omega⟩) (fun c3 => ?_) (fun c3 => ?_)
    · refine q_aload_n eX12_saysNumber_14 rfl ?_
      refine q_bipush eX12_saysNumber_15 (by decide +kernel) ?_
      refine q_iload_n eX12_saysNumber_17 rfl ?_
      refine q_bipush eX12_saysNumber_18 (by decide +kernel) ?_
      refine q_irem eX12_saysNumber_20 (by omega) (by omega) (by omega) (by omega) ?_
      refine q_iadd eX12_saysNumber_21 ?_
      refine q_callV [vI (48 + x % 10)] (M1 := mX12_says) eX12_saysNumber_22 mf_X12_says lk_X12_443 (hK _ (by decide) (by decide)) ((by first | exact mo_says hK hX9 (by omega) (by omega) s9 (by rw [List.length_append]; omega) | exact mo_says hK hX (by omega) (by omega) h (by omega))) nt_PMS (by omega) (by decide) (by decide) (Nat.le_of_ble_eq_true rfl) (st := []) rfl (fun v8 F8 A8 al8 h9_ => ?_)
      obtain ⟨e8, rfl, f8, o8, s8⟩ := h9_
      obtain rfl := Sum.inl.inj e8
      refine q_retV eX12_saysNumber_25 rfl (by decide) (by decide) ?_
      rw [fg_step hx (k + 1)]
      first
      | exact ⟨rfl, rfl, f9.trans f8, o9.trans o8, by rw [← List.append_assoc]; exact s8⟩
      | exact ⟨rfl, rfl, f8, o8, by rw [show x / 10 = 0 by omega, fg_zero]; exact s8⟩
    · refine q_aload_n eX12_saysNumber_6 rfl ?_
      refine q_iload_n eX12_saysNumber_7 rfl ?_
      refine q_bipush eX12_saysNumber_8 (by decide +kernel) ?_
      refine q_idiv eX12_saysNumber_10 (by omega) (by omega) (by omega) (by omega) ?_
      refine q_callV [vI (x / 10)] (M1 := mX12_saysNumber) eX12_saysNumber_11 mf_X12_saysNumber lk_X12_440 (hK _ (by decide) (by decide)) (ih (x := x / 10) hX (by omega) hx10 (by omega) h (by omega)) nt_PMS (by omega) (by decide) (by decide) (Nat.le_of_ble_eq_true rfl) (st := []) rfl (fun v9 F9 A9 al9 h9 => ?_)
      obtain ⟨e9, rfl, f9, o9, s9⟩ := h9
      obtain rfl := Sum.inl.inj e9
      have hX9 := hX.foff f9 (by decide)
      have hlf := fg_len (x := x / 10) (k + 1)
      refine q_aload_n eX12_saysNumber_14 rfl ?_
      refine q_bipush eX12_saysNumber_15 (by decide +kernel) ?_
      refine q_iload_n eX12_saysNumber_17 rfl ?_
      refine q_bipush eX12_saysNumber_18 (by decide +kernel) ?_
      refine q_irem eX12_saysNumber_20 (by omega) (by omega) (by omega) (by omega) ?_
      refine q_iadd eX12_saysNumber_21 ?_
      refine q_callV [vI (48 + x % 10)] (M1 := mX12_says) eX12_saysNumber_22 mf_X12_says lk_X12_443 (hK _ (by decide) (by decide)) ((by first | exact mo_says hK hX9 (by omega) (by omega) s9 (by rw [List.length_append]; omega) | exact mo_says hK hX (by omega) (by omega) h (by omega))) nt_PMS (by omega) (by decide) (by decide) (Nat.le_of_ble_eq_true rfl) (st := []) rfl (fun v8 F8 A8 al8 h9_ => ?_)
      obtain ⟨e8, rfl, f8, o8, s8⟩ := h9_
      obtain rfl := Sum.inl.inj e8
      refine q_retV eX12_saysNumber_25 rfl (by decide) (by decide) ?_
      rw [fg_step hx (k + 1)]
      first
      | exact ⟨rfl, rfl, f9.trans f8, o9.trans o8, by rw [← List.append_assoc]; exact s8⟩
      | exact ⟨rfl, rfl, f8, o8, by rw [show x / 10 = 0 by omega, fg_zero]; exact s8⟩
set_option maxRecDepth 20000 in
theorem lp_so54 {n x : Int} {T : List Int} {F0 : HF} {A0 : HA} {al : AL} (hK : KM al) (hX0 : MR F0) (hn : 1 ≤ n) (hn2 : n < 10000) (hx : 0 ≤ x) (hx2 : x ≤ 5) (S : List Int) (F : HF) (A : HA) (hl : S.length + 5 ≤ 128) (hF : FOff [(44, 52)] F0 F) (hA : Off [65] A0 A) (h : MS S F A) (hT : pt52 x S = T) :
    QW mX12_saysOne 5 0 0 (PMS T F0 A0 al) 0 0 54 [some (vA 44), some (vI x), some (vI n)] [] F A al := by
  have hst : pt52 x S = if 1 < x then S ++ [94] ++ fgE x 4 else S := rfl
  rw [hst] at hT
  refine q_iload_n eX12_saysOne_54 rfl ?_
  refine q_iconst eX12_saysOne_55 ?_
  refine q_icmp_le (tgt := 70) eX12_saysOne_56 (by decide) (by first | assumption | exact ⟨by omega, by omega⟩) (by first | assumption | exact ⟨by omega, by omega⟩) (fun c56 => ?_) (fun c56 => ?_)
  · rw [if_neg (by omega)] at hT
    subst hT
    refine q_retV eX12_saysOne_70 rfl (by decide) (by decide) ?_
    exact ⟨rfl, rfl, hF, hA, h⟩
  · refine q_aload_n eX12_saysOne_59 rfl ?_
    refine q_bipush eX12_saysOne_60 (by decide +kernel) ?_
    refine q_callV [vI (94)] (M1 := mX12_says) eX12_saysOne_62 mf_X12_says lk_X12_443 (hK _ (by decide) (by decide)) (mo_says hK (hX0.foff hF (by decide)) (by omega) (by omega) h (by first | omega | (rw [List.length_append]; omega))) nt_PMS (by decide) (by decide) (by decide) (Nat.le_of_ble_eq_true rfl) (st := []) rfl (fun v9 F9 A9 al9 h9 => ?_)
    obtain ⟨e9, rfl, f9, o9, s9⟩ := h9
    obtain rfl := Sum.inl.inj e9
    refine (fun (k65 : ∀ F A, FOff [(44, 52)] F0 F → Off [65] A0 A → MS (S ++ [94]) F A → QW mX12_saysOne 5 0 0 (PMS T F0 A0 al9) 0 0 65 [some (vA 44), some (vI x), some (vI n)] [] F A al9) => k65 F9 A9 (hF.trans f9) (hA.trans o9) s9) (fun F A hF hA h => ?_)
    have hl5 : (S ++ [94]).length + 4 ≤ 128 := by rw [List.length_append]; simp; omega
    rw [if_pos (by omega)] at hT
    refine q_aload_n eX12_saysOne_65 rfl ?_
    refine q_iload_n eX12_saysOne_66 rfl ?_
    refine q_callV [vI x] (M1 := mX12_saysNumber) eX12_saysOne_67 mf_X12_saysNumber lk_X12_440 (hK _ (by decide) (by decide)) (mo_saysNumber hK 3 (hX0.foff hF (by decide)) (by omega) (by omega) (by omega) h (by omega)) nt_PMS (by decide) (by decide) (by decide) (Nat.le_of_ble_eq_true rfl) (st := []) rfl (fun v9 F9 A9 al9 h9 => ?_)
    obtain ⟨e9, rfl, f9, o9, s9⟩ := h9
    obtain rfl := Sum.inl.inj e9
    refine q_retV eX12_saysOne_70 rfl (by decide) (by decide) ?_
    exact ⟨rfl, rfl, hF.trans f9, hA.trans o9, by rw [← hT]; exact s9⟩
set_option maxRecDepth 20000 in
theorem lp_so44 {n x : Int} {T : List Int} {F0 : HF} {A0 : HA} {al : AL} (hK : KM al) (hX0 : MR F0) (hn : 1 ≤ n) (hn2 : n < 10000) (hx : 0 ≤ x) (hx2 : x ≤ 5) (S : List Int) (F : HF) (A : HA) (hl : S.length + 6 ≤ 128) (hF : FOff [(44, 52)] F0 F) (hA : Off [65] A0 A) (h : MS S F A) (hT : pt42 x S = T) :
    QW mX12_saysOne 5 0 0 (PMS T F0 A0 al) 0 0 44 [some (vA 44), some (vI x), some (vI n)] [] F A al := by
  have hst : pt42 x S = pt52 x (if 0 < x then S ++ [116] else S) := rfl
  rw [hst] at hT
  refine q_iload_n eX12_saysOne_44 rfl ?_
  refine q_if_le (tgt := 54) eX12_saysOne_45 (by decide) (by first | assumption | exact ⟨by omega, by omega⟩) (fun c45 => ?_) (fun c45 => ?_)
  · first
    | (rw [if_neg (by omega)] at hT
       exact lp_so54 hK hX0 hn hn2 hx hx2 S F A (by omega) hF hA h hT)
    | (rw [if_pos (by omega)] at hT
       exact lp_so54 hK hX0 hn hn2 hx hx2 _ F9 A9 (by rw [List.length_append]; simp; omega) (hF.trans f9) (hA.trans o9) s9 hT)
  · refine q_aload_n eX12_saysOne_48 rfl ?_
    refine q_bipush eX12_saysOne_49 (by decide +kernel) ?_
    refine q_callV [vI (116)] (M1 := mX12_says) eX12_saysOne_51 mf_X12_says lk_X12_443 (hK _ (by decide) (by decide)) (mo_says hK (hX0.foff hF (by decide)) (by omega) (by omega) h (by first | omega | (rw [List.length_append]; omega))) nt_PMS (by decide) (by decide) (by decide) (Nat.le_of_ble_eq_true rfl) (st := []) rfl (fun v9 F9 A9 al9 h9 => ?_)
    obtain ⟨e9, rfl, f9, o9, s9⟩ := h9
    obtain rfl := Sum.inl.inj e9
    first
    | (rw [if_neg (by omega)] at hT
       exact lp_so54 hK hX0 hn hn2 hx hx2 S F A (by omega) hF hA h hT)
    | (rw [if_pos (by omega)] at hT
       exact lp_so54 hK hX0 hn hn2 hx hx2 _ F9 A9 (by rw [List.length_append]; simp; omega) (hF.trans f9) (hA.trans o9) s9 hT)
set_option maxRecDepth 20000 in
theorem lp_so34 {n x : Int} {T : List Int} {F0 : HF} {A0 : HA} {al : AL} (hK : KM al) (hX0 : MR F0) (hn : 1 ≤ n) (hn2 : n < 10000) (hx : 0 ≤ x) (hx2 : x ≤ 5) (S : List Int) (F : HF) (A : HA) (hl : S.length + 7 ≤ 128) (hF : FOff [(44, 52)] F0 F) (hA : Off [65] A0 A) (h : MS S F A) (hn1 : 1 < n ∨ x = 0) (hT : pt27 n x S = T) :
    QW mX12_saysOne 5 0 0 (PMS T F0 A0 al) 0 0 34 [some (vA 44), some (vI x), some (vI n)] [] F A al := by
  have hst : pt27 n x S = pt42 x (if 1 < n ∧ 0 < x then S ++ [42] else S) := rfl
  rw [hst] at hT
  refine q_iload_n eX12_saysOne_34 rfl ?_
  refine q_if_le (tgt := 44) eX12_saysOne_35 (by decide) (by first | assumption | exact ⟨by omega, by omega⟩) (fun c35 => ?_) (fun c35 => ?_)
  · first
    | (rw [if_neg (by omega)] at hT
       exact lp_so44 hK hX0 hn hn2 hx hx2 S F A (by omega) hF hA h hT)
    | (rw [if_pos (by omega)] at hT
       exact lp_so44 hK hX0 hn hn2 hx hx2 _ F9 A9 (by rw [List.length_append]; simp; omega) (hF.trans f9) (hA.trans o9) s9 hT)
  · refine q_aload_n eX12_saysOne_38 rfl ?_
    refine q_bipush eX12_saysOne_39 (by decide +kernel) ?_
    refine q_callV [vI (42)] (M1 := mX12_says) eX12_saysOne_41 mf_X12_says lk_X12_443 (hK _ (by decide) (by decide)) (mo_says hK (hX0.foff hF (by decide)) (by omega) (by omega) h (by first | omega | (rw [List.length_append]; omega))) nt_PMS (by decide) (by decide) (by decide) (Nat.le_of_ble_eq_true rfl) (st := []) rfl (fun v9 F9 A9 al9 h9 => ?_)
    obtain ⟨e9, rfl, f9, o9, s9⟩ := h9
    obtain rfl := Sum.inl.inj e9
    first
    | (rw [if_neg (by omega)] at hT
       exact lp_so44 hK hX0 hn hn2 hx hx2 S F A (by omega) hF hA h hT)
    | (rw [if_pos (by omega)] at hT
       exact lp_so44 hK hX0 hn hn2 hx hx2 _ F9 A9 (by rw [List.length_append]; simp; omega) (hF.trans f9) (hA.trans o9) s9 hT)
set_option maxRecDepth 20000 in
theorem lp_so20 {n x : Int} {T : List Int} {F0 : HF} {A0 : HA} {al : AL} (hK : KM al) (hX0 : MR F0) (hn : 1 ≤ n) (hn2 : n < 10000) (hx : 0 ≤ x) (hx2 : x ≤ 5) (S : List Int) (F : HF) (A : HA) (hl : S.length + 11 ≤ 128) (hF : FOff [(44, 52)] F0 F) (hA : Off [65] A0 A) (h : MS S F A) (hT : pt13 n x S = T) :
    QW mX12_saysOne 5 0 0 (PMS T F0 A0 al) 0 0 20 [some (vA 44), some (vI x), some (vI n)] [] F A al := by
  have hst : pt13 n x S = pt27 n x (if 1 < n ∨ x = 0 then S ++ fgE n 4 else S) := rfl
  rw [hst] at hT
  refine q_iload_n eX12_saysOne_20 rfl ?_
  refine q_iconst eX12_saysOne_21 ?_
  refine q_icmp_ne (tgt := 29) eX12_saysOne_22 (by decide) (by first | assumption | exact ⟨by omega, by omega⟩) (by first | assumption | exact ⟨by omega, by omega⟩) (fun c22 => ?_) (fun c22 => ?_)
  · refine q_aload_n eX12_saysOne_29 rfl ?_
    refine q_iload_n eX12_saysOne_30 rfl ?_
    refine q_callV [vI n] (M1 := mX12_saysNumber) eX12_saysOne_31 mf_X12_saysNumber lk_X12_440 (hK _ (by decide) (by decide)) (mo_saysNumber hK 3 (hX0.foff hF (by decide)) (by omega) (by omega) (by omega) h (by omega)) nt_PMS (by decide) (by decide) (by decide) (Nat.le_of_ble_eq_true rfl) (st := []) rfl (fun v9 F9 A9 al9 h9 => ?_)
    obtain ⟨e9, rfl, f9, o9, s9⟩ := h9
    obtain rfl := Sum.inl.inj e9
    have hlf : (fgE n (3 + 1)).length ≤ 4 := fg_len (x := n) (3 + 1)
    rw [if_pos (by omega)] at hT
    exact lp_so34 hK hX0 hn hn2 hx hx2 _ F9 A9 (by rw [List.length_append]; omega) (hF.trans f9) (hA.trans o9) s9 (by omega) hT
  · refine q_iload_n eX12_saysOne_25 rfl ?_
    refine q_if_ne (tgt := 44) eX12_saysOne_26 (by decide) (by first | assumption | exact ⟨by omega, by omega⟩) (fun c26 => ?_) (fun c26 => ?_)
    · rw [if_neg (by omega)] at hT
      have hT2 : pt42 x (if 1 < n ∧ 0 < x then S ++ [42] else S) = T := hT
      rw [if_neg (by omega)] at hT2
      exact lp_so44 hK hX0 hn hn2 hx hx2 S F A (by omega) hF hA h hT2
    · refine q_aload_n eX12_saysOne_29 rfl ?_
      refine q_iload_n eX12_saysOne_30 rfl ?_
      refine q_callV [vI n] (M1 := mX12_saysNumber) eX12_saysOne_31 mf_X12_saysNumber lk_X12_440 (hK _ (by decide) (by decide)) (mo_saysNumber hK 3 (hX0.foff hF (by decide)) (by omega) (by omega) (by omega) h (by omega)) nt_PMS (by decide) (by decide) (by decide) (Nat.le_of_ble_eq_true rfl) (st := []) rfl (fun v9 F9 A9 al9 h9 => ?_)
      obtain ⟨e9, rfl, f9, o9, s9⟩ := h9
      obtain rfl := Sum.inl.inj e9
      have hlf : (fgE n (3 + 1)).length ≤ 4 := fg_len (x := n) (3 + 1)
      rw [if_pos (by omega)] at hT
      exact lp_so34 hK hX0 hn hn2 hx hx2 _ F9 A9 (by rw [List.length_append]; omega) (hF.trans f9) (hA.trans o9) s9 (by omega) hT
set_option maxRecDepth 20000 in
theorem mo_saysOne {S : List Int} {n : Int} {x : Nat} {F : HF} {A : HA} {al : AL} (hK : KM al) (hX : MR F) (hn : A 66 x = n) (hn1 : 1 ≤ n) (hn2 : n < 10000) (hx : x ≤ 5) (h : MS S F A) (hl : S.length + 12 ≤ 128) : QE 5 0 0 mX12_saysOne [vA 44, vI x] F A al (PMS (ptE n x S) F A al) := by
  refine QE.mk (by decide +kernel) (Nat.le_of_ble_eq_true rfl) ?_
  have hT : pt13 n x (if 0 < S.length then S ++ [43] else S) = ptE n x S := rfl
  refine q_aload_n eX12_saysOne_0 rfl ?_
  refine q_getfield eX12_saysOne_1 gf_X12_102 (hK _ (by decide) (by decide)) (by decide) (mr_44_53 hX) ?_
  refine q_iload_n eX12_saysOne_4 rfl ?_
  refine q_iald eX12_saysOne_5 (hK _ (by decide) (by decide)) (by omega) (by omega) ?_
  rw [show A 66 (x : Int).toNat = n from hn]
  refine q_istore_n eX12_saysOne_6 (by decide) rfl ?_
  refine q_aload_n eX12_saysOne_7 rfl ?_
  refine q_getfield eX12_saysOne_8 gf_X12_437 (hK _ (by decide) (by decide)) (by decide) (by first | assumption | exact h.1) ?_
  refine q_if_le (tgt := 20) eX12_saysOne_11 (by decide) (by first | assumption | exact ⟨by omega, by omega⟩) (fun c11 => ?_) (fun c11 => ?_)
  · first
    | (rw [if_neg (by omega)] at hT
       exact lp_so20 hK hX hn1 hn2 (by omega) (by omega) S F A (by omega) FOff.rfl' Off.rfl' h hT)
    | (rw [if_pos (by omega)] at hT
       exact lp_so20 hK hX hn1 hn2 (by omega) (by omega) _ F9 A9 (by rw [List.length_append]; simp; omega) f9 o9 s9 hT)
  · refine q_aload_n eX12_saysOne_14 rfl ?_
    refine q_bipush eX12_saysOne_15 (by decide +kernel) ?_
    refine q_callV [vI (43)] (M1 := mX12_says) eX12_saysOne_17 mf_X12_says lk_X12_443 (hK _ (by decide) (by decide)) (mo_says hK hX (by omega) (by omega) h (by first | omega | (rw [List.length_append]; omega))) nt_PMS (by decide) (by decide) (by decide) (Nat.le_of_ble_eq_true rfl) (st := []) rfl (fun v9 F9 A9 al9 h9 => ?_)
    obtain ⟨e9, rfl, f9, o9, s9⟩ := h9
    obtain rfl := Sum.inl.inj e9
    first
    | (rw [if_neg (by omega)] at hT
       exact lp_so20 hK hX hn1 hn2 (by omega) (by omega) S F A (by omega) FOff.rfl' Off.rfl' h hT)
    | (rw [if_pos (by omega)] at hT
       exact lp_so20 hK hX hn1 hn2 (by omega) (by omega) _ F9 A9 (by rw [List.length_append]; simp; omega) f9 o9 s9 hT)
theorem sp_top {m x : Int} {r : Nat} (hm : 0 < m) (hx : El m r x) : ∀ k S, spE (fun i => dg m i x) (r + k) S = spE (fun i => dg m i x) r S
  | 0, S => rfl
  | k + 1, S => by
    have h0 : dg m (r + k) x = 0 := dg_big hm r (r + k) x hx.1 hx.2 (by omega)
    show spE (fun i => dg m i x) (r + k) (if 0 < dg m (r + k) x then ptE (dg m (r + k) x) (r + k : Nat) S else S) = _
    rw [if_neg (by omega)]
    exact sp_top hm hx k S
def spR (m : Int) (r : Nat) (x : Int) : List Int := spE (fun i => dg m i x) r []
theorem spR_say {m x : Int} {r : Nat} (hm : 0 < m) (hx : El m r x) (hr : r ≤ 6) : (if (spR m r x).length = 0 then [48] else spR m r x) = sayE m x := by
  have ht := sp_top (m := m) hm hx (6 - r) []
  rw [show r + (6 - r) = 6 by omega] at ht
  unfold sayE spR
  rw [ht]
theorem spR_len {m x : Int} {r : Nat} : (spR m r x).length ≤ 12 * r := by
  have hl := sp_len (c := fun i => dg m i x) r []
  simp at hl
  exact hl
set_option maxRecDepth 20000 in
theorem lp_msay {m x : Int} {r : Nat} {T : List Int} {F0 : HF} {A0 : HA} {al : AL} {Post : PO} (hK : KM al) (hX0 : MR F0) (out : ∀ F' A', FOff [(44, 52)] F0 F' → Off [65] A0 A' → MS (if T.length = 0 then [48] else T) F' A' → Post (.inl (some ((if T.length = 0 then [48] else T).length : Int))) F' A' al) (hm2 : 2 ≤ m) (hm4 : m ≤ 4096) (hr6 : r ≤ 6) (hd : ∀ j, j < r → A0 66 j = dg m j x) : ∀ (k : Nat) (S : List Int) (F : HF) (A : HA), k ≤ r → S.length + 12 * k ≤ 100 → FOff [(44, 52)] F0 F → Off [65] A0 A → MS S F A → spE (fun i => dg m i x) k S = T →
    QW mX12_say 6 0 0 Post 0 0 41 [some (vA 44), some (vI x), some (vI ((k : Int) - 1))] [] F A al := by
  intro k
  induction k with
  | zero =>
    intro S F A hk hl hF hA h hT
    have hT' : S = T := hT
    subst hT'
    have hX := hX0.foff hF (by decide)
    have hh := h.1
    refine q_iload_n eX12_say_41 rfl ?_
    refine q_if_lt (tgt := 65) eX12_say_42 (by decide) (by first | assumption | exact ⟨by omega, by omega⟩) (fun c42 => ?_) (fun c42 => ?_)
    · refine q_aload_n eX12_say_65 rfl ?_
      refine q_getfield eX12_say_66 gf_X12_437 (hK _ (by decide) (by decide)) (by decide) (by first | exact hf9 | assumption) ?_
      refine q_if_ne (tgt := 78) eX12_say_69 (by decide) (by first | assumption | exact ⟨by omega, by omega⟩) (fun c69 => ?_) (fun c69 => ?_)
      · refine q_aload_n eX12_say_78 rfl ?_
        refine q_getfield eX12_say_79 gf_X12_437 (hK _ (by decide) (by decide)) (by decide) (by first | exact hf9 | assumption) ?_
        refine q_retI eX12_say_82 rfl (by decide) (by decide) ?_
        first
        | (have hq := out F A hF hA (by rw [if_neg (by omega)]; exact h)
           rw [if_neg (by omega)] at hq
           exact hq)
        | exact out _ _ (hF.trans f9) (hA.trans o9) s9
      · refine q_aload_n eX12_say_72 rfl ?_
        refine q_bipush eX12_say_73 (by decide +kernel) ?_
        refine q_callV [vI (48)] (M1 := mX12_says) eX12_say_75 mf_X12_says lk_X12_443 (hK _ (by decide) (by decide)) (mo_says hK hX (by omega) (by omega) h (by first | omega | (rw [List.length_append]; omega))) nt_PMS (by decide) (by decide) (by decide) (Nat.le_of_ble_eq_true rfl) (st := []) rfl (fun v9 F9 A9 al9 h9 => ?_)
        obtain ⟨e9, rfl, f9, o9, s9⟩ := h9
        obtain rfl := Sum.inl.inj e9
        have e0 : S = [] := List.eq_nil_of_length_eq_zero (by omega)
        subst e0
        have hf9 : F9 44 52 = vI 1 := s9.1
        refine q_aload_n eX12_say_78 rfl ?_
        refine q_getfield eX12_say_79 gf_X12_437 (hK _ (by decide) (by decide)) (by decide) (by first | exact hf9 | assumption) ?_
        refine q_retI eX12_say_82 rfl (by decide) (by decide) ?_
        first
        | (have hq := out F A hF hA (by rw [if_neg (by omega)]; exact h)
           rw [if_neg (by omega)] at hq
           exact hq)
        | exact out _ _ (hF.trans f9) (hA.trans o9) s9
    · exact absurd c42 (by omega)
  | succ k ih =>
    intro S F A hk hl hF hA h hT
    have hX := hX0.foff hF (by decide)
    have hdk : A 66 k = dg m k x := by rw [hA 66 (by decide)]; exact hd k (by omega)
    have hdr := dg_range (m := m) (by omega) k x
    have hst : spE (fun i => dg m i x) (k + 1) S = spE (fun i => dg m i x) k (if 0 < dg m k x then ptE (dg m k x) k S else S) := rfl
    rw [hst] at hT
    have hpl := pt_len (n := dg m k x) (x := (k : Int)) (S := S)
    rw [show ((k + 1 : Nat) : Int) - 1 = (k : Int) by omega]
    refine q_iload_n eX12_say_41 rfl ?_
    refine q_if_lt (tgt := 65) eX12_say_42 (by decide) (by first | assumption | exact ⟨by omega, by omega⟩) (fun c42 => ?_) (fun c42 => ?_)
    · exact absurd c42 (by omega)
    · refine q_aload_n eX12_say_45 rfl ?_
      refine q_getfield eX12_say_46 gf_X12_102 (hK _ (by decide) (by decide)) (by decide) (mr_44_53 hX) ?_
      refine q_iload_n eX12_say_49 rfl ?_
      refine q_iald eX12_say_50 (hK _ (by decide) (by decide)) (by omega) (by omega) ?_
      rw [show A 66 (k : Int).toNat = dg m k x from hdk]
      refine q_if_eq (tgt := 59) eX12_say_51 (by decide) (by first | assumption | exact ⟨by omega, by omega⟩) (fun c51 => ?_) (fun c51 => ?_)
      · refine q_iinc eX12_say_59 rfl (by decide) rfl ?_
        refine q_goto (tgt := 41) eX12_say_62 (by decide) ?_
        rw [show (k : Int) + -1 = (k : Int) - 1 by omega]
        first
        | (rw [if_neg (by omega)] at hT
           exact ih S F A (by omega) (by omega) hF hA h hT)
        | (rw [if_pos (by omega)] at hT
           exact ih _ F9 A9 (by omega) (by omega) (hF.trans f9) (hA.trans o9) s9 hT)
      · refine q_aload_n eX12_say_54 rfl ?_
        refine q_iload_n eX12_say_55 rfl ?_
        refine q_callV [vI k] (M1 := mX12_saysOne) eX12_say_56 mf_X12_saysOne lk_X12_446 (hK _ (by decide) (by decide)) (mo_saysOne hK hX hdk (by omega) (by omega) (by omega) h (by omega)) nt_PMS (by decide) (by decide) (by decide) (Nat.le_of_ble_eq_true rfl) (st := []) rfl (fun v9 F9 A9 al9 h9 => ?_)
        obtain ⟨e9, rfl, f9, o9, s9⟩ := h9
        obtain rfl := Sum.inl.inj e9
        refine q_iinc eX12_say_59 rfl (by decide) rfl ?_
        refine q_goto (tgt := 41) eX12_say_62 (by decide) ?_
        rw [show (k : Int) + -1 = (k : Int) - 1 by omega]
        first
        | (rw [if_neg (by omega)] at hT
           exact ih S F A (by omega) (by omega) hF hA h hT)
        | (rw [if_pos (by omega)] at hT
           exact ih _ F9 A9 (by omega) (by omega) (hF.trans f9) (hA.trans o9) s9 hT)
set_option maxRecDepth 20000 in
theorem mo_say {x : Int} {p e r q N : Nat} {m : Int} {f : Nat → Int} {g : Int} {rt lg pl_ tp mk ck : Nat → Int} {len n dg : Nat} {fp set : Int} {w : Option (Nat → Int)} {S : List Int} {F : HF} {A : HA} {al : AL} (hK : KM al) (h0 : MI p e r q N m f g rt lg pl_ len tp fp n set dg mk ck w S F A) (hx : InR x) : QE 6 0 0 mX12_say [vA 44, vI x] F A al (PMR (if 0 ≤ x ∧ x ≤ (N : Int) - 1 then some ((sayE m x).length : Int) else none) F A al (fun F2 A2 => MI p e r q N m f g rt lg pl_ len tp fp n set dg mk ck w (if 0 ≤ x ∧ x ≤ (N : Int) - 1 then sayE m x else S) F2 A2)) := by
  refine QE.mk (by decide +kernel) (Nat.le_of_ble_eq_true rfl) ?_
  have hx_1 := hx.1
  have hx_2 := hx.2
  have h := h0.t0
  generalize hF0 : up2 F 44 0 (vI 0) = F1 at h
  have ht0 : F1 44 0 = vI 0 := by rw [← hF0]; exact up2_eq _ _ _ _
  have hoF : FOff SCF F F1 := by rw [← hF0]; exact FOff.up (by decide)
  obtain ⟨⟨hX, hT, h3r, hMH⟩, h2, ⟨hl0, hl1, hta⟩, h4, ⟨⟨h51, h52, h53⟩, h5m, h5c, ⟨hn1, hn63, hnq, hs0, hs1⟩, hdn⟩, h7, ⟨⟨h81, h82⟩, h83⟩⟩ := id h
  obtain ⟨hG, hp, he, hq, hN, hg, ⟨hp2, hp7, he1, he4, hme, hqe, hq3, hNm, hgE⟩, hP, hL, hR⟩ := id hT
  obtain ⟨hm, hr, hf, hm2, hr1, hr6, hN4⟩ := id hG
  have hm4 := hG.m4
  have hq2 := hT.q2
  have hN9 : (N : Int) ≤ 4096 := by rw [hNm]; exact hN4
  have hE : ∀ x : Int, 0 ≤ x ∧ x ≤ (N : Int) - 1 → El m r x := fun x h => ⟨h.1, by rw [← hNm]; omega⟩
  have hNp : 1 ≤ N := by have := el_one (m := m) (r := r) hm2 hr1; have := this.2; omega
  refine q_aload_n eX12_say_0 rfl ?_
  refine q_iconst eX12_say_1 ?_
  refine q_putfield eX12_say_2 pf_X12_1 (hK _ (by decide) (by decide)) (by decide) (FT_i rfl) ?_
  rw [hF0]
  refine q_aload_n eX12_say_5 rfl ?_
  refine q_aload_n eX12_say_6 rfl ?_
  refine q_iload_n eX12_say_7 rfl ?_
  refine q_callVP [vI x] (M1 := mX12_isElement) eX12_say_8 mf_X12_isElement lk_X12_311 (hK _ (by decide) (by decide)) (mo_isElement hK hN hNp (by omega) hx) (by decide) (by decide) (by decide) (Nat.le_of_ble_eq_true rfl) rfl ?_
  refine q_iconst eX12_say_11 ?_
  refine q_rightX eX12_say_12 lk_X12_304 hK ht0 (by decide) (by decide) (by decide) (Nat.le_of_ble_eq_true rfl) ir_ite (fun n12 => ?_) (fun n12 => ?_)
  · have hx12 := i0 n12
    refine q_if_ne (tgt := 20) eX12_say_15 (by decide) (by first | assumption | exact ⟨by omega, by omega⟩) (fun c15 => ?_) (fun c15 => ?_)
    · exact absurd rfl c15
    · refine q_iconst eX12_say_18 ?_
      refine q_retI eX12_say_19 rfl (by decide) (by decide) ?_
      refine PMR_t (by rw [if_neg hx12]) (up2_eq _ _ _ _) (hoF.trans (FOff.up (l := SCF) (by decide))) (Off.rfl' (l := [])) (by decide) (by decide) ?_
      rw [if_neg hx12]
      exact h.tv
  · have hx12 := i1 n12
    have hxe := hE x hx12
    have hxl := hxe.lt hN4
    refine q_if_ne (tgt := 20) eX12_say_15 (by decide) (by first | assumption | exact ⟨by omega, by omega⟩) (fun c15 => ?_) (fun c15 => ?_)
    · refine q_aload_n eX12_say_20 rfl ?_
      refine q_iconst eX12_say_21 ?_
      refine q_putfield eX12_say_22 pf_X12_437 (hK _ (by decide) (by decide)) (by decide) (FT_i rfl) ?_
      refine q_aload_n eX12_say_25 rfl ?_
      refine q_aload_n eX12_say_26 rfl ?_
      refine q_getfield eX12_say_27 gf_X12_102 (hK _ (by decide) (by decide)) (by decide) (mr_44_53 (by first | exact hX | exact hX.up (by decide))) ?_
      refine q_iload_n eX12_say_30 rfl ?_
      refine q_callVV [vA 66, vI x] (M1 := mX12_lays) eX12_say_31 mf_X12_lays lk_X12_122 (hK _ (by decide) (by decide)) (mo_lays (a := 66) (n := 6) hK ((up2_ne (by decide)).trans hm) ((up2_ne (by decide)).trans hr) hm2 (by omega) (hK _ (by decide) (by decide)) (by omega) (by decide) hxe.1 (by omega)) (by decide) (by decide) (by decide) (Nat.le_of_ble_eq_true rfl) rfl (fun A3 h3 => ?_)
      obtain ⟨o3, v3, -⟩ := h3
      refine q_aload_n eX12_say_34 rfl ?_
      refine q_getfield eX12_say_35 gf_X12_19 (hK _ (by decide) (by decide)) (by decide) (by first | assumption | exact (up2_ne (by decide)).trans hr) ?_
      refine q_iconst eX12_say_38 ?_
      refine q_isub eX12_say_39 ?_
      refine q_istore_n eX12_say_40 (by decide) rfl ?_
      have hf5 : FOff [(44, 52)] F1 (up2 F1 44 52 (vI 0)) := FOff.up (by decide)
      have hs0 : MS [] (up2 F1 44 52 (vI 0)) A3 := ⟨up2_eq _ _ _ _, fun j hj => absurd hj (by show ¬ j < 0; omega)⟩
      have hsy := spR_say (m := m) (show 0 < m by omega) hxe hr6
      have hsl2 := spR_len (m := m) (x := x) (r := r)
      refine lp_msay (T := spR m r x) hK (hX.foff hf5 (by decide)) (fun F' A' f9 o9 s9 => ?_) hm2 hm4 hr6 v3 r [] _ A3 (Nat.le_refl _) (by show 0 + 12 * r ≤ 100; omega) FOff.rfl' Off.rfl' hs0 rfl
      rw [hsy] at s9 ⊢
      have f6 : FOff [(44, 52)] F1 F' := hf5.trans f9
      have o6 : Off [66, 65] A A' := (o3.mono (by decide)).trans (o9.mono (by decide))
      have hsl : (sayE m x).length ≤ 128 := by
        rw [← hsy]
        split
        · decide
        · omega
      refine PMR_r (lF := (44, 52) :: SCF) (by rw [if_pos hx12]) ((f6 44 0 (by decide)).trans ht0) ((hoF.mono (by decide)).trans (f6.mono (by decide))) o6 (by decide) (by decide) ?_
      rw [if_pos hx12]
      exact ⟨h.1.pres (hX.foff f6 (by decide)) (f6.fe (by decide)) (o6.ae (by decide)), h.2.1.pres (o6.ae (by decide)), h.2.2.1.pres (f6.fe (by decide)) (o6.ae (by decide)), h.2.2.2.1.pres (f6.fe (by decide)), h.2.2.2.2.1.pres (f6.fe (by decide)) (o6.ae (by decide)), h.2.2.2.2.2.1.pres (f6.fe (by decide)) (o6.ae (by decide)), s9, hsl⟩
    · exact absurd c15 (by decide)
