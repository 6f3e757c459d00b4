/-! Speech -/
def SP (S : List Int) (F : HF) (A : HA) : Prop := F 21 0 = vI S.length ∧ ∀ j, j < S.length → A 22 j = S.getD j 0
def PSP (T : List Int) (F : HF) (A : HA) (al : AL) : PO := fun o F' A' al' => o = .inl none ∧ al' = al ∧ FOff [(21, 0)] F F' ∧ Off [22] A A' ∧ SP T F' A'
theorem nt_PSP {T : List Int} {F : HF} {A : HA} {al : AL} : NT (PSP T F A al) := by intro E F A al h; cases h.1
theorem SP.app {S : List Int} {F : HF} {A : HA} {x : Int} (h : SP S F A) : SP (S ++ [x]) (up2 F 21 0 (vI (S.length + 1 : Nat))) (up2 A 22 S.length x) := by
  refine ⟨?_, fun j hj => ?_⟩
  · rw [up2_eq, List.length_append]
    rfl
  · rw [List.length_append] at hj
    rw [up2_at]
    by_cases he : j = S.length
    · rw [if_pos he, he, List.getD_eq_getElem?_getD, List.getElem?_append_right (Nat.le_refl _), Nat.sub_self]
      rfl
    · have hj2 : j < S.length := by simp at hj; omega
      rw [if_neg he, h.2 j hj2, List.getD_eq_getElem?_getD, List.getD_eq_getElem?_getD, List.getElem?_append_left hj2]
set_option maxRecDepth 20000 in
theorem ev_say {S : List Int} {x : Int} {F : HF} {A : HA} {al : AL} (hK : KX al) (hX : XF F) (h : SP S F A) (hl : S.length < 200) : QE 1 0 0 mX6_append [vA 21, vI x] F A al (PSP (S ++ [x]) F A al) := by
  refine QE.mk (by decide +kernel) (Nat.le_of_ble_eq_true rfl) ?_
  refine q_aload_n eX6_append_0 rfl ?_
  refine q_getfield eX6_append_1 gf_X6_15 (hK _ (by decide) (by decide)) (by decide) (xf_21_1 hX) ?_
  refine q_aload_n eX6_append_4 rfl ?_
  refine q_getfield eX6_append_5 gf_X6_9 (hK _ (by decide) (by decide)) (by decide) h.1 ?_
  refine q_iload_n eX6_append_8 rfl ?_
  refine q_callSV [vA 22, vI S.length, vI x] (M1 := mX7_set) eX6_append_9 mf_X7_set lk_X6_39 (ev_setN (hK _ (by decide) (by decide)) (show S.length < 200 by omega) (by decide)) (by decide) (by decide) (by decide) (Nat.le_of_ble_eq_true rfl) rfl (fun A3 h3 => ?_)
  subst h3
  refine q_aload_n eX6_append_12 rfl ?_
  refine q_dup eX6_append_13 rfl ?_
  refine q_getfield eX6_append_14 gf_X6_9 (hK _ (by decide) (by decide)) (by decide) h.1 ?_
  refine q_iconst eX6_append_17 ?_
  refine q_iadd eX6_append_18 ?_
  refine q_putfield eX6_append_19 pf_X6_9 (hK _ (by decide) (by decide)) (by decide) (FT_i rfl) ?_
  refine q_retV eX6_append_22 rfl (by decide) (by decide) ?_
  exact ⟨rfl, rfl, FOff.up (by simp), Off.up (by simp), h.app⟩
def ten : Nat → Int
  | 0 => 0
  | k + 1 => 10 ^ k
def fgE (x : Int) : Nat → List Int
  | 0 => []
  | k + 1 => (if 10 ^ k ≤ x then [48 + x / 10 ^ k % 10] else []) ++ fgE x k
theorem fg_len {x : Int} : ∀ k, (fgE x k).length ≤ k
  | 0 => Nat.le_refl _
  | k + 1 => by
    have := fg_len (x := x) k
    unfold fgE
    rw [List.length_append]
    split <;> simp <;> omega
set_option maxRecDepth 20000 in
theorem lp_figures {x : Int} {T : List Int} {F0 : HF} {A0 : HA} {al : AL} (hK : KX al) (hX0 : XF F0) (hx : 0 ≤ x) (hx2 : x < 2147483648) : ∀ (k : Nat) (S : List Int) (F : HF) (A : HA), k ≤ 4 → S.length + k ≤ 200 → FOff [(21, 0)] F0 F → Off [22] A0 A → SP S F A → S ++ fgE x k = T →
    QW mX6_figures 2 0 0 (PSP T F0 A0 al) 0 0 4 [some (vA 21), some (vI x), some (vI (ten k))] [] F A al := by
  intro k
  induction k with
  | zero =>
    intro S F A hk hl hF hA h hT
    have ht : ten 0 = 0 := rfl
    refine q_iload_n eX6_figures_4 rfl ?_
    refine q_if_le (tgt := 34) eX6_figures_5 (by decide) (by rw [ht]; exact ⟨by decide, by decide⟩) (fun c5 => ?_) (fun c5 => ?_)
    · refine q_retV eX6_figures_34 rfl (by decide) (by decide) ?_
      refine ⟨rfl, rfl, hF, hA, ?_⟩
      rw [← hT]
      show SP (S ++ []) F A
      rw [List.append_nil]
      exact h
    · exact absurd c5 (by rw [ht]; decide)
  | succ k ih =>
    intro S F A hk hl hF hA h hT
    have hX := hX0.foff hF (by decide)
    have hp : 0 < (10 : Int) ^ k := Int.pow_pos (by decide)
    have hp4 : (10 : Int) ^ k ≤ 1000 := by
      have : (10 : Int) ^ k ≤ 10 ^ 3 := ipow_mono (by decide) (by omega)
      exact this
    have ht : ten (k + 1) = 10 ^ k := rfl
    have hd0 : 0 ≤ x / 10 ^ k := Int.ediv_nonneg hx (by omega)
    have hd1 : x / 10 ^ k ≤ x := Int.ediv_le_self _ hx
    have hnext : (10 : Int) ^ k / 10 = ten k := by
      cases k with
      | zero => rfl
      | succ k =>
        show (10 : Int) ^ (k + 1) / 10 = 10 ^ k
        rw [Int.pow_succ, Int.mul_ediv_cancel _ (by decide)]
    have hst : fgE x (k + 1) = (if 10 ^ k ≤ x then [48 + x / 10 ^ k % 10] else []) ++ fgE x k := rfl
    rw [hst] at hT
    rw [ht]
    refine q_iload_n eX6_figures_4 rfl ?_
    refine q_if_le (tgt := 34) eX6_figures_5 (by decide) (by first | assumption | exact ⟨by omega, by omega⟩) (fun c5 => ?_) (fun c5 => ?_)
    · exact absurd c5 (by omega)
    · refine q_iload_n eX6_figures_8 rfl ?_
      refine q_iload_n eX6_figures_9 rfl ?_
      refine q_icmp_lt (tgt := 26) eX6_figures_10 (by decide) (by first | assumption | exact ⟨by omega, by omega⟩) (by first | assumption | exact ⟨by omega, by omega⟩) (fun c10 => ?_) (fun c10 => ?_)
      · refine q_iload_n eX6_figures_26 rfl ?_
        refine q_bipush eX6_figures_27 (by decide +kernel) ?_
        refine q_idiv eX6_figures_29 (by omega) (by omega) (by omega) (by omega) ?_
        refine q_istore_n eX6_figures_30 (by decide) rfl ?_
        refine q_goto (tgt := 4) eX6_figures_31 (by decide) ?_
        rw [hnext]
        first
        | (rw [if_neg (by omega), List.nil_append] at hT
           exact ih S F A (by omega) (by omega) hF hA h hT)
        | (rw [if_pos (by omega), ← List.append_assoc] at hT
           exact ih _ F9 A9 (by omega) (by rw [List.length_append]; simp; omega) (hF.trans f9) (hA.trans o9) s9 hT)
      · refine q_aload_n eX6_figures_13 rfl ?_
        refine q_bipush eX6_figures_14 (by decide +kernel) ?_
        refine q_iload_n eX6_figures_16 rfl ?_
        refine q_iload_n eX6_figures_17 rfl ?_
        refine q_idiv eX6_figures_18 (by omega) (by omega) (by omega) (by omega) ?_
        refine q_bipush eX6_figures_19 (by decide +kernel) ?_
        refine q_irem eX6_figures_21 (by omega) (by omega) (by omega) (by omega) ?_
        refine q_iadd eX6_figures_22 ?_
        refine q_callV [vI (48 + x / 10 ^ k % 10)] (M1 := mX6_append) eX6_figures_23 mf_X6_append lk_X6_32 (hK _ (by decide) (by decide)) (ev_say hK hX h (by omega)) nt_PSP (by decide) (by decide) (by decide) (Nat.le_of_ble_eq_true rfl) (st := []) rfl (fun v9 F9 A9 al9 h9 => ?_)
        obtain ⟨e9, rfl, f9, o9, s9⟩ := h9
        obtain rfl := Sum.inl.inj e9
        refine q_iload_n eX6_figures_26 rfl ?_
        refine q_bipush eX6_figures_27 (by decide +kernel) ?_
        refine q_idiv eX6_figures_29 (by omega) (by omega) (by omega) (by omega) ?_
        refine q_istore_n eX6_figures_30 (by decide) rfl ?_
        refine q_goto (tgt := 4) eX6_figures_31 (by decide) ?_
        rw [hnext]
        first
        | (rw [if_neg (by omega), List.nil_append] at hT
           exact ih S F A (by omega) (by omega) hF hA h hT)
        | (rw [if_pos (by omega), ← List.append_assoc] at hT
           exact ih _ F9 A9 (by omega) (by rw [List.length_append]; simp; omega) (hF.trans f9) (hA.trans o9) s9 hT)
set_option maxRecDepth 20000 in
theorem ev_figures {S : List Int} {x : Int} {F : HF} {A : HA} {al : AL} (hK : KX al) (hX : XF F) (hx : 0 ≤ x) (hx2 : x < 2147483648) (h : SP S F A) (hl : S.length + 4 ≤ 200) : QE 2 0 0 mX6_figures [vA 21, vI x] F A al (PSP (S ++ fgE x 4) F A al) := by
  refine QE.mk (by decide +kernel) (Nat.le_of_ble_eq_true rfl) ?_
  refine q_sipush eX6_figures_0 (by decide +kernel) ?_
  refine q_istore_n eX6_figures_3 (by decide) rfl ?_
  exact lp_figures hK hX hx hx2 4 S F A (Nat.le_refl _) hl FOff.rfl' Off.rfl' h rfl
def pt52 (x : Int) (S : List Int) : List Int := if 1 < x then S ++ [94] ++ fgE x 4 else S
def pt42 (x : Int) (S : List Int) : List Int := pt52 x (if 0 < x then S ++ [116] else S)
def pt27 (n x : Int) (S : List Int) : List Int := pt42 x (if 1 < n ∧ 0 < x then S ++ [42] else S)
def pt13 (n x : Int) (S : List Int) : List Int := pt27 n x (if 1 < n ∨ x = 0 then S ++ fgE n 4 else S)
def ptE (n x : Int) (S : List Int) : List Int := pt13 n x (if 0 < S.length then S ++ [43] else S)
set_option maxRecDepth 20000 in
theorem lp_part52 {n x : Int} {T : List Int} {F0 : HF} {A0 : HA} {al : AL} (hK : KX al) (hX0 : XF F0) (hn : 0 ≤ n) (hn2 : n < 2147483648) (hx : 0 ≤ x) (hx2 : x < 2147483648) (S : List Int) (F : HF) (A : HA) (hl : S.length + 5 ≤ 200) (hF : FOff [(21, 0)] F0 F) (hA : Off [22] A0 A) (h : SP S F A) (hT : pt52 x S = T) :
    QW mX6_part 3 0 0 (PSP T F0 A0 al) 0 0 52 [some (vA 21), some (vI n), some (vI x)] [] F A al := by
  have hst : pt52 x S = if 1 < x then S ++ [94] ++ fgE x 4 else S := rfl
  rw [hst] at hT
  have k68 : ∀ F A, FOff [(21, 0)] F0 F → Off [22] A0 A → SP T F A → QW mX6_part 3 0 0 (PSP T F0 A0 al) 0 0 68 [some (vA 21), some (vI n), some (vI x)] [] F A al := by
    intro F A hF hA h
    refine q_retV eX6_part_68 rfl (by decide) (by decide) ?_
    exact ⟨rfl, rfl, hF, hA, h⟩
  have k63 : ∀ F A, FOff [(21, 0)] F0 F → Off [22] A0 A → SP (S ++ [94]) F A → 1 < x → QW mX6_part 3 0 0 (PSP T F0 A0 al) 0 0 63 [some (vA 21), some (vI n), some (vI x)] [] F A al := by
    intro F A hF hA h h1
    rw [if_pos h1] at hT
    refine q_aload_n eX6_part_63 rfl ?_
    refine q_iload_n eX6_part_64 rfl ?_
    refine q_callV [vI x] (M1 := mX6_figures) eX6_part_65 mf_X6_figures lk_X6_36 (hK _ (by decide) (by decide)) (ev_figures hK (hX0.foff hF (by decide)) hx hx2 h (by rw [List.length_append]; simp; omega)) nt_PSP (by decide) (by decide) (by decide) (Nat.le_of_ble_eq_true rfl) (st := []) rfl (fun v9 F9 A9 al9 h9 => ?_)
    obtain ⟨e9, rfl, f9, o9, s9⟩ := h9
    obtain rfl := Sum.inl.inj e9
    rw [hT] at s9
    exact k68 F9 A9 (hF.trans f9) (hA.trans o9) s9
  refine q_iload_n eX6_part_52 rfl ?_
  refine q_iconst eX6_part_53 ?_
  refine q_icmp_le (tgt := 68) eX6_part_54 (by decide) (by first | assumption | exact ⟨by omega, by omega⟩) (by first | assumption | exact ⟨by omega, by omega⟩) (fun c54 => ?_) (fun c54 => ?_)
  · rw [if_neg (by omega)] at hT
    subst hT
    exact k68 F A hF hA h
  · refine q_aload_n eX6_part_57 rfl ?_
    refine q_bipush eX6_part_58 (by decide +kernel) ?_
    refine q_callV [vI 94] (M1 := mX6_append) eX6_part_60 mf_X6_append lk_X6_32 (hK _ (by decide) (by decide)) (ev_say hK (hX0.foff hF (by decide)) h (by omega)) nt_PSP (by decide) (by decide) (by decide) (Nat.le_of_ble_eq_true rfl) (st := []) rfl (fun v9 F9 A9 al9 h9 => ?_)
    obtain ⟨e9, rfl, f9, o9, s9⟩ := h9
    obtain rfl := Sum.inl.inj e9
    exact k63 F9 A9 (hF.trans f9) (hA.trans o9) s9 (by omega)
set_option maxRecDepth 20000 in
theorem lp_part42 {n x : Int} {T : List Int} {F0 : HF} {A0 : HA} {al : AL} (hK : KX al) (hX0 : XF F0) (hn : 0 ≤ n) (hn2 : n < 2147483648) (hx : 0 ≤ x) (hx2 : x < 2147483648) (S : List Int) (F : HF) (A : HA) (hl : S.length + 6 ≤ 200) (hF : FOff [(21, 0)] F0 F) (hA : Off [22] A0 A) (h : SP S F A) (hT : pt42 x S = T) :
    QW mX6_part 3 0 0 (PSP T F0 A0 al) 0 0 42 [some (vA 21), some (vI n), some (vI x)] [] F A al := by
  have hst : pt42 x S = pt52 x (if 0 < x then S ++ [116] else S) := rfl
  rw [hst] at hT
  refine q_iload_n eX6_part_42 rfl ?_
  refine q_if_le (tgt := 52) eX6_part_43 (by decide) (by first | assumption | exact ⟨by omega, by omega⟩) (fun c43 => ?_) (fun c43 => ?_)
  · first
    | (rw [if_neg (by omega)] at hT
       exact lp_part52 hK hX0 hn hn2 hx hx2 S F A (by omega) hF hA h hT)
    | (rw [if_pos (by omega)] at hT
       exact lp_part52 hK hX0 hn hn2 hx hx2 _ F9 A9 (by rw [List.length_append]; simp; omega) (hF.trans f9) (hA.trans o9) s9 hT)
  · refine q_aload_n eX6_part_46 rfl ?_
    refine q_bipush eX6_part_47 (by decide +kernel) ?_
    refine q_callV [vI 116] (M1 := mX6_append) eX6_part_49 mf_X6_append lk_X6_32 (hK _ (by decide) (by decide)) (ev_say hK (hX0.foff hF (by decide)) h (by omega)) nt_PSP (by decide) (by decide) (by decide) (Nat.le_of_ble_eq_true rfl) (st := []) rfl (fun v9 F9 A9 al9 h9 => ?_)
    obtain ⟨e9, rfl, f9, o9, s9⟩ := h9
    obtain rfl := Sum.inl.inj e9
    first
    | (rw [if_neg (by omega)] at hT
       exact lp_part52 hK hX0 hn hn2 hx hx2 S F A (by omega) hF hA h hT)
    | (rw [if_pos (by omega)] at hT
       exact lp_part52 hK hX0 hn hn2 hx hx2 _ F9 A9 (by rw [List.length_append]; simp; omega) (hF.trans f9) (hA.trans o9) s9 hT)
set_option maxRecDepth 20000 in
theorem lp_part27 {n x : Int} {T : List Int} {F0 : HF} {A0 : HA} {al : AL} (hK : KX al) (hX0 : XF F0) (hn : 0 ≤ n) (hn2 : n < 2147483648) (hx : 0 ≤ x) (hx2 : x < 2147483648) (S : List Int) (F : HF) (A : HA) (hl : S.length + 7 ≤ 200) (hF : FOff [(21, 0)] F0 F) (hA : Off [22] A0 A) (h : SP S F A) (hT : pt27 n x S = T) :
    QW mX6_part 3 0 0 (PSP T F0 A0 al) 0 0 27 [some (vA 21), some (vI n), some (vI x)] [] F A al := by
  have hst : pt27 n x S = pt42 x (if 1 < n ∧ 0 < x then S ++ [42] else S) := rfl
  rw [hst] at hT
  refine q_iload_n eX6_part_27 rfl ?_
  refine q_iconst eX6_part_28 ?_
  refine q_icmp_le (tgt := 42) eX6_part_29 (by decide) (by first | assumption | exact ⟨by omega, by omega⟩) (by first | assumption | exact ⟨by omega, by omega⟩) (fun c29 => ?_) (fun c29 => ?_)
  · first
    | (rw [if_neg (by omega)] at hT
       exact lp_part42 hK hX0 hn hn2 hx hx2 S F A (by omega) hF hA h hT)
    | (rw [if_pos (by omega)] at hT
       exact lp_part42 hK hX0 hn hn2 hx hx2 _ F9 A9 (by rw [List.length_append]; simp; omega) (hF.trans f9) (hA.trans o9) s9 hT)
  · refine q_iload_n eX6_part_32 rfl ?_
    refine q_if_le (tgt := 42) eX6_part_33 (by decide) (by first | assumption | exact ⟨by omega, by omega⟩) (fun c33 => ?_) (fun c33 => ?_)
    · first
      | (rw [if_neg (by omega)] at hT
         exact lp_part42 hK hX0 hn hn2 hx hx2 S F A (by omega) hF hA h hT)
      | (rw [if_pos (by omega)] at hT
         exact lp_part42 hK hX0 hn hn2 hx hx2 _ F9 A9 (by rw [List.length_append]; simp; omega) (hF.trans f9) (hA.trans o9) s9 hT)
    · refine q_aload_n eX6_part_36 rfl ?_
      refine q_bipush eX6_part_37 (by decide +kernel) ?_
      refine q_callV [vI 42] (M1 := mX6_append) eX6_part_39 mf_X6_append lk_X6_32 (hK _ (by decide) (by decide)) (ev_say hK (hX0.foff hF (by decide)) h (by omega)) nt_PSP (by decide) (by decide) (by decide) (Nat.le_of_ble_eq_true rfl) (st := []) rfl (fun v9 F9 A9 al9 h9 => ?_)
      obtain ⟨e9, rfl, f9, o9, s9⟩ := h9
      obtain rfl := Sum.inl.inj e9
      first
      | (rw [if_neg (by omega)] at hT
         exact lp_part42 hK hX0 hn hn2 hx hx2 S F A (by omega) hF hA h hT)
      | (rw [if_pos (by omega)] at hT
         exact lp_part42 hK hX0 hn hn2 hx hx2 _ F9 A9 (by rw [List.length_append]; simp; omega) (hF.trans f9) (hA.trans o9) s9 hT)
set_option maxRecDepth 20000 in
theorem lp_part13 {n x : Int} {T : List Int} {F0 : HF} {A0 : HA} {al : AL} (hK : KX al) (hX0 : XF F0) (hn : 0 ≤ n) (hn2 : n < 2147483648) (hx : 0 ≤ x) (hx2 : x < 2147483648) (S : List Int) (F : HF) (A : HA) (hl : S.length + 11 ≤ 200) (hF : FOff [(21, 0)] F0 F) (hA : Off [22] A0 A) (h : SP S F A) (hT : pt13 n x S = T) :
    QW mX6_part 3 0 0 (PSP T F0 A0 al) 0 0 13 [some (vA 21), some (vI n), some (vI x)] [] F A al := by
  have hst : pt13 n x S = pt27 n x (if 1 < n ∨ x = 0 then S ++ fgE n 4 else S) := rfl
  have hfl := fg_len (x := n) 4
  rw [hst] at hT
  refine q_iload_n eX6_part_13 rfl ?_
  refine q_iconst eX6_part_14 ?_
  refine q_icmp_gt (tgt := 22) eX6_part_15 (by decide) (by first | assumption | exact ⟨by omega, by omega⟩) (by first | assumption | exact ⟨by omega, by omega⟩) (fun c15 => ?_) (fun c15 => ?_)
  · refine q_aload_n eX6_part_22 rfl ?_
    refine q_iload_n eX6_part_23 rfl ?_
    refine q_callV [vI n] (M1 := mX6_figures) eX6_part_24 mf_X6_figures lk_X6_36 (hK _ (by decide) (by decide)) (ev_figures hK (hX0.foff hF (by decide)) hn hn2 h (by omega)) nt_PSP (by decide) (by decide) (by decide) (Nat.le_of_ble_eq_true rfl) (st := []) rfl (fun v9 F9 A9 al9 h9 => ?_)
    obtain ⟨e9, rfl, f9, o9, s9⟩ := h9
    obtain rfl := Sum.inl.inj e9
    first
    | (rw [if_neg (by omega)] at hT
       exact lp_part27 hK hX0 hn hn2 hx hx2 S F A (by omega) hF hA h hT)
    | (rw [if_pos (by omega)] at hT
       exact lp_part27 hK hX0 hn hn2 hx hx2 _ F9 A9 (by rw [List.length_append]; omega) (hF.trans f9) (hA.trans o9) s9 hT)
  · refine q_iload_n eX6_part_18 rfl ?_
    refine q_if_ne (tgt := 27) eX6_part_19 (by decide) (by first | assumption | exact ⟨by omega, by omega⟩) (fun c19 => ?_) (fun c19 => ?_)
    · first
      | (rw [if_neg (by omega)] at hT
         exact lp_part27 hK hX0 hn hn2 hx hx2 S F A (by omega) hF hA h hT)
      | (rw [if_pos (by omega)] at hT
         exact lp_part27 hK hX0 hn hn2 hx hx2 _ F9 A9 (by rw [List.length_append]; omega) (hF.trans f9) (hA.trans o9) s9 hT)
    · refine q_aload_n eX6_part_22 rfl ?_
      refine q_iload_n eX6_part_23 rfl ?_
      refine q_callV [vI n] (M1 := mX6_figures) eX6_part_24 mf_X6_figures lk_X6_36 (hK _ (by decide) (by decide)) (ev_figures hK (hX0.foff hF (by decide)) hn hn2 h (by omega)) nt_PSP (by decide) (by decide) (by decide) (Nat.le_of_ble_eq_true rfl) (st := []) rfl (fun v9 F9 A9 al9 h9 => ?_)
      obtain ⟨e9, rfl, f9, o9, s9⟩ := h9
      obtain rfl := Sum.inl.inj e9
      first
      | (rw [if_neg (by omega)] at hT
         exact lp_part27 hK hX0 hn hn2 hx hx2 S F A (by omega) hF hA h hT)
      | (rw [if_pos (by omega)] at hT
         exact lp_part27 hK hX0 hn hn2 hx hx2 _ F9 A9 (by rw [List.length_append]; omega) (hF.trans f9) (hA.trans o9) s9 hT)
set_option maxRecDepth 20000 in
theorem ev_sayPart {n x : Int} {S T : List Int} {F0 : HF} {A0 : HA} {F : HF} {A : HA} {al : AL} (hK : KX al) (hX0 : XF F0) (hn : 0 ≤ n) (hn2 : n < 2147483648) (hx : 0 ≤ x) (hx2 : x < 2147483648) (hl : S.length + 12 ≤ 200) (h : SP S F A) (hF0 : F0 = F) (hA0 : A0 = A) (hT : ptE n x S = T) : QE 3 0 0 mX6_part [vA 21, vI n, vI x] F A al (PSP T F0 A0 al) := by
  refine QE.mk (by decide +kernel) (Nat.le_of_ble_eq_true rfl) ?_
  have hF : FOff [(21, 0)] F0 F := by rw [hF0]; exact FOff.rfl'
  have hA : Off [22] A0 A := by rw [hA0]; exact Off.rfl'
  have hst : ptE n x S = pt13 n x (if 0 < S.length then S ++ [43] else S) := rfl
  rw [hst] at hT
  refine q_aload_n eX6_part_0 rfl ?_
  refine q_getfield eX6_part_1 gf_X6_9 (hK _ (by decide) (by decide)) (by decide) h.1 ?_
  refine q_if_le (tgt := 13) eX6_part_4 (by decide) (by first | assumption | exact ⟨by omega, by omega⟩) (fun c4 => ?_) (fun c4 => ?_)
  · first
    | (rw [if_neg (by omega)] at hT
       exact lp_part13 hK hX0 hn hn2 hx hx2 S F A (by omega) hF hA h hT)
    | (rw [if_pos (by omega)] at hT
       exact lp_part13 hK hX0 hn hn2 hx hx2 _ F9 A9 (by rw [List.length_append]; simp; omega) (hF.trans f9) (hA.trans o9) s9 hT)
  · refine q_aload_n eX6_part_7 rfl ?_
    refine q_bipush eX6_part_8 (by decide +kernel) ?_
    refine q_callV [vI 43] (M1 := mX6_append) eX6_part_10 mf_X6_append lk_X6_32 (hK _ (by decide) (by decide)) (ev_say hK (hX0.foff hF (by decide)) h (by omega)) nt_PSP (by decide) (by decide) (by decide) (Nat.le_of_ble_eq_true rfl) (st := []) rfl (fun v9 F9 A9 al9 h9 => ?_)
    obtain ⟨e9, rfl, f9, o9, s9⟩ := h9
    obtain rfl := Sum.inl.inj e9
    first
    | (rw [if_neg (by omega)] at hT
       exact lp_part13 hK hX0 hn hn2 hx hx2 S F A (by omega) hF hA h hT)
    | (rw [if_pos (by omega)] at hT
       exact lp_part13 hK hX0 hn hn2 hx hx2 _ F9 A9 (by rw [List.length_append]; simp; omega) (hF.trans f9) (hA.trans o9) s9 hT)
theorem pt_len {n x : Int} {S : List Int} : (ptE n x S).length ≤ S.length + 12 := by
  have h1 := fg_len (x := n) 4
  have h2 := fg_len (x := x) 4
  have e52 : ∀ S : List Int, (pt52 x S).length ≤ S.length + 5 := fun S => by
    unfold pt52
    split
    · rw [List.length_append, List.length_append]; simp; omega
    · omega
  have e42 : ∀ S : List Int, (pt42 x S).length ≤ S.length + 6 := fun S => by
    unfold pt42
    refine Nat.le_trans (e52 _) ?_
    split
    · rw [List.length_append]; simp
    · omega
  have e27 : ∀ S : List Int, (pt27 n x S).length ≤ S.length + 7 := fun S => by
    unfold pt27
    refine Nat.le_trans (e42 _) ?_
    split
    · rw [List.length_append]; simp
    · omega
  have e13 : ∀ S : List Int, (pt13 n x S).length ≤ S.length + 11 := fun S => by
    unfold pt13
    refine Nat.le_trans (e27 _) ?_
    split
    · rw [List.length_append]; omega
    · omega
  unfold ptE
  refine Nat.le_trans (e13 _) ?_
  split
  · rw [List.length_append]; simp
  · omega
def spE (c : Nat → Int) : Nat → List Int → List Int
  | 0, S => S
  | k + 1, S => spE c k (if 0 < c k then ptE (c k) k S else S)
def sayE (m x : Int) : List Int := if (spE (fun i => dg m i x) 6 []).length = 0 then [48] else spE (fun i => dg m i x) 6 []
theorem sp_len {c : Nat → Int} : ∀ (k : Nat) (S : List Int), (spE c k S).length ≤ S.length + 12 * k
  | 0, S => Nat.le_refl _
  | k + 1, S => by
    unfold spE
    refine Nat.le_trans (sp_len k _) ?_
    split
    · have := pt_len (n := c k) (x := k) (S := S)
      omega
    · omega
def PSW (T : List Int) (F : HF) (A : HA) (al : AL) : PO := fun o F' A' al' => o = .inl none ∧ al' = al ∧ FOff [(21, 0)] F F' ∧ Off [22, 23] A A' ∧ SP T F' A'
theorem nt_PSW {T : List Int} {F : HF} {A : HA} {al : AL} : NT (PSW T F A al) := by intro E F A al h; cases h.1
set_option maxRecDepth 20000 in
theorem lp_write {x0 : Int} {c : Nat → Int} {U : List Int} {F0 : HF} {A0 : HA} {al : AL} (hK : KX al) (hX0 : XF F0) (hc : ∀ j, j < 6 → 0 ≤ c j ∧ c j < 4096) : ∀ (k : Nat) (S : List Int) (F : HF) (A : HA), k ≤ 6 → S.length + 12 * k ≤ 80 → FOff [(21, 0)] F0 F → Off [22, 23] A0 A → (∀ j, j < 6 → A 23 j = c j) → SP S F A → (if (spE c k S).length = 0 then [48] else spE c k S) = U →
    QW mX6_write 4 0 0 (PSW U F0 A0 al) 0 0 16 [some (vA 21), some (vA 2), some (vI x0), some (vI ((k : Int) - 1))] [] F A al := by
  intro k
  induction k with
  | zero =>
    intro S F A hk hl hF hA hA23 h hU
    have hst : spE c 0 S = S := rfl
    rw [hst] at hU
    refine q_iload_n eX6_write_16 rfl ?_
    refine q_if_lt (tgt := 46) eX6_write_17 (by decide) (by first | assumption | exact ⟨by omega, by omega⟩) (fun c17 => ?_) (fun c17 => ?_)
    · refine q_aload_n eX6_write_46 rfl ?_
      refine q_getfield eX6_write_47 gf_X6_9 (hK _ (by decide) (by decide)) (by decide) h.1 ?_
      refine q_if_ne (tgt := 59) eX6_write_50 (by decide) (by first | assumption | exact ⟨by omega, by omega⟩) (fun c50 => ?_) (fun c50 => ?_)
      · refine q_retV eX6_write_59 rfl (by decide) (by decide) ?_
        first
        | (rw [if_neg (by omega)] at hU
           subst hU
           exact ⟨rfl, rfl, hF, hA, h⟩)
        | (have h0 : S.length = 0 := by omega
           rw [if_pos h0] at hU
           rw [List.eq_nil_of_length_eq_zero h0] at s9
           subst hU
           exact ⟨rfl, rfl, hF.trans f9, hA.trans (o9.mono (by simp)), s9⟩)
      · refine q_aload_n eX6_write_53 rfl ?_
        refine q_bipush eX6_write_54 (by decide +kernel) ?_
        refine q_callV [vI 48] (M1 := mX6_append) eX6_write_56 mf_X6_append lk_X6_32 (hK _ (by decide) (by decide)) (ev_say hK (hX0.foff hF (by decide)) h (by omega)) nt_PSP (by decide) (by decide) (by decide) (Nat.le_of_ble_eq_true rfl) (st := []) rfl (fun v9 F9 A9 al9 h9 => ?_)
        obtain ⟨e9, rfl, f9, o9, s9⟩ := h9
        obtain rfl := Sum.inl.inj e9
        refine q_retV eX6_write_59 rfl (by decide) (by decide) ?_
        first
        | (rw [if_neg (by omega)] at hU
           subst hU
           exact ⟨rfl, rfl, hF, hA, h⟩)
        | (have h0 : S.length = 0 := by omega
           rw [if_pos h0] at hU
           rw [List.eq_nil_of_length_eq_zero h0] at s9
           subst hU
           exact ⟨rfl, rfl, hF.trans f9, hA.trans (o9.mono (by simp)), s9⟩)
    · exact absurd c17 (by omega)
  | succ k ih =>
    intro S F A hk hl hF hA hA23 h hU
    have hX := hX0.foff hF (by decide)
    have e0 : ((k + 1 : Nat) : Int) - 1 = (k : Int) := by omega
    have hck := hc k (by omega)
    have hak : A 23 (k : Int).toNat = c k := hA23 k (by omega)
    have hst : spE c (k + 1) S = spE c k (if 0 < c k then ptE (c k) k S else S) := rfl
    rw [hst] at hU
    rw [e0]
    refine q_iload_n eX6_write_16 rfl ?_
    refine q_if_lt (tgt := 46) eX6_write_17 (by decide) (by first | assumption | exact ⟨by omega, by omega⟩) (fun c17 => ?_) (fun c17 => ?_)
    · exact absurd c17 (by omega)
    · refine q_aload_n eX6_write_20 rfl ?_
      refine q_getfield eX6_write_21 gf_X6_19 (hK _ (by decide) (by decide)) (by decide) (xf_21_2 hX) ?_
      refine q_iload_n eX6_write_24 rfl ?_
      refine q_iald eX6_write_25 (hK _ (by decide) (by decide)) (by omega) (by omega) ?_
      rw [hak]
      refine q_if_le (tgt := 40) eX6_write_26 (by decide) (by first | assumption | exact ⟨by omega, by omega⟩) (fun c26 => ?_) (fun c26 => ?_)
      · refine q_iinc eX6_write_40 rfl (by decide) rfl ?_
        refine q_goto (tgt := 16) eX6_write_43 (by decide) ?_
        rw [show (k : Int) + -1 = (k : Int) - 1 by omega]
        first
        | (rw [if_neg (show ¬ 0 < c k by omega)] at hU
           exact ih S F A (by omega) (by omega) hF hA hA23 h hU)
        | (have hpl := pt_len (n := c k) (x := k) (S := S)
           rw [if_pos (show 0 < c k by omega)] at hU
           exact ih _ F9 A9 (by omega) (by omega) (hF.trans f9) (hA.trans (o9.mono (by simp))) (fun j hj => by rw [o9 23 (by decide)]; exact hA23 j hj) s9 hU)
      · refine q_aload_n eX6_write_29 rfl ?_
        refine q_aload_n eX6_write_30 rfl ?_
        refine q_getfield eX6_write_31 gf_X6_19 (hK _ (by decide) (by decide)) (by decide) (xf_21_2 hX) ?_
        refine q_iload_n eX6_write_34 rfl ?_
        refine q_iald eX6_write_35 (hK _ (by decide) (by decide)) (by omega) (by omega) ?_
        rw [hak]
        refine q_iload_n eX6_write_36 rfl ?_
        refine q_callV [vI (c k), vI k] (M1 := mX6_part) eX6_write_37 mf_X6_part lk_X6_28 (hK _ (by decide) (by decide)) (ev_sayPart (F0 := F) (A0 := A) hK hX (by omega) (by omega) (by omega) (by omega) (by omega) h rfl rfl rfl) nt_PSP (by decide) (by decide) (by decide) (Nat.le_of_ble_eq_true rfl) (st := []) rfl (fun v9 F9 A9 al9 h9 => ?_)
        obtain ⟨e9, rfl, f9, o9, s9⟩ := h9
        obtain rfl := Sum.inl.inj e9
        refine q_iinc eX6_write_40 rfl (by decide) rfl ?_
        refine q_goto (tgt := 16) eX6_write_43 (by decide) ?_
        rw [show (k : Int) + -1 = (k : Int) - 1 by omega]
        first
        | (rw [if_neg (show ¬ 0 < c k by omega)] at hU
           exact ih S F A (by omega) (by omega) hF hA hA23 h hU)
        | (have hpl := pt_len (n := c k) (x := k) (S := S)
           rw [if_pos (show 0 < c k by omega)] at hU
           exact ih _ F9 A9 (by omega) (by omega) (hF.trans f9) (hA.trans (o9.mono (by simp))) (fun j hj => by rw [o9 23 (by decide)]; exact hA23 j hj) s9 hU)
set_option maxRecDepth 20000 in
theorem ev_write {m x : Int} {F : HF} {A : HA} {al : AL} (hK : KX al) (hX : XF F) (hm : F 2 3 = vI m) (hm2 : 2 ≤ m) (hm4 : m ≤ 4096) (hx : 0 ≤ x) (hx2 : x < 4096) : QE 4 0 0 mX6_write [vA 21, vA 2, vI x] F A al (PSW (sayE m x) F A al) := by
  refine QE.mk (by decide +kernel) (Nat.le_of_ble_eq_true rfl) ?_
  refine q_aload_n eX6_write_0 rfl ?_
  refine q_iconst eX6_write_1 ?_
  refine q_putfield eX6_write_2 pf_X6_9 (hK _ (by decide) (by decide)) (by decide) (FT_i rfl) ?_
  refine q_aload_n eX6_write_5 rfl ?_
  refine q_iload_n eX6_write_6 rfl ?_
  refine q_aload_n eX6_write_7 rfl ?_
  refine q_getfield eX6_write_8 gf_X6_19 (hK _ (by decide) (by decide)) (by decide) (xf_21_2 (hX.up (show plainF xrefs 21 0 = true by decide))) ?_
  refine q_callVV [vI x, vA 23] (M1 := mX2_spread) eX6_write_11 mf_X2_spread lk_X6_22 (hK _ (by decide) (by decide)) (ev_spread hK (by rw [up2_row (by decide)]; exact hm) hm2 (by omega) (hK _ (by decide) (by decide)) (by decide) hx (by omega)) (by decide) (by decide) (by decide) (Nat.le_of_ble_eq_true rfl) rfl (fun A1 h1 => ?_)
  obtain ⟨o1, v1⟩ := h1
  refine q_iconst eX6_write_14 ?_
  refine q_istore_n eX6_write_15 (by decide) rfl ?_
  exact lp_write hK hX (fun j hj => by have := dg_range (m := m) (by omega) j x; exact ⟨this.1, by omega⟩) 6 [] _ A1 (Nat.le_refl _) (by decide) (FOff.up (by simp)) (o1.mono (by simp)) v1 ⟨up2_eq _ _ _ _, fun j hj => absurd hj (by simp)⟩ rfl
