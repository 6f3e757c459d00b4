/-! the model: what a word leaves, and how it is mended -/
theorem lm_sub {m : Int} {dg k : Nat} {mk row : Nat → Int} (x : Nat) : lmE m dg mk (dg + k) row x = if k ≤ x ∧ x < k + (dg + 1) then (row x - row (dg + k) * mk (x - k)) % m else row x := by
  unfold lmE
  rw [show dg + k - dg = k by omega]
  have e : (k ≤ x ∧ x ≤ dg + k) ↔ (k ≤ x ∧ x < k + (dg + 1)) := by omega
  by_cases h : k ≤ x ∧ x < k + (dg + 1)
  · rw [if_pos h, if_pos (e.mpr h)]
    rw [show row x + (m - row (dg + k)) * mk (x - k) = row x - row (dg + k) * mk (x - k) + m * mk (x - k) by rw [Int.sub_mul]; omega, Int.add_mul_emod_self_left]
  · rw [if_neg h, if_neg (fun q => h (e.mp q))]
theorem lm_nil {m : Int} {dg k : Nat} {mk row : Nat → Int} (h : ∀ x, 0 ≤ row x ∧ row x < m) (h0 : row (dg + k) = 0) : lmE m dg mk (dg + k) row = row := by
  funext x
  rw [lm_sub, h0]
  split
  · rw [Int.zero_mul, Int.sub_zero, Int.emod_eq_of_lt (h x).1 (h x).2]
  · rfl
set_option maxRecDepth 20000 in
theorem lp_le2 {m : Int} {dg n a : Nat} {mk : Nat → Int} {F : HF} {A0 : HA} {al : AL} {Post : PO} (hK : KM al) (hX : MR F) (hm : F 44 4 = vI m) (hdg : F 44 35 = vI dg) (hn : F 44 33 = vI n) (hm2 : 2 ≤ m) (hm4 : m ≤ 4096) (hn63 : n ≤ 63) (hdn : dg ≤ n) (hmk : ∀ i, i ≤ dg → A0 56 i = mk i ∧ 0 ≤ mk i ∧ mk i < m) {k : Nat} {row : Nat → Int} {c : Int} (hkn : dg + k < n) (hrow : ∀ x, 0 ≤ row x ∧ row x < m) (hc : row (dg + k) = c) (hc0 : c ≠ 0) (out : ∀ (A2 : HA) (w : Int), Off [63] A0 A2 → (∀ x, x < n → A2 63 x = lmE m dg mk (dg + k) row x) → QW mX12_leaves 1 0 0 Post 0 0 114 [some (vA 44), some (vA a), some (vI (dg + k : Nat)), some (vI c), some (vI w)] [] F A2 al) : ∀ (s j : Nat) (A : HA), j + s = dg + 1 → Off [63] A0 A → (∀ x, x < n → A 63 x = if k ≤ x ∧ x < k + j then (row x - c * mk (x - k)) % m else row x) →
    QW mX12_leaves 1 0 0 Post 0 0 50 [some (vA 44), some (vA a), some (vI (dg + k : Nat)), some (vI c), some (vI j)] [] F A al := by
  intro s
  induction s with
  | zero =>
    intro j A hj ho h
    have ej : j = dg + 1 := by omega
    subst ej
    refine q_iload eX12_leaves_50 rfl ?_
    refine q_aload_n eX12_leaves_52 rfl ?_
    refine q_getfield eX12_leaves_53 gf_X12_322 (hK _ (by decide) (by decide)) (by decide) (by first | assumption) ?_
    refine q_icmp_gt (tgt := 114) eX12_leaves_56 (by decide) (by first | assumption | exact ⟨by omega, by omega⟩) (by first | assumption | exact ⟨by omega, by omega⟩) (fun c56 => ?_) (fun c56 => ?_)
    · exact out A _ ho (fun x hx => by rw [h x hx, lm_sub, hc])
    · exact absurd c56 (by omega)
  | succ s ih =>
    intro j A hj ho h
    have e1 : ((dg + k : Nat) : Int) - (dg : Int) + (j : Int) = ((k + j : Nat) : Int) := by omega
    obtain ⟨hk1, hk2, hk3⟩ := hmk j (by omega)
    have hcr := hrow (dg + k)
    rw [hc] at hcr
    have hp1 : 0 ≤ c * mk j := Int.mul_nonneg hcr.1 hk2
    have hp2 : c * mk j ≤ 4096 * 4096 := Int.mul_le_mul (by omega) (by omega) hk2 (by decide)
    have hrj := hrow (k + j)
    refine q_iload eX12_leaves_50 rfl ?_
    refine q_aload_n eX12_leaves_52 rfl ?_
    refine q_getfield eX12_leaves_53 gf_X12_322 (hK _ (by decide) (by decide)) (by decide) (by first | assumption) ?_
    refine q_icmp_gt (tgt := 114) eX12_leaves_56 (by decide) (by first | assumption | exact ⟨by omega, by omega⟩) (by first | assumption | exact ⟨by omega, by omega⟩) (fun c56 => ?_) (fun c56 => ?_)
    · exact absurd c56 (by omega)
    · refine q_iload_n eX12_leaves_59 rfl ?_
      refine q_if_eq (tgt := 114) eX12_leaves_60 (by decide) (by first | assumption | exact ⟨by omega, by omega⟩) (fun c60 => ?_) (fun c60 => ?_)
      · exact absurd c60 hc0
      · refine q_aload_n eX12_leaves_63 rfl ?_
        refine q_getfield eX12_leaves_64 gf_X12_93 (hK _ (by decide) (by decide)) (by decide) (mr_44_46 hX) ?_
        refine q_iload_n eX12_leaves_67 rfl ?_
        refine q_aload_n eX12_leaves_68 rfl ?_
        refine q_getfield eX12_leaves_69 gf_X12_322 (hK _ (by decide) (by decide)) (by decide) (by first | assumption) ?_
        refine q_isub eX12_leaves_72 ?_
        refine q_iload eX12_leaves_73 rfl ?_
        refine q_iadd eX12_leaves_75 ?_
        rw [e1]
        refine q_aload_n eX12_leaves_76 rfl ?_
        refine q_getfield eX12_leaves_77 gf_X12_93 (hK _ (by decide) (by decide)) (by decide) (mr_44_46 hX) ?_
        refine q_iload_n eX12_leaves_80 rfl ?_
        refine q_aload_n eX12_leaves_81 rfl ?_
        refine q_getfield eX12_leaves_82 gf_X12_322 (hK _ (by decide) (by decide)) (by decide) (by first | assumption) ?_
        refine q_isub eX12_leaves_85 ?_
        refine q_iload eX12_leaves_86 rfl ?_
        refine q_iadd eX12_leaves_88 ?_
        rw [e1]
        refine q_iald eX12_leaves_89 (hK _ (by decide) (by decide)) (by omega) (by omega) ?_
        rw [show A 63 ((k + j : Nat) : Int).toNat = row (k + j) from (h (k + j) (by omega)).trans (if_neg (by omega))]
        refine q_iload_n eX12_leaves_90 rfl ?_
        refine q_aload_n eX12_leaves_91 rfl ?_
        refine q_getfield eX12_leaves_92 gf_X12_72 (hK _ (by decide) (by decide)) (by decide) (mr_44_36 hX) ?_
        refine q_iload eX12_leaves_95 rfl ?_
        refine q_iald eX12_leaves_97 (hK _ (by decide) (by decide)) (by omega) (by omega) ?_
        rw [show A 56 (j : Int).toNat = mk j from (congrFun (ho 56 (by decide)) j).trans hk1]
        refine q_imul eX12_leaves_98 ?_
        refine q_isub eX12_leaves_99 ?_
        refine q_aload_n eX12_leaves_100 rfl ?_
        refine q_getfield eX12_leaves_101 gf_X12_22 (hK _ (by decide) (by decide)) (by decide) (by first | assumption) ?_
        refine q_callSP [vI (row (k + j) - c * mk j), vI m] (M1 := mJ9_floorMod_7cf53) eX12_leaves_104 mf_J9_floorMod_7cf53 lk_X12_109 (ev_floorMod (by exact ⟨by omega, by omega⟩) (by omega) (by omega)) (by decide) (by decide) (by decide) (Nat.le_of_ble_eq_true rfl) rfl ?_
        refine q_iast eX12_leaves_107 (hK _ (by decide) (by decide)) (by omega) (by omega) ?_
        refine q_iinc eX12_leaves_108 rfl (by decide) rfl ?_
        refine q_goto (tgt := 50) eX12_leaves_111 (by decide) ?_
        refine ih (j + 1) (up2 A 63 (k + j) ((row (k + j) - c * mk j) % m)) (by omega) (ho.trans (Off.up (by simp))) (fun x hx => ?_)
        rw [up2_at]
        by_cases he : x = k + j
        · rw [if_pos he, if_pos (by omega), he, show k + j - k = j by omega]
        · rw [if_neg he, h x hx]
          by_cases h5 : k ≤ x ∧ x < k + j
          · rw [if_pos h5, if_pos (by omega)]
          · rw [if_neg h5, if_neg (by omega)]
set_option maxRecDepth 20000 in
theorem lp_le1 {m : Int} {dg n a : Nat} {mk : Nat → Int} {F : HF} {A0 : HA} {al : AL} (hK : KM al) (hX : MR F) (hm : F 44 4 = vI m) (hdg : F 44 35 = vI dg) (hn : F 44 33 = vI n) (hm2 : 2 ≤ m) (hm4 : m ≤ 4096) (hn63 : n ≤ 63) (hdn : dg ≤ n) (hmk : ∀ i, i ≤ dg → A0 56 i = mk i ∧ 0 ≤ mk i ∧ mk i < m) {T : Nat → Int} : ∀ (k : Nat) (row : Nat → Int) (A : HA) (l3 l4 : Option LV), dg + k ≤ n → (∀ x, 0 ≤ row x ∧ row x < m) → Off [63] A0 A → (∀ x, x < n → A 63 x = row x) → rsE m dg mk k row = T →
    QW mX12_leaves 1 0 0 (PV F al (fun A2 => Off [63] A0 A2 ∧ ∀ x, x < n → A2 63 x = T x)) 0 0 32 [some (vA 44), some (vA a), some (vI ((dg + k : Nat) - 1)), l3, l4] [] F A al := by
  intro k
  induction k with
  | zero =>
    intro row A l3 l4 hk hrow ho h hT
    have hT' : row = T := hT
    subst hT'
    refine q_iload_n eX12_leaves_32 rfl ?_
    refine q_aload_n eX12_leaves_33 rfl ?_
    refine q_getfield eX12_leaves_34 gf_X12_322 (hK _ (by decide) (by decide)) (by decide) (by first | assumption) ?_
    refine q_icmp_lt (tgt := 120) eX12_leaves_37 (by decide) (by first | assumption | exact ⟨by omega, by omega⟩) (by first | assumption | exact ⟨by omega, by omega⟩) (fun c37 => ?_) (fun c37 => ?_)
    · refine q_retV eX12_leaves_120 rfl (by decide) (by decide) ?_
      exact ⟨rfl, rfl, rfl, ho, h⟩
    · exact absurd c37 (by omega)
  | succ k ih =>
    intro row A l3 l4 hk hrow ho h hT
    have hT' : rsE m dg mk k (lmE m dg mk (dg + k) row) = T := hT
    have hrw := hrow (dg + k)
    rw [show ((dg + (k + 1) : Nat) : Int) - 1 = ((dg + k : Nat) : Int) by omega]
    refine q_iload_n eX12_leaves_32 rfl ?_
    refine q_aload_n eX12_leaves_33 rfl ?_
    refine q_getfield eX12_leaves_34 gf_X12_322 (hK _ (by decide) (by decide)) (by decide) (by first | assumption) ?_
    refine q_icmp_lt (tgt := 120) eX12_leaves_37 (by decide) (by first | assumption | exact ⟨by omega, by omega⟩) (by first | assumption | exact ⟨by omega, by omega⟩) (fun c37 => ?_) (fun c37 => ?_)
    · exact absurd c37 (by omega)
    · refine q_aload_n eX12_leaves_40 rfl ?_
      refine q_getfield eX12_leaves_41 gf_X12_93 (hK _ (by decide) (by decide)) (by decide) (mr_44_46 hX) ?_
      refine q_iload_n eX12_leaves_44 rfl ?_
      refine q_iald eX12_leaves_45 (hK _ (by decide) (by decide)) (by omega) (by omega) ?_
      rw [show A 63 ((dg + k : Nat) : Int).toNat = row (dg + k) from h (dg + k) (by omega)]
      refine q_istore_n eX12_leaves_46 (by decide) rfl ?_
      refine q_iconst eX12_leaves_47 ?_
      refine q_istore eX12_leaves_48 (by decide) rfl ?_
      by_cases hc0 : row (dg + k) = 0
      · refine q_iload eX12_leaves_50 rfl ?_
        refine q_aload_n eX12_leaves_52 rfl ?_
        refine q_getfield eX12_leaves_53 gf_X12_322 (hK _ (by decide) (by decide)) (by decide) (by first | assumption) ?_
        refine q_icmp_gt (tgt := 114) eX12_leaves_56 (by decide) (by first | assumption | exact ⟨by omega, by omega⟩) (by first | assumption | exact ⟨by omega, by omega⟩) (fun c56 => ?_) (fun c56 => ?_)
        · exact absurd c56 (by omega)
        · refine q_iload_n eX12_leaves_59 rfl ?_
          refine q_if_eq (tgt := 114) eX12_leaves_60 (by decide) (by first | assumption | exact ⟨by omega, by omega⟩) (fun c60 => ?_) (fun c60 => ?_)
          · refine q_iinc eX12_leaves_114 rfl (by decide) rfl ?_
            refine q_goto (tgt := 32) eX12_leaves_117 (by decide) ?_
            rw [lm_nil hrow hc0] at hT'
            rw [show ((dg + k : Nat) : Int) + -1 = ((dg + k : Nat) : Int) - 1 by omega]
            exact ih row A _ _ (by omega) hrow ho h hT'
          · exact absurd hc0 c60
      · refine lp_le2 hK hX hm hdg hn hm2 hm4 hn63 hdn hmk (show dg + k < n by omega) hrow rfl hc0 (fun A2 w ho2 h2 => ?_) (dg + 1) 0 A (by omega) ho (fun x hx => by rw [h x hx, if_neg (by omega)])
        refine q_iinc eX12_leaves_114 rfl (by decide) rfl ?_
        refine q_goto (tgt := 32) eX12_leaves_117 (by decide) ?_
        rw [show ((dg + k : Nat) : Int) + -1 = ((dg + k : Nat) : Int) - 1 by omega]
        exact ih _ A2 _ _ (by omega) (fun x => lm_range (by omega) hrow x) ho2 h2 hT'
set_option maxRecDepth 20000 in
theorem lp_le0 {m : Int} {dg n a : Nat} {mk : Nat → Int} {F : HF} {A0 : HA} {al : AL} (hK : KM al) (hX : MR F) (hm : F 44 4 = vI m) (hdg : F 44 35 = vI dg) (hn : F 44 33 = vI n) (hm2 : 2 ≤ m) (hm4 : m ≤ 4096) (hn63 : n ≤ 63) (hdn : dg ≤ n) (hmk : ∀ i, i ≤ dg → A0 56 i = mk i ∧ 0 ≤ mk i ∧ mk i < m) {bt : Nat → Int} {nn : Nat} (hk : al.1 a = (0, nn)) (hnn : n ≤ nn) (ha : a ≠ 63) (hbt : ∀ j, j < n → A0 a j = bt j ∧ 0 ≤ bt j ∧ bt j < m) : ∀ (s j : Nat) (A : HA), j + s = n → Off [63] A0 A → (∀ x, x < j → A 63 x = bt x) →
    QW mX12_leaves 1 0 0 (PV F al (fun A2 => Off [63] A0 A2 ∧ ∀ x, x < n → A2 63 x = rsE m dg mk (n - dg) (nbE n bt) x)) 0 0 2 [some (vA 44), some (vA a), some (vI j), none, none] [] F A al := by
  intro s
  induction s with
  | zero =>
    intro j A hj ho h
    have ej : j = n := by omega
    subst ej
    refine q_iload_n eX12_leaves_2 rfl ?_
    refine q_aload_n eX12_leaves_3 rfl ?_
    refine q_getfield eX12_leaves_4 gf_X12_69 (hK _ (by decide) (by decide)) (by decide) (by first | assumption) ?_
    refine q_icmp_ge (tgt := 25) eX12_leaves_7 (by decide) (by first | assumption | exact ⟨by omega, by omega⟩) (by first | assumption | exact ⟨by omega, by omega⟩) (fun c7 => ?_) (fun c7 => ?_)
    · refine q_aload_n eX12_leaves_25 rfl ?_
      refine q_getfield eX12_leaves_26 gf_X12_69 (hK _ (by decide) (by decide)) (by decide) (by first | assumption) ?_
      refine q_iconst eX12_leaves_29 ?_
      refine q_isub eX12_leaves_30 ?_
      refine q_istore_n eX12_leaves_31 (by decide) rfl ?_
      have hh := lp_le1 (a := a) hK hX hm hdg hn hm2 hm4 hn63 hdn hmk (T := rsE m dg mk (j - dg) (nbE j bt)) (j - dg) (nbE j bt) A none none (by omega) (fun x => by
        unfold nbE
        split
        · next hx => exact (hbt x hx).2
        · exact ⟨by decide, by omega⟩) ho (fun x hx => by rw [h x hx]; unfold nbE; rw [if_pos hx]) rfl
      rw [show dg + (j - dg) = j by omega] at hh
      exact hh
    · exact absurd c7 (by omega)
  | succ s ih =>
    intro j A hj ho h
    have haj : A a j = bt j := (congrFun (ho a (by simp; exact ha)) j).trans (hbt j (by omega)).1
    refine q_iload_n eX12_leaves_2 rfl ?_
    refine q_aload_n eX12_leaves_3 rfl ?_
    refine q_getfield eX12_leaves_4 gf_X12_69 (hK _ (by decide) (by decide)) (by decide) (by first | assumption) ?_
    refine q_icmp_ge (tgt := 25) eX12_leaves_7 (by decide) (by first | assumption | exact ⟨by omega, by omega⟩) (by first | assumption | exact ⟨by omega, by omega⟩) (fun c7 => ?_) (fun c7 => ?_)
    · exact absurd c7 (by omega)
    · refine q_aload_n eX12_leaves_10 rfl ?_
      refine q_getfield eX12_leaves_11 gf_X12_93 (hK _ (by decide) (by decide)) (by decide) (mr_44_46 hX) ?_
      refine q_iload_n eX12_leaves_14 rfl ?_
      refine q_aload_n eX12_leaves_15 rfl ?_
      refine q_iload_n eX12_leaves_16 rfl ?_
      refine q_iald eX12_leaves_17 hk (by omega) (by omega) ?_
      rw [show A a (j : Int).toNat = bt j from haj]
      refine q_iast eX12_leaves_18 (hK _ (by decide) (by decide)) (by omega) (by omega) ?_
      refine q_iinc eX12_leaves_19 rfl (by decide) rfl ?_
      refine q_goto (tgt := 2) eX12_leaves_22 (by decide) ?_
      refine ih (j + 1) (up2 A 63 j (bt j)) (by omega) (ho.trans (Off.up (by simp))) (fun x hx => ?_)
      rw [up2_at]
      split
      · next he => rw [he]
      · next he => exact h x (by omega)
set_option maxRecDepth 20000 in
theorem mo_leaves {m : Int} {dg n a : Nat} {mk : Nat → Int} {F : HF} {A : HA} {al : AL} (hK : KM al) (hX : MR F) (hm : F 44 4 = vI m) (hdg : F 44 35 = vI dg) (hn : F 44 33 = vI n) (hm2 : 2 ≤ m) (hm4 : m ≤ 4096) (hn63 : n ≤ 63) (hdn : dg ≤ n) (hmk : ∀ i, i ≤ dg → A 56 i = mk i ∧ 0 ≤ mk i ∧ mk i < m) {bt : Nat → Int} {nn : Nat} (hk : al.1 a = (0, nn)) (hnn : n ≤ nn) (ha : a ≠ 63) (hbt : ∀ j, j < n → A a j = bt j ∧ 0 ≤ bt j ∧ bt j < m)  : QE 1 0 0 mX12_leaves [vA 44, vA a] F A al (PV F al (fun A2 => Off [63] A A2 ∧ ∀ x, x < n → A2 63 x = rsE m dg mk (n - dg) (nbE n bt) x)) := by
  refine QE.mk (by decide +kernel) (Nat.le_of_ble_eq_true rfl) ?_
  refine q_iconst eX12_leaves_0 ?_
  refine q_istore_n eX12_leaves_1 (by decide) rfl ?_
  exact lp_le0 hK hX hm hdg hn hm2 hm4 hn63 hdn hmk hk hnn ha hbt n 0 A (by omega) Off.rfl' (fun x hx => by omega)
set_option maxRecDepth 20000 in
theorem lp_isLeft {dg : Nat} {lf : Nat → Int} {F : HF} {A : HA} {al : AL} (hK : KM al) (hX : MR F) (hdg : F 44 35 = vI dg) (hd63 : dg ≤ 63) (hl : ∀ j, j < dg → A 63 j = lf j ∧ InR (lf j)) : ∀ (s i : Nat), i + s = dg → (∀ j, j < i → lf j = 0) →
    QW mX12_isLeft 0 0 0 (PI (ofE lf dg) F A al) 0 0 2 [some (vA 44), some (vI i)] [] F A al := by
  intro s
  induction s with
  | zero =>
    intro i hi h
    have ei : i = dg := by omega
    subst ei
    refine q_iload_n eX12_isLeft_2 rfl ?_
    refine q_aload_n eX12_isLeft_3 rfl ?_
    refine q_getfield eX12_isLeft_4 gf_X12_322 (hK _ (by decide) (by decide)) (by decide) (by first | assumption) ?_
    refine q_icmp_ge (tgt := 27) eX12_isLeft_7 (by decide) (by first | assumption | exact ⟨by omega, by omega⟩) (by first | assumption | exact ⟨by omega, by omega⟩) (fun c7 => ?_) (fun c7 => ?_)
    · refine q_iconst eX12_isLeft_27 ?_
      refine q_retZ eX12_isLeft_28 rfl (by first | exact Or.inl rfl | exact Or.inr rfl | assumption) (by decide) (by decide) ?_
      exact PI_ok (by unfold ofE; rw [if_pos h])
    · exact absurd c7 (by omega)
  | succ s ih =>
    intro i hi h
    have hli := hl i (by omega)
    have hlr := hli.2
    refine q_iload_n eX12_isLeft_2 rfl ?_
    refine q_aload_n eX12_isLeft_3 rfl ?_
    refine q_getfield eX12_isLeft_4 gf_X12_322 (hK _ (by decide) (by decide)) (by decide) (by first | assumption) ?_
    refine q_icmp_ge (tgt := 27) eX12_isLeft_7 (by decide) (by first | assumption | exact ⟨by omega, by omega⟩) (by first | assumption | exact ⟨by omega, by omega⟩) (fun c7 => ?_) (fun c7 => ?_)
    · exact absurd c7 (by omega)
    · refine q_aload_n eX12_isLeft_10 rfl ?_
      refine q_getfield eX12_isLeft_11 gf_X12_93 (hK _ (by decide) (by decide)) (by decide) (mr_44_46 hX) ?_
      refine q_iload_n eX12_isLeft_14 rfl ?_
      refine q_iald eX12_isLeft_15 (hK _ (by decide) (by decide)) (by omega) (by omega) ?_
      rw [show A 63 (i : Int).toNat = lf i from hli.1]
      refine q_if_eq (tgt := 21) eX12_isLeft_16 (by decide) (by first | assumption | exact ⟨by omega, by omega⟩) (fun c16 => ?_) (fun c16 => ?_)
      · refine q_iinc eX12_isLeft_21 rfl (by decide) rfl ?_
        refine q_goto (tgt := 2) eX12_isLeft_24 (by decide) ?_
        refine ih (i + 1) (by omega) (fun j hj => ?_)
        by_cases he : j = i
        · rw [he]; exact c16
        · exact h j (by omega)
      · refine q_iconst eX12_isLeft_19 ?_
        refine q_retZ eX12_isLeft_20 rfl (by first | exact Or.inl rfl | exact Or.inr rfl | assumption) (by decide) (by decide) ?_
        exact PI_ok (by unfold ofE; rw [if_neg (fun q => c16 (q i (by omega)))])
set_option maxRecDepth 20000 in
theorem mo_isLeft {dg : Nat} {lf : Nat → Int} {F : HF} {A : HA} {al : AL} (hK : KM al) (hX : MR F) (hdg : F 44 35 = vI dg) (hd63 : dg ≤ 63) (hl : ∀ j, j < dg → A 63 j = lf j ∧ InR (lf j)) : QE 0 0 0 mX12_isLeft [vA 44] F A al (PI (ofE lf dg) F A al) := by
  refine QE.mk (by decide +kernel) (Nat.le_of_ble_eq_true rfl) ?_
  refine q_iconst eX12_isLeft_0 ?_
  refine q_istore_n eX12_isLeft_1 (by decide) rfl ?_
  exact lp_isLeft hK hX hdg hd63 hl dg 0 (by omega) (fun j hj => by omega)
def rstM (m : Int) (n dg : Nat) (mk : Nat → Int) (w : Option (Nat → Int)) (i : Int) : Option Int := match w with
  | none => none
  | some bt => if 0 ≤ i ∧ i ≤ (dg : Int) - 1 then some (lfE m n dg mk bt i.toNat) else none
set_option maxRecDepth 20000 in
theorem mo_rest {i : Int} {p e r q N : Nat} {m : Int} {f : Nat → Int} {g : Int} {rt lg pl_ tp mk ck : Nat → Int} {len n dg : Nat} {fp set : Int} {w : Option (Nat → Int)} {S : List Int} {F : HF} {A : HA} {al : AL} (hK : KM al) (h0 : MI p e r q N m f g rt lg pl_ len tp fp n set dg mk ck w S F A) (hmk : ∀ i, i ≤ dg → 0 ≤ mk i ∧ mk i < m) (hi : InR i) : QE 2 0 0 mX12_rest [vA 44, vI i] F A al (PMP (rstM m n dg mk w i) F A al) := by
  refine QE.mk (by decide +kernel) (Nat.le_of_ble_eq_true rfl) ?_
  have hi_1 := hi.1
  have hi_2 := hi.2
  have h := h0.t0
  generalize hF0 : up2 F 44 0 (vI 0) = F1 at h
  have ht0 : F1 44 0 = vI 0 := by rw [← hF0]; exact up2_eq _ _ _ _
  have hoF : FOff SCF F F1 := by rw [← hF0]; exact FOff.up (by decide)
  obtain ⟨⟨hX, hT, h3r, hMH⟩, h2, ⟨hl0, hl1, hta⟩, h4, ⟨⟨h51, h52, h53⟩, h5m, h5c, ⟨hn1, hn63, hnq, hs0, hs1⟩, hdn⟩, h7, ⟨⟨h81, h82⟩, h83⟩⟩ := id h
  obtain ⟨hG, hp, he, hq, hN, hg, ⟨hp2, hp7, he1, he4, hme, hqe, hq3, hNm, hgE⟩, hP, hL, hR⟩ := id hT
  obtain ⟨hm, hr, hf, hm2, hr1, hr6, hN4⟩ := id hG
  have hm4 := hG.m4
  have hq2 := hT.q2
  have hN9 : (N : Int) ≤ 4096 := by rw [hNm]; exact hN4
  have hE : ∀ x : Int, 0 ≤ x ∧ x ≤ (N : Int) - 1 → El m r x := fun x h => ⟨h.1, by rw [← hNm]; omega⟩
  have hmk2 : ∀ i, i ≤ dg → A 56 i = mk i ∧ 0 ≤ mk i ∧ mk i < m := fun i hi => ⟨h5m i (by omega), hmk i hi⟩
  have hNp : 1 ≤ N := by have := el_one (m := m) (r := r) hm2 hr1; have := this.2; omega
  refine q_aload_n eX12_rest_0 rfl ?_
  refine q_iconst eX12_rest_1 ?_
  refine q_putfield eX12_rest_2 pf_X12_1 (hK _ (by decide) (by decide)) (by decide) (FT_i rfl) ?_
  rw [hF0]
  cases w with
  | none =>
    have hw : F1 44 45 = vI 0 := h7
    refine q_aload_n eX12_rest_5 rfl ?_
    refine q_aload_n eX12_rest_6 rfl ?_
    refine q_getfield eX12_rest_7 gf_X12_160 (hK _ (by decide) (by decide)) (by decide) (by first | assumption) ?_
    refine q_if_eq (tgt := 33) eX12_rest_10 (by decide) (by first | assumption | exact ⟨by omega, by omega⟩) (fun c10 => ?_) (fun c10 => ?_)
    · refine q_iconst eX12_rest_33 ?_
      refine q_iconst eX12_rest_34 ?_
      refine q_right0 eX12_rest_35 lk_X12_304 hK ht0 (by decide) (by decide) (by decide) (Nat.le_of_ble_eq_true rfl) ?_
      refine q_if_ne (tgt := 43) eX12_rest_38 (by decide) (by first | assumption | exact ⟨by omega, by omega⟩) (fun c38 => ?_) (fun c38 => ?_)
      · exact absurd rfl c38
      · refine q_iconst eX12_rest_41 ?_
        refine q_retI eX12_rest_42 rfl (by decide) (by decide) ?_
        exact PMP_t rfl hoF Off.rfl'
    · exact absurd rfl c10
  | some bt =>
    obtain ⟨hw, hbt⟩ := id h7
    refine q_aload_n eX12_rest_5 rfl ?_
    refine q_aload_n eX12_rest_6 rfl ?_
    refine q_getfield eX12_rest_7 gf_X12_160 (hK _ (by decide) (by decide)) (by decide) (by first | assumption) ?_
    refine q_if_eq (tgt := 33) eX12_rest_10 (by decide) (by first | assumption | exact ⟨by omega, by omega⟩) (fun c10 => ?_) (fun c10 => ?_)
    · exact absurd c10 (by decide)
    · refine q_iload_n eX12_rest_13 rfl ?_
      refine q_i2l eX12_rest_14 (by first | assumption | exact ⟨by omega, by omega⟩) ?_
      refine q_lconst (v := 0) eX12_rest_15 (by decide +kernel) ?_
      refine q_aload_n eX12_rest_16 rfl ?_
      refine q_getfield eX12_rest_17 gf_X12_322 (hK _ (by decide) (by decide)) (by decide) (by first | assumption) ?_
      refine q_iconst eX12_rest_20 ?_
      refine q_isub eX12_rest_21 ?_
      refine q_i2l eX12_rest_22 (by first | assumption | exact ⟨by omega, by omega⟩) ?_
      refine q_callSP [vJ (i), vJ (0), vJ ((dg : Int) - 1)] (M1 := mX12_isIn) eX12_rest_23 mf_X12_isIn lk_X12_206 (mo_isIn (by exact ⟨by omega, by omega⟩) (by exact ⟨by omega, by omega⟩) (by exact ⟨by omega, by omega⟩)) (by decide) (by decide) (by decide) (Nat.le_of_ble_eq_true rfl) rfl ?_
      refine q_if_eq (tgt := 33) eX12_rest_26 (by decide) ir_ite (fun c26 => ?_) (fun c26 => ?_)
      · refine q_iconst eX12_rest_33 ?_
        refine q_iconst eX12_rest_34 ?_
        refine q_right0 eX12_rest_35 lk_X12_304 hK ht0 (by decide) (by decide) (by decide) (Nat.le_of_ble_eq_true rfl) ?_
        refine q_if_ne (tgt := 43) eX12_rest_38 (by decide) (by first | assumption | exact ⟨by omega, by omega⟩) (fun c38 => ?_) (fun c38 => ?_)
        · exact absurd rfl c38
        · refine q_iconst eX12_rest_41 ?_
          refine q_retI eX12_rest_42 rfl (by decide) (by decide) ?_
          first
          | (refine PMP_t ?_ hoF Off.rfl'
             show (if 0 ≤ i ∧ i ≤ (dg : Int) - 1 then some (lfE m n dg mk bt i.toNat) else none) = none
             rw [if_neg (i0 c26)])
          | (refine PMP_r ?_ ht0 hoF (o3.mono (by decide))
             show (if 0 ≤ (t : Int) ∧ (t : Int) ≤ (dg : Int) - 1 then some (lfE m n dg mk bt t) else none) = some (A3 63 t)
             rw [if_pos hi26, v3 t (by omega)]
             rfl)
      · refine q_iconst eX12_rest_29 ?_
        refine q_goto (tgt := 34) eX12_rest_30 (by decide) ?_
        refine q_iconst eX12_rest_34 ?_
        refine q_right1 eX12_rest_35 lk_X12_304 hK ht0 (by decide) (by decide) (by decide) (Nat.le_of_ble_eq_true rfl) ?_
        refine q_if_ne (tgt := 43) eX12_rest_38 (by decide) (by first | assumption | exact ⟨by omega, by omega⟩) (fun c38 => ?_) (fun c38 => ?_)
        · have hi26 := i1 c26
          obtain ⟨t, rfl⟩ : ∃ t : Nat, i = t := ⟨i.toNat, by omega⟩
          refine q_aload_n eX12_rest_43 rfl ?_
          refine q_aload_n eX12_rest_44 rfl ?_
          refine q_getfield eX12_rest_45 gf_X12_90 (hK _ (by decide) (by decide)) (by decide) (mr_44_44 hX) ?_
          refine q_callVV [vA 62] (M1 := mX12_leaves) eX12_rest_48 mf_X12_leaves lk_X12_418 (hK _ (by decide) (by decide)) (mo_leaves (a := 62) hK hX hm h53 h51 hm2 hm4 hn63 hdn hmk2 (hK _ (by decide) (by decide)) (by omega) (by decide) hbt) (by decide) (by decide) (by decide) (Nat.le_of_ble_eq_true rfl) rfl (fun A3 h3 => ?_)
          obtain ⟨o3, v3⟩ := h3
          refine q_aload_n eX12_rest_51 rfl ?_
          refine q_getfield eX12_rest_52 gf_X12_93 (hK _ (by decide) (by decide)) (by decide) (mr_44_46 hX) ?_
          refine q_iload_n eX12_rest_55 rfl ?_
          refine q_iald eX12_rest_56 (hK _ (by decide) (by decide)) (by omega) (by omega) ?_
          refine q_retI eX12_rest_57 rfl (by decide) (by decide) ?_
          first
          | (refine PMP_t ?_ hoF Off.rfl'
             show (if 0 ≤ i ∧ i ≤ (dg : Int) - 1 then some (lfE m n dg mk bt i.toNat) else none) = none
             rw [if_neg (i0 c26)])
          | (refine PMP_r ?_ ht0 hoF (o3.mono (by decide))
             show (if 0 ≤ (t : Int) ∧ (t : Int) ≤ (dg : Int) - 1 then some (lfE m n dg mk bt t) else none) = some (A3 63 t)
             rw [if_pos hi26, v3 t (by omega)]
             rfl)
        · exact absurd c38 (by decide)
def stM (b : Bool) (i : Nat) (d : Int) (s : Int × Int × Int) : Int × Int × Int := if b = true then (s.1 + 1, (if s.2.1 = -1 then (i : Int) else s.2.1), if s.2.1 = -1 then d else s.2.2) else s
def mdR (P : Nat → Nat → Bool) (i : Nat) : Nat → Int × Int × Int → Int × Int × Int
  | 0, s => s
  | k + 1, s => stM (P i (k + 1)) i (k + 1 : Nat) (mdR P i k s)
def mdT (P : Nat → Nat → Bool) (k : Nat) : Nat → Int × Int × Int
  | 0 => (0, -1, -1)
  | i + 1 => mdR P i k (mdT P k i)
def tdM (m : Int) (bt : Nat → Int) (i d : Nat) : Nat → Int := upc bt i ((bt i + d) % m)
def mdP (m : Int) (n dg : Nat) (mk bt : Nat → Int) (i d : Nat) : Bool := decide (ofE (lfE m n dg mk (tdM m bt i d)) dg = 0)
def mndM (m : Int) (n dg : Nat) (mk bt : Nat → Int) : Int × Int × Int := if ofE (lfE m n dg mk bt) dg = 0 then (0, -1, -1) else mdT (mdP m n dg mk bt) (m.toNat - 1) n
theorem st_rg {b : Bool} {i : Nat} {d c : Int} {s : Int × Int × Int} (h : 0 ≤ s.1 ∧ s.1 ≤ c ∧ -1 ≤ s.2.1 ∧ s.2.1 ≤ 63 ∧ -1 ≤ s.2.2 ∧ s.2.2 ≤ 4096) (hi : i ≤ 63) (hd : 0 ≤ d) (hd2 : d ≤ 4096) : 0 ≤ (stM b i d s).1 ∧ (stM b i d s).1 ≤ c + 1 ∧ -1 ≤ (stM b i d s).2.1 ∧ (stM b i d s).2.1 ≤ 63 ∧ -1 ≤ (stM b i d s).2.2 ∧ (stM b i d s).2.2 ≤ 4096 := by
  obtain ⟨h1, h2, h3, h4, h5, h6⟩ := h
  unfold stM
  split
  · refine ⟨by show 0 ≤ s.1 + 1; omega, by show s.1 + 1 ≤ c + 1; omega, ?_, ?_, ?_, ?_⟩
    · show -1 ≤ (if s.2.1 = -1 then (i : Int) else s.2.1)
      split <;> omega
    · show (if s.2.1 = -1 then (i : Int) else s.2.1) ≤ 63
      split <;> omega
    · show -1 ≤ (if s.2.1 = -1 then d else s.2.2)
      split <;> omega
    · show (if s.2.1 = -1 then d else s.2.2) ≤ 4096
      split <;> omega
  · exact ⟨h1, by omega, h3, h4, h5, h6⟩
theorem mdR_rg {P : Nat → Nat → Bool} {i : Nat} {c : Int} (hi : i ≤ 63) {s : Int × Int × Int} (h : 0 ≤ s.1 ∧ s.1 ≤ c ∧ -1 ≤ s.2.1 ∧ s.2.1 ≤ 63 ∧ -1 ≤ s.2.2 ∧ s.2.2 ≤ 4096) : ∀ k : Nat, k ≤ 4096 → 0 ≤ (mdR P i k s).1 ∧ (mdR P i k s).1 ≤ c + k ∧ -1 ≤ (mdR P i k s).2.1 ∧ (mdR P i k s).2.1 ≤ 63 ∧ -1 ≤ (mdR P i k s).2.2 ∧ (mdR P i k s).2.2 ≤ 4096
  | 0, _ => by
    obtain ⟨h1, h2, h3⟩ := h
    exact ⟨h1, by show s.1 ≤ c + 0; omega, h3⟩
  | k + 1, hk => by
    have ih := mdR_rg (P := P) hi h k (by omega)
    have h2 := st_rg (b := P i (k + 1)) (i := i) (d := ((k + 1 : Nat) : Int)) ih hi (by omega) (by omega)
    obtain ⟨g1, g2, g3⟩ := h2
    exact ⟨g1, by have : c + (k : Int) + 1 = c + ((k + 1 : Nat) : Int) := by omega
                  rw [← this]; exact g2, g3⟩
theorem mdT_rg {P : Nat → Nat → Bool} {k : Nat} (hk : k ≤ 4096) : ∀ i : Nat, i ≤ 63 → 0 ≤ (mdT P k i).1 ∧ (mdT P k i).1 ≤ 4096 * (i : Int) ∧ -1 ≤ (mdT P k i).2.1 ∧ (mdT P k i).2.1 ≤ 63 ∧ -1 ≤ (mdT P k i).2.2 ∧ (mdT P k i).2.2 ≤ 4096
  | 0, _ => ⟨by show (0 : Int) ≤ 0; decide, by show (0 : Int) ≤ 4096 * ((0 : Nat) : Int); decide, by show (-1 : Int) ≤ -1; decide, by show (-1 : Int) ≤ 63; decide, by show (-1 : Int) ≤ -1; decide, by show (-1 : Int) ≤ 4096; decide⟩
  | i + 1, hi => by
    obtain ⟨g1, g2, g3⟩ := mdR_rg (P := P) (i := i) (by omega) (mdT_rg hk i (by omega)) k hk
    exact ⟨g1, by have : 4096 * (i : Int) + k ≤ 4096 * ((i + 1 : Nat) : Int) := by omega
                  exact Int.le_trans g2 this, g3⟩
set_option maxRecDepth 20000 in
theorem lp_mn2 {m : Int} {dg n : Nat} {mk bt : Nat → Int} {F0 : HF} {A0 : HA} {al : AL} {T : Int × Int × Int} (hK : KM al) (hX0 : MR F0) (hm : F0 44 4 = vI m) (hdg : F0 44 35 = vI dg) (hn : F0 44 33 = vI n) (hm2 : 2 ≤ m) (hm4 : m ≤ 4096) (hn63 : n ≤ 63) (hdn : dg ≤ n) (hmk : ∀ i, i ≤ dg → A0 56 i = mk i ∧ 0 ≤ mk i ∧ mk i < m) (hbt : ∀ j, j < n → A0 62 j = bt j ∧ 0 ≤ bt j ∧ bt j < m) {i : Nat} (hi : i < n) {s0 : Int × Int × Int} (hs0 : 0 ≤ s0.1 ∧ s0.1 ≤ 4096 * (i : Int) ∧ -1 ≤ s0.2.1 ∧ s0.2.1 ≤ 63 ∧ -1 ≤ s0.2.2 ∧ s0.2.2 ≤ 4096) (out : ∀ (F : HF) (A : HA) (w : Int), FOff [(44, 47), (44, 48), (44, 49)] F0 F → Off [63, 64] A0 A → (∀ j, j < n → j ≠ i → A 64 j = bt j) → (F 44 47 = vI (mdR (mdP m n dg mk bt) i (m.toNat - 1) s0).1 ∧ F 44 48 = vI (mdR (mdP m n dg mk bt) i (m.toNat - 1) s0).2.1 ∧ F 44 49 = vI (mdR (mdP m n dg mk bt) i (m.toNat - 1) s0).2.2) → QW mX12_mends 2 0 0 (fun o F' A' al' => o = .inl none ∧ al' = al ∧ FOff [(44, 47), (44, 48), (44, 49)] F0 F' ∧ Off [63, 64] A0 A' ∧ (F' 44 47 = vI T.1 ∧ F' 44 48 = vI T.2.1 ∧ F' 44 49 = vI T.2.2)) 0 0 169 [some (vA 44), some (vI i), some (vI w)] [] F A al) : ∀ (k d : Nat) (F : HF) (A : HA), d + k + 1 = m.toNat → FOff [(44, 47), (44, 48), (44, 49)] F0 F → Off [63, 64] A0 A → (∀ j, j < n → j ≠ i → A 64 j = bt j) → ∀ s, mdR (mdP m n dg mk bt) i d s0 = s → (F 44 47 = vI s.1 ∧ F 44 48 = vI s.2.1 ∧ F 44 49 = vI s.2.2) →
    QW mX12_mends 2 0 0 (fun o F' A' al' => o = .inl none ∧ al' = al ∧ FOff [(44, 47), (44, 48), (44, 49)] F0 F' ∧ Off [63, 64] A0 A' ∧ (F' 44 47 = vI T.1 ∧ F' 44 48 = vI T.2.1 ∧ F' 44 49 = vI T.2.2)) 0 0 71 [some (vA 44), some (vI i), some (vI (d + 1 : Nat))] [] F A al := by
  intro k
  induction k with
  | zero =>
    intro d F A hd hF hA h64 s es hs
    have hX := hX0.foff hF (by decide)
    have hm' : F 44 4 = vI m := (hF 44 4 (by decide)).trans hm
    have hdg' : F 44 35 = vI dg := (hF 44 35 (by decide)).trans hdg
    have hn' : F 44 33 = vI n := (hF 44 33 (by decide)).trans hn
    obtain ⟨f47, f48, f49⟩ := id hs
    have ed : d = m.toNat - 1 := by omega
    subst ed
    subst es
    refine q_iload_n eX12_mends_71 rfl ?_
    refine q_aload_n eX12_mends_72 rfl ?_
    refine q_getfield eX12_mends_73 gf_X12_22 (hK _ (by decide) (by decide)) (by decide) (by first | assumption) ?_
    refine q_icmp_ge (tgt := 169) eX12_mends_76 (by decide) (by first | assumption | exact ⟨by omega, by omega⟩) (by first | assumption | exact ⟨by omega, by omega⟩) (fun c76 => ?_) (fun c76 => ?_)
    · exact out F A _ hF hA h64 hs
    · exact absurd c76 (by omega)
  | succ k ih =>
    intro d F A hd hF hA h64 s es hs
    have hX := hX0.foff hF (by decide)
    have hm' : F 44 4 = vI m := (hF 44 4 (by decide)).trans hm
    have hdg' : F 44 35 = vI dg := (hF 44 35 (by decide)).trans hdg
    have hn' : F 44 33 = vI n := (hF 44 33 (by decide)).trans hn
    obtain ⟨f47, f48, f49⟩ := id hs
    have hbi := hbt i hi
    have hb62 : A 62 i = bt i := (congrFun (hA 62 (by decide)) i).trans hbi.1
    have hsr := mdR_rg (P := mdP m n dg mk bt) (i := i) (by omega) hs0 d (by omega)
    rw [es] at hsr
    have hes : mdR (mdP m n dg mk bt) i (d + 1) s0 = stM (mdP m n dg mk bt i (d + 1)) i (d + 1 : Nat) s := by rw [← es]; rfl
    have h64b : ∀ j, j < n → (up2 A 64 i ((bt i + (d + 1 : Nat)) % m)) 64 j = tdM m bt i (d + 1) j ∧ 0 ≤ tdM m bt i (d + 1) j ∧ tdM m bt i (d + 1) j < m := by
      intro j hj
      rw [up2_at]
      unfold tdM upc
      by_cases he : j = i
      · rw [if_pos he, if_pos he]
        exact ⟨rfl, Int.emod_nonneg _ (by omega), Int.emod_lt_of_pos _ (by omega)⟩
      · rw [if_neg he, if_neg he]
        exact ⟨h64 j hj he, (hbt j hj).2⟩
    have hmk' : ∀ j, j ≤ dg → (up2 A 64 i ((bt i + (d + 1 : Nat)) % m)) 56 j = mk j ∧ 0 ≤ mk j ∧ mk j < m := fun j hj => by
      rw [up2_row (by decide), hA 56 (by decide)]
      exact hmk j hj
    have hlr : ∀ j, 0 ≤ lfE m n dg mk (tdM m bt i (d + 1)) j ∧ lfE m n dg mk (tdM m bt i (d + 1)) j < m := fun j => rs_range (by omega) _ _ (fun x => by
      unfold nbE
      split
      · next hx => exact (h64b x hx).2
      · exact ⟨by decide, by omega⟩) j
    refine q_iload_n eX12_mends_71 rfl ?_
    refine q_aload_n eX12_mends_72 rfl ?_
    refine q_getfield eX12_mends_73 gf_X12_22 (hK _ (by decide) (by decide)) (by decide) (by first | assumption | exact (up2_ne (by decide)).trans f48 | exact (up2_ne (by decide)).trans f49 | exact (up2_ne (by decide)).trans ((up2_ne (by decide)).trans f48)) ?_
    refine q_icmp_ge (tgt := 169) eX12_mends_76 (by decide) (by first | assumption | exact ⟨by omega, by omega⟩) (by first | assumption | exact ⟨by omega, by omega⟩) (fun c76 => ?_) (fun c76 => ?_)
    · exact absurd c76 (by omega)
    · refine q_aload_n eX12_mends_79 rfl ?_
      refine q_getfield eX12_mends_80 gf_X12_96 (hK _ (by decide) (by decide)) (by decide) (mr_44_50 hX) ?_
      refine q_iload_n eX12_mends_83 rfl ?_
      refine q_aload_n eX12_mends_84 rfl ?_
      refine q_getfield eX12_mends_85 gf_X12_90 (hK _ (by decide) (by decide)) (by decide) (mr_44_44 hX) ?_
      refine q_iload_n eX12_mends_88 rfl ?_
      refine q_iald eX12_mends_89 (hK _ (by decide) (by decide)) (by omega) (by omega) ?_
      rw [show A 62 (i : Int).toNat = bt i from hb62]
      refine q_iload_n eX12_mends_90 rfl ?_
      refine q_iadd eX12_mends_91 ?_
      refine q_aload_n eX12_mends_92 rfl ?_
      refine q_getfield eX12_mends_93 gf_X12_22 (hK _ (by decide) (by decide)) (by decide) (by first | assumption | exact (up2_ne (by decide)).trans f48 | exact (up2_ne (by decide)).trans f49 | exact (up2_ne (by decide)).trans ((up2_ne (by decide)).trans f48)) ?_
      refine q_irem eX12_mends_96 (by omega) (by omega) (by omega) (by omega) ?_
      refine q_iast eX12_mends_97 (hK _ (by decide) (by decide)) (by omega) (by omega) ?_
      refine q_aload_n eX12_mends_98 rfl ?_
      refine q_aload_n eX12_mends_99 rfl ?_
      refine q_getfield eX12_mends_100 gf_X12_96 (hK _ (by decide) (by decide)) (by decide) (mr_44_50 hX) ?_
      refine q_callVV [vA 64] (M1 := mX12_leaves) eX12_mends_103 mf_X12_leaves lk_X12_418 (hK _ (by decide) (by decide)) (mo_leaves (a := 64) (bt := tdM m bt i (d + 1)) hK hX hm' hdg' hn' hm2 hm4 hn63 hdn hmk' (hK _ (by decide) (by decide)) (by omega) (by decide) h64b) (by decide) (by decide) (by decide) (Nat.le_of_ble_eq_true rfl) rfl (fun A3 h3 => ?_)
      obtain ⟨o3, v3⟩ := h3
      have hofr : InR (ofE (lfE m n dg mk (tdM m bt i (d + 1))) dg) := by
        unfold ofE
        split
        · exact ⟨by decide, by decide⟩
        · exact ⟨by decide, by decide⟩
      have hA3 : Off [63, 64] A0 A3 := (hA.trans (Off.up (l := [63, 64]) (a := 64) (i := i) (v := (bt i + (d + 1 : Nat)) % m) (by simp))).trans (o3.mono (by decide))
      have h643 : ∀ j, j < n → j ≠ i → A3 64 j = bt j := fun j hj he => by rw [o3 64 (by decide), up2_ne (by omega)]; exact h64 j hj he
      have hbn := fun F' (hF' : FOff [(44, 47), (44, 48), (44, 49)] F0 F') => ih (d + 1) F' A3 (by omega) hF' hA3 h643 _ hes
      refine q_aload_n eX12_mends_106 rfl ?_
      refine q_callVP [] (M1 := mX12_isLeft) eX12_mends_107 mf_X12_isLeft lk_X12_422 (hK _ (by decide) (by decide)) (mo_isLeft (lf := lfE m n dg mk (tdM m bt i (d + 1))) hK hX hdg' (by omega) (fun j hj => ⟨v3 j (by omega), by have := hlr j; exact ⟨by omega, by omega⟩⟩)) (by decide) (by decide) (by decide) (Nat.le_of_ble_eq_true rfl) rfl ?_
      refine q_if_ne (tgt := 163) eX12_mends_110 (by decide) hofr (fun c110 => ?_) (fun c110 => ?_)
      · refine q_iinc eX12_mends_163 rfl (by decide) rfl ?_
        refine q_goto (tgt := 71) eX12_mends_166 (by decide) ?_
        rw [show stM (mdP m n dg mk bt i (d + 1)) i ((d + 1 : Nat) : Int) s = s from if_neg (fun q => c110 (of_decide_eq_true q))] at hbn
        exact hbn F hF hs
      · refine q_aload_n eX12_mends_113 rfl ?_
        refine q_dup eX12_mends_114 rfl ?_
        refine q_getfield eX12_mends_115 gf_X12_425 (hK _ (by decide) (by decide)) (by decide) (by first | assumption | exact (up2_ne (by decide)).trans f48 | exact (up2_ne (by decide)).trans f49 | exact (up2_ne (by decide)).trans ((up2_ne (by decide)).trans f48)) ?_
        refine q_iconst eX12_mends_118 ?_
        refine q_iadd eX12_mends_119 ?_
        refine q_putfield eX12_mends_120 pf_X12_425 (hK _ (by decide) (by decide)) (by decide) (FT_i rfl) ?_
        refine q_aload_n eX12_mends_123 rfl ?_
        refine q_aload_n eX12_mends_124 rfl ?_
        refine q_getfield eX12_mends_125 gf_X12_428 (hK _ (by decide) (by decide)) (by decide) (by first | assumption | exact (up2_ne (by decide)).trans f48 | exact (up2_ne (by decide)).trans f49 | exact (up2_ne (by decide)).trans ((up2_ne (by decide)).trans f48)) ?_
        refine q_iconst eX12_mends_128 ?_
        refine q_icmp_ne (tgt := 136) eX12_mends_129 (by decide) (by first | assumption | exact ⟨by omega, by omega⟩) (by first | assumption | exact ⟨by omega, by omega⟩) (fun c129 => ?_) (fun c129 => ?_)
        · refine q_aload_n eX12_mends_136 rfl ?_
          refine q_getfield eX12_mends_137 gf_X12_431 (hK _ (by decide) (by decide)) (by decide) (by first | assumption | exact (up2_ne (by decide)).trans f48 | exact (up2_ne (by decide)).trans f49 | exact (up2_ne (by decide)).trans ((up2_ne (by decide)).trans f48)) ?_
          refine q_putfield eX12_mends_140 pf_X12_431 (hK _ (by decide) (by decide)) (by decide) (FT_i rfl) ?_
          refine q_aload_n eX12_mends_143 rfl ?_
          refine q_aload_n eX12_mends_144 rfl ?_
          refine q_getfield eX12_mends_145 gf_X12_428 (hK _ (by decide) (by decide)) (by decide) (by first | assumption | exact (up2_ne (by decide)).trans f48 | exact (up2_ne (by decide)).trans f49 | exact (up2_ne (by decide)).trans ((up2_ne (by decide)).trans f48)) ?_
          refine q_iconst eX12_mends_148 ?_
          refine q_icmp_ne (tgt := 156) eX12_mends_149 (by decide) (by first | assumption | exact ⟨by omega, by omega⟩) (by first | assumption | exact ⟨by omega, by omega⟩) (fun c149 => ?_) (fun c149 => ?_)
          · refine q_aload_n eX12_mends_156 rfl ?_
            refine q_getfield eX12_mends_157 gf_X12_428 (hK _ (by decide) (by decide)) (by decide) (by first | assumption | exact (up2_ne (by decide)).trans f48 | exact (up2_ne (by decide)).trans f49 | exact (up2_ne (by decide)).trans ((up2_ne (by decide)).trans f48)) ?_
            refine q_putfield eX12_mends_160 pf_X12_428 (hK _ (by decide) (by decide)) (by decide) (FT_i rfl) ?_
            refine q_iinc eX12_mends_163 rfl (by decide) rfl ?_
            refine q_goto (tgt := 71) eX12_mends_166 (by decide) ?_
            have hP : mdP m n dg mk bt i (d + 1) = true := decide_eq_true (by first | exact c110 | omega)
            rw [show stM (mdP m n dg mk bt i (d + 1)) i ((d + 1 : Nat) : Int) s = (s.1 + 1, (if s.2.1 = -1 then (i : Int) else s.2.1), if s.2.1 = -1 then ((d + 1 : Nat) : Int) else s.2.2) from if_pos hP] at hbn
            first
            | exact absurd c129 c149
            | exact absurd c149 c129
            | (rw [if_pos (show s.2.1 = -1 by assumption), if_pos (show s.2.1 = -1 by assumption)] at hbn
               exact hbn _ (((hF.trans (FOff.up (by decide))).trans (FOff.up (by decide))).trans (FOff.up (by decide))) ⟨Eq.trans (up2_ne (by decide)) (Eq.trans (up2_ne (by decide)) (up2_eq _ _ _ _)), up2_eq _ _ _ _, Eq.trans (up2_ne (by decide)) (up2_eq _ _ _ _)⟩)
            | (rw [if_neg (show ¬ s.2.1 = -1 by assumption), if_neg (show ¬ s.2.1 = -1 by assumption)] at hbn
               exact hbn _ (((hF.trans (FOff.up (by decide))).trans (FOff.up (by decide))).trans (FOff.up (by decide))) ⟨Eq.trans (up2_ne (by decide)) (Eq.trans (up2_ne (by decide)) (up2_eq _ _ _ _)), up2_eq _ _ _ _, Eq.trans (up2_ne (by decide)) (up2_eq _ _ _ _)⟩)
          · refine q_iload_n eX12_mends_152 rfl ?_
            refine q_goto (tgt := 160) eX12_mends_153 (by decide) ?_
            refine q_putfield eX12_mends_160 pf_X12_428 (hK _ (by decide) (by decide)) (by decide) (FT_i rfl) ?_
            refine q_iinc eX12_mends_163 rfl (by decide) rfl ?_
            refine q_goto (tgt := 71) eX12_mends_166 (by decide) ?_
            have hP : mdP m n dg mk bt i (d + 1) = true := decide_eq_true (by first | exact c110 | omega)
            rw [show stM (mdP m n dg mk bt i (d + 1)) i ((d + 1 : Nat) : Int) s = (s.1 + 1, (if s.2.1 = -1 then (i : Int) else s.2.1), if s.2.1 = -1 then ((d + 1 : Nat) : Int) else s.2.2) from if_pos hP] at hbn
            first
            | exact absurd c129 c149
            | exact absurd c149 c129
            | (rw [if_pos (show s.2.1 = -1 by assumption), if_pos (show s.2.1 = -1 by assumption)] at hbn
               exact hbn _ (((hF.trans (FOff.up (by decide))).trans (FOff.up (by decide))).trans (FOff.up (by decide))) ⟨Eq.trans (up2_ne (by decide)) (Eq.trans (up2_ne (by decide)) (up2_eq _ _ _ _)), up2_eq _ _ _ _, Eq.trans (up2_ne (by decide)) (up2_eq _ _ _ _)⟩)
            | (rw [if_neg (show ¬ s.2.1 = -1 by assumption), if_neg (show ¬ s.2.1 = -1 by assumption)] at hbn
               exact hbn _ (((hF.trans (FOff.up (by decide))).trans (FOff.up (by decide))).trans (FOff.up (by decide))) ⟨Eq.trans (up2_ne (by decide)) (Eq.trans (up2_ne (by decide)) (up2_eq _ _ _ _)), up2_eq _ _ _ _, Eq.trans (up2_ne (by decide)) (up2_eq _ _ _ _)⟩)
        · refine q_iload_n eX12_mends_132 rfl ?_
          refine q_goto (tgt := 140) eX12_mends_133 (by decide) ?_
          refine q_putfield eX12_mends_140 pf_X12_431 (hK _ (by decide) (by decide)) (by decide) (FT_i rfl) ?_
          refine q_aload_n eX12_mends_143 rfl ?_
          refine q_aload_n eX12_mends_144 rfl ?_
          refine q_getfield eX12_mends_145 gf_X12_428 (hK _ (by decide) (by decide)) (by decide) (by first | assumption | exact (up2_ne (by decide)).trans f48 | exact (up2_ne (by decide)).trans f49 | exact (up2_ne (by decide)).trans ((up2_ne (by decide)).trans f48)) ?_
          refine q_iconst eX12_mends_148 ?_
          refine q_icmp_ne (tgt := 156) eX12_mends_149 (by decide) (by first | assumption | exact ⟨by omega, by omega⟩) (by first | assumption | exact ⟨by omega, by omega⟩) (fun c149 => ?_) (fun c149 => ?_)
          · refine q_aload_n eX12_mends_156 rfl ?_
            refine q_getfield eX12_mends_157 gf_X12_428 (hK _ (by decide) (by decide)) (by decide) (by first | assumption | exact (up2_ne (by decide)).trans f48 | exact (up2_ne (by decide)).trans f49 | exact (up2_ne (by decide)).trans ((up2_ne (by decide)).trans f48)) ?_
            refine q_putfield eX12_mends_160 pf_X12_428 (hK _ (by decide) (by decide)) (by decide) (FT_i rfl) ?_
            refine q_iinc eX12_mends_163 rfl (by decide) rfl ?_
            refine q_goto (tgt := 71) eX12_mends_166 (by decide) ?_
            have hP : mdP m n dg mk bt i (d + 1) = true := decide_eq_true (by first | exact c110 | omega)
            rw [show stM (mdP m n dg mk bt i (d + 1)) i ((d + 1 : Nat) : Int) s = (s.1 + 1, (if s.2.1 = -1 then (i : Int) else s.2.1), if s.2.1 = -1 then ((d + 1 : Nat) : Int) else s.2.2) from if_pos hP] at hbn
            first
            | exact absurd c129 c149
            | exact absurd c149 c129
            | (rw [if_pos (show s.2.1 = -1 by assumption), if_pos (show s.2.1 = -1 by assumption)] at hbn
               exact hbn _ (((hF.trans (FOff.up (by decide))).trans (FOff.up (by decide))).trans (FOff.up (by decide))) ⟨Eq.trans (up2_ne (by decide)) (Eq.trans (up2_ne (by decide)) (up2_eq _ _ _ _)), up2_eq _ _ _ _, Eq.trans (up2_ne (by decide)) (up2_eq _ _ _ _)⟩)
            | (rw [if_neg (show ¬ s.2.1 = -1 by assumption), if_neg (show ¬ s.2.1 = -1 by assumption)] at hbn
               exact hbn _ (((hF.trans (FOff.up (by decide))).trans (FOff.up (by decide))).trans (FOff.up (by decide))) ⟨Eq.trans (up2_ne (by decide)) (Eq.trans (up2_ne (by decide)) (up2_eq _ _ _ _)), up2_eq _ _ _ _, Eq.trans (up2_ne (by decide)) (up2_eq _ _ _ _)⟩)
          · refine q_iload_n eX12_mends_152 rfl ?_
            refine q_goto (tgt := 160) eX12_mends_153 (by decide) ?_
            refine q_putfield eX12_mends_160 pf_X12_428 (hK _ (by decide) (by decide)) (by decide) (FT_i rfl) ?_
            refine q_iinc eX12_mends_163 rfl (by decide) rfl ?_
            refine q_goto (tgt := 71) eX12_mends_166 (by decide) ?_
            have hP : mdP m n dg mk bt i (d + 1) = true := decide_eq_true (by first | exact c110 | omega)
            rw [show stM (mdP m n dg mk bt i (d + 1)) i ((d + 1 : Nat) : Int) s = (s.1 + 1, (if s.2.1 = -1 then (i : Int) else s.2.1), if s.2.1 = -1 then ((d + 1 : Nat) : Int) else s.2.2) from if_pos hP] at hbn
            first
            | exact absurd c129 c149
            | exact absurd c149 c129
            | (rw [if_pos (show s.2.1 = -1 by assumption), if_pos (show s.2.1 = -1 by assumption)] at hbn
               exact hbn _ (((hF.trans (FOff.up (by decide))).trans (FOff.up (by decide))).trans (FOff.up (by decide))) ⟨Eq.trans (up2_ne (by decide)) (Eq.trans (up2_ne (by decide)) (up2_eq _ _ _ _)), up2_eq _ _ _ _, Eq.trans (up2_ne (by decide)) (up2_eq _ _ _ _)⟩)
            | (rw [if_neg (show ¬ s.2.1 = -1 by assumption), if_neg (show ¬ s.2.1 = -1 by assumption)] at hbn
               exact hbn _ (((hF.trans (FOff.up (by decide))).trans (FOff.up (by decide))).trans (FOff.up (by decide))) ⟨Eq.trans (up2_ne (by decide)) (Eq.trans (up2_ne (by decide)) (up2_eq _ _ _ _)), up2_eq _ _ _ _, Eq.trans (up2_ne (by decide)) (up2_eq _ _ _ _)⟩)
set_option maxRecDepth 20000 in
theorem lp_mn1 {m : Int} {dg n : Nat} {mk bt : Nat → Int} {F0 : HF} {A0 : HA} {al : AL} {T : Int × Int × Int} (hK : KM al) (hX0 : MR F0) (hm : F0 44 4 = vI m) (hdg : F0 44 35 = vI dg) (hn : F0 44 33 = vI n) (hm2 : 2 ≤ m) (hm4 : m ≤ 4096) (hn63 : n ≤ 63) (hdn : dg ≤ n) (hmk : ∀ i, i ≤ dg → A0 56 i = mk i ∧ 0 ≤ mk i ∧ mk i < m) (hbt : ∀ j, j < n → A0 62 j = bt j ∧ 0 ≤ bt j ∧ bt j < m) : ∀ (k i : Nat) (F : HF) (A : HA) (l2 : Option LV), i + k = n → FOff [(44, 47), (44, 48), (44, 49)] F0 F → Off [63, 64] A0 A → (∀ j, j < n → A 64 j = bt j) → ∀ s, mdT (mdP m n dg mk bt) (m.toNat - 1) i = s → (F 44 47 = vI s.1 ∧ F 44 48 = vI s.2.1 ∧ F 44 49 = vI s.2.2) → mdT (mdP m n dg mk bt) (m.toNat - 1) n = T →
    QW mX12_mends 2 0 0 (fun o F' A' al' => o = .inl none ∧ al' = al ∧ FOff [(44, 47), (44, 48), (44, 49)] F0 F' ∧ Off [63, 64] A0 A' ∧ (F' 44 47 = vI T.1 ∧ F' 44 48 = vI T.2.1 ∧ F' 44 49 = vI T.2.2)) 0 0 61 [some (vA 44), some (vI i), l2] [] F A al := by
  intro k
  induction k with
  | zero =>
    intro i F A l2 hi hF hA h64 s es hs hT
    have hX := hX0.foff hF (by decide)
    have hm' : F 44 4 = vI m := (hF 44 4 (by decide)).trans hm
    have hdg' : F 44 35 = vI dg := (hF 44 35 (by decide)).trans hdg
    have hn' : F 44 33 = vI n := (hF 44 33 (by decide)).trans hn
    obtain ⟨f47, f48, f49⟩ := id hs
    have ei : i = n := by omega
    subst ei
    rw [hT] at es
    subst es
    refine q_iload_n eX12_mends_61 rfl ?_
    refine q_aload_n eX12_mends_62 rfl ?_
    refine q_getfield eX12_mends_63 gf_X12_69 (hK _ (by decide) (by decide)) (by decide) (by first | assumption) ?_
    refine q_icmp_ge (tgt := 187) eX12_mends_66 (by decide) (by first | assumption | exact ⟨by omega, by omega⟩) (by first | assumption | exact ⟨by omega, by omega⟩) (fun c66 => ?_) (fun c66 => ?_)
    · refine q_retV eX12_mends_187 rfl (by decide) (by decide) ?_
      exact ⟨rfl, rfl, hF, hA, hs⟩
    · exact absurd c66 (by omega)
  | succ k ih =>
    intro i F A l2 hi hF hA h64 s es hs hT
    have hX := hX0.foff hF (by decide)
    have hm' : F 44 4 = vI m := (hF 44 4 (by decide)).trans hm
    have hdg' : F 44 35 = vI dg := (hF 44 35 (by decide)).trans hdg
    have hn' : F 44 33 = vI n := (hF 44 33 (by decide)).trans hn
    obtain ⟨f47, f48, f49⟩ := id hs
    have hsr := mdT_rg (P := mdP m n dg mk bt) (k := m.toNat - 1) (by omega) i (by omega)
    rw [es] at hsr
    have hes : mdT (mdP m n dg mk bt) (m.toNat - 1) (i + 1) = mdR (mdP m n dg mk bt) i (m.toNat - 1) s := by rw [← es]; rfl
    refine q_iload_n eX12_mends_61 rfl ?_
    refine q_aload_n eX12_mends_62 rfl ?_
    refine q_getfield eX12_mends_63 gf_X12_69 (hK _ (by decide) (by decide)) (by decide) (by first | assumption) ?_
    refine q_icmp_ge (tgt := 187) eX12_mends_66 (by decide) (by first | assumption | exact ⟨by omega, by omega⟩) (by first | assumption | exact ⟨by omega, by omega⟩) (fun c66 => ?_) (fun c66 => ?_)
    · exact absurd c66 (by omega)
    · refine q_iconst eX12_mends_69 ?_
      refine q_istore_n eX12_mends_70 (by decide) rfl ?_
      refine lp_mn2 hK hX0 hm hdg hn hm2 hm4 hn63 hdn hmk hbt (show i < n by omega) hsr (fun F2 A2 w hF2 hA2 h642 hs2 => ?_) (m.toNat - 1) 0 F A (by omega) hF hA (fun j hj _ => h64 j hj) s rfl hs
      have hX2 := hX0.foff hF2 (by decide)
      have hb62 : A2 62 i = bt i := (congrFun (hA2 62 (by decide)) i).trans (hbt i (by omega)).1
      refine q_aload_n eX12_mends_169 rfl ?_
      refine q_getfield eX12_mends_170 gf_X12_96 (hK _ (by decide) (by decide)) (by decide) (mr_44_50 hX2) ?_
      refine q_iload_n eX12_mends_173 rfl ?_
      refine q_aload_n eX12_mends_174 rfl ?_
      refine q_getfield eX12_mends_175 gf_X12_90 (hK _ (by decide) (by decide)) (by decide) (mr_44_44 hX2) ?_
      refine q_iload_n eX12_mends_178 rfl ?_
      refine q_iald eX12_mends_179 (hK _ (by decide) (by decide)) (by omega) (by omega) ?_
      rw [show A2 62 (i : Int).toNat = bt i from hb62]
      refine q_iast eX12_mends_180 (hK _ (by decide) (by decide)) (by omega) (by omega) ?_
      refine q_iinc eX12_mends_181 rfl (by decide) rfl ?_
      refine q_goto (tgt := 61) eX12_mends_184 (by decide) ?_
      refine ih (i + 1) F2 _ _ (by omega) hF2 (hA2.trans (Off.up (by simp))) (fun j hj => ?_) _ hes hs2 hT
      rw [up2_at]
      split
      · next he => rw [show j = i from he]
      · next he => exact h642 j hj he
set_option maxRecDepth 20000 in
theorem lp_mn0 {m : Int} {dg n : Nat} {mk bt : Nat → Int} {F0 : HF} {A0 : HA} {al : AL} {T : Int × Int × Int} (hK : KM al) (hX0 : MR F0) (hm : F0 44 4 = vI m) (hdg : F0 44 35 = vI dg) (hn : F0 44 33 = vI n) (hm2 : 2 ≤ m) (hm4 : m ≤ 4096) (hn63 : n ≤ 63) (hdn : dg ≤ n) (hmk : ∀ i, i ≤ dg → A0 56 i = mk i ∧ 0 ≤ mk i ∧ mk i < m) (hbt : ∀ j, j < n → A0 62 j = bt j ∧ 0 ≤ bt j ∧ bt j < m) (hT : mdT (mdP m n dg mk bt) (m.toNat - 1) n = T) : ∀ (k i : Nat) (F : HF) (A : HA) (l2 : Option LV), i + k = n → FOff [(44, 47), (44, 48), (44, 49)] F0 F → Off [63, 64] A0 A → (∀ j, j < i → A 64 j = bt j) → ∀ s, mdT (mdP m n dg mk bt) (m.toNat - 1) 0 = s → (F 44 47 = vI s.1 ∧ F 44 48 = vI s.2.1 ∧ F 44 49 = vI s.2.2) →
    QW mX12_mends 2 0 0 (fun o F' A' al' => o = .inl none ∧ al' = al ∧ FOff [(44, 47), (44, 48), (44, 49)] F0 F' ∧ Off [63, 64] A0 A' ∧ (F' 44 47 = vI T.1 ∧ F' 44 48 = vI T.2.1 ∧ F' 44 49 = vI T.2.2)) 0 0 33 [some (vA 44), some (vI i), l2] [] F A al := by
  intro k
  induction k with
  | zero =>
    intro i F A l2 hi hF hA h64 s es hs
    have hX := hX0.foff hF (by decide)
    have hm' : F 44 4 = vI m := (hF 44 4 (by decide)).trans hm
    have hdg' : F 44 35 = vI dg := (hF 44 35 (by decide)).trans hdg
    have hn' : F 44 33 = vI n := (hF 44 33 (by decide)).trans hn
    obtain ⟨f47, f48, f49⟩ := id hs
    have ei : i = n := by omega
    subst ei
    refine q_iload_n eX12_mends_33 rfl ?_
    refine q_aload_n eX12_mends_34 rfl ?_
    refine q_getfield eX12_mends_35 gf_X12_69 (hK _ (by decide) (by decide)) (by decide) (by first | assumption) ?_
    refine q_icmp_ge (tgt := 59) eX12_mends_38 (by decide) (by first | assumption | exact ⟨by omega, by omega⟩) (by first | assumption | exact ⟨by omega, by omega⟩) (fun c38 => ?_) (fun c38 => ?_)
    · refine q_iconst eX12_mends_59 ?_
      refine q_istore_n eX12_mends_60 (by decide) rfl ?_
      exact lp_mn1 hK hX0 hm hdg hn hm2 hm4 hn63 hdn hmk hbt i 0 F A l2 (by omega) hF hA h64 s es hs hT
    · exact absurd c38 (by omega)
  | succ k ih =>
    intro i F A l2 hi hF hA h64 s es hs
    have hX := hX0.foff hF (by decide)
    have hm' : F 44 4 = vI m := (hF 44 4 (by decide)).trans hm
    have hdg' : F 44 35 = vI dg := (hF 44 35 (by decide)).trans hdg
    have hn' : F 44 33 = vI n := (hF 44 33 (by decide)).trans hn
    obtain ⟨f47, f48, f49⟩ := id hs
    have hb62 : A 62 i = bt i := (congrFun (hA 62 (by decide)) i).trans (hbt i (by omega)).1
    refine q_iload_n eX12_mends_33 rfl ?_
    refine q_aload_n eX12_mends_34 rfl ?_
    refine q_getfield eX12_mends_35 gf_X12_69 (hK _ (by decide) (by decide)) (by decide) (by first | assumption) ?_
    refine q_icmp_ge (tgt := 59) eX12_mends_38 (by decide) (by first | assumption | exact ⟨by omega, by omega⟩) (by first | assumption | exact ⟨by omega, by omega⟩) (fun c38 => ?_) (fun c38 => ?_)
    · exact absurd c38 (by omega)
    · refine q_aload_n eX12_mends_41 rfl ?_
      refine q_getfield eX12_mends_42 gf_X12_96 (hK _ (by decide) (by decide)) (by decide) (mr_44_50 hX) ?_
      refine q_iload_n eX12_mends_45 rfl ?_
      refine q_aload_n eX12_mends_46 rfl ?_
      refine q_getfield eX12_mends_47 gf_X12_90 (hK _ (by decide) (by decide)) (by decide) (mr_44_44 hX) ?_
      refine q_iload_n eX12_mends_50 rfl ?_
      refine q_iald eX12_mends_51 (hK _ (by decide) (by decide)) (by omega) (by omega) ?_
      rw [show A 62 (i : Int).toNat = bt i from hb62]
      refine q_iast eX12_mends_52 (hK _ (by decide) (by decide)) (by omega) (by omega) ?_
      refine q_iinc eX12_mends_53 rfl (by decide) rfl ?_
      refine q_goto (tgt := 33) eX12_mends_56 (by decide) ?_
      refine ih (i + 1) F _ _ (by omega) hF (hA.trans (Off.up (by simp))) (fun j hj => ?_) s es hs
      rw [up2_at]
      split
      · next he => rw [show j = i from he]
      · next he => exact h64 j (by have : j ≠ i := he; omega)
set_option maxRecDepth 20000 in
theorem mo_mends {m : Int} {dg n : Nat} {mk bt : Nat → Int} {F : HF} {A : HA} {al : AL} (hK : KM al) (hX : MR F) (hm : F 44 4 = vI m) (hdg : F 44 35 = vI dg) (hn : F 44 33 = vI n) (hm2 : 2 ≤ m) (hm4 : m ≤ 4096) (hn63 : n ≤ 63) (hdn : dg ≤ n) (hmk : ∀ i, i ≤ dg → A 56 i = mk i ∧ 0 ≤ mk i ∧ mk i < m) (hbt : ∀ j, j < n → A 62 j = bt j ∧ 0 ≤ bt j ∧ bt j < m)  : QE 2 0 0 mX12_mends [vA 44] F A al (fun o F' A' al' => o = .inl none ∧ al' = al ∧ FOff [(44, 47), (44, 48), (44, 49)] F F' ∧ Off [63, 64] A A' ∧ (F' 44 47 = vI (mndM m n dg mk bt).1 ∧ F' 44 48 = vI (mndM m n dg mk bt).2.1 ∧ F' 44 49 = vI (mndM m n dg mk bt).2.2)) := by
  refine QE.mk (by decide +kernel) (Nat.le_of_ble_eq_true rfl) ?_
  have hlr : ∀ j, 0 ≤ lfE m n dg mk bt j ∧ lfE m n dg mk bt j < m := fun j => rs_range (by omega) _ _ (fun x => by
    unfold nbE
    split
    · next hx => exact (hbt x hx).2
    · exact ⟨by decide, by omega⟩) j
  have hofr : InR (ofE (lfE m n dg mk bt) dg) := by
    unfold ofE
    split
    · exact ⟨by decide, by decide⟩
    · exact ⟨by decide, by decide⟩
  refine q_aload_n eX12_mends_0 rfl ?_
  refine q_iconst eX12_mends_1 ?_
  refine q_putfield eX12_mends_2 pf_X12_425 (hK _ (by decide) (by decide)) (by decide) (FT_i rfl) ?_
  refine q_aload_n eX12_mends_5 rfl ?_
  refine q_iconst eX12_mends_6 ?_
  refine q_putfield eX12_mends_7 pf_X12_428 (hK _ (by decide) (by decide)) (by decide) (FT_i rfl) ?_
  refine q_aload_n eX12_mends_10 rfl ?_
  refine q_iconst eX12_mends_11 ?_
  refine q_putfield eX12_mends_12 pf_X12_431 (hK _ (by decide) (by decide)) (by decide) (FT_i rfl) ?_
  have hF3 : FOff [(44, 47), (44, 48), (44, 49)] F (up2 (up2 (up2 F 44 47 (vI 0)) 44 48 (vI (-1))) 44 49 (vI (-1))) := ((FOff.up (by decide)).trans (FOff.up (by decide))).trans (FOff.up (by decide))
  have hs3 : (up2 (up2 (up2 F 44 47 (vI 0)) 44 48 (vI (-1))) 44 49 (vI (-1))) 44 47 = vI 0 ∧ (up2 (up2 (up2 F 44 47 (vI 0)) 44 48 (vI (-1))) 44 49 (vI (-1))) 44 48 = vI (-1) ∧ (up2 (up2 (up2 F 44 47 (vI 0)) 44 48 (vI (-1))) 44 49 (vI (-1))) 44 49 = vI (-1) := ⟨Eq.trans (up2_ne (by decide)) (Eq.trans (up2_ne (by decide)) (up2_eq _ _ _ _)), Eq.trans (up2_ne (by decide)) (up2_eq _ _ _ _), up2_eq _ _ _ _⟩
  generalize up2 (up2 (up2 F 44 47 (vI 0)) 44 48 (vI (-1))) 44 49 (vI (-1)) = F3 at hF3 hs3
  have hX3 := hX.foff hF3 (by decide)
  have hm' : F3 44 4 = vI m := (hF3 44 4 (by decide)).trans hm
  have hdg' : F3 44 35 = vI dg := (hF3 44 35 (by decide)).trans hdg
  have hn' : F3 44 33 = vI n := (hF3 44 33 (by decide)).trans hn
  refine q_aload_n eX12_mends_15 rfl ?_
  refine q_aload_n eX12_mends_16 rfl ?_
  refine q_getfield eX12_mends_17 gf_X12_90 (hK _ (by decide) (by decide)) (by decide) (mr_44_44 hX3) ?_
  refine q_callVV [vA 62] (M1 := mX12_leaves) eX12_mends_20 mf_X12_leaves lk_X12_418 (hK _ (by decide) (by decide)) (mo_leaves (a := 62) (bt := bt) hK hX3 hm' hdg' hn' hm2 hm4 hn63 hdn hmk (hK _ (by decide) (by decide)) (by omega) (by decide) hbt) (by decide) (by decide) (by decide) (Nat.le_of_ble_eq_true rfl) rfl (fun A3 h3 => ?_)
  obtain ⟨o3, v3⟩ := h3
  refine q_aload_n eX12_mends_23 rfl ?_
  refine q_callVP [] (M1 := mX12_isLeft) eX12_mends_24 mf_X12_isLeft lk_X12_422 (hK _ (by decide) (by decide)) (mo_isLeft (lf := lfE m n dg mk bt) hK hX3 hdg' (by omega) (fun j hj => ⟨v3 j (by omega), by have := hlr j; exact ⟨by omega, by omega⟩⟩)) (by decide) (by decide) (by decide) (Nat.le_of_ble_eq_true rfl) rfl ?_
  refine q_if_ne (tgt := 31) eX12_mends_27 (by decide) hofr (fun c27 => ?_) (fun c27 => ?_)
  · refine q_iconst eX12_mends_31 ?_
    refine q_istore_n eX12_mends_32 (by decide) rfl ?_
    have e0 : mndM m n dg mk bt = mdT (mdP m n dg mk bt) (m.toNat - 1) n := if_neg (by first | exact c27 | omega)
    rw [e0]
    exact lp_mn0 hK (F0 := F) (A0 := A) hX hm hdg hn hm2 hm4 hn63 hdn hmk hbt rfl n 0 F3 A3 _ (by omega) hF3 (o3.mono (by decide)) (fun j hj => by omega) _ rfl hs3
  · refine q_retV eX12_mends_30 rfl (by decide) (by decide) ?_
    have e0 : mndM m n dg mk bt = (0, -1, -1) := if_pos (by first | exact c27 | omega)
    rw [e0]
    exact ⟨rfl, rfl, hF3, o3.mono (by decide), hs3⟩
def mndR (m : Int) (n dg : Nat) (mk : Nat → Int) (w : Option (Nat → Int)) (i : Int) : Option Int := match w with
  | none => none
  | some bt => if 0 ≤ i ∧ i ≤ 2 then some (if i = 0 then (mndM m n dg mk bt).1 else if i = 1 then (mndM m n dg mk bt).2.1 else (mndM m n dg mk bt).2.2) else none
set_option maxRecDepth 20000 in
theorem mo_mend {i : Int} {p e r q N : Nat} {m : Int} {f : Nat → Int} {g : Int} {rt lg pl_ tp mk ck : Nat → Int} {len n dg : Nat} {fp set : Int} {w : Option (Nat → Int)} {S : List Int} {F : HF} {A : HA} {al : AL} (hK : KM al) (h0 : MI p e r q N m f g rt lg pl_ len tp fp n set dg mk ck w S F A) (hmk : ∀ i, i ≤ dg → 0 ≤ mk i ∧ mk i < m) (hi : InR i) : QE 3 0 0 mX12_mend [vA 44, vI i] F A al (PMP (mndR m n dg mk w i) F A al) := by
  refine QE.mk (by decide +kernel) (Nat.le_of_ble_eq_true rfl) ?_
  have hi_1 := hi.1
  have hi_2 := hi.2
  have h := h0.t0
  generalize hF0 : up2 F 44 0 (vI 0) = F1 at h
  have ht0 : F1 44 0 = vI 0 := by rw [← hF0]; exact up2_eq _ _ _ _
  have hoF : FOff SCF F F1 := by rw [← hF0]; exact FOff.up (by decide)
  obtain ⟨⟨hX, hT, h3r, hMH⟩, h2, ⟨hl0, hl1, hta⟩, h4, ⟨⟨h51, h52, h53⟩, h5m, h5c, ⟨hn1, hn63, hnq, hs0, hs1⟩, hdn⟩, h7, ⟨⟨h81, h82⟩, h83⟩⟩ := id h
  obtain ⟨hG, hp, he, hq, hN, hg, ⟨hp2, hp7, he1, he4, hme, hqe, hq3, hNm, hgE⟩, hP, hL, hR⟩ := id hT
  obtain ⟨hm, hr, hf, hm2, hr1, hr6, hN4⟩ := id hG
  have hm4 := hG.m4
  have hq2 := hT.q2
  have hN9 : (N : Int) ≤ 4096 := by rw [hNm]; exact hN4
  have hE : ∀ x : Int, 0 ≤ x ∧ x ≤ (N : Int) - 1 → El m r x := fun x h => ⟨h.1, by rw [← hNm]; omega⟩
  have hmk2 : ∀ i, i ≤ dg → A 56 i = mk i ∧ 0 ≤ mk i ∧ mk i < m := fun i hi => ⟨h5m i (by omega), hmk i hi⟩
  have hNp : 1 ≤ N := by have := el_one (m := m) (r := r) hm2 hr1; have := this.2; omega
  refine q_aload_n eX12_mend_0 rfl ?_
  refine q_iconst eX12_mend_1 ?_
  refine q_putfield eX12_mend_2 pf_X12_1 (hK _ (by decide) (by decide)) (by decide) (FT_i rfl) ?_
  rw [hF0]
  cases w with
  | none =>
    have hw : F1 44 45 = vI 0 := h7
    refine q_aload_n eX12_mend_5 rfl ?_
    refine q_aload_n eX12_mend_6 rfl ?_
    refine q_getfield eX12_mend_7 gf_X12_160 (hK _ (by decide) (by decide)) (by decide) (by first | assumption) ?_
    refine q_if_eq (tgt := 29) eX12_mend_10 (by decide) (by first | assumption | exact ⟨by omega, by omega⟩) (fun c10 => ?_) (fun c10 => ?_)
    · refine q_iconst eX12_mend_29 ?_
      refine q_iconst eX12_mend_30 ?_
      refine q_right0 eX12_mend_31 lk_X12_304 hK ht0 (by decide) (by decide) (by decide) (Nat.le_of_ble_eq_true rfl) ?_
      refine q_if_ne (tgt := 39) eX12_mend_34 (by decide) (by first | assumption | exact ⟨by omega, by omega⟩) (fun c34 => ?_) (fun c34 => ?_)
      · exact absurd rfl c34
      · refine q_iconst eX12_mend_37 ?_
        refine q_retI eX12_mend_38 rfl (by decide) (by decide) ?_
        exact PMP_t rfl hoF Off.rfl'
    · exact absurd rfl c10
  | some bt =>
    obtain ⟨hw, hbt⟩ := id h7
    refine q_aload_n eX12_mend_5 rfl ?_
    refine q_aload_n eX12_mend_6 rfl ?_
    refine q_getfield eX12_mend_7 gf_X12_160 (hK _ (by decide) (by decide)) (by decide) (by first | assumption | exact s9.1 | exact s9.2.1 | exact s9.2.2) ?_
    refine q_if_eq (tgt := 29) eX12_mend_10 (by decide) (by first | assumption | exact ⟨by omega, by omega⟩) (fun c10 => ?_) (fun c10 => ?_)
    · exact absurd c10 (by decide)
    · refine q_iload_n eX12_mend_13 rfl ?_
      refine q_i2l eX12_mend_14 (by first | assumption | exact ⟨by omega, by omega⟩) ?_
      refine q_lconst (v := 0) eX12_mend_15 (by decide +kernel) ?_
      refine q_ldc2 eX12_mend_16 kc_X12_130 ?_
      refine q_callSP [vJ (i), vJ (0), vJ (2)] (M1 := mX12_isIn) eX12_mend_19 mf_X12_isIn lk_X12_206 (mo_isIn (by exact ⟨by omega, by omega⟩) (by exact ⟨by omega, by omega⟩) (by exact ⟨by omega, by omega⟩)) (by decide) (by decide) (by decide) (Nat.le_of_ble_eq_true rfl) rfl ?_
      refine q_if_eq (tgt := 29) eX12_mend_22 (by decide) ir_ite (fun c22 => ?_) (fun c22 => ?_)
      · refine q_iconst eX12_mend_29 ?_
        refine q_iconst eX12_mend_30 ?_
        refine q_right0 eX12_mend_31 lk_X12_304 hK ht0 (by decide) (by decide) (by decide) (Nat.le_of_ble_eq_true rfl) ?_
        refine q_if_ne (tgt := 39) eX12_mend_34 (by decide) (by first | assumption | exact ⟨by omega, by omega⟩) (fun c34 => ?_) (fun c34 => ?_)
        · exact absurd rfl c34
        · refine q_iconst eX12_mend_37 ?_
          refine q_retI eX12_mend_38 rfl (by decide) (by decide) ?_
          first
          | (refine PMP_t ?_ hoF Off.rfl'
             show (if 0 ≤ i ∧ i ≤ 2 then some (if i = 0 then (mndM m n dg mk bt).1 else if i = 1 then (mndM m n dg mk bt).2.1 else (mndM m n dg mk bt).2.2) else none) = none
             rw [if_neg (i0 c22)])
          | (refine PMP_r ?_ ((f9 44 0 (by decide)).trans ht0) (hoF.trans (f9.mono (by decide))) (o9.mono (by decide))
             show (if 0 ≤ i ∧ i ≤ 2 then some (if i = 0 then (mndM m n dg mk bt).1 else if i = 1 then (mndM m n dg mk bt).2.1 else (mndM m n dg mk bt).2.2) else none) = some _
             rw [if_pos hi22]
             first | rw [if_pos (by omega)] | rw [if_neg (by omega), if_pos (by omega)] | rw [if_neg (by omega), if_neg (by omega)])
      · refine q_iconst eX12_mend_25 ?_
        refine q_goto (tgt := 30) eX12_mend_26 (by decide) ?_
        refine q_iconst eX12_mend_30 ?_
        refine q_right1 eX12_mend_31 lk_X12_304 hK ht0 (by decide) (by decide) (by decide) (Nat.le_of_ble_eq_true rfl) ?_
        refine q_if_ne (tgt := 39) eX12_mend_34 (by decide) (by first | assumption | exact ⟨by omega, by omega⟩) (fun c34 => ?_) (fun c34 => ?_)
        · have hi22 := i1 c22
          refine q_aload_n eX12_mend_39 rfl ?_
          refine q_callV [] (M1 := mX12_mends) eX12_mend_40 mf_X12_mends lk_X12_434 (hK _ (by decide) (by decide)) (mo_mends (bt := bt) hK hX hm h53 h51 hm2 hm4 hn63 hdn hmk2 hbt) (by intro E F A al h; cases h.1) (by decide) (by decide) (by decide) (Nat.le_of_ble_eq_true rfl) (st := []) rfl (fun v9 F9 A9 al9 h9 => ?_)
          obtain ⟨e9, rfl, f9, o9, s9⟩ := h9
          obtain rfl := Sum.inl.inj e9
          refine q_iload_n eX12_mend_43 rfl ?_
          refine q_if_ne (tgt := 54) eX12_mend_44 (by decide) (by first | assumption | exact ⟨by omega, by omega⟩) (fun c44 => ?_) (fun c44 => ?_)
          · refine q_iload_n eX12_mend_54 rfl ?_
            refine q_iconst eX12_mend_55 ?_
            refine q_icmp_ne (tgt := 66) eX12_mend_56 (by decide) (by first | assumption | exact ⟨by omega, by omega⟩) (by first | assumption | exact ⟨by omega, by omega⟩) (fun c56 => ?_) (fun c56 => ?_)
            · refine q_aload_n eX12_mend_66 rfl ?_
              refine q_getfield eX12_mend_67 gf_X12_431 (hK _ (by decide) (by decide)) (by decide) (by first | assumption | exact s9.1 | exact s9.2.1 | exact s9.2.2) ?_
              refine q_retI eX12_mend_70 rfl (by decide) (by decide) ?_
              first
              | (refine PMP_t ?_ hoF Off.rfl'
                 show (if 0 ≤ i ∧ i ≤ 2 then some (if i = 0 then (mndM m n dg mk bt).1 else if i = 1 then (mndM m n dg mk bt).2.1 else (mndM m n dg mk bt).2.2) else none) = none
                 rw [if_neg (i0 c22)])
              | (refine PMP_r ?_ ((f9 44 0 (by decide)).trans ht0) (hoF.trans (f9.mono (by decide))) (o9.mono (by decide))
                 show (if 0 ≤ i ∧ i ≤ 2 then some (if i = 0 then (mndM m n dg mk bt).1 else if i = 1 then (mndM m n dg mk bt).2.1 else (mndM m n dg mk bt).2.2) else none) = some _
                 rw [if_pos hi22]
                 first | rw [if_pos (by omega)] | rw [if_neg (by omega), if_pos (by omega)] | rw [if_neg (by omega), if_neg (by omega)])
            · refine q_aload_n eX12_mend_59 rfl ?_
              refine q_getfield eX12_mend_60 gf_X12_428 (hK _ (by decide) (by decide)) (by decide) (by first | assumption | exact s9.1 | exact s9.2.1 | exact s9.2.2) ?_
              refine q_goto (tgt := 70) eX12_mend_63 (by decide) ?_
              refine q_retI eX12_mend_70 rfl (by decide) (by decide) ?_
              first
              | (refine PMP_t ?_ hoF Off.rfl'
                 show (if 0 ≤ i ∧ i ≤ 2 then some (if i = 0 then (mndM m n dg mk bt).1 else if i = 1 then (mndM m n dg mk bt).2.1 else (mndM m n dg mk bt).2.2) else none) = none
                 rw [if_neg (i0 c22)])
              | (refine PMP_r ?_ ((f9 44 0 (by decide)).trans ht0) (hoF.trans (f9.mono (by decide))) (o9.mono (by decide))
                 show (if 0 ≤ i ∧ i ≤ 2 then some (if i = 0 then (mndM m n dg mk bt).1 else if i = 1 then (mndM m n dg mk bt).2.1 else (mndM m n dg mk bt).2.2) else none) = some _
                 rw [if_pos hi22]
                 first | rw [if_pos (by omega)] | rw [if_neg (by omega), if_pos (by omega)] | rw [if_neg (by omega), if_neg (by omega)])
          · refine q_aload_n eX12_mend_47 rfl ?_
            refine q_getfield eX12_mend_48 gf_X12_425 (hK _ (by decide) (by decide)) (by decide) (by first | assumption | exact s9.1 | exact s9.2.1 | exact s9.2.2) ?_
            refine q_goto (tgt := 70) eX12_mend_51 (by decide) ?_
            refine q_retI eX12_mend_70 rfl (by decide) (by decide) ?_
            first
            | (refine PMP_t ?_ hoF Off.rfl'
               show (if 0 ≤ i ∧ i ≤ 2 then some (if i = 0 then (mndM m n dg mk bt).1 else if i = 1 then (mndM m n dg mk bt).2.1 else (mndM m n dg mk bt).2.2) else none) = none
               rw [if_neg (i0 c22)])
            | (refine PMP_r ?_ ((f9 44 0 (by decide)).trans ht0) (hoF.trans (f9.mono (by decide))) (o9.mono (by decide))
               show (if 0 ≤ i ∧ i ≤ 2 then some (if i = 0 then (mndM m n dg mk bt).1 else if i = 1 then (mndM m n dg mk bt).2.1 else (mndM m n dg mk bt).2.2) else none) = some _
               rw [if_pos hi22]
               first | rw [if_pos (by omega)] | rw [if_neg (by omega), if_pos (by omega)] | rw [if_neg (by omega), if_neg (by omega)])
        · exact absurd c34 (by decide)
