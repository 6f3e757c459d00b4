/-! the model: all words of the code -/
def gwM (m : Int) (dg : Nat) (mk : Nat → Int) (t : Nat) (d : Int) (row : Nat → Int) : Nat → Int := fun j => (row j + d * (if t ≤ j ∧ j ≤ t + dg then mk (j - t) else 0)) % m
def foF {S : Type} (g : Nat → S → S) : Nat → S → S
  | 0, s => s
  | d + 1, s => g d (foF g d s)
def goF {S : Type} (stp : (Nat → Int) → S → S) (m : Int) (dg : Nat) (mk : Nat → Int) : Nat → Nat → (Nat → Int) → S → S
  | 0, _, row, s => stp row s
  | k + 1, t, row, s => foF (fun d s => goF stp m dg mk k (t + 1) (gwM m dg mk t d row) s) m.toNat s
theorem gwM_rg {m d : Int} {dg t : Nat} {mk row : Nat → Int} (hm : 0 < m) (j : Nat) : 0 ≤ gwM m dg mk t d row j ∧ gwM m dg mk t d row j < m := ⟨Int.emod_nonneg _ (by omega), Int.emod_lt_of_pos _ hm⟩
theorem le_half {m : Int} {nu : Nat → Int} (hm : 0 ≤ m) : ∀ k, leE m nu k ≤ k * (m / 2)
  | 0 => by show (0 : Int) ≤ ((0 : Nat) : Int) * (m / 2); omega
  | k + 1 => by
    have ih := le_half (nu := nu) hm k
    have e : ((k + 1 : Nat) : Int) * (m / 2) = (k : Int) * (m / 2) + m / 2 := by
      rw [Int.natCast_succ, Int.add_mul, Int.one_mul]
    unfold leE
    rw [e]
    split
    · split <;> omega
    · omega
theorem le_cap {p e r q n : Nat} {m : Int} (hp2 : 2 ≤ p) (hp7 : p ≤ 7) (he4 : e ≤ 4) (hr1 : 1 ≤ r) (hm2 : 2 ≤ m) (hme : m = (p : Int) ^ e) (hqe : q = p ^ r) (hN4 : m ^ r ≤ 4096) (hn1 : 1 ≤ n) (hn63 : n ≤ 63) (hnq : (q - 1) % n = 0) : (n : Int) * (m / 2) ≤ 8000 := by
  by_cases hr : r = 1
  · subst hr
    have hq : q = p := by rw [hqe, Nat.pow_one]
    have hnp : n ≤ 6 := by
      have := Nat.le_of_dvd (show 0 < q - 1 by omega) (Nat.dvd_of_mod_eq_zero hnq)
      omega
    have hm7 : m ≤ 2401 := by
      rw [hme]
      have h1 : (p : Int) ^ e ≤ 7 ^ e := by
        have : p ^ e ≤ 7 ^ e := Nat.pow_le_pow_left hp7 e
        have h2 : ((p ^ e : Nat) : Int) ≤ ((7 ^ e : Nat) : Int) := Int.ofNat_le.mpr this
        rw [Int.natCast_pow, Int.natCast_pow] at h2
        exact h2
      have h2 : (7 : Int) ^ e ≤ 7 ^ 4 := ipow_mono (by decide) he4
      exact Int.le_trans h1 h2
    have h3 : (n : Int) * (m / 2) ≤ 6 * 1200 := Int.mul_le_mul (by omega) (by omega) (by omega) (by decide)
    omega
  · have h2 : m * m ≤ 4096 := by
      have h3 : m ^ 2 ≤ m ^ r := ipow_mono (by omega) (by omega)
      rw [Int.pow_succ, Int.pow_succ, Int.pow_zero, Int.one_mul] at h3
      omega
    have h64 : m ≤ 64 := by
      rcases (show 64 < m ∨ m ≤ 64 by omega) with h | h
      · have := Int.mul_le_mul (show (65 : Int) ≤ m by omega) (show (65 : Int) ≤ m by omega) (by decide) (by omega)
        omega
      · exact h
    have h3 : (n : Int) * (m / 2) ≤ 63 * 32 := Int.mul_le_mul (by omega) (by omega) (by omega) (by decide)
    omega
set_option maxRecDepth 20000 in
theorem lp_isSmall {m : Int} {n dg : Nat} {F : HF} {A : HA} {al : AL} (hK : KM al) (hm : F 44 4 = vI m) (hn : F 44 33 = vI n) (hdg : F 44 35 = vI dg) (hm2 : 2 ≤ m) (hm4 : m ≤ 4096) (hdn : dg ≤ n) (hn63 : n ≤ 63) : ∀ (k i : Nat), i + k = n - dg → (1 ≤ i → m ^ (i - 1) ≤ 65536) →
    QW mX12_isSmall 0 0 0 (PI (if m ^ (n - dg) ≤ 65536 then 1 else 0) F A al) 0 0 4 [some (vA 44), some (vJ (m ^ i)), none, some (vI i)] [] F A al := by
  have hbnd : ∀ i : Nat, (1 ≤ i → m ^ (i - 1) ≤ 65536) → 0 < m ^ i ∧ m ^ i ≤ 268435456 := by
    intro i hb
    refine ⟨Int.pow_pos (by omega), ?_⟩
    cases i with
    | zero => rw [Int.pow_zero]; decide
    | succ i =>
      have h1 := hb (by omega)
      rw [show i + 1 - 1 = i by omega] at h1
      rw [Int.pow_succ]
      have := Int.mul_le_mul h1 hm4 (by omega) (by decide)
      omega
  intro k
  induction k with
  | zero =>
    intro i hi hb
    obtain ⟨g1, g2⟩ := hbnd i hb
    have ei : i = n - dg := by omega
    subst ei
    have q1 := @cmpL_gt (m ^ (n - dg)) 65536
    refine q_iload_n eX12_isSmall_4 rfl ?_
    refine q_aload_n eX12_isSmall_5 rfl ?_
    refine q_getfield eX12_isSmall_6 gf_X12_69 (hK _ (by decide) (by decide)) (by decide) (by first | assumption) ?_
    refine q_aload_n eX12_isSmall_9 rfl ?_
    refine q_getfield eX12_isSmall_10 gf_X12_322 (hK _ (by decide) (by decide)) (by decide) (by first | assumption) ?_
    refine q_isub eX12_isSmall_13 ?_
    refine q_icmp_ge (tgt := 39) eX12_isSmall_14 (by decide) (by first | assumption | exact ⟨by omega, by omega⟩) (by first | assumption | exact ⟨by omega, by omega⟩) (fun c14 => ?_) (fun c14 => ?_)
    · refine q_lload_n eX12_isSmall_39 rfl ?_
      refine q_ldc2 eX12_isSmall_40 kc_X12_391 ?_
      refine q_lcmp eX12_isSmall_43 (by exact ⟨by omega, by omega⟩) (by exact ⟨by omega, by omega⟩) ?_
      refine q_if_gt (tgt := 51) eX12_isSmall_44 (by decide) (cmpL_R _ _) (fun c44 => ?_) (fun c44 => ?_)
      · refine q_iconst eX12_isSmall_51 ?_
        refine q_retZ eX12_isSmall_52 rfl (by first | exact Or.inl rfl | exact Or.inr rfl | assumption) (by decide) (by decide) ?_
        refine PI_ok ?_
        first
        | exact (if_pos (by omega)).symm
        | exact (if_neg (by omega)).symm
      · refine q_iconst eX12_isSmall_47 ?_
        refine q_goto (tgt := 52) eX12_isSmall_48 (by decide) ?_
        refine q_retZ eX12_isSmall_52 rfl (by first | exact Or.inl rfl | exact Or.inr rfl | assumption) (by decide) (by decide) ?_
        refine PI_ok ?_
        first
        | exact (if_pos (by omega)).symm
        | exact (if_neg (by omega)).symm
    · exact absurd c14 (by omega)
  | succ k ih =>
    intro i hi hb
    obtain ⟨g1, g2⟩ := hbnd i hb
    have hst : m ^ (i + 1) = m ^ i * m := Int.pow_succ m i
    have hmono : m ^ i ≤ m ^ (n - dg) := ipow_mono (by omega) (by omega)
    have q1 := @cmpL_gt (m ^ i) 65536
    refine q_iload_n eX12_isSmall_4 rfl ?_
    refine q_aload_n eX12_isSmall_5 rfl ?_
    refine q_getfield eX12_isSmall_6 gf_X12_69 (hK _ (by decide) (by decide)) (by decide) (by first | assumption) ?_
    refine q_aload_n eX12_isSmall_9 rfl ?_
    refine q_getfield eX12_isSmall_10 gf_X12_322 (hK _ (by decide) (by decide)) (by decide) (by first | assumption) ?_
    refine q_isub eX12_isSmall_13 ?_
    refine q_icmp_ge (tgt := 39) eX12_isSmall_14 (by decide) (by first | assumption | exact ⟨by omega, by omega⟩) (by first | assumption | exact ⟨by omega, by omega⟩) (fun c14 => ?_) (fun c14 => ?_)
    · exact absurd c14 (by omega)
    · refine q_lload_n eX12_isSmall_17 rfl ?_
      refine q_ldc2 eX12_isSmall_18 kc_X12_391 ?_
      refine q_lcmp eX12_isSmall_21 (by exact ⟨by omega, by omega⟩) (by exact ⟨by omega, by omega⟩) ?_
      refine q_if_gt (tgt := 39) eX12_isSmall_22 (by decide) (cmpL_R _ _) (fun c22 => ?_) (fun c22 => ?_)
      · refine q_lload_n eX12_isSmall_39 rfl ?_
        refine q_ldc2 eX12_isSmall_40 kc_X12_391 ?_
        refine q_lcmp eX12_isSmall_43 (by exact ⟨by omega, by omega⟩) (by exact ⟨by omega, by omega⟩) ?_
        refine q_if_gt (tgt := 51) eX12_isSmall_44 (by decide) (cmpL_R _ _) (fun c44 => ?_) (fun c44 => ?_)
        · refine q_iconst eX12_isSmall_51 ?_
          refine q_retZ eX12_isSmall_52 rfl (by first | exact Or.inl rfl | exact Or.inr rfl | assumption) (by decide) (by decide) ?_
          refine PI_ok ?_
          first
          | exact (if_neg (by omega)).symm
          | exact absurd c44 (by omega)
        · refine q_iconst eX12_isSmall_47 ?_
          refine q_goto (tgt := 52) eX12_isSmall_48 (by decide) ?_
          refine q_retZ eX12_isSmall_52 rfl (by first | exact Or.inl rfl | exact Or.inr rfl | assumption) (by decide) (by decide) ?_
          refine PI_ok ?_
          first
          | exact (if_neg (by omega)).symm
          | exact absurd c44 (by omega)
      · refine q_lload_n eX12_isSmall_25 rfl ?_
        refine q_aload_n eX12_isSmall_26 rfl ?_
        refine q_getfield eX12_isSmall_27 gf_X12_22 (hK _ (by decide) (by decide)) (by decide) (by first | assumption) ?_
        refine q_i2l eX12_isSmall_30 (by first | assumption | exact ⟨by omega, by omega⟩) ?_
        refine q_lmul eX12_isSmall_31 ?_
        refine q_lstore_n eX12_isSmall_32 (by decide) rfl ?_
        refine q_iinc eX12_isSmall_33 rfl (by decide) rfl ?_
        refine q_goto (tgt := 4) eX12_isSmall_36 (by decide) ?_
        rw [← hst]
        exact ih (i + 1) (by omega) (fun _ => by rw [show i + 1 - 1 = i by omega]; omega)
set_option maxRecDepth 20000 in
theorem mo_isSmall {m : Int} {n dg : Nat} {F : HF} {A : HA} {al : AL} (hK : KM al) (hm : F 44 4 = vI m) (hn : F 44 33 = vI n) (hdg : F 44 35 = vI dg) (hm2 : 2 ≤ m) (hm4 : m ≤ 4096) (hdn : dg ≤ n) (hn63 : n ≤ 63) : QE 0 0 0 mX12_isSmall [vA 44] F A al (PI (if m ^ (n - dg) ≤ 65536 then 1 else 0) F A al) := by
  refine QE.mk (by decide +kernel) (Nat.le_of_ble_eq_true rfl) ?_
  refine q_lconst (v := 1) eX12_isSmall_0 (by decide +kernel) ?_
  refine q_lstore_n eX12_isSmall_1 (by decide) rfl ?_
  refine q_iconst eX12_isSmall_2 ?_
  refine q_istore_n eX12_isSmall_3 (by decide) rfl ?_
  have hh := lp_isSmall (A := A) hK hm hn hdg hm2 hm4 hdn hn63 (n - dg) 0 (by omega) (fun h => absurd h (by decide))
  rw [Int.pow_zero] at hh
  exact hh
def wgS (m : Int) (n : Nat) (row : Nat → Int) (s : (Nat → Int) × (Nat → Int)) : (Nat → Int) × (Nat → Int) := (upc s.1 (wtE row n) (s.1 (wtE row n) + 1), upc s.2 (leE m row n).toNat (s.2 (leE m row n).toNat + 1))
def SW (s : (Nat → Int) × (Nat → Int)) (A : HA) : Prop := (∀ j, j < 64 → A 59 j = s.1 j) ∧ ∀ j, j < 8192 → A 60 j = s.2 j
def PWG (m : Int) (n : Nat) (row : Nat → Int) (s : (Nat → Int) × (Nat → Int)) (F : HF) (A : HA) (al : AL) : PO := fun o F' A' al' => o = .inl none ∧ F' = F ∧ al' = al ∧ Off [59, 60] A A' ∧ SW (wgS m n row s) A'
set_option maxRecDepth 20000 in
theorem lp_weighs {m : Int} {n t : Nat} {row : Nat → Int} {s : (Nat → Int) × (Nat → Int)} {F : HF} {A : HA} {al : AL} (hK : KM al) (hX : MR F) (hm : F 44 4 = vI m) (hn : F 44 33 = vI n) (hm2 : 2 ≤ m) (hm4 : m ≤ 4096) (hn63 : n ≤ 63) (ht : t ≤ 16) (hrow : ∀ x, 0 ≤ row x ∧ row x < m) (hA : ∀ j, j < n → A 58 (64 * t + j) = row j) (hcap : (n : Int) * (m / 2) ≤ 8000) (hs : SW s A) : ∀ (k i : Nat) (l5 : Option LV), i + k = n →
    QW mX12_weighs 1 0 0 (PWG m n row s F A al) 0 0 7 [some (vA 44), some (vI (64 * t : Nat)), some (vI (wtE row i : Nat)), some (vI (leE m row i)), some (vI i), l5] [] F A al := by
  intro k
  induction k with
  | zero =>
    intro i l5 hi
    have ei : i = n := by omega
    subst ei
    have hw : wtE row i ≤ i := ctn_le _ i
    have hl := le_half (nu := row) (m := m) (by omega) i
    have hl0 := (le_range hm4 hrow i).1
    generalize hle : leE m row i = le at hl hl0
    generalize hwt : wtE row i = wt at hw
    obtain ⟨v, rfl⟩ : ∃ v : Nat, le = v := ⟨le.toNat, by omega⟩
    have h1 := hs.1 wt (by omega)
    have h2 := hs.2 v (by omega)
    refine q_iload eX12_weighs_7 rfl ?_
    refine q_aload_n eX12_weighs_9 rfl ?_
    refine q_getfield eX12_weighs_10 gf_X12_69 (hK _ (by decide) (by decide)) (by decide) (by first | assumption) ?_
    refine q_icmp_ge (tgt := 61) eX12_weighs_13 (by decide) (by first | assumption | exact ⟨by omega, by omega⟩) (by first | assumption | exact ⟨by omega, by omega⟩) (fun c13 => ?_) (fun c13 => ?_)
    · refine q_aload_n eX12_weighs_61 rfl ?_
      refine q_getfield eX12_weighs_62 gf_X12_81 (hK _ (by decide) (by decide)) (by decide) (mr_44_39 hX) ?_
      refine q_iload_n eX12_weighs_65 rfl ?_
      refine q_dup2 eX12_weighs_66 rfl rfl ?_
      refine q_iald eX12_weighs_67 (hK _ (by decide) (by decide)) (by omega) (by omega) ?_
      rw [show A 59 (wt : Int).toNat = s.1 wt from h1]
      refine q_iconst eX12_weighs_68 ?_
      refine q_iadd eX12_weighs_69 ?_
      refine q_iast eX12_weighs_70 (hK _ (by decide) (by decide)) (by omega) (by omega) ?_
      refine q_aload_n eX12_weighs_71 rfl ?_
      refine q_getfield eX12_weighs_72 gf_X12_84 (hK _ (by decide) (by decide)) (by decide) (mr_44_40 hX) ?_
      refine q_iload_n eX12_weighs_75 rfl ?_
      refine q_dup2 eX12_weighs_76 rfl rfl ?_
      refine q_iald eX12_weighs_77 (hK _ (by decide) (by decide)) (by omega) (by omega) ?_
      rw [show (up2 A 59 (wt : Int).toNat (s.1 wt + 1)) 60 (v : Int).toNat = s.2 v from h2]
      refine q_iconst eX12_weighs_78 ?_
      refine q_iadd eX12_weighs_79 ?_
      refine q_iast eX12_weighs_80 (hK _ (by decide) (by decide)) (by omega) (by omega) ?_
      refine q_retV eX12_weighs_81 rfl (by decide) (by decide) ?_
      refine ⟨rfl, rfl, rfl, (Off.up (by simp)).trans (Off.up (by simp)), ?_⟩
      unfold wgS
      rw [hle, hwt]
      refine ⟨fun j hj => ?_, fun j hj => ?_⟩
      · show up2 (up2 A 59 wt (s.1 wt + 1)) 60 v (s.2 v + 1) 59 j = upc s.1 wt (s.1 wt + 1) j
        rw [up2_row (by decide), up2_at]
        unfold upc
        by_cases he : j = wt
        · rw [if_pos he, if_pos he]
        · rw [if_neg he, if_neg he]; exact hs.1 j hj
      · show up2 (up2 A 59 wt (s.1 wt + 1)) 60 v (s.2 v + 1) 60 j = upc s.2 v (s.2 v + 1) j
        rw [up2_at]
        unfold upc
        by_cases he : j = v
        · rw [if_pos he, if_pos he]
        · rw [if_neg he, if_neg he, up2_row (by decide)]; exact hs.2 j hj
    · exact absurd c13 (by omega)
  | succ k ih =>
    intro i l5 hi
    have hri := hrow i
    have hb := ih (i + 1)
    have e1 : ((64 * t : Nat) : Int) + (i : Int) = ((64 * t + i : Nat) : Int) := by omega
    have hst : leE m row (i + 1) = leE m row i + (if 0 < row i then (if row i < m - row i then row i else m - row i) else 0) := rfl
    have hmin : min (row i) (m - row i) = (if 0 < row i then (if row i < m - row i then row i else m - row i) else 0) := by
      rw [Int.min_def]
      split <;> split <;> (try split) <;> omega
    refine q_iload eX12_weighs_7 rfl ?_
    refine q_aload_n eX12_weighs_9 rfl ?_
    refine q_getfield eX12_weighs_10 gf_X12_69 (hK _ (by decide) (by decide)) (by decide) (by first | assumption) ?_
    refine q_icmp_ge (tgt := 61) eX12_weighs_13 (by decide) (by first | assumption | exact ⟨by omega, by omega⟩) (by first | assumption | exact ⟨by omega, by omega⟩) (fun c13 => ?_) (fun c13 => ?_)
    · exact absurd c13 (by omega)
    · refine q_aload_n eX12_weighs_16 rfl ?_
      refine q_getfield eX12_weighs_17 gf_X12_78 (hK _ (by decide) (by decide)) (by decide) (mr_44_38 hX) ?_
      refine q_iload_n eX12_weighs_20 rfl ?_
      refine q_iload eX12_weighs_21 rfl ?_
      refine q_iadd eX12_weighs_23 ?_
      rw [e1]
      refine q_iald eX12_weighs_24 (hK _ (by decide) (by decide)) (by omega) (by omega) ?_
      rw [show A 58 ((64 * t + i : Nat) : Int).toNat = row i from hA i (by omega)]
      refine q_istore eX12_weighs_25 (by decide) rfl ?_
      refine q_iload_n eX12_weighs_27 rfl ?_
      refine q_iload eX12_weighs_28 rfl ?_
      refine q_if_eq (tgt := 37) eX12_weighs_30 (by decide) (by first | assumption | exact ⟨by omega, by omega⟩) (fun c30 => ?_) (fun c30 => ?_)
      · refine q_iconst eX12_weighs_37 ?_
        refine q_iadd eX12_weighs_38 ?_
        refine q_istore_n eX12_weighs_39 (by decide) rfl ?_
        refine q_iload_n eX12_weighs_40 rfl ?_
        refine q_iload eX12_weighs_41 rfl ?_
        refine q_aload_n eX12_weighs_43 rfl ?_
        refine q_getfield eX12_weighs_44 gf_X12_22 (hK _ (by decide) (by decide)) (by decide) (by first | assumption) ?_
        refine q_iload eX12_weighs_47 rfl ?_
        refine q_isub eX12_weighs_49 ?_
        refine q_callSP [vI (row i), vI (m - row i)] (M1 := mJ9_min_7cf53) eX12_weighs_50 mf_J9_min_7cf53 lk_X12_249 (ev_min (by exact ⟨by omega, by omega⟩) (by exact ⟨by omega, by omega⟩)) (by decide) (by decide) (by decide) (Nat.le_of_ble_eq_true rfl) rfl ?_
        rw [hmin]
        refine q_iadd eX12_weighs_53 ?_
        rw [← hst]
        refine q_istore_n eX12_weighs_54 (by decide) rfl ?_
        refine q_iinc eX12_weighs_55 rfl (by decide) rfl ?_
        refine q_goto (tgt := 7) eX12_weighs_58 (by decide) ?_
        first
        | (rw [show wtE row (i + 1) = wtE row i + 1 from ctn_yes (by rw [decide_eq_true_eq]; omega)] at hb
           exact hb _ (by omega))
        | (rw [show wtE row (i + 1) = wtE row i from ctn_no (by rw [decide_eq_true_eq]; omega)] at hb
           rw [Int.add_zero]
           exact hb _ (by omega))
      · refine q_iconst eX12_weighs_33 ?_
        refine q_goto (tgt := 38) eX12_weighs_34 (by decide) ?_
        refine q_iadd eX12_weighs_38 ?_
        refine q_istore_n eX12_weighs_39 (by decide) rfl ?_
        refine q_iload_n eX12_weighs_40 rfl ?_
        refine q_iload eX12_weighs_41 rfl ?_
        refine q_aload_n eX12_weighs_43 rfl ?_
        refine q_getfield eX12_weighs_44 gf_X12_22 (hK _ (by decide) (by decide)) (by decide) (by first | assumption) ?_
        refine q_iload eX12_weighs_47 rfl ?_
        refine q_isub eX12_weighs_49 ?_
        refine q_callSP [vI (row i), vI (m - row i)] (M1 := mJ9_min_7cf53) eX12_weighs_50 mf_J9_min_7cf53 lk_X12_249 (ev_min (by exact ⟨by omega, by omega⟩) (by exact ⟨by omega, by omega⟩)) (by decide) (by decide) (by decide) (Nat.le_of_ble_eq_true rfl) rfl ?_
        rw [hmin]
        refine q_iadd eX12_weighs_53 ?_
        rw [← hst]
        refine q_istore_n eX12_weighs_54 (by decide) rfl ?_
        refine q_iinc eX12_weighs_55 rfl (by decide) rfl ?_
        refine q_goto (tgt := 7) eX12_weighs_58 (by decide) ?_
        first
        | (rw [show wtE row (i + 1) = wtE row i + 1 from ctn_yes (by rw [decide_eq_true_eq]; omega)] at hb
           exact hb _ (by omega))
        | (rw [show wtE row (i + 1) = wtE row i from ctn_no (by rw [decide_eq_true_eq]; omega)] at hb
           rw [Int.add_zero]
           exact hb _ (by omega))
set_option maxRecDepth 20000 in
theorem mo_weighs {m : Int} {n t : Nat} {row : Nat → Int} {s : (Nat → Int) × (Nat → Int)} {F : HF} {A : HA} {al : AL} (hK : KM al) (hX : MR F) (hm : F 44 4 = vI m) (hn : F 44 33 = vI n) (hm2 : 2 ≤ m) (hm4 : m ≤ 4096) (hn63 : n ≤ 63) (ht : t ≤ 16) (hrow : ∀ x, 0 ≤ row x ∧ row x < m) (hA : ∀ j, j < n → A 58 (64 * t + j) = row j) (hcap : (n : Int) * (m / 2) ≤ 8000) (hs : SW s A) : QE 1 0 0 mX12_weighs [vA 44, vI (64 * t : Nat)] F A al (PWG m n row s F A al) := by
  refine QE.mk (by decide +kernel) (Nat.le_of_ble_eq_true rfl) ?_
  refine q_iconst eX12_weighs_0 ?_
  refine q_istore_n eX12_weighs_1 (by decide) rfl ?_
  refine q_iconst eX12_weighs_2 ?_
  refine q_istore_n eX12_weighs_3 (by decide) rfl ?_
  refine q_iconst eX12_weighs_4 ?_
  refine q_istore eX12_weighs_5 (by decide) rfl ?_
  exact lp_weighs hK hX hm hn hm2 hm4 hn63 ht hrow hA hcap hs n 0 none (by omega)
def ahM (row c0 : Nat → Int) : Nat → Nat → Bool
  | 0, _ => false
  | k + 1, i => if row i ≠ c0 i then decide (row i < c0 i) else ahM row c0 k (i + 1)
set_option maxRecDepth 20000 in
theorem lp_misAhead {m : Int} {n t : Nat} {row c0 : Nat → Int} {F : HF} {A : HA} {al : AL} (hK : KM al) (hX : MR F) (hn : F 44 33 = vI n) (hm4 : m ≤ 4096) (hn63 : n ≤ 63) (ht : t ≤ 16) (hrow : ∀ x, 0 ≤ row x ∧ row x < m) (hA : ∀ j, j < n → A 58 (64 * t + j) = row j) (hc : ∀ j, j < n → A 61 j = c0 j ∧ InR (c0 j)) : ∀ (k i : Nat), i + k = n →
    QW mX12_isAhead 0 0 0 (PI (if ahM row c0 k i = true then 1 else 0) F A al) 0 0 2 [some (vA 44), some (vI (64 * t : Nat)), some (vI i)] [] F A al := by
  intro k
  induction k with
  | zero =>
    intro i hi
    have ei : i = n := by omega
    subst ei
    refine q_iload_n eX12_isAhead_2 rfl ?_
    refine q_aload_n eX12_isAhead_3 rfl ?_
    refine q_getfield eX12_isAhead_4 gf_X12_69 (hK _ (by decide) (by decide)) (by decide) (by first | assumption) ?_
    refine q_icmp_ge (tgt := 56) eX12_isAhead_7 (by decide) (by first | assumption | exact ⟨by omega, by omega⟩) (by first | assumption | exact ⟨by omega, by omega⟩) (fun c7 => ?_) (fun c7 => ?_)
    · refine q_iconst eX12_isAhead_56 ?_
      refine q_retZ eX12_isAhead_57 rfl (by first | exact Or.inl rfl | exact Or.inr rfl | assumption) (by decide) (by decide) ?_
      exact PI_ok rfl
    · exact absurd c7 (by omega)
  | succ k ih =>
    intro i hi
    have hri := hrow i
    obtain ⟨h1, h2⟩ := hc i (by omega)
    have h2a := h2.1
    have h2b := h2.2
    have e1 : ((64 * t : Nat) : Int) + (i : Int) = ((64 * t + i : Nat) : Int) := by omega
    have hst : ahM row c0 (k + 1) i = if row i ≠ c0 i then decide (row i < c0 i) else ahM row c0 k (i + 1) := rfl
    have hb := ih (i + 1) (by omega)
    rw [hst]
    refine q_iload_n eX12_isAhead_2 rfl ?_
    refine q_aload_n eX12_isAhead_3 rfl ?_
    refine q_getfield eX12_isAhead_4 gf_X12_69 (hK _ (by decide) (by decide)) (by decide) (by first | assumption) ?_
    refine q_icmp_ge (tgt := 56) eX12_isAhead_7 (by decide) (by first | assumption | exact ⟨by omega, by omega⟩) (by first | assumption | exact ⟨by omega, by omega⟩) (fun c7 => ?_) (fun c7 => ?_)
    · exact absurd c7 (by omega)
    · refine q_aload_n eX12_isAhead_10 rfl ?_
      refine q_getfield eX12_isAhead_11 gf_X12_78 (hK _ (by decide) (by decide)) (by decide) (mr_44_38 hX) ?_
      refine q_iload_n eX12_isAhead_14 rfl ?_
      refine q_iload_n eX12_isAhead_15 rfl ?_
      refine q_iadd eX12_isAhead_16 ?_
      rw [e1]
      refine q_iald eX12_isAhead_17 (hK _ (by decide) (by decide)) (by omega) (by omega) ?_
      rw [show A 58 ((64 * t + i : Nat) : Int).toNat = row i from hA i (by omega)]
      refine q_aload_n eX12_isAhead_18 rfl ?_
      refine q_getfield eX12_isAhead_19 gf_X12_87 (hK _ (by decide) (by decide)) (by decide) (mr_44_42 hX) ?_
      refine q_iload_n eX12_isAhead_22 rfl ?_
      refine q_iald eX12_isAhead_23 (hK _ (by decide) (by decide)) (by omega) (by omega) ?_
      rw [show A 61 (i : Int).toNat = c0 i from h1]
      refine q_icmp_eq (tgt := 50) eX12_isAhead_24 (by decide) (by first | assumption | exact ⟨by omega, by omega⟩) (by first | assumption | exact ⟨by omega, by omega⟩) (fun c24 => ?_) (fun c24 => ?_)
      · refine q_iinc eX12_isAhead_50 rfl (by decide) rfl ?_
        refine q_goto (tgt := 2) eX12_isAhead_53 (by decide) ?_
        rw [if_neg (show ¬ row i ≠ c0 i from fun q => q c24)]
        exact hb
      · refine q_aload_n eX12_isAhead_27 rfl ?_
        refine q_getfield eX12_isAhead_28 gf_X12_78 (hK _ (by decide) (by decide)) (by decide) (mr_44_38 hX) ?_
        refine q_iload_n eX12_isAhead_31 rfl ?_
        refine q_iload_n eX12_isAhead_32 rfl ?_
        refine q_iadd eX12_isAhead_33 ?_
        rw [e1]
        refine q_iald eX12_isAhead_34 (hK _ (by decide) (by decide)) (by omega) (by omega) ?_
        rw [show A 58 ((64 * t + i : Nat) : Int).toNat = row i from hA i (by omega)]
        refine q_aload_n eX12_isAhead_35 rfl ?_
        refine q_getfield eX12_isAhead_36 gf_X12_87 (hK _ (by decide) (by decide)) (by decide) (mr_44_42 hX) ?_
        refine q_iload_n eX12_isAhead_39 rfl ?_
        refine q_iald eX12_isAhead_40 (hK _ (by decide) (by decide)) (by omega) (by omega) ?_
        rw [show A 61 (i : Int).toNat = c0 i from h1]
        refine q_icmp_ge (tgt := 48) eX12_isAhead_41 (by decide) (by first | assumption | exact ⟨by omega, by omega⟩) (by first | assumption | exact ⟨by omega, by omega⟩) (fun c41 => ?_) (fun c41 => ?_)
        · refine q_iconst eX12_isAhead_48 ?_
          refine q_retZ eX12_isAhead_49 rfl (by first | exact Or.inl rfl | exact Or.inr rfl | assumption) (by decide) (by decide) ?_
          refine PI_ok ?_
          rw [if_pos (show row i ≠ c0 i from c24)]
          first
          | exact (if_pos (decide_eq_true (by omega))).symm
          | exact (if_neg (by rw [decide_eq_true_eq]; omega)).symm
        · refine q_iconst eX12_isAhead_44 ?_
          refine q_goto (tgt := 49) eX12_isAhead_45 (by decide) ?_
          refine q_retZ eX12_isAhead_49 rfl (by first | exact Or.inl rfl | exact Or.inr rfl | assumption) (by decide) (by decide) ?_
          refine PI_ok ?_
          rw [if_pos (show row i ≠ c0 i from c24)]
          first
          | exact (if_pos (decide_eq_true (by omega))).symm
          | exact (if_neg (by rw [decide_eq_true_eq]; omega)).symm
set_option maxRecDepth 20000 in
theorem mo_isAhead {m : Int} {n t : Nat} {row c0 : Nat → Int} {F : HF} {A : HA} {al : AL} (hK : KM al) (hX : MR F) (hn : F 44 33 = vI n) (hm4 : m ≤ 4096) (hn63 : n ≤ 63) (ht : t ≤ 16) (hrow : ∀ x, 0 ≤ row x ∧ row x < m) (hA : ∀ j, j < n → A 58 (64 * t + j) = row j) (hc : ∀ j, j < n → A 61 j = c0 j ∧ InR (c0 j)) : QE 0 0 0 mX12_isAhead [vA 44, vI (64 * t : Nat)] F A al (PI (if ahM row c0 n 0 = true then 1 else 0) F A al) := by
  refine QE.mk (by decide +kernel) (Nat.le_of_ble_eq_true rfl) ?_
  refine q_iconst eX12_isAhead_0 ?_
  refine q_istore_n eX12_isAhead_1 (by decide) rfl ?_
  exact lp_misAhead hK hX hn hm4 hn63 ht hrow hA hc n 0 (by omega)
def pfM (row bt : Nat → Int) (n : Nat) : Nat := ctn (fun i => decide (row i ≠ bt i)) n
def lkS (n : Nat) (bt : Nat → Int) (row : Nat → Int) (s : Int × (Nat → Int)) : Int × (Nat → Int) := if (pfM row bt n : Int) < s.1 ∨ (pfM row bt n : Int) = s.1 ∧ ahM row s.2 n 0 = true then ((pfM row bt n : Int), row) else s
def SL (m : Int) (n : Nat) (s : Int × (Nat → Int)) (F : HF) (A : HA) : Prop := F 44 43 = vI s.1 ∧ InR s.1 ∧ (s.1 ≤ 63 → ∀ j, j < n → A 61 j = s.2 j ∧ 0 ≤ s.2 j ∧ s.2 j < 4096)
def PLK (m : Int) (n : Nat) (bt row : Nat → Int) (s : Int × (Nat → Int)) (F : HF) (A : HA) (al : AL) : PO := fun o F' A' al' => o = .inl none ∧ FOff [(44, 43)] F F' ∧ al' = al ∧ Off [61] A A' ∧ SL m n (lkS n bt row s) F' A'
set_option maxRecDepth 20000 in
theorem lp_lk2 {m : Int} {n t : Nat} {row bt : Nat → Int} {s : Int × (Nat → Int)} {F : HF} {A : HA} {al : AL} (hK : KM al) (hX : MR F) (hm : F 44 4 = vI m) (hn : F 44 33 = vI n) (hm2 : 2 ≤ m) (hm4 : m ≤ 4096) (hn63 : n ≤ 63) (ht : t ≤ 16) (hrow : ∀ x, 0 ≤ row x ∧ row x < m) (hA : ∀ j, j < n → A 58 (64 * t + j) = row j) (hbt : ∀ j, j < n → A 62 j = bt j ∧ 0 ≤ bt j ∧ bt j < m) (hs : SL m n s F A) (hyes : (pfM row bt n : Int) < s.1 ∨ (pfM row bt n : Int) = s.1 ∧ ahM row s.2 n 0 = true) {w2 : Int} : ∀ (k i : Nat) (A2 : HA), i + k = n → Off [61] A A2 → (∀ j, j < i → A2 61 j = row j) →
    QW mX12_looksAt 1 0 0 (PLK m n bt row s F A al) 0 0 74 [some (vA 44), some (vI (64 * t : Nat)), some (vI w2), some (vI i)] [] (up2 F 44 43 (vI (pfM row bt n : Nat))) A2 al := by
  have hX2 : MR (up2 F 44 43 (vI (pfM row bt n : Nat))) := hX.up (by decide)
  have hn' : up2 F 44 43 (vI (pfM row bt n : Nat)) 44 33 = vI n := (up2_ne (by decide)).trans hn
  have hpf : pfM row bt n ≤ n := ctn_le _ n
  intro k
  induction k with
  | zero =>
    intro i A2 hi ho h
    have ei : i = n := by omega
    subst ei
    refine q_iload_n eX12_looksAt_74 rfl ?_
    refine q_aload_n eX12_looksAt_75 rfl ?_
    refine q_getfield eX12_looksAt_76 gf_X12_69 (hK _ (by decide) (by decide)) (by decide) (by first | assumption) ?_
    refine q_icmp_ge (tgt := 102) eX12_looksAt_79 (by decide) (by first | assumption | exact ⟨by omega, by omega⟩) (by first | assumption | exact ⟨by omega, by omega⟩) (fun c79 => ?_) (fun c79 => ?_)
    · refine q_retV eX12_looksAt_102 rfl (by decide) (by decide) ?_
      refine ⟨rfl, FOff.up (by decide), rfl, ho, ?_⟩
      unfold lkS
      rw [if_pos hyes]
      exact ⟨up2_eq _ _ _ _, by exact ⟨by show (-2147483648 : Int) ≤ (pfM row bt i : Nat); omega, by show ((pfM row bt i : Nat) : Int) < 2147483648; omega⟩, fun _ j hj => ⟨h j hj, by have := hrow j; exact ⟨by show (0 : Int) ≤ row j; omega, by show row j < 4096; omega⟩⟩⟩
    · exact absurd c79 (by omega)
  | succ k ih =>
    intro i A2 hi ho h
    have e1 : ((64 * t : Nat) : Int) + (i : Int) = ((64 * t + i : Nat) : Int) := by omega
    have hri : A2 58 (64 * t + i) = row i := (congrFun (ho 58 (by decide)) _).trans (hA i (by omega))
    refine q_iload_n eX12_looksAt_74 rfl ?_
    refine q_aload_n eX12_looksAt_75 rfl ?_
    refine q_getfield eX12_looksAt_76 gf_X12_69 (hK _ (by decide) (by decide)) (by decide) (by first | assumption) ?_
    refine q_icmp_ge (tgt := 102) eX12_looksAt_79 (by decide) (by first | assumption | exact ⟨by omega, by omega⟩) (by first | assumption | exact ⟨by omega, by omega⟩) (fun c79 => ?_) (fun c79 => ?_)
    · exact absurd c79 (by omega)
    · refine q_aload_n eX12_looksAt_82 rfl ?_
      refine q_getfield eX12_looksAt_83 gf_X12_87 (hK _ (by decide) (by decide)) (by decide) (mr_44_42 hX2) ?_
      refine q_iload_n eX12_looksAt_86 rfl ?_
      refine q_aload_n eX12_looksAt_87 rfl ?_
      refine q_getfield eX12_looksAt_88 gf_X12_78 (hK _ (by decide) (by decide)) (by decide) (mr_44_38 hX2) ?_
      refine q_iload_n eX12_looksAt_91 rfl ?_
      refine q_iload_n eX12_looksAt_92 rfl ?_
      refine q_iadd eX12_looksAt_93 ?_
      rw [e1]
      refine q_iald eX12_looksAt_94 (hK _ (by decide) (by decide)) (by omega) (by omega) ?_
      rw [show A2 58 ((64 * t + i : Nat) : Int).toNat = row i from hri]
      refine q_iast eX12_looksAt_95 (hK _ (by decide) (by decide)) (by omega) (by omega) ?_
      refine q_iinc eX12_looksAt_96 rfl (by decide) rfl ?_
      refine q_goto (tgt := 74) eX12_looksAt_99 (by decide) ?_
      refine ih (i + 1) _ (by omega) (ho.trans (Off.up (by simp))) (fun j hj => ?_)
      rw [up2_at]
      split
      · next he => rw [show j = i from he]
      · next he => exact h j (by have : j ≠ i := he; omega)
set_option maxRecDepth 20000 in
theorem lp_lk1 {m : Int} {n t : Nat} {row bt : Nat → Int} {s : Int × (Nat → Int)} {F : HF} {A : HA} {al : AL} (hK : KM al) (hX : MR F) (hm : F 44 4 = vI m) (hn : F 44 33 = vI n) (hm2 : 2 ≤ m) (hm4 : m ≤ 4096) (hn63 : n ≤ 63) (ht : t ≤ 16) (hrow : ∀ x, 0 ≤ row x ∧ row x < m) (hA : ∀ j, j < n → A 58 (64 * t + j) = row j) (hbt : ∀ j, j < n → A 62 j = bt j ∧ 0 ≤ bt j ∧ bt j < m) (hs : SL m n s F A) : ∀ (k i : Nat), i + k = n →
    QW mX12_looksAt 1 0 0 (PLK m n bt row s F A al) 0 0 4 [some (vA 44), some (vI (64 * t : Nat)), some (vI (pfM row bt i : Nat)), some (vI i)] [] F A al := by
  obtain ⟨hs1, hs2, hs3⟩ := id hs
  have hs2a := hs2.1
  have hs2b := hs2.2
  intro k
  induction k with
  | zero =>
    intro i hi
    have ei : i = n := by omega
    subst ei
    have hpf : pfM row bt i ≤ i := ctn_le _ i
    have hno : ¬ ((pfM row bt i : Int) < s.1 ∨ (pfM row bt i : Int) = s.1 ∧ ahM row s.2 i 0 = true) → PLK m i bt row s F A al (.inl none) F A al := fun hq => by
      refine ⟨rfl, FOff.rfl', rfl, Off.rfl', ?_⟩
      unfold lkS
      rw [if_neg hq]
      exact hs
    refine q_iload_n eX12_looksAt_4 rfl ?_
    refine q_aload_n eX12_looksAt_5 rfl ?_
    refine q_getfield eX12_looksAt_6 gf_X12_69 (hK _ (by decide) (by decide)) (by decide) (by first | assumption) ?_
    refine q_icmp_ge (tgt := 43) eX12_looksAt_9 (by decide) (by first | assumption | exact ⟨by omega, by omega⟩) (by first | assumption | exact ⟨by omega, by omega⟩) (fun c9 => ?_) (fun c9 => ?_)
    · refine q_iload_n eX12_looksAt_43 rfl ?_
      refine q_aload_n eX12_looksAt_44 rfl ?_
      refine q_getfield eX12_looksAt_45 gf_X12_405 (hK _ (by decide) (by decide)) (by decide) (by first | assumption) ?_
      refine q_icmp_lt (tgt := 67) eX12_looksAt_48 (by decide) (by first | assumption | exact ⟨by omega, by omega⟩) (by first | assumption | exact ⟨by omega, by omega⟩) (fun c48 => ?_) (fun c48 => ?_)
      · refine q_aload_n eX12_looksAt_67 rfl ?_
        refine q_iload_n eX12_looksAt_68 rfl ?_
        refine q_putfield eX12_looksAt_69 pf_X12_405 (hK _ (by decide) (by decide)) (by decide) (FT_i rfl) ?_
        refine q_iconst eX12_looksAt_72 ?_
        refine q_istore_n eX12_looksAt_73 (by decide) rfl ?_
        exact lp_lk2 hK hX hm hn hm2 hm4 hn63 ht hrow hA hbt hs (by first | exact Or.inl (by omega) | exact Or.inr ⟨by omega, i1 c64⟩) i 0 A (by omega) Off.rfl' (fun j hj => by omega)
      · refine q_iload_n eX12_looksAt_51 rfl ?_
        refine q_aload_n eX12_looksAt_52 rfl ?_
        refine q_getfield eX12_looksAt_53 gf_X12_405 (hK _ (by decide) (by decide)) (by decide) (by first | assumption) ?_
        refine q_icmp_ne (tgt := 102) eX12_looksAt_56 (by decide) (by first | assumption | exact ⟨by omega, by omega⟩) (by first | assumption | exact ⟨by omega, by omega⟩) (fun c56 => ?_) (fun c56 => ?_)
        · refine q_retV eX12_looksAt_102 rfl (by decide) (by decide) ?_
          refine hno (fun hq => ?_)
          rcases hq with hq | ⟨hq, hq2⟩
          · omega
          · first | omega | exact i0 c64 hq2
        · refine q_aload_n eX12_looksAt_59 rfl ?_
          refine q_iload_n eX12_looksAt_60 rfl ?_
          refine q_callVP [vI (64 * t : Nat)] (M1 := mX12_isAhead) eX12_looksAt_61 mf_X12_isAhead lk_X12_408 (hK _ (by decide) (by decide)) (mo_isAhead hK hX hn hm4 hn63 ht hrow hA (fun j hj => by obtain ⟨z1, z2, z3⟩ := hs3 (by omega) j hj; exact ⟨z1, by omega, by omega⟩)) (by decide) (by decide) (by decide) (Nat.le_of_ble_eq_true rfl) rfl ?_
          refine q_if_eq (tgt := 102) eX12_looksAt_64 (by decide) ir_ite (fun c64 => ?_) (fun c64 => ?_)
          · refine q_retV eX12_looksAt_102 rfl (by decide) (by decide) ?_
            refine hno (fun hq => ?_)
            rcases hq with hq | ⟨hq, hq2⟩
            · omega
            · first | omega | exact i0 c64 hq2
          · refine q_aload_n eX12_looksAt_67 rfl ?_
            refine q_iload_n eX12_looksAt_68 rfl ?_
            refine q_putfield eX12_looksAt_69 pf_X12_405 (hK _ (by decide) (by decide)) (by decide) (FT_i rfl) ?_
            refine q_iconst eX12_looksAt_72 ?_
            refine q_istore_n eX12_looksAt_73 (by decide) rfl ?_
            exact lp_lk2 hK hX hm hn hm2 hm4 hn63 ht hrow hA hbt hs (by first | exact Or.inl (by omega) | exact Or.inr ⟨by omega, i1 c64⟩) i 0 A (by omega) Off.rfl' (fun j hj => by omega)
    · exact absurd c9 (by omega)
  | succ k ih =>
    intro i hi
    have hri := hrow i
    obtain ⟨hb1, hb2, hb3⟩ := hbt i (by omega)
    have hb := ih (i + 1) (by omega)
    have e1 : ((64 * t : Nat) : Int) + (i : Int) = ((64 * t + i : Nat) : Int) := by omega
    refine q_iload_n eX12_looksAt_4 rfl ?_
    refine q_aload_n eX12_looksAt_5 rfl ?_
    refine q_getfield eX12_looksAt_6 gf_X12_69 (hK _ (by decide) (by decide)) (by decide) (by first | assumption) ?_
    refine q_icmp_ge (tgt := 43) eX12_looksAt_9 (by decide) (by first | assumption | exact ⟨by omega, by omega⟩) (by first | assumption | exact ⟨by omega, by omega⟩) (fun c9 => ?_) (fun c9 => ?_)
    · exact absurd c9 (by omega)
    · refine q_iload_n eX12_looksAt_12 rfl ?_
      refine q_aload_n eX12_looksAt_13 rfl ?_
      refine q_getfield eX12_looksAt_14 gf_X12_78 (hK _ (by decide) (by decide)) (by decide) (mr_44_38 hX) ?_
      refine q_iload_n eX12_looksAt_17 rfl ?_
      refine q_iload_n eX12_looksAt_18 rfl ?_
      refine q_iadd eX12_looksAt_19 ?_
      rw [e1]
      refine q_iald eX12_looksAt_20 (hK _ (by decide) (by decide)) (by omega) (by omega) ?_
      rw [show A 58 ((64 * t + i : Nat) : Int).toNat = row i from hA i (by omega)]
      refine q_aload_n eX12_looksAt_21 rfl ?_
      refine q_getfield eX12_looksAt_22 gf_X12_90 (hK _ (by decide) (by decide)) (by decide) (mr_44_44 hX) ?_
      refine q_iload_n eX12_looksAt_25 rfl ?_
      refine q_iald eX12_looksAt_26 (hK _ (by decide) (by decide)) (by omega) (by omega) ?_
      rw [show A 62 (i : Int).toNat = bt i from hb1]
      refine q_icmp_eq (tgt := 34) eX12_looksAt_27 (by decide) (by first | assumption | exact ⟨by omega, by omega⟩) (by first | assumption | exact ⟨by omega, by omega⟩) (fun c27 => ?_) (fun c27 => ?_)
      · refine q_iconst eX12_looksAt_34 ?_
        refine q_iadd eX12_looksAt_35 ?_
        refine q_istore_n eX12_looksAt_36 (by decide) rfl ?_
        refine q_iinc eX12_looksAt_37 rfl (by decide) rfl ?_
        refine q_goto (tgt := 4) eX12_looksAt_40 (by decide) ?_
        first
        | (rw [show pfM row bt (i + 1) = pfM row bt i + 1 from ctn_yes (by rw [decide_eq_true_eq]; exact c27)] at hb
           exact hb)
        | (rw [show pfM row bt (i + 1) = pfM row bt i from ctn_no (by rw [decide_eq_true_eq]; exact fun q => q c27)] at hb
           rw [Int.add_zero]
           exact hb)
      · refine q_iconst eX12_looksAt_30 ?_
        refine q_goto (tgt := 35) eX12_looksAt_31 (by decide) ?_
        refine q_iadd eX12_looksAt_35 ?_
        refine q_istore_n eX12_looksAt_36 (by decide) rfl ?_
        refine q_iinc eX12_looksAt_37 rfl (by decide) rfl ?_
        refine q_goto (tgt := 4) eX12_looksAt_40 (by decide) ?_
        first
        | (rw [show pfM row bt (i + 1) = pfM row bt i + 1 from ctn_yes (by rw [decide_eq_true_eq]; exact c27)] at hb
           exact hb)
        | (rw [show pfM row bt (i + 1) = pfM row bt i from ctn_no (by rw [decide_eq_true_eq]; exact fun q => q c27)] at hb
           rw [Int.add_zero]
           exact hb)
set_option maxRecDepth 20000 in
theorem mo_looksAt {m : Int} {n t : Nat} {row bt : Nat → Int} {s : Int × (Nat → Int)} {F : HF} {A : HA} {al : AL} (hK : KM al) (hX : MR F) (hm : F 44 4 = vI m) (hn : F 44 33 = vI n) (hm2 : 2 ≤ m) (hm4 : m ≤ 4096) (hn63 : n ≤ 63) (ht : t ≤ 16) (hrow : ∀ x, 0 ≤ row x ∧ row x < m) (hA : ∀ j, j < n → A 58 (64 * t + j) = row j) (hbt : ∀ j, j < n → A 62 j = bt j ∧ 0 ≤ bt j ∧ bt j < m) (hs : SL m n s F A)  : QE 1 0 0 mX12_looksAt [vA 44, vI (64 * t : Nat)] F A al (PLK m n bt row s F A al) := by
  refine QE.mk (by decide +kernel) (Nat.le_of_ble_eq_true rfl) ?_
  refine q_iconst eX12_looksAt_0 ?_
  refine q_istore_n eX12_looksAt_1 (by decide) rfl ?_
  refine q_iconst eX12_looksAt_2 ?_
  refine q_istore_n eX12_looksAt_3 (by decide) rfl ?_
  exact lp_lk1 hK hX hm hn hm2 hm4 hn63 ht hrow hA hbt hs n 0 (by omega)
