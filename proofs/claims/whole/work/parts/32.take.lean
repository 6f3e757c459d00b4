/-! Latest: take -/
def nbE (n : Nat) (bt : Nat → Int) : Nat → Int := fun j => if j < n then bt j else 0
def rsE (m : Int) (dg : Nat) (mk : Nat → Int) : Nat → (Nat → Int) → (Nat → Int)
  | 0, row => row
  | k + 1, row => rsE m dg mk k (lmE m dg mk (dg + k) row)
theorem rs_range {m : Int} {dg : Nat} {mk : Nat → Int} (hm : 0 < m) : ∀ (k : Nat) (row : Nat → Int), (∀ j, 0 ≤ row j ∧ row j < m) → ∀ j, 0 ≤ rsE m dg mk k row j ∧ rsE m dg mk k row j < m
  | 0, _, h => h
  | k + 1, _, h => rs_range hm k _ (lm_range hm h)
def ofE (lf : Nat → Int) (i : Nat) : Int := if ∀ j, j < i → lf j = 0 then 0 else 1
theorem of_step {lf : Nat → Int} {i : Nat} : ofE lf (i + 1) = if ofE lf i ≠ 0 ∨ lf i ≠ 0 then 1 else 0 := by
  unfold ofE
  by_cases h : ∀ j, j < i → lf j = 0
  · rw [if_pos h]
    by_cases h2 : lf i = 0
    · rw [if_pos, if_neg (by rintro (q | q); exact q rfl; exact q h2)]
      intro j hj
      by_cases he : j = i
      · rw [he]; exact h2
      · exact h j (by omega)
    · rw [if_neg (fun q => h2 (q i (by omega))), if_pos (Or.inr h2)]
  · rw [if_neg h, if_neg (fun q => h fun j hj => q j (by omega)), if_pos (Or.inl (by decide))]
theorem of_01 (lf : Nat → Int) (i : Nat) : ofE lf i = 0 ∨ ofE lf i = 1 := by
  unfold ofE
  split
  · exact Or.inl rfl
  · exact Or.inr rfl
def mdsE (m : Int) (dg n : Nat) (mk lf : Nat → Int) : Int × Int × Int := if ofE lf dg = 1 then moE m dg mk lf n 0 oneC (0, -1, -1) else (0, -1, -1)
theorem QE.mono {d mc ms : Nat} {M : MT} {as : List LV} {F : HF} {A : HA} {al : AL} {Post : PO} (h : QE d mc ms M as F A al Post) {Post2 : PO} (e : Post = Post2) : QE d mc ms M as F A al Post2 := e ▸ h
theorem ev_count {lf : Nat → Int} {dg n : Nat} {m : Int} {mk : Nat → Int} {F : HF} {A : HA} {al : AL} (hK : KX al) (hX : XF F) (hm : F 2 3 = vI m) (hdg : F 27 2 = vI dg) (hn : F 27 1 = vI n) (hm2 : 2 ≤ m) (hm4 : m ≤ 4096) (hd63 : dg ≤ n) (hn63 : n ≤ 63) (hmk : ∀ i, i ≤ dg → 0 ≤ mk i ∧ mk i < m) (hA28 : ∀ i, i ≤ dg → A 28 i = mk i) (hlf : ∀ j, j < 63 → A 38 j = lf j) (rlf : ∀ j, 0 ≤ lf j ∧ lf j < m) (ho : F 36 1 = vI (ofE lf dg)) : QE 2 0 0 mX3_countMends [vA 36] F A al (fun o F' A' al' => o = .inl none ∧ al' = al ∧ FOff [(36, 4), (36, 5), (36, 6)] F F' ∧ F' 36 4 = vI (mdsE m dg n mk lf).1 ∧ F' 36 5 = vI (mdsE m dg n mk lf).2.1 ∧ F' 36 6 = vI (mdsE m dg n mk lf).2.2 ∧ Off [40] A A') := by
  unfold mdsE
  by_cases h : ofE lf dg = 1
  · rw [if_pos h]
    have hd1 : 1 ≤ dg := by
      rcases Nat.eq_zero_or_pos dg with h0 | h0
      · subst h0
        exact absurd h (by unfold ofE; rw [if_pos (fun j hj => absurd hj (by omega))]; decide)
      · exact h0
    rw [h] at ho
    exact ev_countMends hK hX hm hdg hn hm2 hm4 (by omega) hn63 hmk hA28 hlf rlf ho hd1
  · rw [if_neg h]
    rcases of_01 lf dg with h0 | h0
    · rw [h0] at ho
      exact ev_countNone hK hX ho
    · exact absurd h0 h
set_option maxRecDepth 20000 in
theorem lp_take3 {nb lf : Nat → Int} {A0 : HA} {dg n : Nat} {m : Int} {mk : Nat → Int} {F : HF} {al : AL} (hK : KX al) (hX : XF F) (hm : F 2 3 = vI m) (hdg : F 27 2 = vI dg) (hn : F 27 1 = vI n) (hm2 : 2 ≤ m) (hm4 : m ≤ 4096) (hd63 : dg ≤ n) (hn63 : n ≤ 63) (hmk : ∀ i, i ≤ dg → 0 ≤ mk i ∧ mk i < m) (hA28 : ∀ i, i ≤ dg → A0 28 i = mk i) (rlf : ∀ j, 0 ≤ lf j ∧ lf j < m) {A : HA} (hoA : Off [37, 38, 40] A0 A) (hnb : ∀ j, j < 63 → A 37 j = nb j) (hlf : ∀ j, j < 63 → A 38 j = lf j) : ∀ (k i : Nat), i + k = dg →
    QW mX3_take 3 0 0 (fun o F' A' al' => o = .inl none ∧ al' = al ∧ FOff [(36, 0), (36, 1), (36, 4), (36, 5), (36, 6), (36, 9)] F F' ∧ F' 36 0 = vI 1 ∧ F' 36 9 = vI 0 ∧ F' 36 1 = vI (ofE lf dg) ∧ F' 36 4 = vI (mdsE m dg n mk lf).1 ∧ F' 36 5 = vI (mdsE m dg n mk lf).2.1 ∧ F' 36 6 = vI (mdsE m dg n mk lf).2.2 ∧ Off [37, 38, 40] A0 A' ∧ (∀ j, j < 63 → A' 37 j = nb j) ∧ ∀ j, j < 63 → A' 38 j = lf j) 0 0 95 [some (vA 36), some (vA 20), some (vI i)] [] (up2 F 36 1 (vI (ofE lf i))) A al := by
  intro k
  induction k with
  | zero =>
    intro i hi
    have ei : i = dg := by omega
    subst ei
    have hX1 := hX.up (v := vI (ofE lf i)) (show plainF xrefs 36 1 = true by decide)
    have hm1 : up2 F 36 1 (vI (ofE lf i)) 2 3 = vI m := by rw [up2_row (by decide)]; exact hm
    have hd1 : up2 F 36 1 (vI (ofE lf i)) 27 2 = vI i := by rw [up2_row (by decide)]; exact hdg
    have hn1 : up2 F 36 1 (vI (ofE lf i)) 27 1 = vI n := by rw [up2_row (by decide)]; exact hn
    refine q_iload_n eX3_take_95 rfl ?_
    refine q_aload_n eX3_take_96 rfl ?_
    refine q_getfield eX3_take_97 gf_X3_47 (hK _ (by decide) (by decide)) (by decide) (xf_36_11 hX1) ?_
    refine q_getfield eX3_take_100 gf_X3_71 (hK _ (by decide) (by decide)) (by decide) (by assumption) ?_
    refine q_icmp_ge (tgt := 139) eX3_take_103 (by decide) (by first | assumption | exact ⟨by omega, by omega⟩) (by first | assumption | exact ⟨by omega, by omega⟩) (fun c103 => ?_) (fun c103 => ?_)
    · refine q_aload_n eX3_take_139 rfl ?_
      refine q_callV [] (M1 := mX3_countMends) eX3_take_140 mf_X3_countMends lk_X3_78 (hK _ (by decide) (by decide)) (ev_count hK hX1 hm1 hd1 hn1 hm2 hm4 hd63 hn63 hmk (fun i hi => by rw [hoA 28 (by decide)]; exact hA28 i hi) hlf rlf (up2_eq _ _ _ _)) (by intro E F A al h; cases h.1) (by decide) (by decide) (by decide) (Nat.le_of_ble_eq_true rfl) (st := []) rfl (fun v9 F9 A9 al9 h9 => ?_)
      obtain ⟨e9, rfl, f9, h4, h5, h6, o9⟩ := h9
      obtain rfl := Sum.inl.inj e9
      refine q_aload_n eX3_take_143 rfl ?_
      refine q_iconst eX3_take_144 ?_
      refine q_putfield eX3_take_145 pf_X3_41 (hK _ (by decide) (by decide)) (by decide) (FT_z rfl (Or.inl rfl)) ?_
      refine q_aload_n eX3_take_148 rfl ?_
      refine q_iconst eX3_take_149 ?_
      refine q_putfield eX3_take_150 pf_X3_9 (hK _ (by decide) (by decide)) (by decide) (FT_z rfl (Or.inr rfl)) ?_
      refine q_retV eX3_take_153 rfl (by decide) (by decide) ?_
      refine ⟨rfl, rfl, ?_, up2_eq _ _ _ _, Eq.trans (up2_ne (by decide)) (up2_eq _ _ _ _), ?_, ?_, ?_, ?_, hoA.trans (o9.mono (by simp)), fun j hj => ?_, fun j hj => ?_⟩
      · exact (((FOff.up (by decide)).trans (f9.mono (by decide))).trans (FOff.up (by decide))).trans (FOff.up (by decide))
      · refine Eq.trans (up2_ne (by decide)) (Eq.trans (up2_ne (by decide)) ?_)
        rw [f9 36 1 (by decide)]
        exact up2_eq _ _ _ _
      · exact Eq.trans (up2_ne (by decide)) (Eq.trans (up2_ne (by decide)) h4)
      · exact Eq.trans (up2_ne (by decide)) (Eq.trans (up2_ne (by decide)) h5)
      · exact Eq.trans (up2_ne (by decide)) (Eq.trans (up2_ne (by decide)) h6)
      · rw [o9 37 (by decide)]; exact hnb j hj
      · rw [o9 38 (by decide)]; exact hlf j hj
    · exact absurd c103 (by omega)
  | succ k ih =>
    intro i hi
    have hX1 := hX.up (v := vI (ofE lf i)) (show plainF xrefs 36 1 = true by decide)
    have hd1 : up2 F 36 1 (vI (ofE lf i)) 27 2 = vI dg := by rw [up2_row (by decide)]; exact hdg
    have ho1 : up2 F 36 1 (vI (ofE lf i)) 36 1 = vI (ofE lf i) := up2_eq _ _ _ _
    have hor : InR (ofE lf i) := by rcases of_01 lf i with h | h <;> rw [h] <;> exact ⟨by decide, by decide⟩
    have rli := rlf i
    have ih1 := ih (i + 1) (by omega)
    rw [of_step] at ih1
    refine q_iload_n eX3_take_95 rfl ?_
    refine q_aload_n eX3_take_96 rfl ?_
    refine q_getfield eX3_take_97 gf_X3_47 (hK _ (by decide) (by decide)) (by decide) (xf_36_11 hX1) ?_
    refine q_getfield eX3_take_100 gf_X3_71 (hK _ (by decide) (by decide)) (by decide) (by assumption) ?_
    refine q_icmp_ge (tgt := 139) eX3_take_103 (by decide) (by first | assumption | exact ⟨by omega, by omega⟩) (by first | assumption | exact ⟨by omega, by omega⟩) (fun c103 => ?_) (fun c103 => ?_)
    · exact absurd c103 (by omega)
    · refine q_aload_n eX3_take_106 rfl ?_
      refine q_aload_n eX3_take_107 rfl ?_
      refine q_getfield eX3_take_108 gf_X3_15 (hK _ (by decide) (by decide)) (by decide) (by assumption) ?_
      refine q_if_ne (tgt := 125) eX3_take_111 (by decide) (by first | assumption | exact ⟨by omega, by omega⟩) (fun c111 => ?_) (fun c111 => ?_)
      · refine q_iconst eX3_take_125 ?_
        refine q_goto (tgt := 130) eX3_take_126 (by decide) ?_
        refine q_putfield eX3_take_130 pf_X3_15 (hK _ (by decide) (by decide)) (by decide) (FT_z rfl (by first | exact Or.inl rfl | exact Or.inr rfl)) ?_
        refine q_iinc eX3_take_133 rfl (by decide) rfl ?_
        refine q_goto (tgt := 95) eX3_take_136 (by decide) ?_
        rw [up2_up2]
        first
        | (rw [if_pos (Or.inl c111)] at ih1
           exact ih1)
        | (rw [if_pos (Or.inr c122)] at ih1
           exact ih1)
        | (rw [if_neg (by rintro (q | q); exact c111 q; exact q c122)] at ih1
           exact ih1)
        | (rw [if_neg (by rintro (q | q); exact q c111; exact q c122)] at ih1
           exact ih1)
      · refine q_aload_n eX3_take_114 rfl ?_
        refine q_getfield eX3_take_115 gf_X3_22 (hK _ (by decide) (by decide)) (by decide) (xf_36_3 hX1) ?_
        refine q_iload_n eX3_take_118 rfl ?_
        refine q_callSP [vA 38, vI i] (M1 := mX7_at) eX3_take_119 mf_X7_at lk_X3_65 (ev_atN (hK _ (by decide) (by decide)) (show i < 63 by omega) (by decide)) (by decide) (by decide) (by decide) (Nat.le_of_ble_eq_true rfl) rfl ?_
        rw [hlf i (by omega)]
        refine q_if_eq (tgt := 129) eX3_take_122 (by decide) (by first | assumption | exact ⟨by omega, by omega⟩) (fun c122 => ?_) (fun c122 => ?_)
        · refine q_iconst eX3_take_129 ?_
          refine q_putfield eX3_take_130 pf_X3_15 (hK _ (by decide) (by decide)) (by decide) (FT_z rfl (by first | exact Or.inl rfl | exact Or.inr rfl)) ?_
          refine q_iinc eX3_take_133 rfl (by decide) rfl ?_
          refine q_goto (tgt := 95) eX3_take_136 (by decide) ?_
          rw [up2_up2]
          first
          | (rw [if_pos (Or.inl c111)] at ih1
             exact ih1)
          | (rw [if_pos (Or.inr c122)] at ih1
             exact ih1)
          | (rw [if_neg (by rintro (q | q); exact c111 q; exact q c122)] at ih1
             exact ih1)
          | (rw [if_neg (by rintro (q | q); exact q c111; exact q c122)] at ih1
             exact ih1)
        · refine q_iconst eX3_take_125 ?_
          refine q_goto (tgt := 130) eX3_take_126 (by decide) ?_
          refine q_putfield eX3_take_130 pf_X3_15 (hK _ (by decide) (by decide)) (by decide) (FT_z rfl (by first | exact Or.inl rfl | exact Or.inr rfl)) ?_
          refine q_iinc eX3_take_133 rfl (by decide) rfl ?_
          refine q_goto (tgt := 95) eX3_take_136 (by decide) ?_
          rw [up2_up2]
          first
          | (rw [if_pos (Or.inl c111)] at ih1
             exact ih1)
          | (rw [if_pos (Or.inr c122)] at ih1
             exact ih1)
          | (rw [if_neg (by rintro (q | q); exact c111 q; exact q c122)] at ih1
             exact ih1)
          | (rw [if_neg (by rintro (q | q); exact q c111; exact q c122)] at ih1
             exact ih1)
set_option maxRecDepth 20000 in
theorem lp_take2 {nb : Nat → Int} {R : Nat → Int} {A0 : HA} {dg n : Nat} {m : Int} {mk : Nat → Int} {F : HF} {al : AL} (hK : KX al) (hX : XF F) (hm : F 2 3 = vI m) (hdg : F 27 2 = vI dg) (hn : F 27 1 = vI n) (hm2 : 2 ≤ m) (hm4 : m ≤ 4096) (hd63 : dg ≤ n) (hn63 : n ≤ 63) (hmk : ∀ i, i ≤ dg → 0 ≤ mk i ∧ mk i < m) (hA28 : ∀ i, i ≤ dg → A0 28 i = mk i) : ∀ (k : Nat) (A : HA) (row : Nat → Int), dg + k ≤ n → (∀ j, 0 ≤ row j ∧ row j < m) → Off [37, 38, 40] A0 A → (∀ j, j < 63 → A 37 j = nb j) → (∀ j, j < 63 → A 38 j = row j) → rsE m dg mk k row = R →
    QW mX3_take 3 0 0 (fun o F' A' al' => o = .inl none ∧ al' = al ∧ FOff [(36, 0), (36, 1), (36, 4), (36, 5), (36, 6), (36, 9)] F F' ∧ F' 36 0 = vI 1 ∧ F' 36 9 = vI 0 ∧ F' 36 1 = vI (ofE R dg) ∧ F' 36 4 = vI (mdsE m dg n mk R).1 ∧ F' 36 5 = vI (mdsE m dg n mk R).2.1 ∧ F' 36 6 = vI (mdsE m dg n mk R).2.2 ∧ Off [37, 38, 40] A0 A' ∧ (∀ j, j < 63 → A' 37 j = nb j) ∧ ∀ j, j < 63 → A' 38 j = R j) 0 0 62 [some (vA 36), some (vA 20), some (vI ((dg : Int) + k - 1))] [] F A al := by
  intro k
  induction k with
  | zero =>
    intro A row hk rr hoA hnb hrow hR
    subst hR
    have hX1 := hX.up (v := vI 0) (show plainF xrefs 36 1 = true by decide)
    refine q_iload_n eX3_take_62 rfl ?_
    refine q_aload_n eX3_take_63 rfl ?_
    refine q_getfield eX3_take_64 gf_X3_47 (hK _ (by decide) (by decide)) (by decide) (xf_36_11 hX) ?_
    refine q_getfield eX3_take_67 gf_X3_71 (hK _ (by decide) (by decide)) (by decide) (by assumption) ?_
    refine q_icmp_lt (tgt := 88) eX3_take_70 (by decide) (by first | assumption | exact ⟨by omega, by omega⟩) (by first | assumption | exact ⟨by omega, by omega⟩) (fun c70 => ?_) (fun c70 => ?_)
    · refine q_aload_n eX3_take_88 rfl ?_
      refine q_iconst eX3_take_89 ?_
      refine q_putfield eX3_take_90 pf_X3_15 (hK _ (by decide) (by decide)) (by decide) (FT_z rfl (Or.inl rfl)) ?_
      refine q_iconst eX3_take_93 ?_
      refine q_istore_n eX3_take_94 (by decide) rfl ?_
      have h := lp_take3 (nb := nb) (lf := row) hK hX hm hdg hn hm2 hm4 hd63 hn63 hmk hA28 rr hoA hnb hrow dg 0 (by omega)
      rw [show ofE row 0 = 0 from if_pos (fun j hj => absurd hj (by omega))] at h
      exact h
    · exact absurd c70 (by omega)
  | succ k ih =>
    intro A row hk rr hoA hnb hrow hR
    have e0 : (dg : Int) + ((k + 1 : Nat) : Int) - 1 = ((dg + k : Nat) : Int) := by omega
    rw [e0]
    refine q_iload_n eX3_take_62 rfl ?_
    refine q_aload_n eX3_take_63 rfl ?_
    refine q_getfield eX3_take_64 gf_X3_47 (hK _ (by decide) (by decide)) (by decide) (xf_36_11 hX) ?_
    refine q_getfield eX3_take_67 gf_X3_71 (hK _ (by decide) (by decide)) (by decide) (by assumption) ?_
    refine q_icmp_lt (tgt := 88) eX3_take_70 (by decide) (by first | assumption | exact ⟨by omega, by omega⟩) (by first | assumption | exact ⟨by omega, by omega⟩) (fun c70 => ?_) (fun c70 => ?_)
    · exact absurd c70 (by omega)
    · refine q_aload_n eX3_take_73 rfl ?_
      refine q_aload_n eX3_take_74 rfl ?_
      refine q_getfield eX3_take_75 gf_X3_22 (hK _ (by decide) (by decide)) (by decide) (xf_36_3 hX) ?_
      refine q_iload_n eX3_take_78 rfl ?_
      refine q_callVV [vA 38, vI (dg + k : Nat)] (M1 := mX3_lessMaker) eX3_take_79 mf_X3_lessMaker lk_X3_74 (hK _ (by decide) (by decide)) (ev_lessMaker (mk := mk) (top := dg + k) (row := row) hK hX hm hdg hm2 hm4 hmk (hK _ (by decide) (by decide)) (by decide) (fun i hi => by rw [hoA 28 (by decide)]; exact hA28 i hi) rr (by omega) (by omega) hrow) (by decide) (by decide) (by decide) (Nat.le_of_ble_eq_true rfl) rfl (fun A3 h3 => ?_)
      obtain ⟨o3, v3⟩ := h3
      refine q_iinc eX3_take_82 rfl (by decide) rfl ?_
      refine q_goto (tgt := 62) eX3_take_85 (by decide) ?_
      rw [show ((dg + k : Nat) : Int) + -1 = (dg : Int) + k - 1 by omega]
      exact ih A3 (lmE m dg mk (dg + k) row) (by omega) (lm_range (by omega) rr) (hoA.trans (o3.mono (by simp))) (fun j hj => by rw [o3 37 (by decide)]; exact hnb j hj) v3 hR
set_option maxRecDepth 20000 in
theorem lp_take1 {bt : Nat → Int} {A0 : HA} {dg n : Nat} {m : Int} {mk : Nat → Int} {F : HF} {al : AL} (hK : KX al) (hX : XF F) (hm : F 2 3 = vI m) (hdg : F 27 2 = vI dg) (hn : F 27 1 = vI n) (hm2 : 2 ≤ m) (hm4 : m ≤ 4096) (hd63 : dg ≤ n) (hn63 : n ≤ 63) (hmk : ∀ i, i ≤ dg → 0 ≤ mk i ∧ mk i < m) (hA28 : ∀ i, i ≤ dg → A0 28 i = mk i) (hbt : ∀ j, j < n → A0 20 j = bt j ∧ 0 ≤ bt j ∧ bt j < m) : ∀ (k i : Nat) (A : HA), i + k = 63 → Off [37, 38, 40] A0 A → (∀ j, j < i → A 37 j = nbE n bt j) → (∀ j, j < i → A 38 j = nbE n bt j) →
    QW mX3_take 3 0 0 (fun o F' A' al' => o = .inl none ∧ al' = al ∧ FOff [(36, 0), (36, 1), (36, 4), (36, 5), (36, 6), (36, 9)] F F' ∧ F' 36 0 = vI 1 ∧ F' 36 9 = vI 0 ∧ F' 36 1 = vI (ofE (rsE m dg mk (n - dg) (nbE n bt)) dg) ∧ F' 36 4 = vI (mdsE m dg n mk (rsE m dg mk (n - dg) (nbE n bt))).1 ∧ F' 36 5 = vI (mdsE m dg n mk (rsE m dg mk (n - dg) (nbE n bt))).2.1 ∧ F' 36 6 = vI (mdsE m dg n mk (rsE m dg mk (n - dg) (nbE n bt))).2.2 ∧ Off [37, 38, 40] A0 A' ∧ (∀ j, j < 63 → A' 37 j = nbE n bt j) ∧ ∀ j, j < 63 → A' 38 j = rsE m dg mk (n - dg) (nbE n bt) j) 0 0 2 [some (vA 36), some (vA 20), some (vI i)] [] F A al := by
  intro k
  induction k with
  | zero =>
    intro i A hi hoA h1 h2
    have ei : i = 63 := by omega
    subst ei
    refine q_iload_n eX3_take_2 rfl ?_
    refine q_bipush eX3_take_3 (by decide +kernel) ?_
    refine q_icmp_ge (tgt := 52) eX3_take_5 (by decide) (by first | assumption | exact ⟨by omega, by omega⟩) (by first | assumption | exact ⟨by omega, by omega⟩) (fun c5 => ?_) (fun c5 => ?_)
    · refine q_aload_n eX3_take_52 rfl ?_
      refine q_getfield eX3_take_53 gf_X3_47 (hK _ (by decide) (by decide)) (by decide) (xf_36_11 hX) ?_
      refine q_getfield eX3_take_56 gf_X3_60 (hK _ (by decide) (by decide)) (by decide) (by assumption) ?_
      refine q_iconst eX3_take_59 ?_
      refine q_isub eX3_take_60 ?_
      refine q_istore_n eX3_take_61 (by decide) rfl ?_
      rw [show (n : Int) - 1 = (dg : Int) + ((n - dg : Nat) : Int) - 1 by omega]
      exact lp_take2 hK hX hm hdg hn hm2 hm4 hd63 hn63 hmk hA28 (n - dg) A (nbE n bt) (by omega) (fun j => by
        unfold nbE
        split
        · next h => exact (hbt j h).2
        · omega) hoA h1 h2 rfl
    · exact absurd c5 (by omega)
  | succ k ih =>
    intro i A hi hoA h1 h2
    have tail : ∀ v, v = nbE n bt i → ∀ j, j < i + 1 → up2 (up2 A 37 i v) 38 i v 37 j = nbE n bt j ∧ up2 (up2 A 37 i v) 38 i v 38 j = nbE n bt j := by
      intro v hv j hj
      rw [up2_row (show 37 ≠ 38 by decide), up2_at, up2_at, up2_row (show 38 ≠ 37 by decide)]
      by_cases he : j = i
      · rw [if_pos he, if_pos he, hv, he]; exact ⟨rfl, rfl⟩
      · rw [if_neg he, if_neg he]; exact ⟨h1 j (by omega), h2 j (by omega)⟩
    have hoff : ∀ v w, Off [37, 38, 40] A0 (up2 (up2 A 37 i v) 38 i w) := fun v w => (hoA.trans (Off.up (by simp))).trans (Off.up (by simp))
    refine q_iload_n eX3_take_2 rfl ?_
    refine q_bipush eX3_take_3 (by decide +kernel) ?_
    refine q_icmp_ge (tgt := 52) eX3_take_5 (by decide) (by first | assumption | exact ⟨by omega, by omega⟩) (by first | assumption | exact ⟨by omega, by omega⟩) (fun c5 => ?_) (fun c5 => ?_)
    · exact absurd c5 (by omega)
    · refine q_aload_n eX3_take_8 rfl ?_
      refine q_getfield eX3_take_9 gf_X3_18 (hK _ (by decide) (by decide)) (by decide) (xf_36_2 hX) ?_
      refine q_iload_n eX3_take_12 rfl ?_
      refine q_iload_n eX3_take_13 rfl ?_
      refine q_aload_n eX3_take_14 rfl ?_
      refine q_getfield eX3_take_15 gf_X3_47 (hK _ (by decide) (by decide)) (by decide) (xf_36_11 hX) ?_
      refine q_getfield eX3_take_18 gf_X3_60 (hK _ (by decide) (by decide)) (by decide) (by assumption) ?_
      refine q_icmp_ge (tgt := 32) eX3_take_21 (by decide) (by first | assumption | exact ⟨by omega, by omega⟩) (by first | assumption | exact ⟨by omega, by omega⟩) (fun c21 => ?_) (fun c21 => ?_)
      · refine q_iconst eX3_take_32 ?_
        refine q_iast eX3_take_33 (hK _ (by decide) (by decide)) (by omega) (by omega) ?_
        refine q_aload_n eX3_take_34 rfl ?_
        refine q_getfield eX3_take_35 gf_X3_22 (hK _ (by decide) (by decide)) (by decide) (xf_36_3 hX) ?_
        refine q_iload_n eX3_take_38 rfl ?_
        refine q_aload_n eX3_take_39 rfl ?_
        refine q_getfield eX3_take_40 gf_X3_18 (hK _ (by decide) (by decide)) (by decide) (xf_36_2 hX) ?_
        refine q_iload_n eX3_take_43 rfl ?_
        refine q_iald eX3_take_44 (hK _ (by decide) (by decide)) (by omega) (by omega) ?_
        rw [up2_eq]
        refine q_iast eX3_take_45 (hK _ (by decide) (by decide)) (by omega) (by omega) ?_
        refine q_iinc eX3_take_46 rfl (by decide) rfl ?_
        refine q_goto (tgt := 2) eX3_take_49 (by decide) ?_
        first
        | exact ih (i + 1) _ (by omega) (hoff _ _) (fun j hj => (tail 0 (by unfold nbE; rw [if_neg (by omega)]) j hj).1) (fun j hj => (tail 0 (by unfold nbE; rw [if_neg (by omega)]) j hj).2)
        | exact ih (i + 1) _ (by omega) (hoff _ _) (fun j hj => (tail (bt i) (by unfold nbE; rw [if_pos (by omega)]) j hj).1) (fun j hj => (tail (bt i) (by unfold nbE; rw [if_pos (by omega)]) j hj).2)
      · refine q_aload_n eX3_take_24 rfl ?_
        refine q_iload_n eX3_take_25 rfl ?_
        refine q_callSP [vA 20, vI i] (M1 := mX7_at) eX3_take_26 mf_X7_at lk_X3_65 (ev_atN (hK _ (by decide) (by decide)) (show i < 200 by omega) (by decide)) (by decide) (by decide) (by decide) (Nat.le_of_ble_eq_true rfl) rfl ?_
        rw [show A 20 i = bt i by rw [hoA 20 (by decide)]; exact (hbt i (by omega)).1]
        refine q_goto (tgt := 33) eX3_take_29 (by decide) ?_
        refine q_iast eX3_take_33 (hK _ (by decide) (by decide)) (by omega) (by omega) ?_
        refine q_aload_n eX3_take_34 rfl ?_
        refine q_getfield eX3_take_35 gf_X3_22 (hK _ (by decide) (by decide)) (by decide) (xf_36_3 hX) ?_
        refine q_iload_n eX3_take_38 rfl ?_
        refine q_aload_n eX3_take_39 rfl ?_
        refine q_getfield eX3_take_40 gf_X3_18 (hK _ (by decide) (by decide)) (by decide) (xf_36_2 hX) ?_
        refine q_iload_n eX3_take_43 rfl ?_
        refine q_iald eX3_take_44 (hK _ (by decide) (by decide)) (by omega) (by omega) ?_
        rw [up2_eq]
        refine q_iast eX3_take_45 (hK _ (by decide) (by decide)) (by omega) (by omega) ?_
        refine q_iinc eX3_take_46 rfl (by decide) rfl ?_
        refine q_goto (tgt := 2) eX3_take_49 (by decide) ?_
        first
        | exact ih (i + 1) _ (by omega) (hoff _ _) (fun j hj => (tail 0 (by unfold nbE; rw [if_neg (by omega)]) j hj).1) (fun j hj => (tail 0 (by unfold nbE; rw [if_neg (by omega)]) j hj).2)
        | exact ih (i + 1) _ (by omega) (hoff _ _) (fun j hj => (tail (bt i) (by unfold nbE; rw [if_pos (by omega)]) j hj).1) (fun j hj => (tail (bt i) (by unfold nbE; rw [if_pos (by omega)]) j hj).2)
set_option maxRecDepth 20000 in
theorem ev_take {bt : Nat → Int} {dg n : Nat} {m : Int} {mk : Nat → Int} {F : HF} {A : HA} {al : AL} (hK : KX al) (hX : XF F) (hm : F 2 3 = vI m) (hdg : F 27 2 = vI dg) (hn : F 27 1 = vI n) (hm2 : 2 ≤ m) (hm4 : m ≤ 4096) (hd63 : dg ≤ n) (hn63 : n ≤ 63) (hmk : ∀ i, i ≤ dg → 0 ≤ mk i ∧ mk i < m) (hA28 : ∀ i, i ≤ dg → A 28 i = mk i) (hbt : ∀ j, j < n → A 20 j = bt j ∧ 0 ≤ bt j ∧ bt j < m) : QE 3 0 0 mX3_take [vA 36, vA 20] F A al ((fun o F' A' al' => o = .inl none ∧ al' = al ∧ FOff [(36, 0), (36, 1), (36, 4), (36, 5), (36, 6), (36, 9)] F F' ∧ F' 36 0 = vI 1 ∧ F' 36 9 = vI 0 ∧ F' 36 1 = vI (ofE (rsE m dg mk (n - dg) (nbE n bt)) dg) ∧ F' 36 4 = vI (mdsE m dg n mk (rsE m dg mk (n - dg) (nbE n bt))).1 ∧ F' 36 5 = vI (mdsE m dg n mk (rsE m dg mk (n - dg) (nbE n bt))).2.1 ∧ F' 36 6 = vI (mdsE m dg n mk (rsE m dg mk (n - dg) (nbE n bt))).2.2 ∧ Off [37, 38, 40] A A' ∧ (∀ j, j < 63 → A' 37 j = nbE n bt j) ∧ ∀ j, j < 63 → A' 38 j = rsE m dg mk (n - dg) (nbE n bt) j)) := by
  refine QE.mk (by decide +kernel) (Nat.le_of_ble_eq_true rfl) ?_
  refine q_iconst eX3_take_0 ?_
  refine q_istore_n eX3_take_1 (by decide) rfl ?_
  exact lp_take1 hK hX hm hdg hn hm2 hm4 hd63 hn63 hmk hA28 hbt 63 0 A (by omega) Off.rfl' (fun j hj => absurd hj (by omega)) (fun j hj => absurd hj (by omega))
