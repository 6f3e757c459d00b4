/-! Latest: countMends, take -/
def miE (m : Int) (dg : Nat) (lf sf : Nat → Int) (i : Int) : Nat → Nat → Int × Int × Int → Int × Int × Int
  | 0, _, s => s
  | k + 1, v, s => miE m dg lf sf i k (v + 1) (if mdE m dg lf sf v then (s.1 + 1, if s.1 = 0 then i else s.2.1, if s.1 = 0 then (v : Int) else s.2.2) else s)
theorem mi_range {m : Int} {dg : Nat} {lf sf : Nat → Int} {i : Int} : ∀ (k v : Nat) (s : Int × Int × Int), 0 ≤ s.1 → 0 ≤ (miE m dg lf sf i k v s).1 ∧ (miE m dg lf sf i k v s).1 ≤ s.1 + k
  | 0, _, s, h => ⟨h, by show s.1 ≤ s.1 + 0; omega⟩
  | k + 1, v, s, h => by
    by_cases hc : mdE m dg lf sf v
    · have := mi_range (m := m) (dg := dg) (lf := lf) (sf := sf) (i := i) k (v + 1) (s.1 + 1, if s.1 = 0 then i else s.2.1, if s.1 = 0 then (v : Int) else s.2.2) (by show 0 ≤ s.1 + 1; omega)
      unfold miE
      rw [if_pos hc]
      exact ⟨this.1, by have h2 := this.2; simp only at h2; omega⟩
    · have := mi_range (m := m) (dg := dg) (lf := lf) (sf := sf) (i := i) k (v + 1) s h
      unfold miE
      rw [if_neg hc]
      exact ⟨this.1, by omega⟩
def moE (m : Int) (dg : Nat) (mk lf : Nat → Int) : Nat → Nat → (Nat → Int) → Int × Int × Int → Int × Int × Int
  | 0, _, _, s => s
  | k + 1, i, sf, s => moE m dg mk lf k (i + 1) (sfE m dg mk sf) (miE m dg lf sf i (m.toNat - 1) 1 s)
set_option maxRecDepth 20000 in
theorem lp_mend1 {Post : PO} {dg i : Nat} {m : Int} {lf sf : Nat → Int} {F0 : HF} {A : HA} {al : AL} (hK : KX al) (hX0 : XF F0) (hm0 : F0 2 3 = vI m) (hdg0 : F0 27 2 = vI dg) (hm2 : 2 ≤ m) (hm4 : m ≤ 4096) (hd63 : dg ≤ 63) (hlf : ∀ j, j < 63 → A 38 j = lf j) (hsf : ∀ j, j < 63 → A 40 j = sf j) (rlf : ∀ j, 0 ≤ lf j ∧ lf j < m) (rsf : ∀ j, 0 ≤ sf j ∧ sf j < m) (hi : i < 63) {S : Int × Int × Int}
    (cont : ∀ F', FOff [(36, 4), (36, 5), (36, 6)] F0 F' → F' 36 4 = vI S.1 → F' 36 5 = vI S.2.1 → F' 36 6 = vI S.2.2 → QW mX3_countMends 2 0 0 Post 0 0 128 [some (vA 36), some (vI i), some (vI m)] [] F' A al) :
    ∀ (k v : Nat) (F : HF) (s : Int × Int × Int), (v : Int) + k = m → 1 ≤ v → FOff [(36, 4), (36, 5), (36, 6)] F0 F → F 36 4 = vI s.1 → F 36 5 = vI s.2.1 → F 36 6 = vI s.2.2 → 0 ≤ s.1 → s.1 + k ≤ 300000 → miE m dg lf sf i k v s = S →
    QW mX3_countMends 2 0 0 Post 0 0 52 [some (vA 36), some (vI i), some (vI v)] [] F A al := by
  intro k
  induction k with
  | zero =>
    intro v F s hv hv1 ho h4 h5 h6 r1 r2 hS
    have hX := hX0.foff ho (by decide)
    have hm : F 2 3 = vI m := by rw [ho.row 2 (by decide)]; exact hm0
    have e : (v : Int) = m := by omega
    refine q_iload_n eX3_countMends_52 rfl ?_
    refine q_aload_n eX3_countMends_53 rfl ?_
    refine q_getfield eX3_countMends_54 gf_X3_47 (hK _ (by decide) (by decide)) (by decide) (xf_36_11 hX) ?_
    refine q_getfield eX3_countMends_57 gf_X3_81 (hK _ (by decide) (by decide)) (by decide) (xf_27_0 hX) ?_
    refine q_getfield eX3_countMends_60 gf_X3_85 (hK _ (by decide) (by decide)) (by decide) (by assumption) ?_
    refine q_icmp_ge (tgt := 128) eX3_countMends_63 (by decide) (by first | assumption | exact ⟨by omega, by omega⟩) (by first | assumption | exact ⟨by omega, by omega⟩) (fun c63 => ?_) (fun c63 => ?_)
    · rw [e]
      subst hS
      exact cont F ho h4 h5 h6
    · exact absurd c63 (by omega)
  | succ k ih =>
    intro v F s hv hv1 ho h4 h5 h6 r1 r2 hS
    have hX := hX0.foff ho (by decide)
    have hm : F 2 3 = vI m := by rw [ho.row 2 (by decide)]; exact hm0
    have hdg : F 27 2 = vI dg := by rw [ho.row 27 (by decide)]; exact hdg0
    have hst : miE m dg lf sf i (k + 1) v s = miE m dg lf sf i k (v + 1) (if mdE m dg lf sf v then (s.1 + 1, if s.1 = 0 then (i : Int) else s.2.1, if s.1 = 0 then (v : Int) else s.2.2) else s) := rfl
    rw [hst] at hS
    have r3 : InR (if mdE m dg lf sf v then 1 else 0) := by split <;> exact ⟨by decide, by decide⟩
    refine q_iload_n eX3_countMends_52 rfl ?_
    refine q_aload_n eX3_countMends_53 rfl ?_
    refine q_getfield eX3_countMends_54 gf_X3_47 (hK _ (by decide) (by decide)) (by decide) (xf_36_11 hX) ?_
    refine q_getfield eX3_countMends_57 gf_X3_81 (hK _ (by decide) (by decide)) (by decide) (xf_27_0 hX) ?_
    refine q_getfield eX3_countMends_60 gf_X3_85 (hK _ (by decide) (by decide)) (by decide) (by assumption) ?_
    refine q_icmp_ge (tgt := 128) eX3_countMends_63 (by decide) (by first | assumption | exact ⟨by omega, by omega⟩) (by first | assumption | exact ⟨by omega, by omega⟩) (fun c63 => ?_) (fun c63 => ?_)
    · exact absurd c63 (by omega)
    · refine q_aload_n eX3_countMends_66 rfl ?_
      refine q_iload_n eX3_countMends_67 rfl ?_
      refine q_callVP [vI v] (M1 := mX3_isMendedBy) eX3_countMends_68 mf_X3_isMendedBy lk_X3_106 (hK _ (by decide) (by decide)) (ev_isMended hK hX hm hdg hm2 hm4 hd63 (by omega) hlf hsf rlf rsf) (by decide) (by decide) (by decide) (Nat.le_of_ble_eq_true rfl) rfl ?_
      refine q_if_eq (tgt := 122) eX3_countMends_71 (by decide) (by first | assumption | exact ⟨by omega, by omega⟩) (fun c71 => ?_) (fun c71 => ?_)
      · refine q_iinc eX3_countMends_122 rfl (by decide) rfl ?_
        refine q_goto (tgt := 52) eX3_countMends_125 (by decide) ?_
        first
        | exact absurd c98 c79
        | exact absurd c79 c98
        | (rw [if_neg (fun h => by rw [if_pos h] at c71; exact absurd c71 (by decide))] at hS
           exact ih (v + 1) F s (by omega) (by omega) ho h4 h5 h6 r1 (by omega) hS)
        | (have hmd : mdE m dg lf sf v := Classical.byContradiction fun h => c71 (if_neg h)
           rw [if_pos hmd] at hS
           refine ih (v + 1) _ _ (by omega) (by omega) (((ho.trans (FOff.up (by decide))).trans (FOff.up (by decide))).trans (FOff.up (by decide))) (up2_eq _ _ _ _) ?_ ?_ (by show 0 ≤ s.1 + 1; omega) (by show s.1 + 1 + k ≤ 300000; omega) hS
           · refine Eq.trans (up2_ne (by decide)) (Eq.trans (up2_ne (by decide)) (Eq.trans (up2_eq _ _ _ _) ?_))
             show _ = vI (if s.1 = 0 then (i : Int) else s.2.1)
             first
             | (rw [if_pos (by omega)])
             | (rw [if_neg (by omega)])
           · refine Eq.trans (up2_ne (by decide)) (Eq.trans (up2_eq _ _ _ _) ?_)
             show _ = vI (if s.1 = 0 then (v : Int) else s.2.2)
             first
             | (rw [if_pos (by omega)])
             | (rw [if_neg (by omega)]))
      · refine q_aload_n eX3_countMends_74 rfl ?_
        refine q_aload_n eX3_countMends_75 rfl ?_
        refine q_getfield eX3_countMends_76 gf_X3_25 (hK _ (by decide) (by decide)) (by decide) (by first | assumption | (exact Eq.trans (up2_ne (by decide)) (by assumption)) | (exact Eq.trans (up2_ne (by decide)) (Eq.trans (up2_ne (by decide)) (by assumption)))) ?_
        refine q_if_ne (tgt := 86) eX3_countMends_79 (by decide) (by first | assumption | exact ⟨by omega, by omega⟩) (fun c79 => ?_) (fun c79 => ?_)
        · refine q_aload_n eX3_countMends_86 rfl ?_
          refine q_getfield eX3_countMends_87 gf_X3_29 (hK _ (by decide) (by decide)) (by decide) (by first | assumption | (exact Eq.trans (up2_ne (by decide)) (by assumption))) ?_
          refine q_putfield eX3_countMends_90 pf_X3_29 (hK _ (by decide) (by decide)) (by decide) (FT_i rfl) ?_
          refine q_aload_n eX3_countMends_93 rfl ?_
          refine q_aload_n eX3_countMends_94 rfl ?_
          refine q_getfield eX3_countMends_95 gf_X3_25 (hK _ (by decide) (by decide)) (by decide) (by first | assumption | (exact Eq.trans (up2_ne (by decide)) (by assumption)) | (exact Eq.trans (up2_ne (by decide)) (Eq.trans (up2_ne (by decide)) (by assumption)))) ?_
          refine q_if_ne (tgt := 105) eX3_countMends_98 (by decide) (by first | assumption | exact ⟨by omega, by omega⟩) (fun c98 => ?_) (fun c98 => ?_)
          · refine q_aload_n eX3_countMends_105 rfl ?_
            refine q_getfield eX3_countMends_106 gf_X3_32 (hK _ (by decide) (by decide)) (by decide) (by first | assumption | (exact Eq.trans (up2_ne (by decide)) (by assumption))) ?_
            refine q_putfield eX3_countMends_109 pf_X3_32 (hK _ (by decide) (by decide)) (by decide) (FT_i rfl) ?_
            refine q_aload_n eX3_countMends_112 rfl ?_
            refine q_dup eX3_countMends_113 rfl ?_
            refine q_getfield eX3_countMends_114 gf_X3_25 (hK _ (by decide) (by decide)) (by decide) (by first | assumption | (exact Eq.trans (up2_ne (by decide)) (by assumption)) | (exact Eq.trans (up2_ne (by decide)) (Eq.trans (up2_ne (by decide)) (by assumption)))) ?_
            refine q_iconst eX3_countMends_117 ?_
            refine q_iadd eX3_countMends_118 ?_
            refine q_putfield eX3_countMends_119 pf_X3_25 (hK _ (by decide) (by decide)) (by decide) (FT_i rfl) ?_
            refine q_iinc eX3_countMends_122 rfl (by decide) rfl ?_
            refine q_goto (tgt := 52) eX3_countMends_125 (by decide) ?_
            first
            | exact absurd c98 c79
            | exact absurd c79 c98
            | (rw [if_neg (fun h => by rw [if_pos h] at c71; exact absurd c71 (by decide))] at hS
               exact ih (v + 1) F s (by omega) (by omega) ho h4 h5 h6 r1 (by omega) hS)
            | (have hmd : mdE m dg lf sf v := Classical.byContradiction fun h => c71 (if_neg h)
               rw [if_pos hmd] at hS
               refine ih (v + 1) _ _ (by omega) (by omega) (((ho.trans (FOff.up (by decide))).trans (FOff.up (by decide))).trans (FOff.up (by decide))) (up2_eq _ _ _ _) ?_ ?_ (by show 0 ≤ s.1 + 1; omega) (by show s.1 + 1 + k ≤ 300000; omega) hS
               · refine Eq.trans (up2_ne (by decide)) (Eq.trans (up2_ne (by decide)) (Eq.trans (up2_eq _ _ _ _) ?_))
                 show _ = vI (if s.1 = 0 then (i : Int) else s.2.1)
                 first
                 | (rw [if_pos (by omega)])
                 | (rw [if_neg (by omega)])
               · refine Eq.trans (up2_ne (by decide)) (Eq.trans (up2_eq _ _ _ _) ?_)
                 show _ = vI (if s.1 = 0 then (v : Int) else s.2.2)
                 first
                 | (rw [if_pos (by omega)])
                 | (rw [if_neg (by omega)]))
          · refine q_iload_n eX3_countMends_101 rfl ?_
            refine q_goto (tgt := 109) eX3_countMends_102 (by decide) ?_
            refine q_putfield eX3_countMends_109 pf_X3_32 (hK _ (by decide) (by decide)) (by decide) (FT_i rfl) ?_
            refine q_aload_n eX3_countMends_112 rfl ?_
            refine q_dup eX3_countMends_113 rfl ?_
            refine q_getfield eX3_countMends_114 gf_X3_25 (hK _ (by decide) (by decide)) (by decide) (by first | assumption | (exact Eq.trans (up2_ne (by decide)) (by assumption)) | (exact Eq.trans (up2_ne (by decide)) (Eq.trans (up2_ne (by decide)) (by assumption)))) ?_
            refine q_iconst eX3_countMends_117 ?_
            refine q_iadd eX3_countMends_118 ?_
            refine q_putfield eX3_countMends_119 pf_X3_25 (hK _ (by decide) (by decide)) (by decide) (FT_i rfl) ?_
            refine q_iinc eX3_countMends_122 rfl (by decide) rfl ?_
            refine q_goto (tgt := 52) eX3_countMends_125 (by decide) ?_
            first
            | exact absurd c98 c79
            | exact absurd c79 c98
            | (rw [if_neg (fun h => by rw [if_pos h] at c71; exact absurd c71 (by decide))] at hS
               exact ih (v + 1) F s (by omega) (by omega) ho h4 h5 h6 r1 (by omega) hS)
            | (have hmd : mdE m dg lf sf v := Classical.byContradiction fun h => c71 (if_neg h)
               rw [if_pos hmd] at hS
               refine ih (v + 1) _ _ (by omega) (by omega) (((ho.trans (FOff.up (by decide))).trans (FOff.up (by decide))).trans (FOff.up (by decide))) (up2_eq _ _ _ _) ?_ ?_ (by show 0 ≤ s.1 + 1; omega) (by show s.1 + 1 + k ≤ 300000; omega) hS
               · refine Eq.trans (up2_ne (by decide)) (Eq.trans (up2_ne (by decide)) (Eq.trans (up2_eq _ _ _ _) ?_))
                 show _ = vI (if s.1 = 0 then (i : Int) else s.2.1)
                 first
                 | (rw [if_pos (by omega)])
                 | (rw [if_neg (by omega)])
               · refine Eq.trans (up2_ne (by decide)) (Eq.trans (up2_eq _ _ _ _) ?_)
                 show _ = vI (if s.1 = 0 then (v : Int) else s.2.2)
                 first
                 | (rw [if_pos (by omega)])
                 | (rw [if_neg (by omega)]))
        · refine q_iload_n eX3_countMends_82 rfl ?_
          refine q_goto (tgt := 90) eX3_countMends_83 (by decide) ?_
          refine q_putfield eX3_countMends_90 pf_X3_29 (hK _ (by decide) (by decide)) (by decide) (FT_i rfl) ?_
          refine q_aload_n eX3_countMends_93 rfl ?_
          refine q_aload_n eX3_countMends_94 rfl ?_
          refine q_getfield eX3_countMends_95 gf_X3_25 (hK _ (by decide) (by decide)) (by decide) (by first | assumption | (exact Eq.trans (up2_ne (by decide)) (by assumption)) | (exact Eq.trans (up2_ne (by decide)) (Eq.trans (up2_ne (by decide)) (by assumption)))) ?_
          refine q_if_ne (tgt := 105) eX3_countMends_98 (by decide) (by first | assumption | exact ⟨by omega, by omega⟩) (fun c98 => ?_) (fun c98 => ?_)
          · refine q_aload_n eX3_countMends_105 rfl ?_
            refine q_getfield eX3_countMends_106 gf_X3_32 (hK _ (by decide) (by decide)) (by decide) (by first | assumption | (exact Eq.trans (up2_ne (by decide)) (by assumption))) ?_
            refine q_putfield eX3_countMends_109 pf_X3_32 (hK _ (by decide) (by decide)) (by decide) (FT_i rfl) ?_
            refine q_aload_n eX3_countMends_112 rfl ?_
            refine q_dup eX3_countMends_113 rfl ?_
            refine q_getfield eX3_countMends_114 gf_X3_25 (hK _ (by decide) (by decide)) (by decide) (by first | assumption | (exact Eq.trans (up2_ne (by decide)) (by assumption)) | (exact Eq.trans (up2_ne (by decide)) (Eq.trans (up2_ne (by decide)) (by assumption)))) ?_
            refine q_iconst eX3_countMends_117 ?_
            refine q_iadd eX3_countMends_118 ?_
            refine q_putfield eX3_countMends_119 pf_X3_25 (hK _ (by decide) (by decide)) (by decide) (FT_i rfl) ?_
            refine q_iinc eX3_countMends_122 rfl (by decide) rfl ?_
            refine q_goto (tgt := 52) eX3_countMends_125 (by decide) ?_
            first
            | exact absurd c98 c79
            | exact absurd c79 c98
            | (rw [if_neg (fun h => by rw [if_pos h] at c71; exact absurd c71 (by decide))] at hS
               exact ih (v + 1) F s (by omega) (by omega) ho h4 h5 h6 r1 (by omega) hS)
            | (have hmd : mdE m dg lf sf v := Classical.byContradiction fun h => c71 (if_neg h)
               rw [if_pos hmd] at hS
               refine ih (v + 1) _ _ (by omega) (by omega) (((ho.trans (FOff.up (by decide))).trans (FOff.up (by decide))).trans (FOff.up (by decide))) (up2_eq _ _ _ _) ?_ ?_ (by show 0 ≤ s.1 + 1; omega) (by show s.1 + 1 + k ≤ 300000; omega) hS
               · refine Eq.trans (up2_ne (by decide)) (Eq.trans (up2_ne (by decide)) (Eq.trans (up2_eq _ _ _ _) ?_))
                 show _ = vI (if s.1 = 0 then (i : Int) else s.2.1)
                 first
                 | (rw [if_pos (by omega)])
                 | (rw [if_neg (by omega)])
               · refine Eq.trans (up2_ne (by decide)) (Eq.trans (up2_eq _ _ _ _) ?_)
                 show _ = vI (if s.1 = 0 then (v : Int) else s.2.2)
                 first
                 | (rw [if_pos (by omega)])
                 | (rw [if_neg (by omega)]))
          · refine q_iload_n eX3_countMends_101 rfl ?_
            refine q_goto (tgt := 109) eX3_countMends_102 (by decide) ?_
            refine q_putfield eX3_countMends_109 pf_X3_32 (hK _ (by decide) (by decide)) (by decide) (FT_i rfl) ?_
            refine q_aload_n eX3_countMends_112 rfl ?_
            refine q_dup eX3_countMends_113 rfl ?_
            refine q_getfield eX3_countMends_114 gf_X3_25 (hK _ (by decide) (by decide)) (by decide) (by first | assumption | (exact Eq.trans (up2_ne (by decide)) (by assumption)) | (exact Eq.trans (up2_ne (by decide)) (Eq.trans (up2_ne (by decide)) (by assumption)))) ?_
            refine q_iconst eX3_countMends_117 ?_
            refine q_iadd eX3_countMends_118 ?_
            refine q_putfield eX3_countMends_119 pf_X3_25 (hK _ (by decide) (by decide)) (by decide) (FT_i rfl) ?_
            refine q_iinc eX3_countMends_122 rfl (by decide) rfl ?_
            refine q_goto (tgt := 52) eX3_countMends_125 (by decide) ?_
            first
            | exact absurd c98 c79
            | exact absurd c79 c98
            | (rw [if_neg (fun h => by rw [if_pos h] at c71; exact absurd c71 (by decide))] at hS
               exact ih (v + 1) F s (by omega) (by omega) ho h4 h5 h6 r1 (by omega) hS)
            | (have hmd : mdE m dg lf sf v := Classical.byContradiction fun h => c71 (if_neg h)
               rw [if_pos hmd] at hS
               refine ih (v + 1) _ _ (by omega) (by omega) (((ho.trans (FOff.up (by decide))).trans (FOff.up (by decide))).trans (FOff.up (by decide))) (up2_eq _ _ _ _) ?_ ?_ (by show 0 ≤ s.1 + 1; omega) (by show s.1 + 1 + k ≤ 300000; omega) hS
               · refine Eq.trans (up2_ne (by decide)) (Eq.trans (up2_ne (by decide)) (Eq.trans (up2_eq _ _ _ _) ?_))
                 show _ = vI (if s.1 = 0 then (i : Int) else s.2.1)
                 first
                 | (rw [if_pos (by omega)])
                 | (rw [if_neg (by omega)])
               · refine Eq.trans (up2_ne (by decide)) (Eq.trans (up2_eq _ _ _ _) ?_)
                 show _ = vI (if s.1 = 0 then (v : Int) else s.2.2)
                 first
                 | (rw [if_pos (by omega)])
                 | (rw [if_neg (by omega)]))
set_option maxRecDepth 20000 in
theorem lp_mend2 {dg n : Nat} {m : Int} {mk lf : Nat → Int} {F0 : HF} {A0 : HA} {al : AL} (hK : KX al) (hX0 : XF F0) (hm0 : F0 2 3 = vI m) (hdg0 : F0 27 2 = vI dg) (hn0 : F0 27 1 = vI n) (hoff0 : F0 36 1 = vI 1) (hm2 : 2 ≤ m) (hm4 : m ≤ 4096) (hd63 : dg ≤ 63) (hd1 : 1 ≤ dg) (hn63 : n ≤ 63) (hmk : ∀ i, i ≤ dg → 0 ≤ mk i ∧ mk i < m) (hA28 : ∀ i, i ≤ dg → A0 28 i = mk i) (hlf : ∀ j, j < 63 → A0 38 j = lf j) (rlf : ∀ j, 0 ≤ lf j ∧ lf j < m) {S : Int × Int × Int} :
    ∀ (k i : Nat) (F : HF) (A : HA) (sf : Nat → Int) (s : Int × Int × Int) (l2 : Option LV), i + k = n → FOff [(36, 4), (36, 5), (36, 6)] F0 F → Off [40] A0 A → F 36 4 = vI s.1 → F 36 5 = vI s.2.1 → F 36 6 = vI s.2.2 → 0 ≤ s.1 → s.1 ≤ 4096 * i → (∀ j, j < 63 → A 40 j = sf j) → (∀ j, 0 ≤ sf j ∧ sf j < m) → moE m dg mk lf k i sf s = S →
    QW mX3_countMends 2 0 0 (fun o F' A' al' => o = .inl none ∧ al' = al ∧ FOff [(36, 4), (36, 5), (36, 6)] F0 F' ∧ F' 36 4 = vI S.1 ∧ F' 36 5 = vI S.2.1 ∧ F' 36 6 = vI S.2.2 ∧ Off [40] A0 A') 0 0 32 [some (vA 36), some (vI i), l2] [] F A al := by
  intro k
  induction k with
  | zero =>
    intro i F A sf s l2 hi ho hoA h4 h5 h6 r1 r2 hsf rsf hS
    have hX := hX0.foff ho (by decide)
    have hoff : F 36 1 = vI 1 := by rw [ho 36 1 (by decide)]; exact hoff0
    have hn : F 27 1 = vI n := by rw [ho.row 27 (by decide)]; exact hn0
    refine q_aload_n eX3_countMends_32 rfl ?_
    refine q_getfield eX3_countMends_33 gf_X3_15 (hK _ (by decide) (by decide)) (by decide) (by assumption) ?_
    refine q_if_eq (tgt := 138) eX3_countMends_36 (by decide) (by first | assumption | exact ⟨by omega, by omega⟩) (fun c36 => ?_) (fun c36 => ?_)
    · exact absurd c36 (by decide)
    · refine q_iload_n eX3_countMends_39 rfl ?_
      refine q_aload_n eX3_countMends_40 rfl ?_
      refine q_getfield eX3_countMends_41 gf_X3_47 (hK _ (by decide) (by decide)) (by decide) (xf_36_11 hX) ?_
      refine q_getfield eX3_countMends_44 gf_X3_60 (hK _ (by decide) (by decide)) (by decide) (by assumption) ?_
      refine q_icmp_ge (tgt := 138) eX3_countMends_47 (by decide) (by first | assumption | exact ⟨by omega, by omega⟩) (by first | assumption | exact ⟨by omega, by omega⟩) (fun c47 => ?_) (fun c47 => ?_)
      · refine q_retV eX3_countMends_138 rfl (by decide) (by decide) ?_
        subst hS
        exact ⟨rfl, rfl, ho, h4, h5, h6, hoA⟩
      · exact absurd c47 (by omega)
  | succ k ih =>
    intro i F A sf s l2 hi ho hoA h4 h5 h6 r1 r2 hsf rsf hS
    have hX := hX0.foff ho (by decide)
    have hoff : F 36 1 = vI 1 := by rw [ho 36 1 (by decide)]; exact hoff0
    have hn : F 27 1 = vI n := by rw [ho.row 27 (by decide)]; exact hn0
    have hra := mi_range (m := m) (dg := dg) (lf := lf) (sf := sf) (i := (i : Int)) (m.toNat - 1) 1 s r1
    refine q_aload_n eX3_countMends_32 rfl ?_
    refine q_getfield eX3_countMends_33 gf_X3_15 (hK _ (by decide) (by decide)) (by decide) (by assumption) ?_
    refine q_if_eq (tgt := 138) eX3_countMends_36 (by decide) (by first | assumption | exact ⟨by omega, by omega⟩) (fun c36 => ?_) (fun c36 => ?_)
    · exact absurd c36 (by decide)
    · refine q_iload_n eX3_countMends_39 rfl ?_
      refine q_aload_n eX3_countMends_40 rfl ?_
      refine q_getfield eX3_countMends_41 gf_X3_47 (hK _ (by decide) (by decide)) (by decide) (xf_36_11 hX) ?_
      refine q_getfield eX3_countMends_44 gf_X3_60 (hK _ (by decide) (by decide)) (by decide) (by assumption) ?_
      refine q_icmp_ge (tgt := 138) eX3_countMends_47 (by decide) (by first | assumption | exact ⟨by omega, by omega⟩) (by first | assumption | exact ⟨by omega, by omega⟩) (fun c47 => ?_) (fun c47 => ?_)
      · exact absurd c47 (by omega)
      · refine q_iconst eX3_countMends_50 ?_
        refine q_istore_n eX3_countMends_51 (by decide) rfl ?_
        refine lp_mend1 (S := miE m dg lf sf i (m.toNat - 1) 1 s) hK hX0 hm0 hdg0 hm2 hm4 hd63 (fun j hj => by rw [hoA 38 (by decide)]; exact hlf j hj) hsf rlf rsf (by omega) (fun F' ho' h4' h5' h6' => ?_) (m.toNat - 1) 1 F s (by omega) (Nat.le_refl _) ho h4 h5 h6 r1 (by omega) rfl
        have hX' := hX0.foff ho' (by decide)
        refine q_aload_n eX3_countMends_128 rfl ?_
        refine q_callVV [] (M1 := mX3_shift) eX3_countMends_129 mf_X3_shift lk_X3_110 (hK _ (by decide) (by decide)) (ev_shift (mk := mk) hK hX' (by rw [ho'.row 2 (by decide)]; exact hm0) (by rw [ho'.row 27 (by decide)]; exact hdg0) hm2 hm4 hmk hd63 hd1 (fun i hi => by rw [hoA 28 (by decide)]; exact hA28 i hi) rsf hsf) (by decide) (by decide) (by decide) (Nat.le_of_ble_eq_true rfl) rfl (fun A3 h3 => ?_)
        obtain ⟨o3, v3⟩ := h3
        refine q_iinc eX3_countMends_132 rfl (by decide) rfl ?_
        refine q_goto (tgt := 32) eX3_countMends_135 (by decide) ?_
        exact ih (i + 1) F' A3 (sfE m dg mk sf) _ _ (by omega) ho' (hoA.trans o3) h4' h5' h6' hra.1 (by omega) v3 (sf_range (by omega) rsf) hS
set_option maxRecDepth 20000 in
theorem ev_countMends {dg n : Nat} {m : Int} {mk : Nat → Int} {lf : Nat → Int} {F : HF} {A : HA} {al : AL} (hK : KX al) (hX : XF F) (hm : F 2 3 = vI m) (hdg : F 27 2 = vI dg) (hn : F 27 1 = vI n) (hm2 : 2 ≤ m) (hm4 : m ≤ 4096) (hd63 : dg ≤ 63) (hn63 : n ≤ 63) (hmk : ∀ i, i ≤ dg → 0 ≤ mk i ∧ mk i < m) (hA28 : ∀ i, i ≤ dg → A 28 i = mk i) (hlf : ∀ j, j < 63 → A 38 j = lf j) (rlf : ∀ j, 0 ≤ lf j ∧ lf j < m) (hoff : F 36 1 = vI 1) (hd1 : 1 ≤ dg) : QE 2 0 0 mX3_countMends [vA 36] F A al ((fun o F' A' al' => o = .inl none ∧ al' = al ∧ FOff [(36, 4), (36, 5), (36, 6)] F F' ∧ F' 36 4 = vI (moE m dg mk lf n 0 oneC (0, -1, -1)).1 ∧ F' 36 5 = vI (moE m dg mk lf n 0 oneC (0, -1, -1)).2.1 ∧ F' 36 6 = vI (moE m dg mk lf n 0 oneC (0, -1, -1)).2.2 ∧ Off [40] A A')) := by
  refine QE.mk (by decide +kernel) (Nat.le_of_ble_eq_true rfl) ?_
  refine q_aload_n eX3_countMends_0 rfl ?_
  refine q_iconst eX3_countMends_1 ?_
  refine q_putfield eX3_countMends_2 pf_X3_25 (hK _ (by decide) (by decide)) (by decide) (FT_i rfl) ?_
  refine q_aload_n eX3_countMends_5 rfl ?_
  refine q_iconst eX3_countMends_6 ?_
  refine q_putfield eX3_countMends_7 pf_X3_29 (hK _ (by decide) (by decide)) (by decide) (FT_i rfl) ?_
  refine q_aload_n eX3_countMends_10 rfl ?_
  refine q_iconst eX3_countMends_11 ?_
  refine q_putfield eX3_countMends_12 pf_X3_32 (hK _ (by decide) (by decide)) (by decide) (FT_i rfl) ?_
  refine q_aload_n eX3_countMends_15 rfl ?_
  refine q_getfield eX3_countMends_16 gf_X3_44 (hK _ (by decide) (by decide)) (by decide) (xf_36_10 (XF.up (XF.up (XF.up hX (show plainF xrefs 36 4 = true by decide)) (show plainF xrefs 36 5 = true by decide)) (show plainF xrefs 36 6 = true by decide))) ?_
  refine q_iconst eX3_countMends_19 ?_
  refine q_callSV [vA 40, vI 0] (M1 := mJ7_fill_53178) eX3_countMends_20 mf_J7_fill_53178 lk_X3_101 (ev_fill (hK _ (by decide) (by decide)) (by decide)) (by decide) (by decide) (by decide) (Nat.le_of_ble_eq_true rfl) rfl (fun A2 h2 => ?_)
  obtain ⟨o2, v2⟩ := h2
  refine q_aload_n eX3_countMends_23 rfl ?_
  refine q_getfield eX3_countMends_24 gf_X3_44 (hK _ (by decide) (by decide)) (by decide) (xf_36_10 (XF.up (XF.up (XF.up hX (show plainF xrefs 36 4 = true by decide)) (show plainF xrefs 36 5 = true by decide)) (show plainF xrefs 36 6 = true by decide))) ?_
  refine q_iconst eX3_countMends_27 ?_
  refine q_iconst eX3_countMends_28 ?_
  refine q_iast eX3_countMends_29 (hK _ (by decide) (by decide)) (by omega) (by omega) ?_
  refine q_iconst eX3_countMends_30 ?_
  refine q_istore_n eX3_countMends_31 (by decide) rfl ?_
  have ho : FOff [(36, 4), (36, 5), (36, 6)] F (up2 (up2 (up2 F 36 4 (vI 0)) 36 5 (vI (-1))) 36 6 (vI (-1))) := (((FOff.up (by decide)).trans (FOff.up (by decide))).trans (FOff.up (by decide)))
  exact lp_mend2 (lf := lf) (n := n) (S := moE m dg mk lf n 0 oneC (0, -1, -1)) hK hX hm hdg hn hoff hm2 hm4 hd63 hd1 hn63 hmk (A0 := A) hA28 hlf rlf n 0 _ (up2 A2 40 0 1) oneC (0, -1, -1) none (by omega) ho (o2.trans (Off.up (by simp))) (Eq.trans (up2_ne (by decide)) (Eq.trans (up2_ne (by decide)) (up2_eq _ _ _ _))) (Eq.trans (up2_ne (by decide)) (up2_eq _ _ _ _)) (up2_eq _ _ _ _) (Int.le_refl _) (by show (0 : Int) ≤ _; omega) (fun j hj => by
    rw [up2_at]
    show (if j = 0 then (1 : Int) else A2 40 j) = if j = 0 then 1 else 0
    by_cases hj0 : j = 0
    · rw [if_pos hj0, if_pos hj0]
    · rw [if_neg hj0, if_neg hj0]; exact v2 j hj) (fun j => by
    unfold oneC
    split <;> omega) rfl
set_option maxRecDepth 20000 in
theorem ev_countNone {F : HF} {A : HA} {al : AL} (hK : KX al) (hX : XF F) (hoff : F 36 1 = vI 0) : QE 2 0 0 mX3_countMends [vA 36] F A al ((fun o F' A' al' => o = .inl none ∧ al' = al ∧ FOff [(36, 4), (36, 5), (36, 6)] F F' ∧ F' 36 4 = vI 0 ∧ F' 36 5 = vI (-1) ∧ F' 36 6 = vI (-1) ∧ Off [40] A A')) := by
  refine QE.mk (by decide +kernel) (Nat.le_of_ble_eq_true rfl) ?_
  refine q_aload_n eX3_countMends_0 rfl ?_
  refine q_iconst eX3_countMends_1 ?_
  refine q_putfield eX3_countMends_2 pf_X3_25 (hK _ (by decide) (by decide)) (by decide) (FT_i rfl) ?_
  refine q_aload_n eX3_countMends_5 rfl ?_
  refine q_iconst eX3_countMends_6 ?_
  refine q_putfield eX3_countMends_7 pf_X3_29 (hK _ (by decide) (by decide)) (by decide) (FT_i rfl) ?_
  refine q_aload_n eX3_countMends_10 rfl ?_
  refine q_iconst eX3_countMends_11 ?_
  refine q_putfield eX3_countMends_12 pf_X3_32 (hK _ (by decide) (by decide)) (by decide) (FT_i rfl) ?_
  refine q_aload_n eX3_countMends_15 rfl ?_
  refine q_getfield eX3_countMends_16 gf_X3_44 (hK _ (by decide) (by decide)) (by decide) (xf_36_10 (XF.up (XF.up (XF.up hX (show plainF xrefs 36 4 = true by decide)) (show plainF xrefs 36 5 = true by decide)) (show plainF xrefs 36 6 = true by decide))) ?_
  refine q_iconst eX3_countMends_19 ?_
  refine q_callSV [vA 40, vI 0] (M1 := mJ7_fill_53178) eX3_countMends_20 mf_J7_fill_53178 lk_X3_101 (ev_fill (hK _ (by decide) (by decide)) (by decide)) (by decide) (by decide) (by decide) (Nat.le_of_ble_eq_true rfl) rfl (fun A2 h2 => ?_)
  obtain ⟨o2, v2⟩ := h2
  refine q_aload_n eX3_countMends_23 rfl ?_
  refine q_getfield eX3_countMends_24 gf_X3_44 (hK _ (by decide) (by decide)) (by decide) (xf_36_10 (XF.up (XF.up (XF.up hX (show plainF xrefs 36 4 = true by decide)) (show plainF xrefs 36 5 = true by decide)) (show plainF xrefs 36 6 = true by decide))) ?_
  refine q_iconst eX3_countMends_27 ?_
  refine q_iconst eX3_countMends_28 ?_
  refine q_iast eX3_countMends_29 (hK _ (by decide) (by decide)) (by omega) (by omega) ?_
  refine q_iconst eX3_countMends_30 ?_
  refine q_istore_n eX3_countMends_31 (by decide) rfl ?_
  refine q_aload_n eX3_countMends_32 rfl ?_
  refine q_getfield eX3_countMends_33 gf_X3_15 (hK _ (by decide) (by decide)) (by decide) (Eq.trans (up2_ne (by decide)) (Eq.trans (up2_ne (by decide)) (Eq.trans (up2_ne (by decide)) hoff))) ?_
  refine q_if_eq (tgt := 138) eX3_countMends_36 (by decide) (by first | assumption | exact ⟨by omega, by omega⟩) (fun c36 => ?_) (fun c36 => ?_)
  · refine q_retV eX3_countMends_138 rfl (by decide) (by decide) ?_
    exact ⟨rfl, rfl, (((FOff.up (by decide)).trans (FOff.up (by decide))).trans (FOff.up (by decide))), Eq.trans (up2_ne (by decide)) (Eq.trans (up2_ne (by decide)) (up2_eq _ _ _ _)), Eq.trans (up2_ne (by decide)) (up2_eq _ _ _ _), up2_eq _ _ _ _, o2.trans (Off.up (by simp))⟩
  · exact absurd rfl c36
