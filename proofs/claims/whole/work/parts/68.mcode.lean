/-! the model: the code's polynomials -/
def gjw (m : Int) (r : Nat) (f : Nat → Int) (D : Nat) (c : Nat → Int) (root : Int) : Nat → Int := fun j => if j ≤ D + 1 then gjE m r f c root D j else c j
def itM (m : Int) (r : Nat) (f : Nat → Int) (root : Int) : Nat → Int
  | 0 => 1
  | i + 1 => tm m r f (itM m r f root i) root
theorem itM_el {m : Int} {r : Nat} {f : Nat → Int} {root : Int} (hm : 2 ≤ m) (hr : 0 < r) : ∀ i, El m r (itM m r f root i)
  | 0 => el_one hm hr
  | _ + 1 => tm_el (by omega) _ _
def seM (c : Nat) (set : Int) : Bool := decide (c < 31) && decide (set / 2 ^ c % 2 = 1)
def cyM (m : Int) (r : Nat) (f : Nat → Int) (cl : Nat → Nat) (set : Int) (root : Int) : Nat → Nat × (Nat → Int) × (Nat → Int)
  | 0 => (0, oneC, oneC)
  | i + 1 => if seM (cl i) set = true then ((cyM m r f cl set root i).1 + 1, gjw m r f (cyM m r f cl set root i).1 (cyM m r f cl set root i).2.1 (itM m r f root i), (cyM m r f cl set root i).2.2)
    else ((cyM m r f cl set root i).1, (cyM m r f cl set root i).2.1, gjw m r f (i - (cyM m r f cl set root i).1) (cyM m r f cl set root i).2.2 (itM m r f root i))
section CyM
variable {m : Int} {r : Nat} {f : Nat → Int} {cl : Nat → Nat} {set root : Int}
theorem cyM_le : ∀ i, (cyM m r f cl set root i).1 ≤ i
  | 0 => Nat.le_refl _
  | i + 1 => by
    have := cyM_le i
    unfold cyM
    split <;> simp <;> omega
theorem gjw_el (hm : 2 ≤ m) {D : Nat} {d : Nat → Int} {root : Int} (h : ∀ j, El m r (d j)) (j : Nat) : El m r (gjw m r f D d root j) := by
  unfold gjw
  split
  · exact gj_el (by omega) _ _ _
  · exact h j
theorem cyM_el (hm : 2 ≤ m) (hr : 0 < r) : ∀ i, (∀ j, El m r ((cyM m r f cl set root i).2.1 j)) ∧ ∀ j, El m r ((cyM m r f cl set root i).2.2 j)
  | 0 => ⟨oneC_el hm hr, oneC_el hm hr⟩
  | i + 1 => by
    obtain ⟨h1, h2⟩ := cyM_el hm hr i
    unfold cyM
    split
    · exact ⟨gjw_el hm h1, h2⟩
    · exact ⟨h1, gjw_el hm h2⟩
theorem cyM_yes {i : Nat} (h : seM (cl i) set = true) : cyM m r f cl set root (i + 1) = ((cyM m r f cl set root i).1 + 1, gjw m r f (cyM m r f cl set root i).1 (cyM m r f cl set root i).2.1 (itM m r f root i), (cyM m r f cl set root i).2.2) := if_pos h
theorem cyM_no {i : Nat} (h : ¬ seM (cl i) set = true) : cyM m r f cl set root (i + 1) = ((cyM m r f cl set root i).1, (cyM m r f cl set root i).2.1, gjw m r f (i - (cyM m r f cl set root i).1) (cyM m r f cl set root i).2.2 (itM m r f root i)) := if_neg h
end CyM
theorem coM_le {p n i : Nat} (hO : OrbOK p n) (hi : i < n) : coM p n i < n := by
  have h1 := ctn_le (fun k => decide (lsM p n k = k)) (lsM p n i)
  have h2 := (hO i hi).2.2.2
  unfold coM
  omega
set_option maxRecDepth 20000 in
theorem lp_lc2 {p q n : Nat} {m : Int} {r : Nat} {f : Nat → Int} {g set root : Int} {F : HF} {A0 : HA} {al : AL} (hK : KM al) (hX : MR F) (hG0 : GM m r f F A0) (hp : F 44 1 = vI p) (hp7 : p ≤ 7) (hq : F 44 5 = vI q) (hq2 : 2 ≤ q) (hq4 : q ≤ 4096) (hg : F 44 11 = vI g) (hgE : El m r g) (hn : F 44 33 = vI n) (hn1 : 1 ≤ n) (hn63 : n ≤ 63) (hs : F 44 34 = vI set) (hs0 : 0 ≤ set) (hs1 : set < 2147483648) (hO : OrbOK p n) (hrt : El m r root) : ∀ (s i : Nat) (A : HA) (l6 : Option LV), i + s = n → Off [51, 52, 53, 56, 57] A0 A → (∀ j, j < 65 → A 56 j = (cyM m r f (coM p n) set root i).2.1 j) → (∀ j, j < 65 → A 57 j = (cyM m r f (coM p n) set root i).2.2 j) →
    QW mX12_laysCode 4 0 0 (fun o F' A' al' => o = .inl none ∧ F' = up2 F 44 35 (vI (cyM m r f (coM p n) set root n).1) ∧ al' = al ∧ Off [51, 52, 53, 56, 57] A0 A' ∧ (∀ j, j < 65 → A' 56 j = (cyM m r f (coM p n) set root n).2.1 j) ∧ ∀ j, j < 65 → A' 57 j = (cyM m r f (coM p n) set root n).2.2 j) 0 0 77 [some (vA 44), some (vI root), some (vI (itM m r f root i)), some (vI (cyM m r f (coM p n) set root i).1), some (vI (i - (cyM m r f (coM p n) set root i).1 : Nat)), some (vI i), l6] [] F A al := by
  obtain ⟨hm, hr, hf, hm2, hr1, hr6, hN4⟩ := id hG0
  have hm4 := hG0.m4
  intro s
  induction s with
  | zero =>
    intro i A l6 hi ho h1 h2
    have ei : i = n := by omega
    subst ei
    refine q_iload eX12_laysCode_77 rfl ?_
    refine q_aload_n eX12_laysCode_79 rfl ?_
    refine q_getfield eX12_laysCode_80 gf_X12_69 (hK _ (by decide) (by decide)) (by decide) (by first | assumption) ?_
    refine q_icmp_ge (tgt := 161) eX12_laysCode_83 (by decide) (by first | assumption | exact ⟨by omega, by omega⟩) (by first | assumption | exact ⟨by omega, by omega⟩) (fun c83 => ?_) (fun c83 => ?_)
    · refine q_aload_n eX12_laysCode_161 rfl ?_
      refine q_iload_n eX12_laysCode_162 rfl ?_
      refine q_putfield eX12_laysCode_163 pf_X12_322 (hK _ (by decide) (by decide)) (by decide) (FT_i rfl) ?_
      refine q_retV eX12_laysCode_166 rfl (by decide) (by decide) ?_
      exact ⟨rfl, rfl, rfl, ho, h1, h2⟩
    · exact absurd c83 (by omega)
  | succ s ih =>
    intro i A l6 hi ho h1 h2
    have hle := cyM_le (m := m) (r := r) (f := f) (cl := coM p n) (set := set) (root := root) i
    obtain ⟨el1, el2⟩ := cyM_el (m := m) (r := r) (f := f) (cl := coM p n) (set := set) (root := root) hm2 hr1 i
    have hie := itM_el (f := f) (root := root) hm2 (show 0 < r by omega) i
    have hG1 := hG0.off ho (by decide)
    have hcl := coM_le (p := p) hO (show i < n by omega)
    have hsr : 0 ≤ set / 2 ^ (coM p n i) ∧ set / 2 ^ (coM p n i) ≤ set := ⟨Int.ediv_nonneg hs0 (Int.pow_nonneg (by decide)), Int.ediv_le_self _ hs0⟩
    have hmo1 := Int.emod_nonneg (set / 2 ^ (coM p n i)) (b := 2) (by omega)
    have hmo2 := Int.emod_lt_of_pos (set / 2 ^ (coM p n i)) (b := 2) (by omega)
    have hbn := ih (i + 1)
    have e1 : (((i - (cyM m r f (coM p n) set root i).1 : Nat) : Int) + 1) = ((i + 1 - (cyM m r f (coM p n) set root i).1 : Nat) : Int) := by omega
    have e2 : i + 1 - ((cyM m r f (coM p n) set root i).1 + 1) = i - (cyM m r f (coM p n) set root i).1 := by omega
    refine q_iload eX12_laysCode_77 rfl ?_
    refine q_aload_n eX12_laysCode_79 rfl ?_
    refine q_getfield eX12_laysCode_80 gf_X12_69 (hK _ (by decide) (by decide)) (by decide) (by first | assumption) ?_
    refine q_icmp_ge (tgt := 161) eX12_laysCode_83 (by decide) (by first | assumption | exact ⟨by omega, by omega⟩) (by first | assumption | exact ⟨by omega, by omega⟩) (fun c83 => ?_) (fun c83 => ?_)
    · exact absurd c83 (by omega)
    · refine q_aload_n eX12_laysCode_86 rfl ?_
      refine q_aload_n eX12_laysCode_87 rfl ?_
      refine q_getfield eX12_laysCode_88 gf_X12_69 (hK _ (by decide) (by decide)) (by decide) (by first | assumption) ?_
      refine q_iload eX12_laysCode_91 rfl ?_
      refine q_callVP [vI n, vI i] (M1 := mX12_classOf) eX12_laysCode_93 mf_X12_classOf lk_X12_388 (hK _ (by decide) (by decide)) (mo_classOf hK hp hp7 hn63 hO (show i < n by omega)) (by decide) (by decide) (by decide) (Nat.le_of_ble_eq_true rfl) rfl ?_
      refine q_istore eX12_laysCode_96 (by decide) rfl ?_
      refine q_iload eX12_laysCode_98 rfl ?_
      refine q_bipush eX12_laysCode_100 (by decide +kernel) ?_
      refine q_icmp_ge (tgt := 134) eX12_laysCode_102 (by decide) (by first | assumption | exact ⟨by omega, by omega⟩) (by first | assumption | exact ⟨by omega, by omega⟩) (fun c102 => ?_) (fun c102 => ?_)
      · refine q_aload_n eX12_laysCode_134 rfl ?_
        refine q_aload_n eX12_laysCode_135 rfl ?_
        refine q_getfield eX12_laysCode_136 gf_X12_75 (hK _ (by decide) (by decide)) (by decide) (mr_44_37 hX) ?_
        refine q_iload eX12_laysCode_139 rfl ?_
        refine q_iload_n eX12_laysCode_141 rfl ?_
        refine q_callVV [vA 57, vI (i - (cyM m r f (coM p n) set root i).1 : Nat), vI (itM m r f root i)] (M1 := mX12_joins) eX12_laysCode_142 mf_X12_joins lk_X12_171 (hK _ (by decide) (by decide)) (mo_joins (c := (cyM m r f (coM p n) set root i).2.2) hK hX hG1 (hK _ (by decide) (by decide)) (by decide) (by decide) (by omega) hie (fun j hj => el2 j) (fun j hj => h2 j (by omega))) (by decide) (by decide) (by decide) (Nat.le_of_ble_eq_true rfl) rfl (fun A3 h3 => ?_)
        obtain ⟨o3, v3, w3⟩ := h3
        refine q_iinc eX12_laysCode_145 rfl (by decide) rfl ?_
        refine q_aload_n eX12_laysCode_148 rfl ?_
        refine q_iload_n eX12_laysCode_149 rfl ?_
        refine q_iload_n eX12_laysCode_150 rfl ?_
        refine q_callVQ [vI (itM m r f root i), vI root] (M1 := mX12_times) eX12_laysCode_151 mf_X12_times lk_X12_132 (hK _ (by decide) (by decide)) (mo_times hK hX (hG1.off o3 (by decide)) hie hrt) (by decide) (by decide) (by decide) (Nat.le_of_ble_eq_true rfl) rfl (fun A4 h4 => ?_)
        refine q_istore_n eX12_laysCode_154 (by decide) rfl ?_
        refine q_iinc eX12_laysCode_155 rfl (by decide) rfl ?_
        refine q_goto (tgt := 77) eX12_laysCode_158 (by decide) ?_
        first
        | (have hy : seM (coM p n i) set = true := by
             unfold seM
             rw [Bool.and_eq_true, decide_eq_true_eq, decide_eq_true_eq]
             exact ⟨by omega, c115⟩
           rw [cyM_yes hy] at hbn
           rw [e2] at hbn
           refine hbn A4 _ (by omega) ((ho.trans (o3.mono (by simp))).trans (h4.mono (by simp))) (fun j hj => ?_) (fun j hj => ?_)
           · rw [h4 56 (by decide)]
             show _ = gjw m r f (cyM m r f (coM p n) set root i).1 (cyM m r f (coM p n) set root i).2.1 (itM m r f root i) j
             unfold gjw
             by_cases hj2 : j ≤ (cyM m r f (coM p n) set root i).1 + 1
             · rw [if_pos hj2]; exact v3 j hj2
             · rw [if_neg hj2, w3 j (by omega)]; exact h1 j hj
           · rw [h4 57 (by decide), o3 57 (by decide)]; exact h2 j hj)
        | (have hy : ¬ seM (coM p n i) set = true := by
             unfold seM
             rw [Bool.and_eq_true, decide_eq_true_eq, decide_eq_true_eq]
             rintro ⟨q1, q2⟩
             first | omega | exact c115 q2
           rw [cyM_no hy] at hbn
           rw [e1]
           refine hbn A4 _ (by omega) ((ho.trans (o3.mono (by simp))).trans (h4.mono (by simp))) (fun j hj => ?_) (fun j hj => ?_)
           · rw [h4 56 (by decide), o3 56 (by decide)]; exact h1 j hj
           · rw [h4 57 (by decide)]
             show _ = gjw m r f (i - (cyM m r f (coM p n) set root i).1) (cyM m r f (coM p n) set root i).2.2 (itM m r f root i) j
             unfold gjw
             by_cases hj2 : j ≤ i - (cyM m r f (coM p n) set root i).1 + 1
             · rw [if_pos hj2]; exact v3 j hj2
             · rw [if_neg hj2, w3 j (by omega)]; exact h2 j hj)
      · refine q_aload_n eX12_laysCode_105 rfl ?_
        refine q_getfield eX12_laysCode_106 gf_X12_157 (hK _ (by decide) (by decide)) (by decide) (by first | assumption) ?_
        refine q_iload eX12_laysCode_109 rfl ?_
        refine q_ishr eX12_laysCode_111 (n := coM p n i) ⟨by omega, by omega⟩ rfl (by omega) ?_
        refine q_iconst eX12_laysCode_112 ?_
        refine q_iand1 eX12_laysCode_113 ?_
        refine q_iconst eX12_laysCode_114 ?_
        refine q_icmp_ne (tgt := 134) eX12_laysCode_115 (by decide) (by first | assumption | exact ⟨by omega, by omega⟩) (by first | assumption | exact ⟨by omega, by omega⟩) (fun c115 => ?_) (fun c115 => ?_)
        · refine q_aload_n eX12_laysCode_134 rfl ?_
          refine q_aload_n eX12_laysCode_135 rfl ?_
          refine q_getfield eX12_laysCode_136 gf_X12_75 (hK _ (by decide) (by decide)) (by decide) (mr_44_37 hX) ?_
          refine q_iload eX12_laysCode_139 rfl ?_
          refine q_iload_n eX12_laysCode_141 rfl ?_
          refine q_callVV [vA 57, vI (i - (cyM m r f (coM p n) set root i).1 : Nat), vI (itM m r f root i)] (M1 := mX12_joins) eX12_laysCode_142 mf_X12_joins lk_X12_171 (hK _ (by decide) (by decide)) (mo_joins (c := (cyM m r f (coM p n) set root i).2.2) hK hX hG1 (hK _ (by decide) (by decide)) (by decide) (by decide) (by omega) hie (fun j hj => el2 j) (fun j hj => h2 j (by omega))) (by decide) (by decide) (by decide) (Nat.le_of_ble_eq_true rfl) rfl (fun A3 h3 => ?_)
          obtain ⟨o3, v3, w3⟩ := h3
          refine q_iinc eX12_laysCode_145 rfl (by decide) rfl ?_
          refine q_aload_n eX12_laysCode_148 rfl ?_
          refine q_iload_n eX12_laysCode_149 rfl ?_
          refine q_iload_n eX12_laysCode_150 rfl ?_
          refine q_callVQ [vI (itM m r f root i), vI root] (M1 := mX12_times) eX12_laysCode_151 mf_X12_times lk_X12_132 (hK _ (by decide) (by decide)) (mo_times hK hX (hG1.off o3 (by decide)) hie hrt) (by decide) (by decide) (by decide) (Nat.le_of_ble_eq_true rfl) rfl (fun A4 h4 => ?_)
          refine q_istore_n eX12_laysCode_154 (by decide) rfl ?_
          refine q_iinc eX12_laysCode_155 rfl (by decide) rfl ?_
          refine q_goto (tgt := 77) eX12_laysCode_158 (by decide) ?_
          first
          | (have hy : seM (coM p n i) set = true := by
               unfold seM
               rw [Bool.and_eq_true, decide_eq_true_eq, decide_eq_true_eq]
               exact ⟨by omega, c115⟩
             rw [cyM_yes hy] at hbn
             rw [e2] at hbn
             refine hbn A4 _ (by omega) ((ho.trans (o3.mono (by simp))).trans (h4.mono (by simp))) (fun j hj => ?_) (fun j hj => ?_)
             · rw [h4 56 (by decide)]
               show _ = gjw m r f (cyM m r f (coM p n) set root i).1 (cyM m r f (coM p n) set root i).2.1 (itM m r f root i) j
               unfold gjw
               by_cases hj2 : j ≤ (cyM m r f (coM p n) set root i).1 + 1
               · rw [if_pos hj2]; exact v3 j hj2
               · rw [if_neg hj2, w3 j (by omega)]; exact h1 j hj
             · rw [h4 57 (by decide), o3 57 (by decide)]; exact h2 j hj)
          | (have hy : ¬ seM (coM p n i) set = true := by
               unfold seM
               rw [Bool.and_eq_true, decide_eq_true_eq, decide_eq_true_eq]
               rintro ⟨q1, q2⟩
               first | omega | exact c115 q2
             rw [cyM_no hy] at hbn
             rw [e1]
             refine hbn A4 _ (by omega) ((ho.trans (o3.mono (by simp))).trans (h4.mono (by simp))) (fun j hj => ?_) (fun j hj => ?_)
             · rw [h4 56 (by decide), o3 56 (by decide)]; exact h1 j hj
             · rw [h4 57 (by decide)]
               show _ = gjw m r f (i - (cyM m r f (coM p n) set root i).1) (cyM m r f (coM p n) set root i).2.2 (itM m r f root i) j
               unfold gjw
               by_cases hj2 : j ≤ i - (cyM m r f (coM p n) set root i).1 + 1
               · rw [if_pos hj2]; exact v3 j hj2
               · rw [if_neg hj2, w3 j (by omega)]; exact h2 j hj)
        · refine q_aload_n eX12_laysCode_118 rfl ?_
          refine q_aload_n eX12_laysCode_119 rfl ?_
          refine q_getfield eX12_laysCode_120 gf_X12_72 (hK _ (by decide) (by decide)) (by decide) (mr_44_36 hX) ?_
          refine q_iload_n eX12_laysCode_123 rfl ?_
          refine q_iload_n eX12_laysCode_124 rfl ?_
          refine q_callVV [vA 56, vI (cyM m r f (coM p n) set root i).1, vI (itM m r f root i)] (M1 := mX12_joins) eX12_laysCode_125 mf_X12_joins lk_X12_171 (hK _ (by decide) (by decide)) (mo_joins (c := (cyM m r f (coM p n) set root i).2.1) hK hX hG1 (hK _ (by decide) (by decide)) (by decide) (by decide) (by omega) hie (fun j hj => el1 j) (fun j hj => h1 j (by omega))) (by decide) (by decide) (by decide) (Nat.le_of_ble_eq_true rfl) rfl (fun A3 h3 => ?_)
          obtain ⟨o3, v3, w3⟩ := h3
          refine q_iinc eX12_laysCode_128 rfl (by decide) rfl ?_
          refine q_goto (tgt := 148) eX12_laysCode_131 (by decide) ?_
          refine q_aload_n eX12_laysCode_148 rfl ?_
          refine q_iload_n eX12_laysCode_149 rfl ?_
          refine q_iload_n eX12_laysCode_150 rfl ?_
          refine q_callVQ [vI (itM m r f root i), vI root] (M1 := mX12_times) eX12_laysCode_151 mf_X12_times lk_X12_132 (hK _ (by decide) (by decide)) (mo_times hK hX (hG1.off o3 (by decide)) hie hrt) (by decide) (by decide) (by decide) (Nat.le_of_ble_eq_true rfl) rfl (fun A4 h4 => ?_)
          refine q_istore_n eX12_laysCode_154 (by decide) rfl ?_
          refine q_iinc eX12_laysCode_155 rfl (by decide) rfl ?_
          refine q_goto (tgt := 77) eX12_laysCode_158 (by decide) ?_
          first
          | (have hy : seM (coM p n i) set = true := by
               unfold seM
               rw [Bool.and_eq_true, decide_eq_true_eq, decide_eq_true_eq]
               exact ⟨by omega, c115⟩
             rw [cyM_yes hy] at hbn
             rw [e2] at hbn
             refine hbn A4 _ (by omega) ((ho.trans (o3.mono (by simp))).trans (h4.mono (by simp))) (fun j hj => ?_) (fun j hj => ?_)
             · rw [h4 56 (by decide)]
               show _ = gjw m r f (cyM m r f (coM p n) set root i).1 (cyM m r f (coM p n) set root i).2.1 (itM m r f root i) j
               unfold gjw
               by_cases hj2 : j ≤ (cyM m r f (coM p n) set root i).1 + 1
               · rw [if_pos hj2]; exact v3 j hj2
               · rw [if_neg hj2, w3 j (by omega)]; exact h1 j hj
             · rw [h4 57 (by decide), o3 57 (by decide)]; exact h2 j hj)
          | (have hy : ¬ seM (coM p n i) set = true := by
               unfold seM
               rw [Bool.and_eq_true, decide_eq_true_eq, decide_eq_true_eq]
               rintro ⟨q1, q2⟩
               first | omega | exact c115 q2
             rw [cyM_no hy] at hbn
             rw [e1]
             refine hbn A4 _ (by omega) ((ho.trans (o3.mono (by simp))).trans (h4.mono (by simp))) (fun j hj => ?_) (fun j hj => ?_)
             · rw [h4 56 (by decide), o3 56 (by decide)]; exact h1 j hj
             · rw [h4 57 (by decide)]
               show _ = gjw m r f (i - (cyM m r f (coM p n) set root i).1) (cyM m r f (coM p n) set root i).2.2 (itM m r f root i) j
               unfold gjw
               by_cases hj2 : j ≤ i - (cyM m r f (coM p n) set root i).1 + 1
               · rw [if_pos hj2]; exact v3 j hj2
               · rw [if_neg hj2, w3 j (by omega)]; exact h2 j hj)
set_option maxRecDepth 20000 in
theorem lp_lc1 {p q n : Nat} {m : Int} {r : Nat} {f : Nat → Int} {g set root : Int} {F : HF} {A0 : HA} {al : AL} (hK : KM al) (hX : MR F) (hG0 : GM m r f F A0) (hp : F 44 1 = vI p) (hp7 : p ≤ 7) (hq : F 44 5 = vI q) (hq2 : 2 ≤ q) (hq4 : q ≤ 4096) (hg : F 44 11 = vI g) (hgE : El m r g) (hn : F 44 33 = vI n) (hn1 : 1 ≤ n) (hn63 : n ≤ 63) (hs : F 44 34 = vI set) (hs0 : 0 ≤ set) (hs1 : set < 2147483648) (hO : OrbOK p n) (hrt : El m r root) {l6 : Option LV} : ∀ (s k : Nat) (A : HA), k + s = 65 → Off [51, 52, 53, 56, 57] A0 A → (∀ j, j < k → A 56 j = 0) → (∀ j, j < k → A 57 j = 0) →
    QW mX12_laysCode 4 0 0 (fun o F' A' al' => o = .inl none ∧ F' = up2 F 44 35 (vI (cyM m r f (coM p n) set root n).1) ∧ al' = al ∧ Off [51, 52, 53, 56, 57] A0 A' ∧ (∀ j, j < 65 → A' 56 j = (cyM m r f (coM p n) set root n).2.1 j) ∧ ∀ j, j < 65 → A' 57 j = (cyM m r f (coM p n) set root n).2.2 j) 0 0 31 [some (vA 44), some (vI root), some (vI 1), some (vI 0), some (vI 0), some (vI k), l6] [] F A al := by
  obtain ⟨hm, hr, hf, hm2, hr1, hr6, hN4⟩ := id hG0
  have hm4 := hG0.m4
  intro s
  induction s with
  | zero =>
    intro k A hk ho h1 h2
    have ek : k = 65 := by omega
    subst ek
    refine q_iload eX12_laysCode_31 rfl ?_
    refine q_bipush eX12_laysCode_33 (by decide +kernel) ?_
    refine q_icmp_ge (tgt := 60) eX12_laysCode_35 (by decide) (by first | assumption | exact ⟨by omega, by omega⟩) (by first | assumption | exact ⟨by omega, by omega⟩) (fun c35 => ?_) (fun c35 => ?_)
    · refine q_aload_n eX12_laysCode_60 rfl ?_
      refine q_getfield eX12_laysCode_61 gf_X12_72 (hK _ (by decide) (by decide)) (by decide) (mr_44_36 hX) ?_
      refine q_iconst eX12_laysCode_64 ?_
      refine q_iconst eX12_laysCode_65 ?_
      refine q_iast eX12_laysCode_66 (hK _ (by decide) (by decide)) (by omega) (by omega) ?_
      refine q_aload_n eX12_laysCode_67 rfl ?_
      refine q_getfield eX12_laysCode_68 gf_X12_75 (hK _ (by decide) (by decide)) (by decide) (mr_44_37 hX) ?_
      refine q_iconst eX12_laysCode_71 ?_
      refine q_iconst eX12_laysCode_72 ?_
      refine q_iast eX12_laysCode_73 (hK _ (by decide) (by decide)) (by omega) (by omega) ?_
      refine q_iconst eX12_laysCode_74 ?_
      refine q_istore eX12_laysCode_75 (by decide) rfl ?_
      refine lp_lc2 hK hX hG0 hp hp7 hq hq2 hq4 hg hgE hn hn1 hn63 hs hs0 hs1 hO hrt n 0 _ _ (by omega) ((ho.trans (Off.up (by simp))).trans (Off.up (by simp))) (fun j hj => ?_) (fun j hj => ?_)
      · rw [up2_row (by decide), up2_at]
        show _ = oneC j
        unfold oneC
        split
        · next h0 => rw [if_pos (show j = 0 from h0)]
        · next h0 => rw [if_neg (show ¬ j = 0 from h0)]; exact h1 j hj
      · rw [up2_at]
        show _ = oneC j
        unfold oneC
        split
        · next h0 => rw [if_pos (show j = 0 from h0)]
        · next h0 => rw [if_neg (show ¬ j = 0 from h0), up2_row (by decide)]; exact h2 j hj
    · exact absurd c35 (by omega)
  | succ s ih =>
    intro k A hk ho h1 h2
    refine q_iload eX12_laysCode_31 rfl ?_
    refine q_bipush eX12_laysCode_33 (by decide +kernel) ?_
    refine q_icmp_ge (tgt := 60) eX12_laysCode_35 (by decide) (by first | assumption | exact ⟨by omega, by omega⟩) (by first | assumption | exact ⟨by omega, by omega⟩) (fun c35 => ?_) (fun c35 => ?_)
    · exact absurd c35 (by omega)
    · refine q_aload_n eX12_laysCode_38 rfl ?_
      refine q_getfield eX12_laysCode_39 gf_X12_72 (hK _ (by decide) (by decide)) (by decide) (mr_44_36 hX) ?_
      refine q_iload eX12_laysCode_42 rfl ?_
      refine q_iconst eX12_laysCode_44 ?_
      refine q_iast eX12_laysCode_45 (hK _ (by decide) (by decide)) (by omega) (by omega) ?_
      refine q_aload_n eX12_laysCode_46 rfl ?_
      refine q_getfield eX12_laysCode_47 gf_X12_75 (hK _ (by decide) (by decide)) (by decide) (mr_44_37 hX) ?_
      refine q_iload eX12_laysCode_50 rfl ?_
      refine q_iconst eX12_laysCode_52 ?_
      refine q_iast eX12_laysCode_53 (hK _ (by decide) (by decide)) (by omega) (by omega) ?_
      refine q_iinc eX12_laysCode_54 rfl (by decide) rfl ?_
      refine q_goto (tgt := 31) eX12_laysCode_57 (by decide) ?_
      refine ih (k + 1) _ (by omega) ((ho.trans (Off.up (by simp))).trans (Off.up (by simp))) (fun j hj => ?_) (fun j hj => ?_)
      · rw [up2_row (by decide), up2_at]
        split
        · rfl
        · next hne => exact h1 j (by have : j ≠ k := hne; omega)
      · rw [up2_at]
        split
        · rfl
        · next hne => rw [up2_row (by decide)]; exact h2 j (by have : j ≠ k := hne; omega)
set_option maxRecDepth 20000 in
theorem mo_laysCode {p q n : Nat} {m : Int} {r : Nat} {f : Nat → Int} {g set : Int} {F : HF} {A : HA} {al : AL} (hK : KM al) (hX : MR F) (hG0 : GM m r f F A) (hp : F 44 1 = vI p) (hp7 : p ≤ 7) (hq : F 44 5 = vI q) (hq2 : 2 ≤ q) (hq4 : q ≤ 4096) (hg : F 44 11 = vI g) (hgE : El m r g) (hn : F 44 33 = vI n) (hn1 : 1 ≤ n) (hn63 : n ≤ 63) (hs : F 44 34 = vI set) (hs0 : 0 ≤ set) (hs1 : set < 2147483648) (hO : OrbOK p n)  : QE 4 0 0 mX12_laysCode [vA 44] F A al ((fun o F' A' al' => o = .inl none ∧ F' = up2 F 44 35 (vI (cyM m r f (coM p n) set (pw m r f g ((q - 1) / n)) n).1) ∧ al' = al ∧ Off [51, 52, 53, 56, 57] A A' ∧ (∀ j, j < 65 → A' 56 j = (cyM m r f (coM p n) set (pw m r f g ((q - 1) / n)) n).2.1 j) ∧ ∀ j, j < 65 → A' 57 j = (cyM m r f (coM p n) set (pw m r f g ((q - 1) / n)) n).2.2 j)) := by
  refine QE.mk (by decide +kernel) (Nat.le_of_ble_eq_true rfl) ?_
  obtain ⟨hm, hr, hf, hm2, hr1, hr6, hN4⟩ := id hG0
  have hm4 := hG0.m4
  have edv : ((q : Int) - 1) / (n : Int) = (((q - 1) / n : Nat) : Int) := by rw [show (q : Int) - 1 = ((q - 1 : Nat) : Int) by omega]; simp
  have hdl : (q - 1) / n ≤ q - 1 := Nat.div_le_self _ _
  have hdl0 : (0 : Int) ≤ (((q - 1) / n : Nat) : Int) := Int.natCast_nonneg _
  refine q_aload_n eX12_laysCode_0 rfl ?_
  refine q_aload_n eX12_laysCode_1 rfl ?_
  refine q_getfield eX12_laysCode_2 gf_X12_179 (hK _ (by decide) (by decide)) (by decide) (by first | assumption) ?_
  refine q_aload_n eX12_laysCode_5 rfl ?_
  refine q_getfield eX12_laysCode_6 gf_X12_25 (hK _ (by decide) (by decide)) (by decide) (by first | assumption) ?_
  refine q_iconst eX12_laysCode_9 ?_
  refine q_isub eX12_laysCode_10 ?_
  refine q_aload_n eX12_laysCode_11 rfl ?_
  refine q_getfield eX12_laysCode_12 gf_X12_69 (hK _ (by decide) (by decide)) (by decide) (by first | assumption) ?_
  refine q_idiv eX12_laysCode_15 (by omega) (by omega) (by omega) (by omega) ?_
  rw [edv]
  refine q_i2l eX12_laysCode_16 (by exact ⟨by omega, by omega⟩) ?_
  refine q_callVQ [vI g, vJ ((q - 1) / n : Nat)] (M1 := mX12_raised) eX12_laysCode_17 mf_X12_raised lk_X12_147 (hK _ (by decide) (by decide)) (mo_raised hK hX hG0 hgE (by omega)) (by decide) (by decide) (by decide) (Nat.le_of_ble_eq_true rfl) rfl (fun A3 h3 => ?_)
  refine q_istore_n eX12_laysCode_20 (by decide) rfl ?_
  refine q_iconst eX12_laysCode_21 ?_
  refine q_istore_n eX12_laysCode_22 (by decide) rfl ?_
  refine q_iconst eX12_laysCode_23 ?_
  refine q_istore_n eX12_laysCode_24 (by decide) rfl ?_
  refine q_iconst eX12_laysCode_25 ?_
  refine q_istore eX12_laysCode_26 (by decide) rfl ?_
  refine q_iconst eX12_laysCode_28 ?_
  refine q_istore eX12_laysCode_29 (by decide) rfl ?_
  exact lp_lc1 hK hX hG0 hp hp7 hq hq2 hq4 hg hgE hn hn1 hn63 hs hs0 hs1 hO (pw_el hm2 hr1 g _) 65 0 A3 (by omega) (h3.mono (by simp)) (fun j hj => by omega) (fun j hj => by omega)
