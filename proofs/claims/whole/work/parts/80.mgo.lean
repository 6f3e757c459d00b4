/-! the model: going through all words -/
set_option maxRecDepth 20000 in
theorem lp_go2 {S : Type} {stp : (Nat → Int) → S → S} {St : S → HF → HA → Prop} {m fl : Int} {n dg : Nat} {mk : Nat → Int} {F0 : HF} {A0 : HA} {al : AL} (hK : KM al) (hX0 : MR F0) (hm : F0 44 4 = vI m) (hn : F0 44 33 = vI n) (hdg : F0 44 35 = vI dg) (hfl : F0 44 41 = vI fl) (hflr : InR fl) (hm2 : 2 ≤ m) (hm4 : m ≤ 4096) (hn63 : n ≤ 63) (hdn : dg ≤ n) (hk16 : n - dg ≤ 16) (hmk : ∀ i, i ≤ dg → A0 56 i = mk i ∧ 0 ≤ mk i ∧ mk i < m) (hst : ∀ s F A A2, (∀ b, b ≠ 58 → A2 b = A b) → St s F A → St s F A2) {t k d D : Nat} {row : Nat → Int} {F : HF} {A1 : HA} {Post : PO} (htk : t + (k + 1) = n - dg) (hd : (d : Int) < m) (hF : FOff [(44, 43)] F0 F) (hA1 : Off [58, 59, 60, 61] A0 A1) (hrow : ∀ x, 0 ≤ row x ∧ row x < m) (h1 : ∀ j, j < n → A1 58 (64 * t + j) = row j)
    (out : ∀ (A2 : HA) (l6 : Option LV), Off [58] A1 A2 → (∀ x, x < 64 * (t + 1) → A2 58 x = A1 58 x) → (∀ j, j < n → A2 58 (64 * (t + 1) + j) = gwM m dg mk t d row j) → QW mX12_goes D 0 0 Post 0 0 135 [some (vA 44), some (vI t), some (vI (64 * t : Nat)), some (vI (64 * (t + 1) : Nat)), some (vI d), some (vI n), l6] [] F A2 al) : ∀ (c j : Nat) (A : HA) (l6 : Option LV), j + c = n → Off [58] A1 A → (∀ x, x < 64 * (t + 1) → A 58 x = A1 58 x) → (∀ i, i < j → A 58 (64 * (t + 1) + i) = gwM m dg mk t d row i) →
    QW mX12_goes D 0 0 Post 0 0 59 [some (vA 44), some (vI t), some (vI (64 * t : Nat)), some (vI (64 * (t + 1) : Nat)), some (vI d), some (vI j), l6] [] F A al := by
  have hX := hX0.foff hF (by decide)
  have hm' : F 44 4 = vI m := (hF 44 4 (by decide)).trans hm
  have hdg' : F 44 35 = vI dg := (hF 44 35 (by decide)).trans hdg
  have hn' : F 44 33 = vI n := (hF 44 33 (by decide)).trans hn
  have hfl' : F 44 41 = vI fl := (hF 44 41 (by decide)).trans hfl
  intro c
  induction c with
  | zero =>
    intro j A l6 hj ho h2 h3
    have ej : j = n := by omega
    subst ej
    refine q_iload eX12_goes_59 rfl ?_
    refine q_aload_n eX12_goes_61 rfl ?_
    refine q_getfield eX12_goes_62 gf_X12_69 (hK _ (by decide) (by decide)) (by decide) (by first | assumption) ?_
    refine q_icmp_ge (tgt := 135) eX12_goes_65 (by decide) (by first | assumption | exact ⟨by omega, by omega⟩) (by first | assumption | exact ⟨by omega, by omega⟩) (fun c65 => ?_) (fun c65 => ?_)
    · exact out A l6 ho h2 h3
    · exact absurd c65 (by omega)
  | succ c ih =>
    intro j A l6 hj ho h2 h3
    have e1 : ((64 * (t + 1) : Nat) : Int) + (j : Int) = ((64 * (t + 1) + j : Nat) : Int) := by omega
    have e2 : ((64 * t : Nat) : Int) + (j : Int) = ((64 * t + j : Nat) : Int) := by omega
    have hrj := hrow j
    have ha58 : A 58 (64 * t + j) = row j := (h2 _ (by omega)).trans (h1 j (by omega))
    have a56 : ∀ i, i ≤ dg → A 56 i = mk i := fun i hi => (congrFun (ho 56 (by decide)) i).trans ((congrFun (hA1 56 (by decide)) i).trans (hmk i hi).1)
    have tail : ∀ (v : Int), 0 ≤ v ∧ v < m → (row j + d * v) % m = gwM m dg mk t d row j → QW mX12_goes D 0 0 Post 0 0 98 [some (vA 44), some (vI t), some (vI (64 * t : Nat)), some (vI (64 * (t + 1) : Nat)), some (vI d), some (vI j), l6] [vI v] F A al := by
      intro v hv hg
      have hp1 : 0 ≤ (d : Int) * v := Int.mul_nonneg (by omega) hv.1
      have hp2 : (d : Int) * v ≤ 4096 * 4096 := Int.mul_le_mul (by omega) (by omega) hv.1 (by decide)
      refine q_istore eX12_goes_98 (by decide) rfl ?_
      refine q_aload_n eX12_goes_100 rfl ?_
      refine q_getfield eX12_goes_101 gf_X12_78 (hK _ (by decide) (by decide)) (by decide) (mr_44_38 hX) ?_
      refine q_iload_n eX12_goes_104 rfl ?_
      refine q_iload eX12_goes_105 rfl ?_
      refine q_iadd eX12_goes_107 ?_
      rw [e1]
      refine q_aload_n eX12_goes_108 rfl ?_
      refine q_getfield eX12_goes_109 gf_X12_78 (hK _ (by decide) (by decide)) (by decide) (mr_44_38 hX) ?_
      refine q_iload_n eX12_goes_112 rfl ?_
      refine q_iload eX12_goes_113 rfl ?_
      refine q_iadd eX12_goes_115 ?_
      rw [e2]
      refine q_iald eX12_goes_116 (hK _ (by decide) (by decide)) (by omega) (by omega) ?_
      rw [show A 58 ((64 * t + j : Nat) : Int).toNat = row j from ha58]
      refine q_iload eX12_goes_117 rfl ?_
      refine q_iload eX12_goes_119 rfl ?_
      refine q_imul eX12_goes_121 ?_
      refine q_iadd eX12_goes_122 ?_
      refine q_aload_n eX12_goes_123 rfl ?_
      refine q_getfield eX12_goes_124 gf_X12_22 (hK _ (by decide) (by decide)) (by decide) (by first | assumption) ?_
      refine q_irem eX12_goes_127 (by omega) (by omega) (by omega) (by omega) ?_
      refine q_iast eX12_goes_128 (hK _ (by decide) (by decide)) (by omega) (by omega) ?_
      refine q_iinc eX12_goes_129 rfl (by decide) rfl ?_
      refine q_goto (tgt := 59) eX12_goes_132 (by decide) ?_
      rw [hg]
      refine ih (j + 1) (up2 A 58 (64 * (t + 1) + j) (gwM m dg mk t d row j)) _ (by omega) (ho.trans (Off.up (by simp))) (fun x hx => ?_) (fun i hi => ?_)
      · rw [up2_at, if_neg (by omega)]
        exact h2 x hx
      · rw [up2_at]
        by_cases he : i = j
        · rw [if_pos (by omega), he]
        · rw [if_neg (by omega)]
          exact h3 i (by omega)
    refine q_iload eX12_goes_59 rfl ?_
    refine q_aload_n eX12_goes_61 rfl ?_
    refine q_getfield eX12_goes_62 gf_X12_69 (hK _ (by decide) (by decide)) (by decide) (by first | assumption) ?_
    refine q_icmp_ge (tgt := 135) eX12_goes_65 (by decide) (by first | assumption | exact ⟨by omega, by omega⟩) (by first | assumption | exact ⟨by omega, by omega⟩) (fun c65 => ?_) (fun c65 => ?_)
    · exact absurd c65 (by omega)
    · refine q_iload eX12_goes_68 rfl ?_
      refine q_iload_n eX12_goes_70 rfl ?_
      refine q_icmp_lt (tgt := 97) eX12_goes_71 (by decide) (by first | assumption | exact ⟨by omega, by omega⟩) (by first | assumption | exact ⟨by omega, by omega⟩) (fun c71 => ?_) (fun c71 => ?_)
      · refine q_iconst eX12_goes_97 ?_
        first
        | (refine tail (A 56 (j - t)) ?_ ?_
           · rw [a56 (j - t) (by omega)]; exact (hmk (j - t) (by omega)).2
           · unfold gwM
             rw [if_pos (by omega), a56 (j - t) (by omega)])
        | (refine tail 0 ⟨by decide, by omega⟩ ?_
           unfold gwM
           rw [if_neg (by omega)])
      · refine q_iload eX12_goes_74 rfl ?_
        refine q_iload_n eX12_goes_76 rfl ?_
        refine q_isub eX12_goes_77 ?_
        refine q_aload_n eX12_goes_78 rfl ?_
        refine q_getfield eX12_goes_79 gf_X12_322 (hK _ (by decide) (by decide)) (by decide) (by first | assumption) ?_
        refine q_icmp_gt (tgt := 97) eX12_goes_82 (by decide) (by first | assumption | exact ⟨by omega, by omega⟩) (by first | assumption | exact ⟨by omega, by omega⟩) (fun c82 => ?_) (fun c82 => ?_)
        · refine q_iconst eX12_goes_97 ?_
          first
          | (refine tail (A 56 (j - t)) ?_ ?_
             · rw [a56 (j - t) (by omega)]; exact (hmk (j - t) (by omega)).2
             · unfold gwM
               rw [if_pos (by omega), a56 (j - t) (by omega)])
          | (refine tail 0 ⟨by decide, by omega⟩ ?_
             unfold gwM
             rw [if_neg (by omega)])
        · refine q_aload_n eX12_goes_85 rfl ?_
          refine q_getfield eX12_goes_86 gf_X12_72 (hK _ (by decide) (by decide)) (by decide) (mr_44_36 hX) ?_
          refine q_iload eX12_goes_89 rfl ?_
          refine q_iload_n eX12_goes_91 rfl ?_
          refine q_isub eX12_goes_92 ?_
          rw [show (j : Int) - (t : Int) = ((j - t : Nat) : Int) by omega]
          refine q_iald eX12_goes_93 (hK _ (by decide) (by decide)) (by omega) (by omega) ?_
          refine q_goto (tgt := 98) eX12_goes_94 (by decide) ?_
          first
          | (refine tail (A 56 (j - t)) ?_ ?_
             · rw [a56 (j - t) (by omega)]; exact (hmk (j - t) (by omega)).2
             · unfold gwM
               rw [if_pos (by omega), a56 (j - t) (by omega)])
          | (refine tail 0 ⟨by decide, by omega⟩ ?_
             unfold gwM
             rw [if_neg (by omega)])
set_option maxRecDepth 20000 in
theorem lp_go1 {S : Type} {stp : (Nat → Int) → S → S} {St : S → HF → HA → Prop} {m fl : Int} {n dg : Nat} {mk : Nat → Int} {F0 : HF} {A0 : HA} {al : AL} (hK : KM al) (hX0 : MR F0) (hm : F0 44 4 = vI m) (hn : F0 44 33 = vI n) (hdg : F0 44 35 = vI dg) (hfl : F0 44 41 = vI fl) (hflr : InR fl) (hm2 : 2 ≤ m) (hm4 : m ≤ 4096) (hn63 : n ≤ 63) (hdn : dg ≤ n) (hk16 : n - dg ≤ 16) (hmk : ∀ i, i ≤ dg → A0 56 i = mk i ∧ 0 ≤ mk i ∧ mk i < m) (hst : ∀ s F A A2, (∀ b, b ≠ 58 → A2 b = A b) → St s F A → St s F A2) {t k : Nat} {row : Nat → Int} {s : S} {F1 : HF} {A1 : HA} (htk : t + (k + 1) = n - dg) (hF1 : FOff [(44, 43)] F0 F1) (hA1 : Off [58, 59, 60, 61] A0 A1) (hrow : ∀ x, 0 ≤ row x ∧ row x < m) (h1 : ∀ j, j < n → A1 58 (64 * t + j) = row j) (hgo : ∀ (row : Nat → Int) (s : S) (F : HF) (A : HA), FOff [(44, 43)] F0 F → Off [58, 59, 60, 61] A0 A → (∀ x, 0 ≤ row x ∧ row x < m) → (∀ j, j < n → A 58 (64 * (t + 1) + j) = row j) → St s F A → QE (k + 3) 0 0 mX12_goes [vA 44, vI ((t + 1) : Nat)] F A al (fun o F' A' al' => o = .inl none ∧ al' = al ∧ FOff [(44, 43)] F F' ∧ Off [58, 59, 60, 61] A A' ∧ (∀ x, x < 64 * (t + 1 + 1) → A' 58 x = A 58 x) ∧ St (goF stp m dg mk k (t + 1) row s) F' A')) : ∀ (c d : Nat) (F : HF) (A : HA) (l5 l6 : Option LV), d + c = m.toNat → FOff [(44, 43)] F1 F → Off [58, 59, 60, 61] A1 A → (∀ x, x < 64 * (t + 1) → A 58 x = A1 58 x) → St (foF (fun d s => goF stp m dg mk k (t + 1) (gwM m dg mk t d row) s) d s) F A →
    QW mX12_goes (k + 4) 0 0 (fun o F' A' al' => o = .inl none ∧ al' = al ∧ FOff [(44, 43)] F1 F' ∧ Off [58, 59, 60, 61] A1 A' ∧ (∀ x, x < 64 * (t + 1) → A' 58 x = A1 58 x) ∧ St (foF (fun d s => goF stp m dg mk k (t + 1) (gwM m dg mk t d row) s) m.toNat s) F' A') 0 0 47 [some (vA 44), some (vI t), some (vI (64 * t : Nat)), some (vI (64 * (t + 1) : Nat)), some (vI d), l5, l6] [] F A al := by
  intro c
  induction c with
  | zero =>
    intro d F A l5 l6 hd hFF ho h2 hs
    have hF := hF1.trans hFF
    have hX := hX0.foff hF (by decide)
    have hm' : F 44 4 = vI m := (hF 44 4 (by decide)).trans hm
    have hdg' : F 44 35 = vI dg := (hF 44 35 (by decide)).trans hdg
    have hn' : F 44 33 = vI n := (hF 44 33 (by decide)).trans hn
    have hfl' : F 44 41 = vI fl := (hF 44 41 (by decide)).trans hfl
    have ed : d = m.toNat := by omega
    subst ed
    refine q_iload eX12_goes_47 rfl ?_
    refine q_aload_n eX12_goes_49 rfl ?_
    refine q_getfield eX12_goes_50 gf_X12_22 (hK _ (by decide) (by decide)) (by decide) (by first | assumption) ?_
    refine q_icmp_ge (tgt := 148) eX12_goes_53 (by decide) (by first | assumption | exact ⟨by omega, by omega⟩) (by first | assumption | exact ⟨by omega, by omega⟩) (fun c53 => ?_) (fun c53 => ?_)
    · refine q_retV eX12_goes_148 rfl (by decide) (by decide) ?_
      exact ⟨rfl, rfl, hFF, ho, h2, hs⟩
    · exact absurd c53 (by omega)
  | succ c ih =>
    intro d F A l5 l6 hd hFF ho h2 hs
    have hF := hF1.trans hFF
    have hX := hX0.foff hF (by decide)
    have hm' : F 44 4 = vI m := (hF 44 4 (by decide)).trans hm
    have hdg' : F 44 35 = vI dg := (hF 44 35 (by decide)).trans hdg
    have hn' : F 44 33 = vI n := (hF 44 33 (by decide)).trans hn
    have hfl' : F 44 41 = vI fl := (hF 44 41 (by decide)).trans hfl
    refine q_iload eX12_goes_47 rfl ?_
    refine q_aload_n eX12_goes_49 rfl ?_
    refine q_getfield eX12_goes_50 gf_X12_22 (hK _ (by decide) (by decide)) (by decide) (by first | assumption) ?_
    refine q_icmp_ge (tgt := 148) eX12_goes_53 (by decide) (by first | assumption | exact ⟨by omega, by omega⟩) (by first | assumption | exact ⟨by omega, by omega⟩) (fun c53 => ?_) (fun c53 => ?_)
    · exact absurd c53 (by omega)
    · refine q_iconst eX12_goes_56 ?_
      refine q_istore eX12_goes_57 (by decide) rfl ?_
      refine lp_go2 (stp := stp) hK hX0 hm hn hdg hfl hflr hm2 hm4 hn63 hdn hk16 hmk hst htk (show (d : Int) < m by omega) hF (hA1.trans ho) hrow (fun j hj => (h2 _ (by omega)).trans (h1 j hj)) (fun A2 l6' o2 h4 h5 => ?_) n 0 A l6 (by omega) Off.rfl' (fun x hx => rfl) (fun i hi => by omega)
      have o3 : Off [58, 59, 60, 61] A A2 := o2.mono (by simp)
      refine q_aload_n eX12_goes_135 rfl ?_
      refine q_iload_n eX12_goes_136 rfl ?_
      refine q_iconst eX12_goes_137 ?_
      refine q_iadd eX12_goes_138 ?_
      rw [show (t : Int) + 1 = ((t + 1 : Nat) : Int) by omega]
      refine q_callV [vI (t + 1 : Nat)] (M1 := mX12_goes) eX12_goes_139 mf_X12_goes lk_X12_402 (hK _ (by decide) (by decide)) (hgo _ _ F A2 hF ((hA1.trans ho).trans o3) (fun x => gwM_rg (by omega) x) h5 (hst _ _ _ _ (fun b hb => o2 b (by simp; exact hb)) hs)) (by intro E F A al h; cases h.1) (by omega) (by decide) (by decide) (Nat.le_of_ble_eq_true rfl) (st := []) rfl (fun v9 F9 A9 al9 h9 => ?_)
      obtain ⟨e9, rfl, f9, o9, r9, s9⟩ := h9
      obtain rfl := Sum.inl.inj e9
      refine q_iinc eX12_goes_142 rfl (by decide) rfl ?_
      refine q_goto (tgt := 47) eX12_goes_145 (by decide) ?_
      exact ih (d + 1) F9 A9 _ _ (by omega) (hFF.trans f9) ((ho.trans o3).trans o9) (fun x hx => (r9 x (by omega)).trans ((h4 x hx).trans (h2 x hx))) s9
set_option maxRecDepth 20000 in
theorem mo_goes {S : Type} {stp : (Nat → Int) → S → S} {St : S → HF → HA → Prop} {m fl : Int} {n dg : Nat} {mk : Nat → Int} {F0 : HF} {A0 : HA} {al : AL} (hK : KM al) (hX0 : MR F0) (hm : F0 44 4 = vI m) (hn : F0 44 33 = vI n) (hdg : F0 44 35 = vI dg) (hfl : F0 44 41 = vI fl) (hflr : InR fl) (hm2 : 2 ≤ m) (hm4 : m ≤ 4096) (hn63 : n ≤ 63) (hdn : dg ≤ n) (hk16 : n - dg ≤ 16) (hmk : ∀ i, i ≤ dg → A0 56 i = mk i ∧ 0 ≤ mk i ∧ mk i < m) (hst : ∀ s F A A2, (∀ b, b ≠ 58 → A2 b = A b) → St s F A → St s F A2) (hW : fl = 0 → ∀ (s : S) (row : Nat → Int) (F : HF) (A : HA) (t : Nat), t ≤ 16 → FOff [(44, 43)] F0 F → Off [58, 59, 60, 61] A0 A → (∀ x, 0 ≤ row x ∧ row x < m) → (∀ j, j < n → A 58 (64 * t + j) = row j) → St s F A → QE 1 0 0 mX12_weighs [vA 44, vI (64 * t : Nat)] F A al (fun o F' A' al' => o = .inl none ∧ al' = al ∧ FOff [(44, 43)] F F' ∧ Off [59, 60, 61] A A' ∧ St (stp row s) F' A')) (hL : fl ≠ 0 → ∀ (s : S) (row : Nat → Int) (F : HF) (A : HA) (t : Nat), t ≤ 16 → FOff [(44, 43)] F0 F → Off [58, 59, 60, 61] A0 A → (∀ x, 0 ≤ row x ∧ row x < m) → (∀ j, j < n → A 58 (64 * t + j) = row j) → St s F A → QE 1 0 0 mX12_looksAt [vA 44, vI (64 * t : Nat)] F A al (fun o F' A' al' => o = .inl none ∧ al' = al ∧ FOff [(44, 43)] F F' ∧ Off [59, 60, 61] A A' ∧ St (stp row s) F' A')) : ∀ (k t : Nat), t + k = n - dg → ∀ (row : Nat → Int) (s : S) (F : HF) (A : HA), FOff [(44, 43)] F0 F → Off [58, 59, 60, 61] A0 A → (∀ x, 0 ≤ row x ∧ row x < m) → (∀ j, j < n → A 58 (64 * t + j) = row j) → St s F A → QE (k + 3) 0 0 mX12_goes [vA 44, vI (t : Nat)] F A al (fun o F' A' al' => o = .inl none ∧ al' = al ∧ FOff [(44, 43)] F F' ∧ Off [58, 59, 60, 61] A A' ∧ (∀ x, x < 64 * (t + 1) → A' 58 x = A 58 x) ∧ St (goF stp m dg mk k t row s) F' A') := by
  intro k
  induction k with
  | zero =>
    intro t htk row s F A hF hA hrow h1 hs
    have hX := hX0.foff hF (by decide)
    have hm' : F 44 4 = vI m := (hF 44 4 (by decide)).trans hm
    have hdg' : F 44 35 = vI dg := (hF 44 35 (by decide)).trans hdg
    have hn' : F 44 33 = vI n := (hF 44 33 (by decide)).trans hn
    have hfl' : F 44 41 = vI fl := (hF 44 41 (by decide)).trans hfl
    refine QE.mk (by decide +kernel) (Nat.le_of_ble_eq_true rfl) ?_
    refine q_bipush eX12_goes_0 (by decide +kernel) ?_
    refine q_iload_n eX12_goes_2 rfl ?_
    refine q_imul eX12_goes_3 ?_
    rw [show (64 : Int) * (t : Int) = ((64 * t : Nat) : Int) by omega]
    refine q_istore_n eX12_goes_4 (by decide) rfl ?_
    refine q_iload_n eX12_goes_5 rfl ?_
    refine q_aload_n eX12_goes_6 rfl ?_
    refine q_getfield eX12_goes_7 gf_X12_69 (hK _ (by decide) (by decide)) (by decide) (by first | assumption) ?_
    refine q_aload_n eX12_goes_10 rfl ?_
    refine q_getfield eX12_goes_11 gf_X12_322 (hK _ (by decide) (by decide)) (by decide) (by first | assumption) ?_
    refine q_isub eX12_goes_14 ?_
    refine q_icmp_ne (tgt := 39) eX12_goes_15 (by decide) (by first | assumption | exact ⟨by omega, by omega⟩) (by first | assumption | exact ⟨by omega, by omega⟩) (fun c15 => ?_) (fun c15 => ?_)
    · exact absurd (show (t : Int) = (n : Int) - dg by omega) c15
    · refine q_aload_n eX12_goes_18 rfl ?_
      refine q_getfield eX12_goes_19 gf_X12_393 (hK _ (by decide) (by decide)) (by decide) (by first | assumption) ?_
      refine q_if_eq (tgt := 33) eX12_goes_22 (by decide) hflr (fun c22 => ?_) (fun c22 => ?_)
      · refine q_aload_n eX12_goes_33 rfl ?_
        refine q_iload_n eX12_goes_34 rfl ?_
        refine q_callV [vI (64 * t : Nat)] (M1 := mX12_weighs) eX12_goes_35 mf_X12_weighs lk_X12_399 (hK _ (by decide) (by decide)) (hW c22 s row F A t (by omega) hF hA hrow h1 hs) (by intro E F A al h; cases h.1) (by omega) (by decide) (by decide) (Nat.le_of_ble_eq_true rfl) (st := []) rfl (fun v9 F9 A9 al9 h9 => ?_)
        obtain ⟨e9, rfl, f9, o9, s9⟩ := h9
        obtain rfl := Sum.inl.inj e9
        refine q_retV eX12_goes_38 rfl (by decide) (by decide) ?_
        exact ⟨rfl, rfl, f9, o9.mono (by simp), fun x hx => by rw [o9 58 (by decide)], s9⟩
      · refine q_aload_n eX12_goes_25 rfl ?_
        refine q_iload_n eX12_goes_26 rfl ?_
        refine q_callV [vI (64 * t : Nat)] (M1 := mX12_looksAt) eX12_goes_27 mf_X12_looksAt lk_X12_396 (hK _ (by decide) (by decide)) (hL c22 s row F A t (by omega) hF hA hrow h1 hs) (by intro E F A al h; cases h.1) (by omega) (by decide) (by decide) (Nat.le_of_ble_eq_true rfl) (st := []) rfl (fun v9 F9 A9 al9 h9 => ?_)
        obtain ⟨e9, rfl, f9, o9, s9⟩ := h9
        obtain rfl := Sum.inl.inj e9
        refine q_goto (tgt := 38) eX12_goes_30 (by decide) ?_
        refine q_retV eX12_goes_38 rfl (by decide) (by decide) ?_
        exact ⟨rfl, rfl, f9, o9.mono (by simp), fun x hx => by rw [o9 58 (by decide)], s9⟩
  | succ k ih =>
    intro t htk row s F A hF hA hrow h1 hs
    have hX := hX0.foff hF (by decide)
    have hm' : F 44 4 = vI m := (hF 44 4 (by decide)).trans hm
    have hdg' : F 44 35 = vI dg := (hF 44 35 (by decide)).trans hdg
    have hn' : F 44 33 = vI n := (hF 44 33 (by decide)).trans hn
    have hfl' : F 44 41 = vI fl := (hF 44 41 (by decide)).trans hfl
    refine QE.mk (by decide +kernel) (Nat.le_of_ble_eq_true rfl) ?_
    refine q_bipush eX12_goes_0 (by decide +kernel) ?_
    refine q_iload_n eX12_goes_2 rfl ?_
    refine q_imul eX12_goes_3 ?_
    rw [show (64 : Int) * (t : Int) = ((64 * t : Nat) : Int) by omega]
    refine q_istore_n eX12_goes_4 (by decide) rfl ?_
    refine q_iload_n eX12_goes_5 rfl ?_
    refine q_aload_n eX12_goes_6 rfl ?_
    refine q_getfield eX12_goes_7 gf_X12_69 (hK _ (by decide) (by decide)) (by decide) (by first | assumption) ?_
    refine q_aload_n eX12_goes_10 rfl ?_
    refine q_getfield eX12_goes_11 gf_X12_322 (hK _ (by decide) (by decide)) (by decide) (by first | assumption) ?_
    refine q_isub eX12_goes_14 ?_
    refine q_icmp_ne (tgt := 39) eX12_goes_15 (by decide) (by first | assumption | exact ⟨by omega, by omega⟩) (by first | assumption | exact ⟨by omega, by omega⟩) (fun c15 => ?_) (fun c15 => ?_)
    · refine q_iload_n eX12_goes_39 rfl ?_
      refine q_bipush eX12_goes_40 (by decide +kernel) ?_
      refine q_iadd eX12_goes_42 ?_
      rw [show ((64 * t : Nat) : Int) + 64 = ((64 * (t + 1) : Nat) : Int) by omega]
      refine q_istore_n eX12_goes_43 (by decide) rfl ?_
      refine q_iconst eX12_goes_44 ?_
      refine q_istore eX12_goes_45 (by decide) rfl ?_
      exact lp_go1 hK hX0 hm hn hdg hfl hflr hm2 hm4 hn63 hdn hk16 hmk hst htk hF hA hrow h1 (ih (t + 1) (by omega)) m.toNat 0 F A none none (by omega) FOff.rfl' Off.rfl' (fun x hx => rfl) hs
    · exact absurd c15 (by omega)
set_option maxRecDepth 20000 in
theorem lp_ga2 {S : Type} {stp : (Nat → Int) → S → S} {St : S → HF → HA → Prop} {s0 : S} {m fl : Int} {n dg : Nat} {mk : Nat → Int} {F : HF} {A : HA} {al : AL} (hK : KM al) (hX : MR F) (hm : F 44 4 = vI m) (hn : F 44 33 = vI n) (hdg : F 44 35 = vI dg) (hfl : fl = 0 ∨ fl = 1) (hm2 : 2 ≤ m) (hm4 : m ≤ 4096) (hn63 : n ≤ 63) (hdn : dg ≤ n) (hk16 : n - dg ≤ 16) (hmk : ∀ i, i ≤ dg → A 56 i = mk i ∧ 0 ≤ mk i ∧ mk i < m) (hst : ∀ s F A A2, (∀ b, b ≠ 58 → A2 b = A b) → St s F A → St s F A2) (hW : fl = 0 → ∀ (s : S) (row : Nat → Int) (F2 : HF) (A2 : HA) (t : Nat), t ≤ 16 → FOff [(44, 41), (44, 43)] F F2 → Off [58, 59, 60, 61] A A2 → (∀ x, 0 ≤ row x ∧ row x < m) → (∀ j, j < n → A2 58 (64 * t + j) = row j) → St s F2 A2 → QE 1 0 0 mX12_weighs [vA 44, vI (64 * t : Nat)] F2 A2 al (fun o F' A' al' => o = .inl none ∧ al' = al ∧ FOff [(44, 43)] F2 F' ∧ Off [59, 60, 61] A2 A' ∧ St (stp row s) F' A')) (hL : fl ≠ 0 → ∀ (s : S) (row : Nat → Int) (F2 : HF) (A2 : HA) (t : Nat), t ≤ 16 → FOff [(44, 41), (44, 43)] F F2 → Off [58, 59, 60, 61] A A2 → (∀ x, 0 ≤ row x ∧ row x < m) → (∀ j, j < n → A2 58 (64 * t + j) = row j) → St s F2 A2 → QE 1 0 0 mX12_looksAt [vA 44, vI (64 * t : Nat)] F2 A2 al (fun o F' A' al' => o = .inl none ∧ al' = al ∧ FOff [(44, 43)] F2 F' ∧ Off [59, 60, 61] A2 A' ∧ St (stp row s) F' A')) (hs0 : ∀ F2 A2, F2 44 43 = vI 64 → (∀ j, j < 64 → A2 59 j = 0) → (∀ j, j < 8192 → A2 60 j = 0) → St s0 F2 A2)  {F1 : HF} (hF1 : FOff [(44, 41), (44, 43)] F F1) (h41 : F1 44 41 = vI fl) : ∀ (c i : Nat) (A1 : HA), i + c = 8192 → Off [58, 59, 60, 61] A A1 → (∀ j, j < 64 → A1 58 j = 0) → (∀ j, j < 64 → A1 59 j = 0) → (∀ j, j < i → A1 60 j = 0) →
    QW mX12_goesAll 20 0 0 (fun o F' A' al' => o = .inl none ∧ al' = al ∧ FOff [(44, 41), (44, 43)] F F' ∧ Off [58, 59, 60, 61] A A' ∧ St (goF stp m dg mk (n - dg) 0 (fun _ => 0) s0) F' A') 0 0 35 [some (vA 44), some (vI fl), some (vI i)] [] F1 A1 al := by
  have hX1 := hX.foff hF1 (by decide)
  intro c
  induction c with
  | zero =>
    intro i A1 hi ho h58 h59 h60
    have ei : i = 8192 := by omega
    subst ei
    have hF2 : FOff [(44, 41), (44, 43)] F (up2 F1 44 43 (vI 64)) := hF1.trans (FOff.up (by decide))
    have h43 : (up2 F1 44 43 (vI 64)) 44 43 = vI 64 := up2_eq _ _ _ _
    have hX2 := hX.foff hF2 (by decide)
    have hflr : InR fl := by rcases hfl with rfl | rfl <;> exact ⟨by decide, by decide⟩
    have hS := hs0 (up2 F1 44 43 (vI 64)) A1 h43 h59 h60
    refine q_iload_n eX12_goesAll_35 rfl ?_
    refine q_sipush eX12_goesAll_36 (by decide +kernel) ?_
    refine q_icmp_ge (tgt := 55) eX12_goesAll_39 (by decide) (by first | assumption | exact ⟨by omega, by omega⟩) (by first | assumption | exact ⟨by omega, by omega⟩) (fun c39 => ?_) (fun c39 => ?_)
    · refine q_aload_n eX12_goesAll_55 rfl ?_
      refine q_bipush eX12_goesAll_56 (by decide +kernel) ?_
      refine q_putfield eX12_goesAll_58 pf_X12_405 (hK _ (by decide) (by decide)) (by decide) (FT_i rfl) ?_
      refine q_aload_n eX12_goesAll_61 rfl ?_
      refine q_iconst eX12_goesAll_62 ?_
      refine q_callV [vI 0] (M1 := mX12_goes) eX12_goesAll_63 mf_X12_goes lk_X12_402 (hK _ (by decide) (by decide)) ((mo_goes (F0 := up2 F1 44 43 (vI 64)) (A0 := A1) hK hX2 ((hF2 44 4 (by decide)).trans hm) ((hF2 44 33 (by decide)).trans hn) ((hF2 44 35 (by decide)).trans hdg) ((up2_ne (by decide)).trans h41) hflr hm2 hm4 hn63 hdn hk16 (fun i hi => by rw [ho 56 (by decide)]; exact hmk i hi) hst (fun hz s row F3 A3 t ht hF3 hA3 => hW hz s row F3 A3 t ht (hF2.trans (hF3.mono (by decide))) (ho.trans hA3)) (fun hz s row F3 A3 t ht hF3 hA3 => hL hz s row F3 A3 t ht (hF2.trans (hF3.mono (by decide))) (ho.trans hA3)) (n - dg) 0 (by omega) (fun _ => 0) s0 (up2 F1 44 43 (vI 64)) A1 FOff.rfl' Off.rfl' (fun x => ⟨by decide, by omega⟩) (fun j hj => by rw [show 64 * 0 + j = j by omega]; exact h58 j (by omega)) hS)) (by intro E F A al h; cases h.1) (by omega) (by decide) (by decide) (Nat.le_of_ble_eq_true rfl) (st := []) rfl (fun v9 F9 A9 al9 h9 => ?_)
      obtain ⟨e9, rfl, f9, o9, -, s9⟩ := h9
      obtain rfl := Sum.inl.inj e9
      refine q_retV eX12_goesAll_66 rfl (by decide) (by decide) ?_
      exact ⟨rfl, rfl, hF2.trans (f9.mono (by decide)), ho.trans o9, s9⟩
    · exact absurd c39 (by decide)
  | succ c ih =>
    intro i A1 hi ho h58 h59 h60
    refine q_iload_n eX12_goesAll_35 rfl ?_
    refine q_sipush eX12_goesAll_36 (by decide +kernel) ?_
    refine q_icmp_ge (tgt := 55) eX12_goesAll_39 (by decide) (by first | assumption | exact ⟨by omega, by omega⟩) (by first | assumption | exact ⟨by omega, by omega⟩) (fun c39 => ?_) (fun c39 => ?_)
    · exact absurd c39 (by omega)
    · refine q_aload_n eX12_goesAll_42 rfl ?_
      refine q_getfield eX12_goesAll_43 gf_X12_84 (hK _ (by decide) (by decide)) (by decide) (mr_44_40 hX1) ?_
      refine q_iload_n eX12_goesAll_46 rfl ?_
      refine q_iconst eX12_goesAll_47 ?_
      refine q_iast eX12_goesAll_48 (hK _ (by decide) (by decide)) (by omega) (by omega) ?_
      refine q_iinc eX12_goesAll_49 rfl (by decide) rfl ?_
      refine q_goto (tgt := 35) eX12_goesAll_52 (by decide) ?_
      refine ih (i + 1) _ (by omega) (ho.trans (Off.up (by simp))) (fun j hj => by rw [up2_row (by decide)]; exact h58 j hj) (fun j hj => by rw [up2_row (by decide)]; exact h59 j hj) (fun j hj => ?_)
      rw [up2_at]
      split
      · rfl
      · next he => exact h60 j (by have : j ≠ i := he; omega)
set_option maxRecDepth 20000 in
theorem lp_ga1 {S : Type} {stp : (Nat → Int) → S → S} {St : S → HF → HA → Prop} {s0 : S} {m fl : Int} {n dg : Nat} {mk : Nat → Int} {F : HF} {A : HA} {al : AL} (hK : KM al) (hX : MR F) (hm : F 44 4 = vI m) (hn : F 44 33 = vI n) (hdg : F 44 35 = vI dg) (hfl : fl = 0 ∨ fl = 1) (hm2 : 2 ≤ m) (hm4 : m ≤ 4096) (hn63 : n ≤ 63) (hdn : dg ≤ n) (hk16 : n - dg ≤ 16) (hmk : ∀ i, i ≤ dg → A 56 i = mk i ∧ 0 ≤ mk i ∧ mk i < m) (hst : ∀ s F A A2, (∀ b, b ≠ 58 → A2 b = A b) → St s F A → St s F A2) (hW : fl = 0 → ∀ (s : S) (row : Nat → Int) (F2 : HF) (A2 : HA) (t : Nat), t ≤ 16 → FOff [(44, 41), (44, 43)] F F2 → Off [58, 59, 60, 61] A A2 → (∀ x, 0 ≤ row x ∧ row x < m) → (∀ j, j < n → A2 58 (64 * t + j) = row j) → St s F2 A2 → QE 1 0 0 mX12_weighs [vA 44, vI (64 * t : Nat)] F2 A2 al (fun o F' A' al' => o = .inl none ∧ al' = al ∧ FOff [(44, 43)] F2 F' ∧ Off [59, 60, 61] A2 A' ∧ St (stp row s) F' A')) (hL : fl ≠ 0 → ∀ (s : S) (row : Nat → Int) (F2 : HF) (A2 : HA) (t : Nat), t ≤ 16 → FOff [(44, 41), (44, 43)] F F2 → Off [58, 59, 60, 61] A A2 → (∀ x, 0 ≤ row x ∧ row x < m) → (∀ j, j < n → A2 58 (64 * t + j) = row j) → St s F2 A2 → QE 1 0 0 mX12_looksAt [vA 44, vI (64 * t : Nat)] F2 A2 al (fun o F' A' al' => o = .inl none ∧ al' = al ∧ FOff [(44, 43)] F2 F' ∧ Off [59, 60, 61] A2 A' ∧ St (stp row s) F' A')) (hs0 : ∀ F2 A2, F2 44 43 = vI 64 → (∀ j, j < 64 → A2 59 j = 0) → (∀ j, j < 8192 → A2 60 j = 0) → St s0 F2 A2)  {F1 : HF} (hF1 : FOff [(44, 41), (44, 43)] F F1) (h41 : F1 44 41 = vI fl) : ∀ (c i : Nat) (A1 : HA), i + c = 64 → Off [58, 59, 60, 61] A A1 → (∀ j, j < i → A1 58 j = 0) → (∀ j, j < i → A1 59 j = 0) →
    QW mX12_goesAll 20 0 0 (fun o F' A' al' => o = .inl none ∧ al' = al ∧ FOff [(44, 41), (44, 43)] F F' ∧ Off [58, 59, 60, 61] A A' ∧ St (goF stp m dg mk (n - dg) 0 (fun _ => 0) s0) F' A') 0 0 7 [some (vA 44), some (vI fl), some (vI i)] [] F1 A1 al := by
  have hX1 := hX.foff hF1 (by decide)
  intro c
  induction c with
  | zero =>
    intro i A1 hi ho h58 h59
    have ei : i = 64 := by omega
    subst ei
    refine q_iload_n eX12_goesAll_7 rfl ?_
    refine q_bipush eX12_goesAll_8 (by decide +kernel) ?_
    refine q_icmp_ge (tgt := 33) eX12_goesAll_10 (by decide) (by first | assumption | exact ⟨by omega, by omega⟩) (by first | assumption | exact ⟨by omega, by omega⟩) (fun c10 => ?_) (fun c10 => ?_)
    · refine q_iconst eX12_goesAll_33 ?_
      refine q_istore_n eX12_goesAll_34 (by decide) rfl ?_
      exact lp_ga2 hK hX hm hn hdg hfl hm2 hm4 hn63 hdn hk16 hmk hst hW hL hs0 hF1 h41 8192 0 A1 (by omega) ho h58 h59 (fun j hj => by omega)
    · exact absurd c10 (by decide)
  | succ c ih =>
    intro i A1 hi ho h58 h59
    refine q_iload_n eX12_goesAll_7 rfl ?_
    refine q_bipush eX12_goesAll_8 (by decide +kernel) ?_
    refine q_icmp_ge (tgt := 33) eX12_goesAll_10 (by decide) (by first | assumption | exact ⟨by omega, by omega⟩) (by first | assumption | exact ⟨by omega, by omega⟩) (fun c10 => ?_) (fun c10 => ?_)
    · exact absurd c10 (by omega)
    · refine q_aload_n eX12_goesAll_13 rfl ?_
      refine q_getfield eX12_goesAll_14 gf_X12_78 (hK _ (by decide) (by decide)) (by decide) (mr_44_38 hX1) ?_
      refine q_iload_n eX12_goesAll_17 rfl ?_
      refine q_iconst eX12_goesAll_18 ?_
      refine q_iast eX12_goesAll_19 (hK _ (by decide) (by decide)) (by omega) (by omega) ?_
      refine q_aload_n eX12_goesAll_20 rfl ?_
      refine q_getfield eX12_goesAll_21 gf_X12_81 (hK _ (by decide) (by decide)) (by decide) (mr_44_39 hX1) ?_
      refine q_iload_n eX12_goesAll_24 rfl ?_
      refine q_iconst eX12_goesAll_25 ?_
      refine q_iast eX12_goesAll_26 (hK _ (by decide) (by decide)) (by omega) (by omega) ?_
      refine q_iinc eX12_goesAll_27 rfl (by decide) rfl ?_
      refine q_goto (tgt := 7) eX12_goesAll_30 (by decide) ?_
      refine ih (i + 1) _ (by omega) ((ho.trans (Off.up (by simp))).trans (Off.up (by simp))) (fun j hj => ?_) (fun j hj => ?_)
      · rw [up2_row (by decide), up2_at]
        split
        · rfl
        · next he => exact h58 j (by have : j ≠ i := he; omega)
      · rw [up2_at]
        split
        · rfl
        · next he => rw [up2_row (by decide)]; exact h59 j (by have : j ≠ i := he; omega)
set_option maxRecDepth 20000 in
theorem mo_goesAll {S : Type} {stp : (Nat → Int) → S → S} {St : S → HF → HA → Prop} {s0 : S} {m fl : Int} {n dg : Nat} {mk : Nat → Int} {F : HF} {A : HA} {al : AL} (hK : KM al) (hX : MR F) (hm : F 44 4 = vI m) (hn : F 44 33 = vI n) (hdg : F 44 35 = vI dg) (hfl : fl = 0 ∨ fl = 1) (hm2 : 2 ≤ m) (hm4 : m ≤ 4096) (hn63 : n ≤ 63) (hdn : dg ≤ n) (hk16 : n - dg ≤ 16) (hmk : ∀ i, i ≤ dg → A 56 i = mk i ∧ 0 ≤ mk i ∧ mk i < m) (hst : ∀ s F A A2, (∀ b, b ≠ 58 → A2 b = A b) → St s F A → St s F A2) (hW : fl = 0 → ∀ (s : S) (row : Nat → Int) (F2 : HF) (A2 : HA) (t : Nat), t ≤ 16 → FOff [(44, 41), (44, 43)] F F2 → Off [58, 59, 60, 61] A A2 → (∀ x, 0 ≤ row x ∧ row x < m) → (∀ j, j < n → A2 58 (64 * t + j) = row j) → St s F2 A2 → QE 1 0 0 mX12_weighs [vA 44, vI (64 * t : Nat)] F2 A2 al (fun o F' A' al' => o = .inl none ∧ al' = al ∧ FOff [(44, 43)] F2 F' ∧ Off [59, 60, 61] A2 A' ∧ St (stp row s) F' A')) (hL : fl ≠ 0 → ∀ (s : S) (row : Nat → Int) (F2 : HF) (A2 : HA) (t : Nat), t ≤ 16 → FOff [(44, 41), (44, 43)] F F2 → Off [58, 59, 60, 61] A A2 → (∀ x, 0 ≤ row x ∧ row x < m) → (∀ j, j < n → A2 58 (64 * t + j) = row j) → St s F2 A2 → QE 1 0 0 mX12_looksAt [vA 44, vI (64 * t : Nat)] F2 A2 al (fun o F' A' al' => o = .inl none ∧ al' = al ∧ FOff [(44, 43)] F2 F' ∧ Off [59, 60, 61] A2 A' ∧ St (stp row s) F' A')) (hs0 : ∀ F2 A2, F2 44 43 = vI 64 → (∀ j, j < 64 → A2 59 j = 0) → (∀ j, j < 8192 → A2 60 j = 0) → St s0 F2 A2)  : QE 20 0 0 mX12_goesAll [vA 44, vI fl] F A al (fun o F' A' al' => o = .inl none ∧ al' = al ∧ FOff [(44, 41), (44, 43)] F F' ∧ Off [58, 59, 60, 61] A A' ∧ St (goF stp m dg mk (n - dg) 0 (fun _ => 0) s0) F' A') := by
  refine QE.mk (by decide +kernel) (Nat.le_of_ble_eq_true rfl) ?_
  refine q_aload_n eX12_goesAll_0 rfl ?_
  refine q_iload_n eX12_goesAll_1 rfl ?_
  refine q_putfield eX12_goesAll_2 pf_X12_393 (hK _ (by decide) (by decide)) (by decide) (FT_z rfl hfl) ?_
  refine q_iconst eX12_goesAll_5 ?_
  refine q_istore_n eX12_goesAll_6 (by decide) rfl ?_
  exact lp_ga1 hK hX hm hn hdg hfl hm2 hm4 hn63 hdn hk16 hmk hst hW hL hs0 (FOff.up (by decide)) (up2_eq _ _ _ _) 64 0 A (by omega) Off.rfl' (fun j hj => by omega) (fun j hj => by omega)
