/-! the model: a ring begins -/
def RM (p e r : Nat) (f : Nat → Int) (g : Int) : Prop :=
  (∃ lo : Nat, lo < 4096 ∧ (2 ≤ r → ipMO p r lo r 1 = true) ∧ (∀ l : Nat, l < lo → ¬ ipMO p r l r 1 = true) ∧ ∀ i, i < r → mdM p e r (p ^ r) ((p : Int) ^ e) lo i = f i) ∧ (∀ i, i < r → 0 ≤ f i ∧ f i < (p : Int) ^ e) ∧
  g = gnM p e r (p ^ r) ((p : Int) ^ e) f (p ^ r - 1) ∧ El ((p : Int) ^ e) r g ∧ lgE p r ((p : Int) ^ e) f g (p ^ r - 1) 0 = -1 ∧ (∀ j, 1 ≤ j → j < p ^ r → lgE p r ((p : Int) ^ e) f g (p ^ r - 1) j ≠ -1) ∧ MH p e r (p ^ r) (p ^ (e * r)) ((p : Int) ^ e) f
def BRF : List (Nat × Nat) := [(44, 1), (44, 2), (44, 3), (44, 4), (44, 5), (44, 6), (44, 11), (44, 33), (44, 34), (44, 35), (44, 45)]
def BRA : List Nat := [45, 46, 47, 48, 49, 50, 51, 52, 53, 56, 57]
def cy1 (p e r : Nat) (f : Nat → Int) (g : Int) : Nat × (Nat → Int) × (Nat → Int) := cyM ((p : Int) ^ e) r f (coM p 1) 0 (pw ((p : Int) ^ e) r f g ((p ^ r - 1) / 1)) 1
def PBR (p e r : Nat) (f : Nat → Int) (g : Int) (F : HF) (A : HA) (al : AL) : PO := fun o F' A' al' => o = .inl none ∧ KE al.2 al al' ∧ FOff BRF F F' ∧ OffN al.2 BRA A A' ∧
  M1 p e r (p ^ r) (p ^ (e * r)) ((p : Int) ^ e) f g (fun j => tcE p e r (p ^ r) ((p : Int) ^ e) f j) (lgE p r ((p : Int) ^ e) f g (p ^ r - 1)) F' A' ∧ (∀ j, j < 8 → A' 49 j = 0) ∧ M5 (p ^ r) 1 0 (cy1 p e r f g).1 (cy1 p e r f g).2.1 (cy1 p e r f g).2.2 F' A' ∧ F' 44 45 = vI 0
theorem OrbOK1 (p : Nat) : OrbOK p 1 := by
  intro i hi
  have ei : i = 0 := by omega
  subst ei
  have h1 : orb p 1 0 1 = 0 := Nat.mod_one _
  have h2 : orK p 1 0 = 1 := by
    show (if orb p 1 0 1 = 0 then 1 else orF p 1 0 0 2) = 1
    rw [if_pos h1]
  rw [h2]
  refine ⟨Nat.le_refl _, h1, fun j h3 h4 => by omega, ?_⟩
  unfold lsM
  rw [h2]
  exact Nat.le_refl _
set_option maxRecDepth 20000 in
theorem lp_br2 {p e r n : Nat} {f : Nat → Int} {g : Int} {F F8 : HF} {A A8 : HA} {K : Nat → Nat × Nat} {al9 : AL} (hK2 : KM al9) (hX2 : MR F8) (hKE : KE n (K, n) al9) (hO2 : FOff BRF F F8) (hA28 : OffN n BRA A A8) (hGY : GY p e r (p ^ r) (p ^ (e * r)) ((p : Int) ^ e) f g (fun j => tcE p e r (p ^ r) ((p : Int) ^ e) f j) (lgE p r ((p : Int) ^ e) f g (p ^ r - 1)) F8 A8) (h3r8 : A8 45 r = 1) (hMH : MH p e r (p ^ r) (p ^ (e * r)) ((p : Int) ^ e) f) {w1 w2 w3 : Int} (nc ns : Nat) (hnc : nc ≤ 1) (hns : ns ≤ 7) : ∀ (s k : Nat) (A2 : HA), k + s = 8 → Off [49] A8 A2 → (∀ j, j < k → A2 49 j = 0) →
    QW mX12_beginsRing 7 1 7 (PBR p e r f g F A (K, n)) nc ns 71 [some (vA 44), some (vI w1), some (vI w2), some (vI w3), some (vI k)] [] F8 A2 al9 := by
  obtain ⟨hG, hp, he, hq, hN, hg, ⟨hp2, hp7, he1, he4, hme, hqe, hq3, hNm, hgE⟩, hP, hL, hR⟩ := id hGY
  have hq2 := hGY.q2
  intro s
  induction s with
  | zero =>
    intro k A2 hk ho h1
    have ek : k = 8 := by omega
    subst ek
    refine q_iload eX12_beginsRing_71 rfl ?_
    refine q_bipush eX12_beginsRing_73 (by decide +kernel) ?_
    refine q_icmp_ge (tgt := 92) eX12_beginsRing_75 (by decide) (by first | assumption | exact ⟨by omega, by omega⟩) (by first | assumption | exact ⟨by omega, by omega⟩) (fun c75 => ?_) (fun c75 => ?_)
    · refine q_aload_n eX12_beginsRing_92 rfl ?_
      refine q_iconst eX12_beginsRing_93 ?_
      refine q_putfield eX12_beginsRing_94 pf_X12_69 (hK2 _ (by decide) (by decide)) (by decide) (FT_i rfl) ?_
      refine q_aload_n eX12_beginsRing_97 rfl ?_
      refine q_iconst eX12_beginsRing_98 ?_
      refine q_putfield eX12_beginsRing_99 pf_X12_157 (hK2 _ (by decide) (by decide)) (by decide) (FT_i rfl) ?_
      refine q_aload_n eX12_beginsRing_102 rfl ?_
      refine q_iconst eX12_beginsRing_103 ?_
      refine q_putfield eX12_beginsRing_104 pf_X12_160 (hK2 _ (by decide) (by decide)) (by decide) (FT_z rfl (Or.inl rfl)) ?_
      have hO3 : FOff [(44, 33), (44, 34), (44, 45)] F8 (up2 (up2 (up2 F8 44 33 (vI 1)) 44 34 (vI 0)) 44 45 (vI 0)) := ((FOff.up (by decide)).trans (FOff.up (by decide))).trans (FOff.up (by decide))
      generalize hF3 : up2 (up2 (up2 F8 44 33 (vI 1)) 44 34 (vI 0)) 44 45 (vI 0) = F3 at hO3
      have z33 : F3 44 33 = vI (1 : Nat) := by rw [← hF3]; exact Eq.trans (up2_ne (by decide)) (Eq.trans (up2_ne (by decide)) (up2_eq _ _ _ _))
      have z34 : F3 44 34 = vI 0 := by rw [← hF3]; exact Eq.trans (up2_ne (by decide)) (up2_eq _ _ _ _)
      have z45 : F3 44 45 = vI 0 := by rw [← hF3]; exact up2_eq _ _ _ _
      have hX3 : MR F3 := hX2.foff hO3 (by decide)
      have hG3 := (hGY.off ho (by decide) (by decide) (by decide) (by decide)).row (F2 := F3) (fun k hk => hO3 44 k (by simp only [List.mem_cons, List.not_mem_nil, or_false] at hk; rcases hk with rfl | rfl | rfl | rfl | rfl | rfl | rfl <;> decide))
      have hT3 := hG3
      obtain ⟨hG4, hp', he', hq', hN', hg', -⟩ := id hT3
      refine q_aload_n eX12_beginsRing_107 rfl ?_
      refine q_callV [] (M1 := mX12_laysCode) eX12_beginsRing_108 mf_X12_laysCode lk_X12_164 (hK2 _ (by decide) (by decide)) (mo_laysCode (n := 1) (set := 0) hK2 hX3 hG4 hp' hp7 hq' hq2 (by omega) hg' hgE z33 (by decide) (by decide) z34 (by decide) (by decide) (OrbOK1 p)) (by intro E F A al h; cases h.1) (by decide) (by omega) (by omega) (Nat.le_of_ble_eq_true rfl) (st := []) rfl (fun v7 F7 A7 al7 h7 => ?_)
      obtain ⟨e7, f7, rfl, o7, m7, c7⟩ := h7
      obtain rfl := Sum.inl.inj e7
      have hO7 : FOff [(44, 35)] F3 F7 := by rw [f7]; exact FOff.up (by decide)
      have z35 : F7 44 35 = vI (cy1 p e r f g).1 := by rw [f7]; exact up2_eq _ _ _ _
      refine q_retV eX12_beginsRing_111 rfl (by omega) (by omega) ?_
      refine ⟨rfl, hKE, hO2.trans ((hO3.mono (by decide)).trans (hO7.mono (by decide))), hA28.trans ((ho.n (fun b hb _ => by simp only [List.mem_cons, List.not_mem_nil, or_false] at hb; subst hb; decide)).trans (o7.n (fun b hb _ => by simp only [List.mem_cons, List.not_mem_nil, or_false] at hb; rcases hb with rfl | rfl | rfl | rfl | rfl <;> decide))), ⟨hX3.foff hO7 (by decide), (hG3.off o7 (by decide) (by decide) (by decide) (by decide)).row (fun k hk => hO7 44 k (by simp only [List.mem_cons, List.not_mem_nil, or_false] at hk; rcases hk with rfl | rfl | rfl | rfl | rfl | rfl | rfl <;> decide)), ?_, hMH⟩, fun j hj => ?_, ⟨⟨(hO7 44 33 (by decide)).trans z33, (hO7 44 34 (by decide)).trans z34, z35⟩, fun j hj => m7 j (by omega), fun j hj => c7 j (by omega), ⟨by decide, by decide, Nat.mod_one _, by decide, by decide⟩, cyM_le _⟩, (hO7 44 45 (by decide)).trans z45⟩
      · rw [o7 45 (by decide), ho 45 (by decide)]; exact h3r8
      · rw [o7 49 (by decide)]; exact h1 j hj
    · exact absurd c75 (by omega)
  | succ s ih =>
    intro k A2 hk ho h1
    refine q_iload eX12_beginsRing_71 rfl ?_
    refine q_bipush eX12_beginsRing_73 (by decide +kernel) ?_
    refine q_icmp_ge (tgt := 92) eX12_beginsRing_75 (by decide) (by first | assumption | exact ⟨by omega, by omega⟩) (by first | assumption | exact ⟨by omega, by omega⟩) (fun c75 => ?_) (fun c75 => ?_)
    · exact absurd c75 (by omega)
    · refine q_aload_n eX12_beginsRing_78 rfl ?_
      refine q_getfield eX12_beginsRing_79 gf_X12_44 (hK2 _ (by decide) (by decide)) (by decide) (mr_44_12 hX2) ?_
      refine q_iload eX12_beginsRing_82 rfl ?_
      refine q_iconst eX12_beginsRing_84 ?_
      refine q_iast eX12_beginsRing_85 (hK2 _ (by decide) (by decide)) (by omega) (by omega) ?_
      refine q_iinc eX12_beginsRing_86 rfl (by decide) rfl ?_
      refine q_goto (tgt := 71) eX12_beginsRing_89 (by decide) ?_
      refine ih (k + 1) _ (by omega) (ho.trans (Off.up (by simp))) (fun j hj => ?_)
      rw [up2_at]
      split
      · rfl
      · next hne => exact h1 j (by have : j ≠ k := hne; omega)
set_option maxRecDepth 20000 in
theorem mo_beginsRing {p e r n : Nat} {f : Nat → Int} {g : Int} {F : HF} {A : HA} {K : Nat → Nat × Nat} (hK : KM (K, n)) (hX : MR F) (hn : 67 ≤ n) (hex : exO p e r) (hNN : (p : Int) ^ (e * r) ≤ 4096) (hR : RM p e r f g) : QE 7 1 7 mX12_beginsRing [vA 44, vI p, vI e, vI r] F A (K, n) (PBR p e r f g F A (K, n)) := by
  refine QE.mk (by decide +kernel) (Nat.le_of_ble_eq_true rfl) ?_
  obtain ⟨hq31, hm40⟩ := q_bound hex hNN
  obtain ⟨g1, g2, g3, g4, g5⟩ := id hex
  obtain ⟨⟨lo, hlo, hlo1, hlo0, hmd⟩, hfr, hg, hgE, hlg0, hlg, hMH⟩ := hR
  have hp2 : 2 ≤ p := by omega
  have hp7 : p ≤ 7 := by omega
  have hm2 : 2 ≤ (p : Int) ^ e := by
    have := pow_ge (m := (p : Int)) (by omega) (show 1 ≤ e by omega)
    omega
  have hpm : (p : Int) ≤ (p : Int) ^ e := pow_ge (m := (p : Int)) (by omega) (show 1 ≤ e by omega)
  have hq2 : 2 ≤ p ^ r := by
    have h1 := pow_ge (m := (p : Int)) (by omega) (show 1 ≤ r by omega)
    have h2 : (p : Int) ^ r = ((p ^ r : Nat) : Int) := by simp
    omega
  have hN4 : ((p : Int) ^ e) ^ r ≤ 4096 := by rw [← Int.pow_mul]; exact hNN
  have eN : ((p : Int) ^ e) ^ r = ((p ^ (e * r) : Nat) : Int) := by rw [← Int.pow_mul]; simp
  have eq' : (p : Int) ^ r = ((p ^ r : Nat) : Int) := by simp
  refine q_aload_n eX12_beginsRing_0 rfl ?_
  refine q_iload_n eX12_beginsRing_1 rfl ?_
  refine q_putfield eX12_beginsRing_2 pf_X12_13 (hK _ (by decide) (by decide)) (by decide) (FT_i rfl) ?_
  refine q_aload_n eX12_beginsRing_5 rfl ?_
  refine q_iload_n eX12_beginsRing_6 rfl ?_
  refine q_putfield eX12_beginsRing_7 pf_X12_16 (hK _ (by decide) (by decide)) (by decide) (FT_i rfl) ?_
  refine q_aload_n eX12_beginsRing_10 rfl ?_
  refine q_iload_n eX12_beginsRing_11 rfl ?_
  refine q_putfield eX12_beginsRing_12 pf_X12_19 (hK _ (by decide) (by decide)) (by decide) (FT_i rfl) ?_
  refine q_aload_n eX12_beginsRing_15 rfl ?_
  refine q_aload_n eX12_beginsRing_16 rfl ?_
  refine q_getfield eX12_beginsRing_17 gf_X12_13 (hK _ (by decide) (by decide)) (by decide) (by first | exact up2_eq _ _ _ _ | exact Eq.trans (up2_ne (by decide)) (up2_eq _ _ _ _) | exact Eq.trans (up2_ne (by decide)) (Eq.trans (up2_ne (by decide)) (up2_eq _ _ _ _)) | exact Eq.trans (up2_ne (by decide)) (Eq.trans (up2_ne (by decide)) (Eq.trans (up2_ne (by decide)) (up2_eq _ _ _ _))) | exact Eq.trans (up2_ne (by decide)) (Eq.trans (up2_ne (by decide)) (Eq.trans (up2_ne (by decide)) (Eq.trans (up2_ne (by decide)) (up2_eq _ _ _ _)))) | exact Eq.trans (up2_ne (by decide)) (Eq.trans (up2_ne (by decide)) (Eq.trans (up2_ne (by decide)) (Eq.trans (up2_ne (by decide)) (Eq.trans (up2_ne (by decide)) (up2_eq _ _ _ _)))))) ?_
  refine q_aload_n eX12_beginsRing_20 rfl ?_
  refine q_getfield eX12_beginsRing_21 gf_X12_16 (hK _ (by decide) (by decide)) (by decide) (by first | exact up2_eq _ _ _ _ | exact Eq.trans (up2_ne (by decide)) (up2_eq _ _ _ _) | exact Eq.trans (up2_ne (by decide)) (Eq.trans (up2_ne (by decide)) (up2_eq _ _ _ _)) | exact Eq.trans (up2_ne (by decide)) (Eq.trans (up2_ne (by decide)) (Eq.trans (up2_ne (by decide)) (up2_eq _ _ _ _))) | exact Eq.trans (up2_ne (by decide)) (Eq.trans (up2_ne (by decide)) (Eq.trans (up2_ne (by decide)) (Eq.trans (up2_ne (by decide)) (up2_eq _ _ _ _)))) | exact Eq.trans (up2_ne (by decide)) (Eq.trans (up2_ne (by decide)) (Eq.trans (up2_ne (by decide)) (Eq.trans (up2_ne (by decide)) (Eq.trans (up2_ne (by decide)) (up2_eq _ _ _ _)))))) ?_
  refine q_callSP [vI p, vI e] (M1 := mX12_power) eX12_beginsRing_24 mf_X12_power lk_X12_115 (mo_power (by omega)) (by decide) (by decide) (by decide) (Nat.le_of_ble_eq_true rfl) rfl ?_
  refine q_putfield eX12_beginsRing_27 pf_X12_22 (hK _ (by decide) (by decide)) (by decide) (FT_i rfl) ?_
  refine q_aload_n eX12_beginsRing_30 rfl ?_
  refine q_aload_n eX12_beginsRing_31 rfl ?_
  refine q_getfield eX12_beginsRing_32 gf_X12_13 (hK _ (by decide) (by decide)) (by decide) (by first | exact up2_eq _ _ _ _ | exact Eq.trans (up2_ne (by decide)) (up2_eq _ _ _ _) | exact Eq.trans (up2_ne (by decide)) (Eq.trans (up2_ne (by decide)) (up2_eq _ _ _ _)) | exact Eq.trans (up2_ne (by decide)) (Eq.trans (up2_ne (by decide)) (Eq.trans (up2_ne (by decide)) (up2_eq _ _ _ _))) | exact Eq.trans (up2_ne (by decide)) (Eq.trans (up2_ne (by decide)) (Eq.trans (up2_ne (by decide)) (Eq.trans (up2_ne (by decide)) (up2_eq _ _ _ _)))) | exact Eq.trans (up2_ne (by decide)) (Eq.trans (up2_ne (by decide)) (Eq.trans (up2_ne (by decide)) (Eq.trans (up2_ne (by decide)) (Eq.trans (up2_ne (by decide)) (up2_eq _ _ _ _)))))) ?_
  refine q_aload_n eX12_beginsRing_35 rfl ?_
  refine q_getfield eX12_beginsRing_36 gf_X12_19 (hK _ (by decide) (by decide)) (by decide) (by first | exact up2_eq _ _ _ _ | exact Eq.trans (up2_ne (by decide)) (up2_eq _ _ _ _) | exact Eq.trans (up2_ne (by decide)) (Eq.trans (up2_ne (by decide)) (up2_eq _ _ _ _)) | exact Eq.trans (up2_ne (by decide)) (Eq.trans (up2_ne (by decide)) (Eq.trans (up2_ne (by decide)) (up2_eq _ _ _ _))) | exact Eq.trans (up2_ne (by decide)) (Eq.trans (up2_ne (by decide)) (Eq.trans (up2_ne (by decide)) (Eq.trans (up2_ne (by decide)) (up2_eq _ _ _ _)))) | exact Eq.trans (up2_ne (by decide)) (Eq.trans (up2_ne (by decide)) (Eq.trans (up2_ne (by decide)) (Eq.trans (up2_ne (by decide)) (Eq.trans (up2_ne (by decide)) (up2_eq _ _ _ _)))))) ?_
  refine q_callSP [vI p, vI r] (M1 := mX12_power) eX12_beginsRing_39 mf_X12_power lk_X12_115 (mo_power (by omega)) (by decide) (by decide) (by decide) (Nat.le_of_ble_eq_true rfl) rfl ?_
  rw [eq']
  refine q_putfield eX12_beginsRing_42 pf_X12_25 (hK _ (by decide) (by decide)) (by decide) (FT_i rfl) ?_
  refine q_aload_n eX12_beginsRing_45 rfl ?_
  refine q_aload_n eX12_beginsRing_46 rfl ?_
  refine q_getfield eX12_beginsRing_47 gf_X12_22 (hK _ (by decide) (by decide)) (by decide) (by first | exact up2_eq _ _ _ _ | exact Eq.trans (up2_ne (by decide)) (up2_eq _ _ _ _) | exact Eq.trans (up2_ne (by decide)) (Eq.trans (up2_ne (by decide)) (up2_eq _ _ _ _)) | exact Eq.trans (up2_ne (by decide)) (Eq.trans (up2_ne (by decide)) (Eq.trans (up2_ne (by decide)) (up2_eq _ _ _ _))) | exact Eq.trans (up2_ne (by decide)) (Eq.trans (up2_ne (by decide)) (Eq.trans (up2_ne (by decide)) (Eq.trans (up2_ne (by decide)) (up2_eq _ _ _ _)))) | exact Eq.trans (up2_ne (by decide)) (Eq.trans (up2_ne (by decide)) (Eq.trans (up2_ne (by decide)) (Eq.trans (up2_ne (by decide)) (Eq.trans (up2_ne (by decide)) (up2_eq _ _ _ _)))))) ?_
  refine q_aload_n eX12_beginsRing_50 rfl ?_
  refine q_getfield eX12_beginsRing_51 gf_X12_19 (hK _ (by decide) (by decide)) (by decide) (by first | exact up2_eq _ _ _ _ | exact Eq.trans (up2_ne (by decide)) (up2_eq _ _ _ _) | exact Eq.trans (up2_ne (by decide)) (Eq.trans (up2_ne (by decide)) (up2_eq _ _ _ _)) | exact Eq.trans (up2_ne (by decide)) (Eq.trans (up2_ne (by decide)) (Eq.trans (up2_ne (by decide)) (up2_eq _ _ _ _))) | exact Eq.trans (up2_ne (by decide)) (Eq.trans (up2_ne (by decide)) (Eq.trans (up2_ne (by decide)) (Eq.trans (up2_ne (by decide)) (up2_eq _ _ _ _)))) | exact Eq.trans (up2_ne (by decide)) (Eq.trans (up2_ne (by decide)) (Eq.trans (up2_ne (by decide)) (Eq.trans (up2_ne (by decide)) (Eq.trans (up2_ne (by decide)) (up2_eq _ _ _ _)))))) ?_
  refine q_callSP [vI ((p : Int) ^ e), vI r] (M1 := mX12_power) eX12_beginsRing_54 mf_X12_power lk_X12_115 (mo_power (by omega)) (by decide) (by decide) (by decide) (Nat.le_of_ble_eq_true rfl) rfl ?_
  rw [eN]
  refine q_putfield eX12_beginsRing_57 pf_X12_28 (hK _ (by decide) (by decide)) (by decide) (FT_i rfl) ?_
  refine q_cut n rfl (fun F1 A1 K1 hF1 hA1 hK1 => ?_)
  have x1 : F1 44 1 = vI p := by rw [hF1]; exact Eq.trans (up2_ne (by decide)) (Eq.trans (up2_ne (by decide)) (Eq.trans (up2_ne (by decide)) (Eq.trans (up2_ne (by decide)) (Eq.trans (up2_ne (by decide)) (up2_eq _ _ _ _)))))
  have x2 : F1 44 2 = vI e := by rw [hF1]; exact Eq.trans (up2_ne (by decide)) (Eq.trans (up2_ne (by decide)) (Eq.trans (up2_ne (by decide)) (Eq.trans (up2_ne (by decide)) (up2_eq _ _ _ _))))
  have x3 : F1 44 3 = vI r := by rw [hF1]; exact Eq.trans (up2_ne (by decide)) (Eq.trans (up2_ne (by decide)) (Eq.trans (up2_ne (by decide)) (up2_eq _ _ _ _)))
  have x4 : F1 44 4 = vI ((p : Int) ^ e) := by rw [hF1]; exact Eq.trans (up2_ne (by decide)) (Eq.trans (up2_ne (by decide)) (up2_eq _ _ _ _))
  have x5 : F1 44 5 = vI (p ^ r : Nat) := by rw [hF1]; exact Eq.trans (up2_ne (by decide)) (up2_eq _ _ _ _)
  have x6 : F1 44 6 = vI (p ^ (e * r) : Nat) := by rw [hF1]; exact up2_eq _ _ _ _
  have hX1 : MR F1 := by
    rw [hF1]
    exact (((((hX.up (by decide)).up (by decide)).up (by decide)).up (by decide)).up (by decide)).up (by decide)
  have hO1 : FOff BRF F F1 := by
    rw [hF1]
    exact (((((FOff.up (by decide)).trans (FOff.up (by decide))).trans (FOff.up (by decide))).trans (FOff.up (by decide))).trans (FOff.up (by decide))).trans (FOff.up (by decide))
  subst hA1
  obtain rfl : K1 = K := funext hK1
  clear hF1 hK1
  refine q_aload_n eX12_beginsRing_60 rfl ?_
  refine q_callV [] (M1 := mX12_laysModulus) eX12_beginsRing_61 mf_X12_laysModulus lk_X12_151 (hK _ (by decide) (by decide)) (mo_laysModulus (lo := lo) hK hX1 hn x1 x2 x3 x4 x5 hp2 hp7 (by omega) (by omega) (by omega) (by omega) hm2 hpm hN4 (by omega) hlo hlo1 hlo0) (by intro E F A al h; cases h.1) (by decide) (by decide) (by decide) (Nat.le_of_ble_eq_true rfl) (st := []) rfl (fun v9 F9 A9 al9 h9 => ?_)
  obtain ⟨e9, f9, hKE, o9, v9⟩ := h9
  have f9' := f9.symm
  subst f9'
  obtain rfl := Sum.inl.inj e9
  have hK2 : KM al9 := fun b h1 h2 => (hKE.2 b (by show b < n; omega)).trans (hK b h1 h2)
  have hG2 : GM ((p : Int) ^ e) r f F1 A9 := ⟨x4, x3, fun i hi => ⟨(v9 i (by omega)).trans (hmd i hi), hfr i hi⟩, hm2, by omega, by omega, hN4⟩
  have h3r2 : A9 45 r = 1 := (v9 r (Nat.le_refl _)).trans (if_pos rfl)
  refine q_aload_n eX12_beginsRing_64 rfl ?_
  refine q_callV [] (M1 := mX12_laysRoots) eX12_beginsRing_65 mf_X12_laysRoots lk_X12_154 (hK2 _ (by decide) (by decide)) (mo_laysRoots hK2 hX1 hG2 x1 x2 x5 hp2 hp7 (by omega) (by omega) hpm hq2 hq31 rfl hg hgE hlg0 hlg) (by intro E F A al h; cases h.1) (by decide) (by decide) (by decide) (Nat.le_of_ble_eq_true rfl) (st := []) rfl (fun v8 F8 A8 al8 h8 => ?_)
  obtain ⟨e8, f8, rfl, o8, p8, l8, r8⟩ := h8
  obtain rfl := Sum.inl.inj e8
  have hX2 : MR F8 := by rw [f8]; exact hX1.up (by decide)
  have hO2 : FOff BRF F F8 := by rw [f8]; exact hO1.trans (FOff.up (by decide))
  have y1 : F8 44 1 = vI p := by rw [f8]; exact (up2_ne (by decide)).trans x1
  have y2 : F8 44 2 = vI e := by rw [f8]; exact (up2_ne (by decide)).trans x2
  have y3 : F8 44 3 = vI r := by rw [f8]; exact (up2_ne (by decide)).trans x3
  have y4 : F8 44 4 = vI ((p : Int) ^ e) := by rw [f8]; exact (up2_ne (by decide)).trans x4
  have y5 : F8 44 5 = vI (p ^ r : Nat) := by rw [f8]; exact (up2_ne (by decide)).trans x5
  have y6 : F8 44 6 = vI (p ^ (e * r) : Nat) := by rw [f8]; exact (up2_ne (by decide)).trans x6
  have y11 : F8 44 11 = vI g := by rw [f8]; exact up2_eq _ _ _ _
  have hA28 : OffN n BRA A1 A8 := fun b hb hbl => (o8 b (fun q => hbl (by simp only [List.mem_cons, List.not_mem_nil, or_false] at q; rcases q with rfl | rfl | rfl | rfl | rfl | rfl <;> decide))).trans (o9 b hb (fun q => hbl (by simp only [List.mem_cons, List.not_mem_nil, or_false] at q; rcases q with rfl | rfl | rfl | rfl | rfl <;> decide)))
  have hGY : GY p e r (p ^ r) (p ^ (e * r)) ((p : Int) ^ e) f g (fun j => tcE p e r (p ^ r) ((p : Int) ^ e) f j) (lgE p r ((p : Int) ^ e) f g (p ^ r - 1)) F8 A8 := by
    refine ⟨⟨y4, y3, fun i hi => by rw [o8 45 (by decide)]; exact hG2.2.2.1 i hi, hG2.2.2.2⟩, y1, y2, y5, y6, y11, ⟨hp2, hp7, by omega, by omega, rfl, rfl, hq31, eN.symm, hgE⟩, p8, fun j hj => ⟨l8 j hj, ?_⟩, fun j hj => ⟨r8 j hj, tc_el hm2 (by omega) j⟩⟩
    rcases lg_range (p := p) (r := r) (m := (p : Int) ^ e) (f := f) (g := g) (p ^ r - 1) j with h | h
    · exact Or.inl h
    · exact Or.inr ⟨h.1, by omega⟩
  have h3r8 : A8 45 r = 1 := by rw [o8 45 (by decide)]; exact h3r2
  clear f8
  refine q_iconst eX12_beginsRing_68 ?_
  refine q_istore eX12_beginsRing_69 (by decide) rfl ?_
  exact lp_br2 hK2 hX2 hKE hO2 hA28 hGY h3r8 hMH _ _ (by decide) (by decide) 8 0 A8 (by omega) Off.rfl' (fun j hj => by omega)
