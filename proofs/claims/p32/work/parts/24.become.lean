/-! Galois: become -/
/-- the ring's tables stand -/
def GX (p e r q N : Nat) (m : Int) (F : HF) (A : HA) : Prop :=
  GT p e r q N m (grE p e r q m r) (gnE p e r q m (grE p e r q m r) (q - 1)) (lgE p r m (grE p e r q m r) (gnE p e r q m (grE p e r q m r) (q - 1)) (q - 1)) F A ∧ A 3 r = grE p e r q m r r
def PB (p e r : Nat) (F : HF) (A : HA) (al : AL) : PO := fun o F' A' al' => o = .inl (some 1) ∧ al' = al ∧ FOff [(2, 0), (2, 1), (2, 2), (2, 3), (2, 4), (2, 5), (2, 6)] F F' ∧ Off [3, 4, 5, 7, 8, 9, 10, 11, 12, 13, 14, 15, 16] A A' ∧ XF F' ∧ GX p e r (p ^ r) (p ^ (e * r)) ((p : Int) ^ e) F' A'
theorem nt_PB {p e r : Nat} {F : HF} {A : HA} {al : AL} : NT (PB p e r F A al) := by intro E F A al h; cases h.1
theorem q_bound {p e r : Nat} (h : exO p e r) (hN : (p : Int) ^ (e * r) ≤ 4096) : p ^ r ≤ 3125 ∧ (p : Int) ^ e ≤ 4096 := by
  obtain ⟨h1, h2, h3, h4, h5⟩ := h
  have h6 : (p : Int) ^ r ≤ (p : Int) ^ (e * r) := ipow_mono (by omega) (by have := Nat.mul_le_mul (show 1 ≤ e by omega) (Nat.le_refl r); omega)
  have h7 : (p : Int) ^ e ≤ (p : Int) ^ (e * r) := ipow_mono (by omega) (by have := Nat.mul_le_mul (Nat.le_refl e) (show 1 ≤ r by omega); omega)
  refine ⟨?_, by omega⟩
  have h8 : (p : Int) ^ r = ((p ^ r : Nat) : Int) := by simp
  have h9 : p ^ r ≤ 4096 := by omega
  have hr : r = 1 ∨ r = 2 ∨ r = 3 ∨ r = 4 ∨ r = 5 ∨ r = 6 := by omega
  have hp : p = 2 ∨ p = 3 ∨ p = 5 ∨ p = 7 := by omega
  clear h6 h7 h8 hN
  rcases hp with rfl | rfl | rfl | rfl <;> rcases hr with rfl | rfl | rfl | rfl | rfl | rfl <;> first | decide | exact absurd h9 (by decide)
set_option maxRecDepth 20000 in
theorem become_yes {p e r : Nat} {F : HF} {A : HA} {al : AL} (hK : KX al) (hX : XF F) (h : exO p e r) (hN : (p : Int) ^ (e * r) ≤ 4096) (hf : ∀ i, i < r → 0 ≤ grE p e r (p ^ r) ((p : Int) ^ e) r i ∧ grE p e r (p ^ r) ((p : Int) ^ e) r i < (p : Int) ^ e) : QE 6 0 0 mX2_become [vA 2, vI p, vI e, vI r] F A al (PB p e r F A al) := by
  refine QE.mk (by decide +kernel) (Nat.le_of_ble_eq_true rfl) ?_
  obtain ⟨hq31, hm40⟩ := q_bound h hN
  have h1 : exE p e r = 1 := by
    unfold exE
    rw [if_pos h]
    exact if_pos hN
  obtain ⟨g1, g2, g3, g4, g5⟩ := h
  refine q_iload_n eX2_become_0 rfl ?_
  refine q_iload_n eX2_become_1 rfl ?_
  refine q_iload_n eX2_become_2 rfl ?_
  refine q_callSP [vI p, vI e, vI r] (M1 := mX2_exists) eX2_become_3 mf_X2_exists lk_X2_60 (ev_exists (by exact ⟨by omega, by omega⟩) (by exact ⟨by omega, by omega⟩) (by exact ⟨by omega, by omega⟩)) (by decide) (by decide) (by decide) (Nat.le_of_ble_eq_true rfl) rfl ?_
  rw [h1]
  refine q_if_ne (tgt := 11) eX2_become_6 (by decide) (by first | assumption | exact ⟨by omega, by omega⟩) (fun c6 => ?_) (fun c6 => ?_)
  · refine q_aload_n eX2_become_11 rfl ?_
    refine q_iload_n eX2_become_12 rfl ?_
    refine q_putfield eX2_become_13 pf_X2_9 (hK _ (by decide) (by decide)) (by decide) (FT_i rfl) ?_
    refine q_aload_n eX2_become_16 rfl ?_
    refine q_iload_n eX2_become_17 rfl ?_
    refine q_putfield eX2_become_18 pf_X2_15 (hK _ (by decide) (by decide)) (by decide) (FT_i rfl) ?_
    refine q_aload_n eX2_become_21 rfl ?_
    refine q_iload_n eX2_become_22 rfl ?_
    refine q_putfield eX2_become_23 pf_X2_18 (hK _ (by decide) (by decide)) (by decide) (FT_i rfl) ?_
    refine q_aload_n eX2_become_26 rfl ?_
    refine q_aload_n eX2_become_27 rfl ?_
    refine q_getfield eX2_become_28 gf_X2_9 (hK _ (by decide) (by decide)) (by decide) (by first | exact up2_eq _ _ _ _ | exact Eq.trans (up2_ne (by decide)) (up2_eq _ _ _ _) | exact Eq.trans (up2_ne (by decide)) (Eq.trans (up2_ne (by decide)) (up2_eq _ _ _ _)) | exact Eq.trans (up2_ne (by decide)) (Eq.trans (up2_ne (by decide)) (Eq.trans (up2_ne (by decide)) (up2_eq _ _ _ _))) | exact Eq.trans (up2_ne (by decide)) (Eq.trans (up2_ne (by decide)) (Eq.trans (up2_ne (by decide)) (Eq.trans (up2_ne (by decide)) (up2_eq _ _ _ _)))) | exact Eq.trans (up2_ne (by decide)) (Eq.trans (up2_ne (by decide)) (Eq.trans (up2_ne (by decide)) (Eq.trans (up2_ne (by decide)) (Eq.trans (up2_ne (by decide)) (up2_eq _ _ _ _))))) | exact Eq.trans (up2_ne (by decide)) (Eq.trans (up2_ne (by decide)) (Eq.trans (up2_ne (by decide)) (Eq.trans (up2_ne (by decide)) (Eq.trans (up2_ne (by decide)) (Eq.trans (up2_ne (by decide)) (up2_eq _ _ _ _))))))) ?_
    refine q_aload_n eX2_become_31 rfl ?_
    refine q_getfield eX2_become_32 gf_X2_15 (hK _ (by decide) (by decide)) (by decide) (by first | exact up2_eq _ _ _ _ | exact Eq.trans (up2_ne (by decide)) (up2_eq _ _ _ _) | exact Eq.trans (up2_ne (by decide)) (Eq.trans (up2_ne (by decide)) (up2_eq _ _ _ _)) | exact Eq.trans (up2_ne (by decide)) (Eq.trans (up2_ne (by decide)) (Eq.trans (up2_ne (by decide)) (up2_eq _ _ _ _))) | exact Eq.trans (up2_ne (by decide)) (Eq.trans (up2_ne (by decide)) (Eq.trans (up2_ne (by decide)) (Eq.trans (up2_ne (by decide)) (up2_eq _ _ _ _)))) | exact Eq.trans (up2_ne (by decide)) (Eq.trans (up2_ne (by decide)) (Eq.trans (up2_ne (by decide)) (Eq.trans (up2_ne (by decide)) (Eq.trans (up2_ne (by decide)) (up2_eq _ _ _ _))))) | exact Eq.trans (up2_ne (by decide)) (Eq.trans (up2_ne (by decide)) (Eq.trans (up2_ne (by decide)) (Eq.trans (up2_ne (by decide)) (Eq.trans (up2_ne (by decide)) (Eq.trans (up2_ne (by decide)) (up2_eq _ _ _ _))))))) ?_
    refine q_callSP [vI p, vI e] (M1 := mX7_raise) eX2_become_35 mf_X7_raise lk_X2_64 (ev_raiseN (by omega)) (by decide) (by decide) (by decide) (Nat.le_of_ble_eq_true rfl) rfl ?_
    refine q_putfield eX2_become_38 pf_X2_21 (hK _ (by decide) (by decide)) (by decide) (FT_i rfl) ?_
    refine q_aload_n eX2_become_41 rfl ?_
    refine q_aload_n eX2_become_42 rfl ?_
    refine q_getfield eX2_become_43 gf_X2_9 (hK _ (by decide) (by decide)) (by decide) (by first | exact up2_eq _ _ _ _ | exact Eq.trans (up2_ne (by decide)) (up2_eq _ _ _ _) | exact Eq.trans (up2_ne (by decide)) (Eq.trans (up2_ne (by decide)) (up2_eq _ _ _ _)) | exact Eq.trans (up2_ne (by decide)) (Eq.trans (up2_ne (by decide)) (Eq.trans (up2_ne (by decide)) (up2_eq _ _ _ _))) | exact Eq.trans (up2_ne (by decide)) (Eq.trans (up2_ne (by decide)) (Eq.trans (up2_ne (by decide)) (Eq.trans (up2_ne (by decide)) (up2_eq _ _ _ _)))) | exact Eq.trans (up2_ne (by decide)) (Eq.trans (up2_ne (by decide)) (Eq.trans (up2_ne (by decide)) (Eq.trans (up2_ne (by decide)) (Eq.trans (up2_ne (by decide)) (up2_eq _ _ _ _))))) | exact Eq.trans (up2_ne (by decide)) (Eq.trans (up2_ne (by decide)) (Eq.trans (up2_ne (by decide)) (Eq.trans (up2_ne (by decide)) (Eq.trans (up2_ne (by decide)) (Eq.trans (up2_ne (by decide)) (up2_eq _ _ _ _))))))) ?_
    refine q_aload_n eX2_become_46 rfl ?_
    refine q_getfield eX2_become_47 gf_X2_18 (hK _ (by decide) (by decide)) (by decide) (by first | exact up2_eq _ _ _ _ | exact Eq.trans (up2_ne (by decide)) (up2_eq _ _ _ _) | exact Eq.trans (up2_ne (by decide)) (Eq.trans (up2_ne (by decide)) (up2_eq _ _ _ _)) | exact Eq.trans (up2_ne (by decide)) (Eq.trans (up2_ne (by decide)) (Eq.trans (up2_ne (by decide)) (up2_eq _ _ _ _))) | exact Eq.trans (up2_ne (by decide)) (Eq.trans (up2_ne (by decide)) (Eq.trans (up2_ne (by decide)) (Eq.trans (up2_ne (by decide)) (up2_eq _ _ _ _)))) | exact Eq.trans (up2_ne (by decide)) (Eq.trans (up2_ne (by decide)) (Eq.trans (up2_ne (by decide)) (Eq.trans (up2_ne (by decide)) (Eq.trans (up2_ne (by decide)) (up2_eq _ _ _ _))))) | exact Eq.trans (up2_ne (by decide)) (Eq.trans (up2_ne (by decide)) (Eq.trans (up2_ne (by decide)) (Eq.trans (up2_ne (by decide)) (Eq.trans (up2_ne (by decide)) (Eq.trans (up2_ne (by decide)) (up2_eq _ _ _ _))))))) ?_
    refine q_callSP [vI p, vI r] (M1 := mX7_raise) eX2_become_50 mf_X7_raise lk_X2_64 (ev_raiseN (by omega)) (by decide) (by decide) (by decide) (Nat.le_of_ble_eq_true rfl) rfl ?_
    rw [show (p : Int) ^ r = ((p ^ r : Nat) : Int) by simp]
    refine q_putfield eX2_become_53 pf_X2_24 (hK _ (by decide) (by decide)) (by decide) (FT_i rfl) ?_
    refine q_aload_n eX2_become_56 rfl ?_
    refine q_aload_n eX2_become_57 rfl ?_
    refine q_getfield eX2_become_58 gf_X2_24 (hK _ (by decide) (by decide)) (by decide) (by first | exact up2_eq _ _ _ _ | exact Eq.trans (up2_ne (by decide)) (up2_eq _ _ _ _) | exact Eq.trans (up2_ne (by decide)) (Eq.trans (up2_ne (by decide)) (up2_eq _ _ _ _)) | exact Eq.trans (up2_ne (by decide)) (Eq.trans (up2_ne (by decide)) (Eq.trans (up2_ne (by decide)) (up2_eq _ _ _ _))) | exact Eq.trans (up2_ne (by decide)) (Eq.trans (up2_ne (by decide)) (Eq.trans (up2_ne (by decide)) (Eq.trans (up2_ne (by decide)) (up2_eq _ _ _ _)))) | exact Eq.trans (up2_ne (by decide)) (Eq.trans (up2_ne (by decide)) (Eq.trans (up2_ne (by decide)) (Eq.trans (up2_ne (by decide)) (Eq.trans (up2_ne (by decide)) (up2_eq _ _ _ _))))) | exact Eq.trans (up2_ne (by decide)) (Eq.trans (up2_ne (by decide)) (Eq.trans (up2_ne (by decide)) (Eq.trans (up2_ne (by decide)) (Eq.trans (up2_ne (by decide)) (Eq.trans (up2_ne (by decide)) (up2_eq _ _ _ _))))))) ?_
    refine q_aload_n eX2_become_61 rfl ?_
    refine q_getfield eX2_become_62 gf_X2_15 (hK _ (by decide) (by decide)) (by decide) (by first | exact up2_eq _ _ _ _ | exact Eq.trans (up2_ne (by decide)) (up2_eq _ _ _ _) | exact Eq.trans (up2_ne (by decide)) (Eq.trans (up2_ne (by decide)) (up2_eq _ _ _ _)) | exact Eq.trans (up2_ne (by decide)) (Eq.trans (up2_ne (by decide)) (Eq.trans (up2_ne (by decide)) (up2_eq _ _ _ _))) | exact Eq.trans (up2_ne (by decide)) (Eq.trans (up2_ne (by decide)) (Eq.trans (up2_ne (by decide)) (Eq.trans (up2_ne (by decide)) (up2_eq _ _ _ _)))) | exact Eq.trans (up2_ne (by decide)) (Eq.trans (up2_ne (by decide)) (Eq.trans (up2_ne (by decide)) (Eq.trans (up2_ne (by decide)) (Eq.trans (up2_ne (by decide)) (up2_eq _ _ _ _))))) | exact Eq.trans (up2_ne (by decide)) (Eq.trans (up2_ne (by decide)) (Eq.trans (up2_ne (by decide)) (Eq.trans (up2_ne (by decide)) (Eq.trans (up2_ne (by decide)) (Eq.trans (up2_ne (by decide)) (up2_eq _ _ _ _))))))) ?_
    refine q_callSP [vI (p ^ r : Nat), vI e] (M1 := mX7_raise) eX2_become_65 mf_X7_raise lk_X2_64 (ev_raiseN (by omega)) (by decide) (by decide) (by decide) (Nat.le_of_ble_eq_true rfl) rfl ?_
    rw [show ((p ^ r : Nat) : Int) ^ e = ((p ^ (e * r) : Nat) : Int) by rw [Nat.mul_comm, Nat.pow_mul]; simp]
    refine q_putfield eX2_become_68 pf_X2_27 (hK _ (by decide) (by decide)) (by decide) (FT_i rfl) ?_
    obtain ⟨F1, hF1⟩ : ∃ F1, F1 = up2 (up2 (up2 (up2 (up2 (up2 F 2 0 (vI p)) 2 1 (vI e)) 2 2 (vI r)) 2 3 (vI ((p : Int) ^ e))) 2 4 (vI (p ^ r : Nat))) 2 5 (vI (p ^ (e * r) : Nat)) := ⟨_, rfl⟩
    rw [← hF1]
    have hX1 : XF F1 := by
      rw [hF1]
      exact (((((XF.up (XF.up hX (by decide)) (by decide)).up (by decide)).up (by decide)).up (by decide)).up (by decide))
    have hB1 : GB p e r (p ^ r) (p ^ (e * r)) ((p : Int) ^ e) F1 := by
      refine ⟨?_, ?_, ?_, ?_, ?_, ?_, by omega, by omega, by omega, by omega, by omega, by omega, by omega, rfl, rfl, ?_, ?_, hq31⟩
      · rw [hF1]; exact (by first | exact up2_eq _ _ _ _ | exact Eq.trans (up2_ne (by decide)) (up2_eq _ _ _ _) | exact Eq.trans (up2_ne (by decide)) (Eq.trans (up2_ne (by decide)) (up2_eq _ _ _ _)) | exact Eq.trans (up2_ne (by decide)) (Eq.trans (up2_ne (by decide)) (Eq.trans (up2_ne (by decide)) (up2_eq _ _ _ _))) | exact Eq.trans (up2_ne (by decide)) (Eq.trans (up2_ne (by decide)) (Eq.trans (up2_ne (by decide)) (Eq.trans (up2_ne (by decide)) (up2_eq _ _ _ _)))) | exact Eq.trans (up2_ne (by decide)) (Eq.trans (up2_ne (by decide)) (Eq.trans (up2_ne (by decide)) (Eq.trans (up2_ne (by decide)) (Eq.trans (up2_ne (by decide)) (up2_eq _ _ _ _))))) | exact Eq.trans (up2_ne (by decide)) (Eq.trans (up2_ne (by decide)) (Eq.trans (up2_ne (by decide)) (Eq.trans (up2_ne (by decide)) (Eq.trans (up2_ne (by decide)) (Eq.trans (up2_ne (by decide)) (up2_eq _ _ _ _)))))))
      · rw [hF1]; exact (by first | exact up2_eq _ _ _ _ | exact Eq.trans (up2_ne (by decide)) (up2_eq _ _ _ _) | exact Eq.trans (up2_ne (by decide)) (Eq.trans (up2_ne (by decide)) (up2_eq _ _ _ _)) | exact Eq.trans (up2_ne (by decide)) (Eq.trans (up2_ne (by decide)) (Eq.trans (up2_ne (by decide)) (up2_eq _ _ _ _))) | exact Eq.trans (up2_ne (by decide)) (Eq.trans (up2_ne (by decide)) (Eq.trans (up2_ne (by decide)) (Eq.trans (up2_ne (by decide)) (up2_eq _ _ _ _)))) | exact Eq.trans (up2_ne (by decide)) (Eq.trans (up2_ne (by decide)) (Eq.trans (up2_ne (by decide)) (Eq.trans (up2_ne (by decide)) (Eq.trans (up2_ne (by decide)) (up2_eq _ _ _ _))))) | exact Eq.trans (up2_ne (by decide)) (Eq.trans (up2_ne (by decide)) (Eq.trans (up2_ne (by decide)) (Eq.trans (up2_ne (by decide)) (Eq.trans (up2_ne (by decide)) (Eq.trans (up2_ne (by decide)) (up2_eq _ _ _ _)))))))
      · rw [hF1]; exact (by first | exact up2_eq _ _ _ _ | exact Eq.trans (up2_ne (by decide)) (up2_eq _ _ _ _) | exact Eq.trans (up2_ne (by decide)) (Eq.trans (up2_ne (by decide)) (up2_eq _ _ _ _)) | exact Eq.trans (up2_ne (by decide)) (Eq.trans (up2_ne (by decide)) (Eq.trans (up2_ne (by decide)) (up2_eq _ _ _ _))) | exact Eq.trans (up2_ne (by decide)) (Eq.trans (up2_ne (by decide)) (Eq.trans (up2_ne (by decide)) (Eq.trans (up2_ne (by decide)) (up2_eq _ _ _ _)))) | exact Eq.trans (up2_ne (by decide)) (Eq.trans (up2_ne (by decide)) (Eq.trans (up2_ne (by decide)) (Eq.trans (up2_ne (by decide)) (Eq.trans (up2_ne (by decide)) (up2_eq _ _ _ _))))) | exact Eq.trans (up2_ne (by decide)) (Eq.trans (up2_ne (by decide)) (Eq.trans (up2_ne (by decide)) (Eq.trans (up2_ne (by decide)) (Eq.trans (up2_ne (by decide)) (Eq.trans (up2_ne (by decide)) (up2_eq _ _ _ _)))))))
      · rw [hF1]; exact (by first | exact up2_eq _ _ _ _ | exact Eq.trans (up2_ne (by decide)) (up2_eq _ _ _ _) | exact Eq.trans (up2_ne (by decide)) (Eq.trans (up2_ne (by decide)) (up2_eq _ _ _ _)) | exact Eq.trans (up2_ne (by decide)) (Eq.trans (up2_ne (by decide)) (Eq.trans (up2_ne (by decide)) (up2_eq _ _ _ _))) | exact Eq.trans (up2_ne (by decide)) (Eq.trans (up2_ne (by decide)) (Eq.trans (up2_ne (by decide)) (Eq.trans (up2_ne (by decide)) (up2_eq _ _ _ _)))) | exact Eq.trans (up2_ne (by decide)) (Eq.trans (up2_ne (by decide)) (Eq.trans (up2_ne (by decide)) (Eq.trans (up2_ne (by decide)) (Eq.trans (up2_ne (by decide)) (up2_eq _ _ _ _))))) | exact Eq.trans (up2_ne (by decide)) (Eq.trans (up2_ne (by decide)) (Eq.trans (up2_ne (by decide)) (Eq.trans (up2_ne (by decide)) (Eq.trans (up2_ne (by decide)) (Eq.trans (up2_ne (by decide)) (up2_eq _ _ _ _)))))))
      · rw [hF1]; exact (by first | exact up2_eq _ _ _ _ | exact Eq.trans (up2_ne (by decide)) (up2_eq _ _ _ _) | exact Eq.trans (up2_ne (by decide)) (Eq.trans (up2_ne (by decide)) (up2_eq _ _ _ _)) | exact Eq.trans (up2_ne (by decide)) (Eq.trans (up2_ne (by decide)) (Eq.trans (up2_ne (by decide)) (up2_eq _ _ _ _))) | exact Eq.trans (up2_ne (by decide)) (Eq.trans (up2_ne (by decide)) (Eq.trans (up2_ne (by decide)) (Eq.trans (up2_ne (by decide)) (up2_eq _ _ _ _)))) | exact Eq.trans (up2_ne (by decide)) (Eq.trans (up2_ne (by decide)) (Eq.trans (up2_ne (by decide)) (Eq.trans (up2_ne (by decide)) (Eq.trans (up2_ne (by decide)) (up2_eq _ _ _ _))))) | exact Eq.trans (up2_ne (by decide)) (Eq.trans (up2_ne (by decide)) (Eq.trans (up2_ne (by decide)) (Eq.trans (up2_ne (by decide)) (Eq.trans (up2_ne (by decide)) (Eq.trans (up2_ne (by decide)) (up2_eq _ _ _ _)))))))
      · rw [hF1]; exact (by first | exact up2_eq _ _ _ _ | exact Eq.trans (up2_ne (by decide)) (up2_eq _ _ _ _) | exact Eq.trans (up2_ne (by decide)) (Eq.trans (up2_ne (by decide)) (up2_eq _ _ _ _)) | exact Eq.trans (up2_ne (by decide)) (Eq.trans (up2_ne (by decide)) (Eq.trans (up2_ne (by decide)) (up2_eq _ _ _ _))) | exact Eq.trans (up2_ne (by decide)) (Eq.trans (up2_ne (by decide)) (Eq.trans (up2_ne (by decide)) (Eq.trans (up2_ne (by decide)) (up2_eq _ _ _ _)))) | exact Eq.trans (up2_ne (by decide)) (Eq.trans (up2_ne (by decide)) (Eq.trans (up2_ne (by decide)) (Eq.trans (up2_ne (by decide)) (Eq.trans (up2_ne (by decide)) (up2_eq _ _ _ _))))) | exact Eq.trans (up2_ne (by decide)) (Eq.trans (up2_ne (by decide)) (Eq.trans (up2_ne (by decide)) (Eq.trans (up2_ne (by decide)) (Eq.trans (up2_ne (by decide)) (Eq.trans (up2_ne (by decide)) (up2_eq _ _ _ _)))))))
      · rw [← Int.pow_mul]; simp
      · have : (p : Int) ^ (e * r) = ((p ^ (e * r) : Nat) : Int) := by simp
        omega
    have hO1 : FOff [(2, 0), (2, 1), (2, 2), (2, 3), (2, 4), (2, 5), (2, 6)] F F1 := by
      rw [hF1]
      exact ((((((FOff.up (by decide)).trans (FOff.up (by decide))).trans (FOff.up (by decide))).trans (FOff.up (by decide))).trans (FOff.up (by decide))).trans (FOff.up (by decide)))
    have hm2 := hB1.m2
    have hm2' : F1 2 3 = vI ((p : Int) ^ e) := hB1.2.2.2.1
    have hr' : F1 2 2 = vI r := hB1.2.2.1
    clear hF1
    refine q_aload_n eX2_become_71 rfl ?_
    refine q_callVV [] (M1 := mX2_liftModulus) eX2_become_72 mf_X2_liftModulus lk_X2_70 (hK _ (by decide) (by decide)) (ev_liftModulus hK hX1 hB1) (by decide) (by decide) (by decide) (Nat.le_of_ble_eq_true rfl) rfl (fun A2 h2 => ?_)
    obtain ⟨o2, v2⟩ := h2
    have hG2 : GA ((p : Int) ^ e) r (grE p e r (p ^ r) ((p : Int) ^ e) r) F1 A2 := ⟨hm2', hr', fun i hi => ⟨v2 i (by omega), hf i hi⟩, hm2, by omega, by omega, by rw [← Int.pow_mul]; exact hN⟩
    refine q_aload_n eX2_become_75 rfl ?_
    refine q_callVV [] (M1 := mX2_fillImages) eX2_become_76 mf_X2_fillImages lk_X2_73 (hK _ (by decide) (by decide)) (ev_fillImages hK hX1 hB1 hG2) (by decide) (by decide) (by decide) (Nat.le_of_ble_eq_true rfl) rfl (fun A3 h3 => ?_)
    obtain ⟨o3, v3⟩ := h3
    refine q_aload_n eX2_become_79 rfl ?_
    refine q_callV [] (M1 := mX2_findGenerator) eX2_become_80 mf_X2_findGenerator lk_X2_76 (hK _ (by decide) (by decide)) (ev_findGenerator hK hX1 hB1 (hG2.off o3 (by decide))) nt_PG6 (by decide) (by decide) (by decide) (Nat.le_of_ble_eq_true rfl) (st := []) rfl (fun v9 F9 A9 al9 h9 => ?_)
    obtain ⟨e9, f9, rfl, o9⟩ := h9
    obtain rfl := Sum.inl.inj e9
    subst f9
    have hX9 := XF.up (v := vI (gnE p e r (p ^ r) ((p : Int) ^ e) (grE p e r (p ^ r) ((p : Int) ^ e) r) (p ^ r - 1))) hX1 (show plainF xrefs 2 6 = true by decide)
    have hB9 := GB.upF (v := vI (gnE p e r (p ^ r) ((p : Int) ^ e) (grE p e r (p ^ r) ((p : Int) ^ e) r) (p ^ r - 1))) hB1
    have hG9 := GA.upF (v := vI (gnE p e r (p ^ r) ((p : Int) ^ e) (grE p e r (p ^ r) ((p : Int) ^ e) r) (p ^ r - 1))) ((hG2.off o3 (by decide)).s3 o9)
    refine q_aload_n eX2_become_83 rfl ?_
    refine q_callVV [] (M1 := mX2_fillLogs) eX2_become_84 mf_X2_fillLogs lk_X2_79 (hK _ (by decide) (by decide)) (ev_fillLogs hK hX9 hB9 hG9 (up2_eq _ _ _ _) (gn_el hm2 (by omega) _)) (by decide) (by decide) (by decide) (Nat.le_of_ble_eq_true rfl) rfl (fun A5 h5 => ?_)
    obtain ⟨o5, v5, w5⟩ := h5
    refine q_iconst eX2_become_87 ?_
    refine q_retZ eX2_become_88 rfl (by first | exact Or.inl rfl | exact Or.inr rfl | assumption) (by decide) (by decide) ?_
    refine ⟨rfl, rfl, hO1.trans (FOff.up (by decide)), ?_, hX9, ⟨hG9.off o5 (by decide), ?_⟩, ?_⟩
    · exact (((o2.mono (by simp)).trans (o3.mono (by simp))).trans (o9.mono (by simp))).trans (o5.mono (by simp))
    · obtain ⟨b1, b2, b3, b4, b5, b6, b7, b8, b9, b10, b11, b12, b13, b14, b15, b16, b17, b18⟩ := hB9
      refine ⟨b1, b2, b5, b6, up2_eq _ _ _ _, ⟨b8, b9, b10, b11, b14, b15, b18, b16, gn_el hm2 (by omega) _⟩, fun k hk => v5 k (by omega), fun j hj => ⟨w5 j hj, ?_⟩, fun j i hj hi => ?_⟩
      · rcases lg_range (p := p) (r := r) (m := (p : Int) ^ e) (f := grE p e r (p ^ r) ((p : Int) ^ e) r) (g := gnE p e r (p ^ r) ((p : Int) ^ e) (grE p e r (p ^ r) ((p : Int) ^ e) r) (p ^ r - 1)) (p ^ r - 1) j with h | h
        · exact Or.inl h
        · exact Or.inr ⟨h.1, by omega⟩
      · rw [o5 (7 + j) (by simp; omega), o9 (7 + j) (by simp; omega)]
        exact v3 j i hj hi
    · rw [o5 3 (by decide), o9 3 (by decide), o3 3 (by decide)]
      exact v2 r (Nat.le_refl _)
  · exact absurd c6 (by decide)
