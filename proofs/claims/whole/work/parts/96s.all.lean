/-! all but the reading -/
theorem prm_sm {c : Nat} (h : c = 2 ∨ c = 3 ∨ c = 5 ∨ c = 7) : prm c := by
  have key : ∀ d : Nat, d < 7 → 2 ≤ d → (d < 2 → ¬ d ∣ 2) ∧ (d < 3 → ¬ d ∣ 3) ∧ (d < 5 → ¬ d ∣ 5) ∧ (d < 7 → ¬ d ∣ 7) := by decide
  rcases h with rfl | rfl | rfl | rfl
  · exact ⟨by decide, fun d h1 h2 => (key d (by omega) h1).1 h2⟩
  · exact ⟨by decide, fun d h1 h2 => (key d (by omega) h1).2.1 h2⟩
  · exact ⟨by decide, fun d h1 h2 => (key d (by omega) h1).2.2.1 h2⟩
  · exact ⟨by decide, fun d h1 h2 => (key d (by omega) h1).2.2.2 h2⟩
theorem RV.p4 {p e r : Nat} (h : RV p e r) : p = 2 ∨ p = 3 ∨ p = 5 ∨ p = 7 := by
  obtain ⟨⟨h1, -⟩, -⟩ := h
  omega
theorem RV.er {p e r : Nat} (h : RV p e r) : 1 ≤ e ∧ e ≤ 4 ∧ 1 ≤ r ∧ r ≤ 6 := by
  obtain ⟨⟨-, h1⟩, -⟩ := h
  omega
theorem RV.n4 {p e r : Nat} (h : RV p e r) : p ^ (e * r) ≤ 4096 := by
  obtain ⟨-, h1⟩ := h
  rw [← inat_pow] at h1
  omega
theorem RV.q4 {p e r : Nat} (h : RV p e r) : p ^ r ≤ 4096 := by
  have h1 := h.er
  have h2 := h.p4
  have h3 : p ^ r ≤ p ^ (e * r) := Nat.pow_le_pow_right (by omega) (by
    have : 1 * r ≤ e * r := Nat.mul_le_mul_right _ h1.1
    omega)
  exact Nat.le_trans h3 h.n4
theorem cer_all {p e r : Nat} (h : RV p e r) : Cer p e r := by
  have hn := h.n4
  have he := h.er
  have hp := h.p4
  rcases hp with rfl | rfl | rfl | rfl
  · rcases (show e = 1 ∨ e = 2 ∨ e = 3 ∨ e = 4 by omega) with rfl | rfl | rfl | rfl
    · rcases (show r = 1 ∨ r = 2 ∨ r = 3 ∨ r = 4 ∨ r = 5 ∨ r = 6 by omega) with rfl | rfl | rfl | rfl | rfl | rfl
      · exact cer_2_1_1
      · exact cer_2_1_2
      · exact cer_2_1_3
      · exact cer_2_1_4
      · exact cer_2_1_5
      · exact cer_2_1_6
    · rcases (show r = 1 ∨ r = 2 ∨ r = 3 ∨ r = 4 ∨ r = 5 ∨ r = 6 by omega) with rfl | rfl | rfl | rfl | rfl | rfl
      · exact cer_2_2_1
      · exact cer_2_2_2
      · exact cer_2_2_3
      · exact cer_2_2_4
      · exact cer_2_2_5
      · exact cer_2_2_6
    · rcases (show r = 1 ∨ r = 2 ∨ r = 3 ∨ r = 4 ∨ r = 5 ∨ r = 6 by omega) with rfl | rfl | rfl | rfl | rfl | rfl
      · exact cer_2_3_1
      · exact cer_2_3_2
      · exact cer_2_3_3
      · exact cer_2_3_4
      · exact absurd hn (by decide)
      · exact absurd hn (by decide)
    · rcases (show r = 1 ∨ r = 2 ∨ r = 3 ∨ r = 4 ∨ r = 5 ∨ r = 6 by omega) with rfl | rfl | rfl | rfl | rfl | rfl
      · exact cer_2_4_1
      · exact cer_2_4_2
      · exact cer_2_4_3
      · exact absurd hn (by decide)
      · exact absurd hn (by decide)
      · exact absurd hn (by decide)
  · rcases (show e = 1 ∨ e = 2 ∨ e = 3 ∨ e = 4 by omega) with rfl | rfl | rfl | rfl
    · rcases (show r = 1 ∨ r = 2 ∨ r = 3 ∨ r = 4 ∨ r = 5 ∨ r = 6 by omega) with rfl | rfl | rfl | rfl | rfl | rfl
      · exact cer_3_1_1
      · exact cer_3_1_2
      · exact cer_3_1_3
      · exact cer_3_1_4
      · exact cer_3_1_5
      · exact cer_3_1_6
    · rcases (show r = 1 ∨ r = 2 ∨ r = 3 ∨ r = 4 ∨ r = 5 ∨ r = 6 by omega) with rfl | rfl | rfl | rfl | rfl | rfl
      · exact cer_3_2_1
      · exact cer_3_2_2
      · exact cer_3_2_3
      · exact absurd hn (by decide)
      · exact absurd hn (by decide)
      · exact absurd hn (by decide)
    · rcases (show r = 1 ∨ r = 2 ∨ r = 3 ∨ r = 4 ∨ r = 5 ∨ r = 6 by omega) with rfl | rfl | rfl | rfl | rfl | rfl
      · exact cer_3_3_1
      · exact cer_3_3_2
      · exact absurd hn (by decide)
      · exact absurd hn (by decide)
      · exact absurd hn (by decide)
      · exact absurd hn (by decide)
    · rcases (show r = 1 ∨ r = 2 ∨ r = 3 ∨ r = 4 ∨ r = 5 ∨ r = 6 by omega) with rfl | rfl | rfl | rfl | rfl | rfl
      · exact cer_3_4_1
      · exact absurd hn (by decide)
      · exact absurd hn (by decide)
      · exact absurd hn (by decide)
      · exact absurd hn (by decide)
      · exact absurd hn (by decide)
  · rcases (show e = 1 ∨ e = 2 ∨ e = 3 ∨ e = 4 by omega) with rfl | rfl | rfl | rfl
    · rcases (show r = 1 ∨ r = 2 ∨ r = 3 ∨ r = 4 ∨ r = 5 ∨ r = 6 by omega) with rfl | rfl | rfl | rfl | rfl | rfl
      · exact cer_5_1_1
      · exact cer_5_1_2
      · exact cer_5_1_3
      · exact cer_5_1_4
      · exact cer_5_1_5
      · exact absurd hn (by decide)
    · rcases (show r = 1 ∨ r = 2 ∨ r = 3 ∨ r = 4 ∨ r = 5 ∨ r = 6 by omega) with rfl | rfl | rfl | rfl | rfl | rfl
      · exact cer_5_2_1
      · exact cer_5_2_2
      · exact absurd hn (by decide)
      · exact absurd hn (by decide)
      · exact absurd hn (by decide)
      · exact absurd hn (by decide)
    · rcases (show r = 1 ∨ r = 2 ∨ r = 3 ∨ r = 4 ∨ r = 5 ∨ r = 6 by omega) with rfl | rfl | rfl | rfl | rfl | rfl
      · exact cer_5_3_1
      · exact absurd hn (by decide)
      · exact absurd hn (by decide)
      · exact absurd hn (by decide)
      · exact absurd hn (by decide)
      · exact absurd hn (by decide)
    · rcases (show r = 1 ∨ r = 2 ∨ r = 3 ∨ r = 4 ∨ r = 5 ∨ r = 6 by omega) with rfl | rfl | rfl | rfl | rfl | rfl
      · exact cer_5_4_1
      · exact absurd hn (by decide)
      · exact absurd hn (by decide)
      · exact absurd hn (by decide)
      · exact absurd hn (by decide)
      · exact absurd hn (by decide)
  · rcases (show e = 1 ∨ e = 2 ∨ e = 3 ∨ e = 4 by omega) with rfl | rfl | rfl | rfl
    · rcases (show r = 1 ∨ r = 2 ∨ r = 3 ∨ r = 4 ∨ r = 5 ∨ r = 6 by omega) with rfl | rfl | rfl | rfl | rfl | rfl
      · exact cer_7_1_1
      · exact cer_7_1_2
      · exact cer_7_1_3
      · exact cer_7_1_4
      · exact absurd hn (by decide)
      · exact absurd hn (by decide)
    · rcases (show r = 1 ∨ r = 2 ∨ r = 3 ∨ r = 4 ∨ r = 5 ∨ r = 6 by omega) with rfl | rfl | rfl | rfl | rfl | rfl
      · exact cer_7_2_1
      · exact cer_7_2_2
      · exact absurd hn (by decide)
      · exact absurd hn (by decide)
      · exact absurd hn (by decide)
      · exact absurd hn (by decide)
    · rcases (show r = 1 ∨ r = 2 ∨ r = 3 ∨ r = 4 ∨ r = 5 ∨ r = 6 by omega) with rfl | rfl | rfl | rfl | rfl | rfl
      · exact cer_7_3_1
      · exact absurd hn (by decide)
      · exact absurd hn (by decide)
      · exact absurd hn (by decide)
      · exact absurd hn (by decide)
      · exact absurd hn (by decide)
    · rcases (show r = 1 ∨ r = 2 ∨ r = 3 ∨ r = 4 ∨ r = 5 ∨ r = 6 by omega) with rfl | rfl | rfl | rfl | rfl | rfl
      · exact cer_7_4_1
      · exact absurd hn (by decide)
      · exact absurd hn (by decide)
      · exact absurd hn (by decide)
      · exact absurd hn (by decide)
      · exact absurd hn (by decide)
theorem RV.mem {p e r n : Nat} (h : RV p e r) (hn : 1 ≤ n) (hn63 : n ≤ 63) (hq : (p ^ r - 1) % n = 0) : (p, n) ∈ prL := pr_mem h.p4 h.er.2.2.1 h.er.2.2.2 h.q4 hn hn63 hq
theorem rkr_of {p e r : Nat} (hv : RV p e r) (hc : Cer p e r) : RKr p e r ∧ rG p e r = gnM p e r (p ^ r) ((p : Int) ^ e) (rF p e r) (p ^ r - 1) := by
  obtain ⟨f, lo, g0, y0, rfl, h1, h2, h3, h4, -⟩ := hc
  have h5 := h4.gen (by rw [← hv.N]; have := hv.n4; omega)
  exact ⟨h5.2, h5.1⟩
theorem rh_of {p e r : Nat} (hv : RV p e r) (hc : Cer p e r) : RH p e r := by
  have hk := (rkr_of hv hc).1
  obtain ⟨f, lo, g0, y0, rfl, h1, h2, -⟩ := hc
  exact ⟨h1, h2, hk.mkok fun n a b c => hv.mem a b c⟩
theorem rm_of {p e r : Nat} (hv : RV p e r) (hc : Cer p e r) : RM p e r (rF p e r) (rG p e r) := by
  obtain ⟨hk, hg⟩ := rkr_of hv hc
  obtain ⟨f, lo, g0, y0, rfl, h1, h2, ⟨l1, l2, l3, l4⟩, -⟩ := hc
  refine ⟨⟨lo, l1, l2, l3, l4⟩, h1, hg, hk.2.2.2.2.2.1, hk.lg0, fun j ha hb => ?_, hk.mh (prm_sm hv.p4) hv.n4 fun n a b c => orbOK_of (hv.mem a b c)⟩
  obtain ⟨k, hk1, hk2⟩ := hk.lsurj ha hb
  have h9 := hk.lgk hk1
  rw [hk2] at h9
  have h8 : lgE p r ((p : Int) ^ e) (rF p e r) (rG p e r) (p ^ r - 1) j = k := h9
  omega
theorem cls_of {p e r : Nat} (hv : RV p e r) : Q_cls p e r := fun n i k a b c => cls_eq (hv.mem a b c) i k
theorem par_of {p e r : Nat} (hv : RV p e r) : Q_par p e r := fun n a b c => (pr_P (hv.mem a b c)).1
theorem cod_of {p e r : Nat} (hv : RV p e r) (hk : RKr p e r) : Q_cod p e r := fun n set a b c _ _ => hk.cy_eq (fun i hi => (pr_P (hv.mem a b c)).2 i hi) n (Nat.le_refl _)
theorem eq_but {p e r : Nat} (hv : RV p e r) (ht : Q_tel p e r) : EQ p e r := by
  have hc := cer_all hv
  have hk := (rkr_of hv hc).1
  have hp := prm_sm hv.p4
  have hy : ∃ y0, El ((p : Int) ^ e) r y0 ∧ trE p r ((p : Int) ^ e) (rF p e r) y0 r = 1 := by
    obtain ⟨f, lo, g0, y0, rfl, -, -, -, -, a, b⟩ := hc
    exact ⟨y0, a, b⟩
  obtain ⟨y0, y1, y2⟩ := hy
  exact ⟨rh_of hv hc, rm_of hv hc, q_cnt_of hk hp, q_elm_of hk, q_of_of hk hp, q_dig_of hk, q_wh_of hk hv.er.2.1, q_rts_of hk, q_wi_of hk, q_un_of hk, q_mny_of hk y1 y2, cls_of hv, cod_of hv hk, par_of hv, wgh_of hv, lgt_of hv, mnd_of hv, nr_of hv, ht⟩
