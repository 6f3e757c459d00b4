/-! RootedRing: choose, clear, ring, classes, code -/
theorem jn_keep {p n : Nat} {v : Int} (hv : v ≠ -1) : ∀ (k x : Nat) (c : Nat → Int) (j : Nat), c j ≠ -1 → jnE p n v k x c j ≠ -1
  | 0, _, _, _, h => h
  | k + 1, x, c, j, h => jn_keep hv k _ (upc c x v) j (by unfold upc; split; exact hv; exact h)
theorem pa_keep {p n : Nat} (hn : 1 ≤ n) : ∀ (l j : Nat), j < l → (paE p n l).1 j ≠ -1
  | 0, j, h => by omega
  | l + 1, j, h => by
    have ih := fun h1 => pa_keep (p := p) hn l j h1
    unfold paE
    split
    · next hl =>
      obtain ⟨k, rfl⟩ : ∃ k, n = k + 1 := ⟨n - 1, by omega⟩
      show jnE p (k + 1) ((paE p (k + 1) l).2 : Int) k (l * p % (k + 1)) (upc (paE p (k + 1) l).1 l ((paE p (k + 1) l).2 : Int)) j ≠ -1
      refine jn_keep (by omega) _ _ _ _ ?_
      unfold upc
      split
      · omega
      · exact ih (by omega)
    · next hl =>
      by_cases hj : j = l
      · rw [hj]; exact hl
      · exact ih (by omega)
theorem pa_cov {p n j : Nat} (hn63 : n ≤ 63) (hj : j < n) : 0 ≤ (paE p n n).1 j ∧ (paE p n n).1 j ≤ 62 := by
  have h1 := pa_range (p := p) (n := n) n j
  have h2 := pa_keep (p := p) (n := n) (by omega) n j hj
  omega
set_option maxRecDepth 20000 in
theorem ev_choose {p e r q N : Nat} {m : Int} {f : Nat → Int} {g : Int} {lg : Nat → Int} {n : Nat} {set : Int} {F : HF} {A : HA} {al : AL} (hK : KX al) (hX : XF F) (hT : GT p e r q N m f g lg F A) (hn1 : 1 ≤ n) (hn63 : n ≤ 63) (hnq : (q - 1) % n = 0) (hs0 : 0 ≤ set) (hs1 : set < 2147483648) (h24 : F 24 0 = vI n) (h25 : ∀ j, j < 63 → A 25 j = (paE p n n).1 j) : QE 5 0 0 mX11_choose [vA 1, vI set] F A al (fun o F' A' al' => o = .inl none ∧ al' = al ∧ FOff [(27, 1), (27, 2), (27, 3), (27, 4), (30, 0), (36, 0)] F F' ∧ Off [13, 14, 15, 28, 29] A A' ∧ X5 p r q m f g n set (cyE m r q n f g (paE p n n).1 set n).1 (cyE m r q n f g (paE p n n).1 set n).2.1 (cyE m r q n f g (paE p n n).1 set n).2.2 F' A' ∧ F' 30 0 = vI 0 ∧ F' 36 0 = vI 0) := by
  refine QE.mk (by decide +kernel) (Nat.le_of_ble_eq_true rfl) ?_
  refine q_aload_n eX11_choose_0 rfl ?_
  refine q_getfield eX11_choose_1 gf_X11_58 (hK _ (by decide) (by decide)) (by decide) (xf_1_7 (by first | exact (hX9.up (by decide)) | exact hX9 | exact hX)) ?_
  refine q_aload_n eX11_choose_4 rfl ?_
  refine q_getfield eX11_choose_5 gf_X11_40 (hK _ (by decide) (by decide)) (by decide) (xf_1_6 (by first | exact (hX9.up (by decide)) | exact hX9 | exact hX)) ?_
  refine q_iload_n eX11_choose_8 rfl ?_
  refine q_callV [vA 24, vI set] (M1 := mX1_become) eX11_choose_9 mf_X1_become lk_X11_354 (hK _ (by decide) (by decide)) (ev_cyclic hK hX hT hn1 hn63 h24 h25 (fun j hj => pa_cov hn63 hj) (by exact ⟨by omega, by omega⟩)) nt_PCY (by decide) (by decide) (by decide) (Nat.le_of_ble_eq_true rfl) (st := []) rfl (fun v9 F9 A9 al9 h9 => ?_)
  obtain ⟨e9, f9, rfl, o9, v9, w9⟩ := h9
  obtain rfl := Sum.inl.inj e9
  have hF9 : FOff [(27, 1), (27, 2), (27, 3), (27, 4), (30, 0), (36, 0)] F F9 := by
    rw [f9]
    exact (((FOff.up (by decide)).trans (FOff.up (by decide))).trans (FOff.up (by decide))).trans (FOff.up (by decide))
  have hX9 := hX.foff hF9 (by decide)
  have g1 : F9 27 1 = vI n := by rw [f9]; exact Eq.trans (up2_ne (by decide)) (Eq.trans (up2_ne (by decide)) (Eq.trans (up2_ne (by decide)) (up2_eq _ _ _ _)))
  have g2 : F9 27 2 = vI (cyE m r q n f g (paE p n n).1 set n).1 := by rw [f9]; exact Eq.trans (up2_ne (by decide)) (Eq.trans (up2_ne (by decide)) (up2_eq _ _ _ _))
  have g3 : F9 27 3 = vI (n - (cyE m r q n f g (paE p n n).1 set n).1 : Nat) := by rw [f9]; exact Eq.trans (up2_ne (by decide)) (up2_eq _ _ _ _)
  have g4 : F9 27 4 = vI (swE m (n - (cyE m r q n f g (paE p n n).1 set n).1)) := by rw [f9]; exact up2_eq _ _ _ _
  clear f9
  refine q_aload_n eX11_choose_12 rfl ?_
  refine q_getfield eX11_choose_13 gf_X11_67 (hK _ (by decide) (by decide)) (by decide) (xf_1_8 (by first | exact (hX9.up (by decide)) | exact hX9 | exact hX)) ?_
  refine q_iconst eX11_choose_16 ?_
  refine q_putfield eX11_choose_17 pf_X11_357 (hK _ (by decide) (by decide)) (by decide) (FT_z rfl (Or.inl rfl)) ?_
  refine q_aload_n eX11_choose_20 rfl ?_
  refine q_getfield eX11_choose_21 gf_X11_74 (hK _ (by decide) (by decide)) (by decide) (xf_1_9 (by first | exact (hX9.up (by decide)) | exact hX9 | exact hX)) ?_
  refine q_iconst eX11_choose_24 ?_
  refine q_putfield eX11_choose_25 pf_X11_315 (hK _ (by decide) (by decide)) (by decide) (FT_z rfl (Or.inl rfl)) ?_
  refine q_retV eX11_choose_28 rfl (by decide) (by decide) ?_
  refine ⟨rfl, rfl, (hF9.trans (FOff.up (by decide))).trans (FOff.up (by decide)), o9, ⟨⟨?_, ?_, ?_, ?_⟩, v9, w9, ⟨hn1, hn63, hnq, hs0, hs1⟩, rfl⟩, Eq.trans (congrFun (up2_row (by decide)) 0) (up2_eq _ _ _ _), up2_eq _ _ _ _⟩
  · rw [up2_row (by decide), up2_row (by decide)]; exact g1
  · rw [up2_row (by decide), up2_row (by decide)]; exact g2
  · rw [up2_row (by decide), up2_row (by decide)]; exact g3
  · rw [up2_row (by decide), up2_row (by decide)]; exact g4
set_option maxRecDepth 20000 in
theorem ev_clear {p e r q N : Nat} {m : Int} {f : Nat → Int} {g : Int} {lg : Nat → Int} {F : HF} {A : HA} {al : AL} (hK : KX al) (hX : XF F) (hT : GT p e r q N m f g lg F A) (hp : F 2 0 = vI p) (hp7 : p ≤ 7) : QE 6 0 0 mX11_clear [vA 1] F A al (fun o F' A' al' => o = .inl none ∧ al' = al ∧ FOff [(24, 0), (24, 1), (27, 1), (27, 2), (27, 3), (27, 4), (30, 0), (36, 0)] F F' ∧ Off [13, 14, 15, 17, 25, 28, 29] A A' ∧ (∀ j, j < 8 → A' 17 j = 0) ∧ X5 p r q m f g 1 0 (cyE m r q 1 f g (paE p 1 1).1 0 1).1 (cyE m r q 1 f g (paE p 1 1).1 0 1).2.1 (cyE m r q 1 f g (paE p 1 1).1 0 1).2.2 F' A' ∧ F' 30 0 = vI 0 ∧ F' 36 0 = vI 0) := by
  refine QE.mk (by decide +kernel) (Nat.le_of_ble_eq_true rfl) ?_
  refine q_aload_n eX11_clear_0 rfl ?_
  refine q_getfield eX11_clear_1 gf_X11_16 (hK _ (by decide) (by decide)) (by decide) (xf_1_1 (by first | exact hX9 | exact hX)) ?_
  refine q_iconst eX11_clear_4 ?_
  refine q_callSV [vA 17, vI 0] (M1 := mJ7_fill_53178) eX11_clear_5 mf_J7_fill_53178 lk_X11_348 (ev_fill (hK _ (by decide) (by decide)) (by decide)) (by decide) (by decide) (by decide) (Nat.le_of_ble_eq_true rfl) rfl (fun A3 h3 => ?_)
  obtain ⟨o3, v3⟩ := h3
  refine q_aload_n eX11_clear_8 rfl ?_
  refine q_getfield eX11_clear_9 gf_X11_40 (hK _ (by decide) (by decide)) (by decide) (xf_1_6 (by first | exact hX9 | exact hX)) ?_
  refine q_iconst eX11_clear_12 ?_
  refine q_aload_n eX11_clear_13 rfl ?_
  refine q_getfield eX11_clear_14 gf_X11_10 (hK _ (by decide) (by decide)) (by decide) (xf_1_0 (by first | exact hX9 | exact hX)) ?_
  refine q_getfield eX11_clear_17 gf_X11_131 (hK _ (by decide) (by decide)) (by decide) (by first | assumption) ?_
  refine q_callV [vI 1, vI p] (M1 := mX4_become) eX11_clear_20 mf_X4_become lk_X11_262 (hK _ (by decide) (by decide)) (ev_partition (n := 1) hK hX (by omega) (by decide) (by decide)) (by intro E F A al h; cases h.1) (by decide) (by decide) (by decide) (Nat.le_of_ble_eq_true rfl) (st := []) rfl (fun v9 F9 A9 al9 h9 => ?_)
  obtain ⟨e9, f9, rfl, o9, v9⟩ := h9
  obtain rfl := Sum.inl.inj e9
  have hF9 : FOff [(24, 0), (24, 1)] F F9 := by
    rw [f9]
    exact (FOff.up (by decide)).trans (FOff.up (by decide))
  have hX9 := hX.foff hF9 (by decide)
  have h24 : F9 24 0 = vI (1 : Nat) := by rw [f9]; exact Eq.trans (up2_ne (by decide)) (up2_eq _ _ _ _)
  clear f9
  have hT9 : GT p e r q N m f g lg F9 A9 := (((hT.off o3 (by decide) (by decide) (by decide) (fun j hj => by simp; omega)).off o9 (by decide) (by decide) (by decide) (fun j hj => by simp; omega))).row (hF9.row 2 (by decide))
  refine q_aload_n eX11_clear_23 rfl ?_
  refine q_iconst eX11_clear_24 ?_
  refine q_callV [vI 0] (M1 := mX11_choose) eX11_clear_25 mf_X11_choose lk_X11_274 (hK _ (by decide) (by decide)) (ev_choose (n := 1) (set := 0) hK hX9 hT9 (by decide) (by decide) (Nat.mod_one _) (by decide) (by decide) h24 v9) (by intro E F A al h; cases h.1) (by decide) (by decide) (by decide) (Nat.le_of_ble_eq_true rfl) (st := []) rfl (fun v9 F9 A9 al9 h9 => ?_)
  obtain ⟨e8, rfl, f8, o8, x8, y8, z8⟩ := h9
  obtain rfl := Sum.inl.inj e8
  refine q_retV eX11_clear_28 rfl (by decide) (by decide) ?_
  refine ⟨rfl, rfl, (hF9.mono (by decide)).trans (f8.mono (by decide)), ((o3.mono (by simp)).trans (o9.mono (by simp))).trans (o8.mono (by simp)), fun j hj => ?_, x8, y8, z8⟩
  rw [o8 17 (by decide), o9 17 (by decide)]
  exact v3 j hj
