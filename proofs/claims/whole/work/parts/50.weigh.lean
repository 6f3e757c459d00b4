/-! RootedRing: weighing, lightest, word, nearest -/
def cwE (m : Int) (n dg : Nat) (mk : Nat → Int) (j : Nat) : Int := (ctn (fun t => decide (wtE (wkE m dg (n - dg) mk t).1 63 = j)) (ws_ m n dg) : Nat)
def clE_ (m : Int) (n dg : Nat) (mk : Nat → Int) (j : Nat) : Int := (ctn (fun t => decide (leE m (wkE m dg (n - dg) mk t).1 63 = j)) (ws_ m n dg) : Nat)
theorem sw_range {m : Int} {k : Nat} (hm : 2 ≤ m) : 0 ≤ swE m k ∧ swE m k ≤ 65536 := by
  unfold swE
  split
  · exact ⟨Int.pow_nonneg (by omega), by assumption⟩
  · exact ⟨by decide, by decide⟩
theorem ws_cast {m : Int} {n dg : Nat} (hm : 2 ≤ m) : (ws_ m n dg : Int) = swE m (n - dg) := by
  have := sw_range (m := m) (k := n - dg) hm
  unfold ws_
  omega
theorem ls_congr {c d : Nat → Int} : ∀ (k w : Nat), (∀ j, w ≤ j → j < w + k → c j = d j) → lsE c k w = lsE d k w
  | 0, _, _ => rfl
  | k + 1, w, h => by
    unfold lsE
    rw [h w (Nat.le_refl _) (by omega), ls_congr k (w + 1) (fun j h1 h2 => h j (by omega) (by omega))]
theorem cw_range {m : Int} {n dg : Nat} {mk : Nat → Int} (hm : 2 ≤ m) (j : Nat) : InR (cwE m n dg mk j) := by
  have h1 := ctn_le (fun t => decide (wtE (wkE m dg (n - dg) mk t).1 63 = j)) (ws_ m n dg)
  have h2 := ws_cast (m := m) (n := n) (dg := dg) hm
  have h3 := sw_range (m := m) (k := n - dg) hm
  unfold cwE
  exact ⟨by omega, by omega⟩
theorem cl_range {m : Int} {n dg : Nat} {mk : Nat → Int} (hm : 2 ≤ m) (j : Nat) : InR (clE_ m n dg mk j) := by
  have h1 := ctn_le (fun t => decide (leE m (wkE m dg (n - dg) mk t).1 63 = j)) (ws_ m n dg)
  have h2 := ws_cast (m := m) (n := n) (dg := dg) hm
  have h3 := sw_range (m := m) (k := n - dg) hm
  unfold clE_
  exact ⟨by omega, by omega⟩
theorem QE.post {d mc ms : Nat} {M : MT} {as : List LV} {F : HF} {A : HA} {al : AL} {P1 P2 : PO} (h : QE d mc ms M as F A al P1) (hp : ∀ o F' A' al', P1 o F' A' al' → P2 o F' A' al') : QE d mc ms M as F A al P2 := by
  intro l hl G ad sz p e h1 h2 h3 s m args below hf hap hP hK
  obtain ⟨n, o, g1, g2, g3, g4⟩ := h l hl G ad sz p e h1 h2 h3 s m args below hf hap hP hK
  refine ⟨n, o, g1, g2, g3, ?_⟩
  rcases g4 with ⟨⟨⟨v, F', A', al', ad', k1, k2, k3⟩, k4⟩, L, k5⟩ | ⟨q, k1, E, ce, L, ⟨⟨F', A', al', ad', k2, k3⟩, k4⟩, k5⟩
  · exact Or.inl ⟨⟨⟨v, F', A', al', ad', k1, hp _ _ _ _ k2, k3⟩, k4⟩, L, k5⟩
  · exact Or.inr ⟨q, k1, E, ce, L, ⟨⟨F', A', al', ad', hp _ _ _ _ k2, k3⟩, k4⟩, k5⟩
theorem ev_weighs {p e r q N : Nat} {m : Int} {f : Nat → Int} {g : Int} {lg pl_ tp mk ck : Nat → Int} {len n dg : Nat} {fp set : Int} {w : Option (Nat → Int)} {S : List Int} {F : HF} {A : HA} {al : AL} (hK : KX al) (h : XI p e r q N m f g lg pl_ len tp fp n set dg mk ck w S F A) : QE 3 0 0 mX10_weigh [vA 30] F A al (fun o F' A' al' => o = .inl none ∧ al' = al ∧ FOff [(30, 0)] F F' ∧ Off [31, 32, 34, 35] A A' ∧ F' 30 0 = vI 1 ∧ (∀ j, j < 64 → A' 31 j = cwE m n dg mk j) ∧ ∀ j, j < 7201 → A' 32 j = clE_ m n dg mk j) := by
  obtain ⟨⟨hX, hT, h3r, hMK⟩, h2, ⟨hl0, hl1, hta⟩, h4, ⟨⟨h51, h52, h53, h54⟩, h5m, h5c, ⟨hn1, hn63, hnq, hs0, hs1⟩, h5e⟩, h6, h7, ⟨⟨h81, h82⟩, h83⟩⟩ := id h
  obtain ⟨hG, hp, he, hq, hN, hg, ⟨hp2, hp7, he1, he4, hme, hqe, hq3, hNm, hgE⟩, hP, hL, hI⟩ := id hT
  obtain ⟨hm, hr, hf, hm2, hr1, hr6, hN4⟩ := id hG
  have hm4 := hG.m4
  have hq2 := hT.q2
  have hN9 : (N : Int) ≤ 4096 := by rw [hNm]; exact hN4
  have hdn : dg ≤ n := by
    have := cy_le (m := m) (r := r) (q := q) (n := n) (f := f) (g := g) (c := (paE p n n).1) (set := set) n
    rw [h5e] at this
    exact this
  have hE : ∀ x : Int, 0 ≤ x ∧ x < (N : Int) → El m r x := fun x h => ⟨h.1, by rw [← hNm]; exact h.2⟩
  have hmk : ∀ i, i ≤ dg → 0 ≤ mk i ∧ mk i < m := by
    have := hMK n set hn1 hn63 hnq hs0 hs1
    rw [h5e] at this
    exact this
  have hsw := sw_range (m := m) (k := n - dg) hm2
  have hwc := ws_cast (m := m) (n := n) (dg := dg) hm2
  have h54' : F 27 4 = vI (ws_ m n dg : Nat) := by rw [hwc]; exact h54
  rcases h6 with h60 | ⟨h61, h62, h63⟩
  · refine QE.post (ev_weigh hK hX h60 hm h52 h53 hm2 hm4 (by omega) (by omega) hmk h54' (by omega) (fun i hi => h5m i (by omega))) ?_
    rintro o F' A' al' ⟨rfl, rfl, rfl, o9, v9, w9⟩
    exact ⟨rfl, rfl, FOff.up (by decide), o9, up2_eq _ _ _ _, v9, w9⟩
  · refine QE.post (ev_weighed hK h61) ?_
    rintro o F' A' al' ⟨rfl, rfl, rfl, o9⟩
    have e31 : A' 31 = A 31 := o9 31 (by simp)
    have e32 : A' 32 = A 32 := o9 32 (by simp)
    exact ⟨rfl, rfl, FOff.rfl', o9.mono (by simp), h61, fun j hj => by rw [e31]; exact h62 j hj, fun j hj => by rw [e32]; exact h63 j hj⟩
set_option maxRecDepth 20000 in
theorem ev_weighing {lee v : Int} {p e r q N : Nat} {m : Int} {f : Nat → Int} {g : Int} {lg pl_ tp mk ck : Nat → Int} {len n dg : Nat} {fp set : Int} {w : Option (Nat → Int)} {S : List Int} {F : HF} {A : HA} {al : AL} (hK : KX al) (h : XI p e r q N m f g lg pl_ len tp fp n set dg mk ck w S F A) (hl : InR lee) (hv : InR v) : QE 4 0 0 mX11_weighing [vA 1, vI lee, vI v] F A al (PXR eN (some (if swE m (n - dg) = 0 ∨ v < 0 then -1 else if lee ≠ 0 then (if v < 7201 then clE_ m n dg mk v.toNat else 0) else (if v < 64 then cwE m n dg mk v.toNat else 0))) F A al (fun F2 A2 => XI p e r q N m f g lg pl_ len tp fp n set dg mk ck w S F2 A2)) := by
  refine QE.mk (by decide +kernel) (Nat.le_of_ble_eq_true rfl) ?_
  have hl_1 := hl.1
  have hl_2 := hl.2
  have hv_1 := hv.1
  have hv_2 := hv.2
  obtain ⟨⟨hX, hT, h3r, hMK⟩, h2, ⟨hl0, hl1, hta⟩, h4, ⟨⟨h51, h52, h53, h54⟩, h5m, h5c, ⟨hn1, hn63, hnq, hs0, hs1⟩, h5e⟩, h6, h7, ⟨⟨h81, h82⟩, h83⟩⟩ := id h
  obtain ⟨hG, hp, he, hq, hN, hg, ⟨hp2, hp7, he1, he4, hme, hqe, hq3, hNm, hgE⟩, hP, hL, hI⟩ := id hT
  obtain ⟨hm, hr, hf, hm2, hr1, hr6, hN4⟩ := id hG
  have hm4 := hG.m4
  have hq2 := hT.q2
  have hN9 : (N : Int) ≤ 4096 := by rw [hNm]; exact hN4
  have hdn : dg ≤ n := by
    have := cy_le (m := m) (r := r) (q := q) (n := n) (f := f) (g := g) (c := (paE p n n).1) (set := set) n
    rw [h5e] at this
    exact this
  have hE : ∀ x : Int, 0 ≤ x ∧ x < (N : Int) → El m r x := fun x h => ⟨h.1, by rw [← hNm]; exact h.2⟩
  have hmk : ∀ i, i ≤ dg → 0 ≤ mk i ∧ mk i < m := by
    have := hMK n set hn1 hn63 hnq hs0 hs1
    rw [h5e] at this
    exact this
  have hsw := sw_range (m := m) (k := n - dg) hm2
  have hwc := ws_cast (m := m) (n := n) (dg := dg) hm2
  have h54' : F 27 4 = vI (ws_ m n dg : Nat) := by rw [hwc]; exact h54
  refine q_aload_n eX11_weighing_0 rfl ?_
  refine q_getfield eX11_weighing_1 gf_X11_58 (hK _ (by decide) (by decide)) (by decide) (xf_1_7 (by first | exact hX9 | exact hX)) ?_
  refine q_getfield eX11_weighing_4 gf_X11_286 (hK _ (by decide) (by decide)) (by decide) (by first | assumption) ?_
  refine q_if_eq (tgt := 14) eX11_weighing_7 (by decide) (by exact ⟨by omega, by omega⟩) (fun c7 => ?_) (fun c7 => ?_)
  · refine q_iconst eX11_weighing_14 ?_
    refine q_retI eX11_weighing_15 rfl (by decide) (by decide) ?_
    refine PXR_r (lF := []) (lA := []) ?_ FOff.rfl' Off.rfl' (by decide) (by decide) h
    rw [if_pos (by omega)]
  · refine q_iload_n eX11_weighing_10 rfl ?_
    refine q_if_ge (tgt := 16) eX11_weighing_11 (by decide) (by first | assumption | exact ⟨by omega, by omega⟩) (fun c11 => ?_) (fun c11 => ?_)
    · refine q_aload_n eX11_weighing_16 rfl ?_
      refine q_getfield eX11_weighing_17 gf_X11_67 (hK _ (by decide) (by decide)) (by decide) (xf_1_8 (by first | exact hX9 | exact hX)) ?_
      refine q_callV [] (M1 := mX10_weigh) eX11_weighing_20 mf_X10_weigh lk_X11_289 (hK _ (by decide) (by decide)) (ev_weighs hK h) (by intro E F A al h; cases h.1) (by decide) (by decide) (by decide) (Nat.le_of_ble_eq_true rfl) (st := []) rfl (fun v9 F9 A9 al9 h9 => ?_)
      obtain ⟨e9, rfl, f9, o9, w9, v31, v32⟩ := h9
      obtain rfl := Sum.inl.inj e9
      have hX9 := hX.foff f9 (by decide)
      have hXI : XI p e r q N m f g lg pl_ len tp fp n set dg mk ck w S F9 A9 := ⟨h.1.pres hX9 (f9.fe (by decide)) (o9.ae (by decide)), h2.pres (o9.ae (by decide)), h.2.2.1.pres (f9.fe (by decide)) (o9.ae (by decide)), h4.pres (f9.fe (by decide)), h.2.2.2.2.1.pres (f9.fe (by decide)) (o9.ae (by decide)), Or.inr ⟨w9, v31, v32⟩, h7.pres (f9.fe (by decide)) (o9.ae (by decide)), h.2.2.2.2.2.2.2.pres (f9.fe (by decide)) (o9.ae (by decide))⟩
      refine q_iload_n eX11_weighing_23 rfl ?_
      refine q_if_eq (tgt := 37) eX11_weighing_24 (by decide) (by first | assumption | exact ⟨by omega, by omega⟩) (fun c24 => ?_) (fun c24 => ?_)
      · refine q_aload_n eX11_weighing_37 rfl ?_
        refine q_getfield eX11_weighing_38 gf_X11_67 (hK _ (by decide) (by decide)) (by decide) (xf_1_8 (by first | exact hX9 | exact hX)) ?_
        refine q_getfield eX11_weighing_41 gf_X11_295 (hK _ (by decide) (by decide)) (by decide) (xf_30_1 (by first | exact hX9 | exact hX)) ?_
        refine q_iload_n eX11_weighing_44 rfl ?_
        refine q_callSP [vA 31, vI v] (M1 := mX7_at) eX11_weighing_45 mf_X7_at lk_X11_121 (ev_at (hK _ (by decide) (by decide)) hv (by decide)) (by decide) (by decide) (by decide) (Nat.le_of_ble_eq_true rfl) rfl ?_
        refine q_retI eX11_weighing_48 rfl (by decide) (by decide) ?_
        refine PXR_r ?_ f9 o9 (by decide) (by decide) hXI
        rw [if_neg (by omega)]
        first
        | (rw [if_pos c24]
           unfold atS
           by_cases hv2 : v < 7201
           · rw [if_pos hv2, if_pos (by omega), v32 _ (by omega)]
           · rw [if_neg hv2, if_neg (by omega)])
        | (rw [if_neg (fun hc => hc c24)]
           unfold atS
           by_cases hv2 : v < 64
           · rw [if_pos hv2, if_pos (by omega), v31 _ (by omega)]
           · rw [if_neg hv2, if_neg (by omega)])
      · refine q_aload_n eX11_weighing_27 rfl ?_
        refine q_getfield eX11_weighing_28 gf_X11_67 (hK _ (by decide) (by decide)) (by decide) (xf_1_8 (by first | exact hX9 | exact hX)) ?_
        refine q_getfield eX11_weighing_31 gf_X11_292 (hK _ (by decide) (by decide)) (by decide) (xf_30_2 (by first | exact hX9 | exact hX)) ?_
        refine q_goto (tgt := 44) eX11_weighing_34 (by decide) ?_
        refine q_iload_n eX11_weighing_44 rfl ?_
        refine q_callSP [vA 32, vI v] (M1 := mX7_at) eX11_weighing_45 mf_X7_at lk_X11_121 (ev_at (hK _ (by decide) (by decide)) hv (by decide)) (by decide) (by decide) (by decide) (Nat.le_of_ble_eq_true rfl) rfl ?_
        refine q_retI eX11_weighing_48 rfl (by decide) (by decide) ?_
        refine PXR_r ?_ f9 o9 (by decide) (by decide) hXI
        rw [if_neg (by omega)]
        first
        | (rw [if_pos c24]
           unfold atS
           by_cases hv2 : v < 7201
           · rw [if_pos hv2, if_pos (by omega), v32 _ (by omega)]
           · rw [if_neg hv2, if_neg (by omega)])
        | (rw [if_neg (fun hc => hc c24)]
           unfold atS
           by_cases hv2 : v < 64
           · rw [if_pos hv2, if_pos (by omega), v31 _ (by omega)]
           · rw [if_neg hv2, if_neg (by omega)])
    · refine q_iconst eX11_weighing_14 ?_
      refine q_retI eX11_weighing_15 rfl (by decide) (by decide) ?_
      refine PXR_r (lF := []) (lA := []) ?_ FOff.rfl' Off.rfl' (by decide) (by decide) h
      rw [if_pos (by omega)]
set_option maxRecDepth 20000 in
theorem ev_lightest {lee : Int} {p e r q N : Nat} {m : Int} {f : Nat → Int} {g : Int} {lg pl_ tp mk ck : Nat → Int} {len n dg : Nat} {fp set : Int} {w : Option (Nat → Int)} {S : List Int} {F : HF} {A : HA} {al : AL} (hK : KX al) (h : XI p e r q N m f g lg pl_ len tp fp n set dg mk ck w S F A) (hl : InR lee) : QE 4 0 0 mX11_lightest [vA 1, vI lee] F A al (PXR eN (some (if swE m (n - dg) = 0 then -1 else if lee ≠ 0 then lsE (clE_ m n dg mk) 7200 1 else lsE (cwE m n dg mk) 63 1)) F A al (fun F2 A2 => XI p e r q N m f g lg pl_ len tp fp n set dg mk ck w S F2 A2)) := by
  refine QE.mk (by decide +kernel) (Nat.le_of_ble_eq_true rfl) ?_
  have hl_1 := hl.1
  have hl_2 := hl.2
  obtain ⟨⟨hX, hT, h3r, hMK⟩, h2, ⟨hl0, hl1, hta⟩, h4, ⟨⟨h51, h52, h53, h54⟩, h5m, h5c, ⟨hn1, hn63, hnq, hs0, hs1⟩, h5e⟩, h6, h7, ⟨⟨h81, h82⟩, h83⟩⟩ := id h
  obtain ⟨hG, hp, he, hq, hN, hg, ⟨hp2, hp7, he1, he4, hme, hqe, hq3, hNm, hgE⟩, hP, hL, hI⟩ := id hT
  obtain ⟨hm, hr, hf, hm2, hr1, hr6, hN4⟩ := id hG
  have hm4 := hG.m4
  have hq2 := hT.q2
  have hN9 : (N : Int) ≤ 4096 := by rw [hNm]; exact hN4
  have hdn : dg ≤ n := by
    have := cy_le (m := m) (r := r) (q := q) (n := n) (f := f) (g := g) (c := (paE p n n).1) (set := set) n
    rw [h5e] at this
    exact this
  have hE : ∀ x : Int, 0 ≤ x ∧ x < (N : Int) → El m r x := fun x h => ⟨h.1, by rw [← hNm]; exact h.2⟩
  have hmk : ∀ i, i ≤ dg → 0 ≤ mk i ∧ mk i < m := by
    have := hMK n set hn1 hn63 hnq hs0 hs1
    rw [h5e] at this
    exact this
  have hsw := sw_range (m := m) (k := n - dg) hm2
  have hwc := ws_cast (m := m) (n := n) (dg := dg) hm2
  have h54' : F 27 4 = vI (ws_ m n dg : Nat) := by rw [hwc]; exact h54
  refine q_aload_n eX11_lightest_0 rfl ?_
  refine q_getfield eX11_lightest_1 gf_X11_58 (hK _ (by decide) (by decide)) (by decide) (xf_1_7 (by first | exact hX9 | exact hX)) ?_
  refine q_getfield eX11_lightest_4 gf_X11_286 (hK _ (by decide) (by decide)) (by decide) (by first | assumption) ?_
  refine q_if_ne (tgt := 12) eX11_lightest_7 (by decide) (by exact ⟨by omega, by omega⟩) (fun c7 => ?_) (fun c7 => ?_)
  · refine q_aload_n eX11_lightest_12 rfl ?_
    refine q_getfield eX11_lightest_13 gf_X11_67 (hK _ (by decide) (by decide)) (by decide) (xf_1_8 (by first | exact hX9 | exact hX)) ?_
    refine q_callV [] (M1 := mX10_weigh) eX11_lightest_16 mf_X10_weigh lk_X11_289 (hK _ (by decide) (by decide)) (ev_weighs hK h) (by intro E F A al h; cases h.1) (by decide) (by decide) (by decide) (Nat.le_of_ble_eq_true rfl) (st := []) rfl (fun v9 F9 A9 al9 h9 => ?_)
    obtain ⟨e9, rfl, f9, o9, w9, v31, v32⟩ := h9
    obtain rfl := Sum.inl.inj e9
    have hX9 := hX.foff f9 (by decide)
    have hXI : XI p e r q N m f g lg pl_ len tp fp n set dg mk ck w S F9 A9 := ⟨h.1.pres hX9 (f9.fe (by decide)) (o9.ae (by decide)), h2.pres (o9.ae (by decide)), h.2.2.1.pres (f9.fe (by decide)) (o9.ae (by decide)), h4.pres (f9.fe (by decide)), h.2.2.2.2.1.pres (f9.fe (by decide)) (o9.ae (by decide)), Or.inr ⟨w9, v31, v32⟩, h7.pres (f9.fe (by decide)) (o9.ae (by decide)), h.2.2.2.2.2.2.2.pres (f9.fe (by decide)) (o9.ae (by decide))⟩
    refine q_iload_n eX11_lightest_19 rfl ?_
    refine q_if_eq (tgt := 33) eX11_lightest_20 (by decide) (by first | assumption | exact ⟨by omega, by omega⟩) (fun c20 => ?_) (fun c20 => ?_)
    · refine q_aload_n eX11_lightest_33 rfl ?_
      refine q_getfield eX11_lightest_34 gf_X11_67 (hK _ (by decide) (by decide)) (by decide) (xf_1_8 (by first | exact hX9 | exact hX)) ?_
      refine q_getfield eX11_lightest_37 gf_X11_295 (hK _ (by decide) (by decide)) (by decide) (xf_30_1 (by first | exact hX9 | exact hX)) ?_
      have hl31 : ∀ j, j < 64 → InR (A9 31 j) := fun j hj => by rw [v31 j hj]; exact cw_range hm2 j
      have hl32 : ∀ j, j < 7201 → InR (A9 32 j) := fun j hj => by rw [v32 j hj]; exact cl_range hm2 j
      refine q_callSP [vA 31] (M1 := mX10_least) eX11_lightest_40 mf_X10_least lk_X11_298 (ev_least (hK _ (by decide) (by decide)) (by decide) (by decide) hl31) (by decide) (by decide) (by decide) (Nat.le_of_ble_eq_true rfl) rfl ?_
      refine q_retI eX11_lightest_43 rfl (by decide) (by decide) ?_
      refine PXR_r ?_ f9 o9 (by decide) (by decide) hXI
      rw [if_neg (by omega)]
      first
      | (rw [if_pos c20, ls_congr (c := A9 32) (d := clE_ m n dg mk) _ _ (fun j h1 h2 => v32 j (by omega))]; done)
      | (rw [if_neg (fun hc => hc c20), ls_congr (c := A9 31) (d := cwE m n dg mk) _ _ (fun j h1 h2 => v31 j (by omega))]; done)
    · refine q_aload_n eX11_lightest_23 rfl ?_
      refine q_getfield eX11_lightest_24 gf_X11_67 (hK _ (by decide) (by decide)) (by decide) (xf_1_8 (by first | exact hX9 | exact hX)) ?_
      refine q_getfield eX11_lightest_27 gf_X11_292 (hK _ (by decide) (by decide)) (by decide) (xf_30_2 (by first | exact hX9 | exact hX)) ?_
      refine q_goto (tgt := 40) eX11_lightest_30 (by decide) ?_
      have hl31 : ∀ j, j < 64 → InR (A9 31 j) := fun j hj => by rw [v31 j hj]; exact cw_range hm2 j
      have hl32 : ∀ j, j < 7201 → InR (A9 32 j) := fun j hj => by rw [v32 j hj]; exact cl_range hm2 j
      refine q_callSP [vA 32] (M1 := mX10_least) eX11_lightest_40 mf_X10_least lk_X11_298 (ev_least (hK _ (by decide) (by decide)) (by decide) (by decide) hl32) (by decide) (by decide) (by decide) (Nat.le_of_ble_eq_true rfl) rfl ?_
      refine q_retI eX11_lightest_43 rfl (by decide) (by decide) ?_
      refine PXR_r ?_ f9 o9 (by decide) (by decide) hXI
      rw [if_neg (by omega)]
      first
      | (rw [if_pos c20, ls_congr (c := A9 32) (d := clE_ m n dg mk) _ _ (fun j h1 h2 => v32 j (by omega))]; done)
      | (rw [if_neg (fun hc => hc c20), ls_congr (c := A9 31) (d := cwE m n dg mk) _ _ (fun j h1 h2 => v31 j (by omega))]; done)
  · refine q_iconst eX11_lightest_10 ?_
    refine q_retI eX11_lightest_11 rfl (by decide) (by decide) ?_
    refine PXR_r (lF := []) (lA := []) ?_ FOff.rfl' Off.rfl' (by decide) (by decide) h
    rw [if_pos (by omega)]
