/-! RootedRing: word, nearest -/
def skS (m : Int) (dg ch : Nat) (mk nb : Nat → Int) (i : Nat) (s : Int × (Nat → Int)) : Int × (Nat → Int) := if ((poE nb (wkE m dg ch mk i).1 63 : Nat) : Int) < s.1 ∨ ((poE nb (wkE m dg ch mk i).1 63 : Nat) : Int) = s.1 ∧ ahE (wkE m dg ch mk i).1 s.2 63 0 = true then (((poE nb (wkE m dg ch mk i).1 63 : Nat) : Int), (wkE m dg ch mk i).1) else s
theorem sk_succ {m : Int} {dg ch : Nat} {mk nb c0 : Nat → Int} (i : Nat) : skE m dg ch mk nb c0 (i + 1) = skS m dg ch mk nb i (skE m dg ch mk nb c0 i) := rfl
theorem sk_ind {m : Int} {dg ch : Nat} {mk nb : Nat → Int} (c0 c1 : Nat → Int) : ∀ i, skE m dg ch mk nb c0 (i + 1) = skE m dg ch mk nb c1 (i + 1)
  | 0 => by
    have h : ((poE nb (wkE m dg ch mk 0).1 63 : Nat) : Int) < 64 := by
      have := ctn_le (fun i => decide ((wkE m dg ch mk 0).1 i ≠ nb i)) 63
      unfold poE
      omega
    have e : ∀ c, skE m dg ch mk nb c (0 + 1) = (((poE nb (wkE m dg ch mk 0).1 63 : Nat) : Int), (wkE m dg ch mk 0).1) := fun c => if_pos (Or.inl h)
    rw [e, e]
  | i + 1 => by
    show skS m dg ch mk nb (i + 1) (skE m dg ch mk nb c0 (i + 1)) = skS m dg ch mk nb (i + 1) (skE m dg ch mk nb c1 (i + 1))
    rw [sk_ind c0 c1 i]
theorem sk_range {m : Int} {dg ch : Nat} {mk nb c0 : Nat → Int} (hm : 0 < m) (hm4 : m ≤ 4096) (hc : ∀ j, j < 63 → InR (c0 j)) : ∀ i j, j < 63 → InR ((skE m dg ch mk nb c0 i).2 j)
  | 0, j, hj => hc j hj
  | i + 1, j, hj => by
    have h1 := (wk_range (m := m) (dg := dg) (ch := ch) (mk := mk) hm i).1 j
    have h2 := sk_range (dg := dg) (ch := ch) (mk := mk) (nb := nb) hm hm4 hc i j hj
    rw [sk_succ, skS]
    split
    · exact ⟨by show -2147483648 ≤ (wkE m dg ch mk i).1 j; omega, by show (wkE m dg ch mk i).1 j < 2147483648; omega⟩
    · exact h2
theorem nb_range {m : Int} {n : Nat} {bt : Nat → Int} (hm : 0 < m) (hm4 : m ≤ 4096) (h : ∀ j, j < n → 0 ≤ bt j ∧ bt j < m) (j : Nat) : InR (nbE n bt j) := by
  unfold nbE
  split
  · next hj => exact ⟨by have := h j hj; omega, by have := h j hj; omega⟩
  · exact ⟨by decide, by decide⟩
theorem ev_seeks {bt : Nat → Int} {p e r q N : Nat} {m : Int} {f : Nat → Int} {g : Int} {lg pl_ tp mk ck : Nat → Int} {len n dg : Nat} {fp set : Int} {S : List Int} {F : HF} {A : HA} {al : AL} (hK : KX al) (h : XI p e r q N m f g lg pl_ len tp fp n set dg mk ck (some bt) S F A) (hw0 : swE m (n - dg) ≠ 0) : QE 3 0 0 mX3_seek [vA 36] F A al (fun o F' A' al' => o = .inl none ∧ al' = al ∧ FOff [(36, 7), (36, 9)] F F' ∧ Off [39, 42, 43] A A' ∧ F' 36 9 = vI 1 ∧ F' 36 7 = vI (skE m dg (n - dg) mk (nbE n bt) (fun _ => 0) (ws_ m n dg)).1 ∧ (∀ j, j < 63 → A' 39 j = (skE m dg (n - dg) mk (nbE n bt) (fun _ => 0) (ws_ m n dg)).2 j) ∧ ∀ j, j < 63 → InR (A' 39 j)) := by
  obtain ⟨⟨hX, hT, h3r, hMK⟩, h2, ⟨hl0, hl1, hta⟩, h4, ⟨⟨h51, h52, h53, h54⟩, h5m, h5c, ⟨hn1, hn63, hnq, hs0, hs1⟩, h5e⟩, h6, h7, ⟨⟨h81, h82⟩, h83⟩⟩ := id h
  obtain ⟨hG, hp, he, hq, hN, hg, ⟨hp2, hp7, he1, he4, hme, hqe, hq3, hNm, hgE⟩, hP, hL, hI⟩ := id hT
  obtain ⟨hm, hr, hf, hm2, hr1, hr6, hN4⟩ := id hG
  have hm4 := hG.m4
  have hq2 := hT.q2
  have hN9 : (N : Int) ≤ 4096 := by rw [hNm]; exact hN4
  have hdn : dg ≤ n := by
    have := cy_le (m := m) (r := r) (q := q) (n := n) (f := f) (g := g) (c := (paE p n n).1) (set := set) n
    rw [h5e] at this
    exact this
  have hE : ∀ x : Int, 0 ≤ x ∧ x < (N : Int) → El m r x := fun x h => ⟨h.1, by rw [← hNm]; exact h.2⟩
  have hmk : ∀ i, i ≤ dg → 0 ≤ mk i ∧ mk i < m := by
    have := hMK n set hn1 hn63 hnq hs0 hs1
    rw [h5e] at this
    exact this
  have hsw := sw_range (m := m) (k := n - dg) hm2
  have hwc := ws_cast (m := m) (n := n) (dg := dg) hm2
  have h54' : F 27 4 = vI (ws_ m n dg : Nat) := by rw [hwc]; exact h54
  obtain ⟨⟨c0, hc0⟩, hw, hbt, h37, h38, h364, h369⟩ := h7
  obtain ⟨k, hk⟩ : ∃ k, ws_ m n dg = k + 1 := ⟨ws_ m n dg - 1, by omega⟩
  rcases h369 with h360 | ⟨h361, c1, h367, h39⟩
  · refine QE.post (ev_seek hK hX h360 hm h52 h53 h54' (by omega) hm2 hm4 (by omega) (by omega) hmk (fun i hi => h5m i (by omega)) (fun j hj => ⟨h37 j hj, nb_range (by omega) hm4 hbt j⟩) hc0) ?_
    rintro o F' A' al' ⟨rfl, rfl, rfl, o9, v9⟩
    refine ⟨rfl, rfl, (FOff.up (by decide)).trans (FOff.up (by decide)), o9, up2_eq _ _ _ _, Eq.trans (up2_ne (by decide)) (Eq.trans (up2_eq _ _ _ _) ?_), fun j hj => ?_, fun j hj => ?_⟩
    · rw [hk, sk_ind c0 (fun _ => 0) k]
    · rw [v9 j hj, hk, sk_ind c0 (fun _ => 0) k]
    · rw [v9 j hj]; exact sk_range (by omega) hm4 (fun j hj => (hc0 j hj).2) _ j hj
  · refine QE.post (ev_sought hK h361) ?_
    rintro o F' A' al' ⟨rfl, rfl, rfl, o9⟩
    have e39 : A' 39 = A 39 := o9 39 (by simp)
    refine ⟨rfl, rfl, FOff.rfl', o9.mono (by simp), h361, ?_, fun j hj => ?_, fun j hj => ?_⟩
    · rw [h367, hk, sk_ind c1 (fun _ => 0) k]
    · rw [e39, h39 j hj, hk, sk_ind c1 (fun _ => 0) k]
    · rw [e39, (hc0 j hj).1]; exact (hc0 j hj).2
def nrE (m : Int) (n dg : Nat) (mk : Nat → Int) (w : Option (Nat → Int)) (i : Int) : Option Int := match w with
  | none => none
  | some bt => if -1 ≤ i ∧ i < (n : Int) then some (if swE m (n - dg) = 0 then -1 else if i = -1 then (skE m dg (n - dg) mk (nbE n bt) (fun _ => 0) (ws_ m n dg)).1 else (skE m dg (n - dg) mk (nbE n bt) (fun _ => 0) (ws_ m n dg)).2 i.toNat) else none
set_option maxRecDepth 20000 in
theorem ev_nearest {i : Int} {p e r q N : Nat} {m : Int} {f : Nat → Int} {g : Int} {lg pl_ tp mk ck : Nat → Int} {len n dg : Nat} {fp set : Int} {w : Option (Nat → Int)} {S : List Int} {F : HF} {A : HA} {al : AL} (hK : KX al) (h : XI p e r q N m f g lg pl_ len tp fp n set dg mk ck w S F A) (hi : InR i) : QE 7 1 6 mX11_nearest [vA 1, vI i] F A al (PXR eN (nrE m n dg mk w i) F A al (fun F2 A2 => XI p e r q N m f g lg pl_ len tp fp n set dg mk ck w S F2 A2)) := by
  refine QE.mk (by decide +kernel) (Nat.le_of_ble_eq_true rfl) ?_
  have hi_1 := hi.1
  have hi_2 := hi.2
  obtain ⟨⟨hX, hT, h3r, hMK⟩, h2, ⟨hl0, hl1, hta⟩, h4, ⟨⟨h51, h52, h53, h54⟩, h5m, h5c, ⟨hn1, hn63, hnq, hs0, hs1⟩, h5e⟩, h6, h7, ⟨⟨h81, h82⟩, h83⟩⟩ := id h
  obtain ⟨hG, hp, he, hq, hN, hg, ⟨hp2, hp7, he1, he4, hme, hqe, hq3, hNm, hgE⟩, hP, hL, hI⟩ := id hT
  obtain ⟨hm, hr, hf, hm2, hr1, hr6, hN4⟩ := id hG
  have hm4 := hG.m4
  have hq2 := hT.q2
  have hN9 : (N : Int) ≤ 4096 := by rw [hNm]; exact hN4
  have hdn : dg ≤ n := by
    have := cy_le (m := m) (r := r) (q := q) (n := n) (f := f) (g := g) (c := (paE p n n).1) (set := set) n
    rw [h5e] at this
    exact this
  have hE : ∀ x : Int, 0 ≤ x ∧ x < (N : Int) → El m r x := fun x h => ⟨h.1, by rw [← hNm]; exact h.2⟩
  have hmk : ∀ i, i ≤ dg → 0 ≤ mk i ∧ mk i < m := by
    have := hMK n set hn1 hn63 hnq hs0 hs1
    rw [h5e] at this
    exact this
  have hsw := sw_range (m := m) (k := n - dg) hm2
  have hwc := ws_cast (m := m) (n := n) (dg := dg) hm2
  cases w with
  | none =>
    obtain ⟨⟨c0, hc0⟩, hw⟩ := id h7
    refine q_aload_n eX11_nearest_0 rfl ?_
    refine q_getfield eX11_nearest_1 gf_X11_74 (hK _ (by decide) (by decide)) (by decide) (xf_1_9 hX) ?_
    refine q_getfield eX11_nearest_4 gf_X11_315 (hK _ (by decide) (by decide)) (by decide) (by first | assumption) ?_
    refine q_if_eq (tgt := 30) eX11_nearest_7 (by decide) (by first | assumption | exact ⟨by omega, by omega⟩) (fun c7 => ?_) (fun c7 => ?_)
    · refine q_iconst eX11_nearest_30 ?_
      refine q_need0 rfl eX11_nearest_31 lk_X11_117 (by decide) (by decide) (by decide) ?_
      exact PXR_t (lF := []) (lA := []) rfl FOff.rfl' Off.rfl' (by decide) (by decide) h
    · exact absurd rfl c7
  | some bt =>
    obtain ⟨⟨c0, hc0⟩, hw, hbt, h37, h38, h364, h369⟩ := id h7
    refine q_aload_n eX11_nearest_0 rfl ?_
    refine q_getfield eX11_nearest_1 gf_X11_74 (hK _ (by decide) (by decide)) (by decide) (xf_1_9 (by first | exact hX9 | exact hX)) ?_
    refine q_getfield eX11_nearest_4 gf_X11_315 (hK _ (by decide) (by decide)) (by decide) (by first | assumption) ?_
    refine q_if_eq (tgt := 30) eX11_nearest_7 (by decide) (by first | assumption | exact ⟨by omega, by omega⟩) (fun c7 => ?_) (fun c7 => ?_)
    · exact absurd c7 (by decide)
    · refine q_iload_n eX11_nearest_10 rfl ?_
      refine q_iconst eX11_nearest_11 ?_
      refine q_icmp_lt (tgt := 30) eX11_nearest_12 (by decide) (by first | assumption | exact ⟨by omega, by omega⟩) (by first | assumption | exact ⟨by omega, by omega⟩) (fun c12 => ?_) (fun c12 => ?_)
      · refine q_iconst eX11_nearest_30 ?_
        refine q_need0 rfl eX11_nearest_31 lk_X11_117 (by decide) (by decide) (by decide) ?_
        refine PXR_t (lF := []) (lA := []) ?_ FOff.rfl' Off.rfl' (by decide) (by decide) h
        show (if -1 ≤ i ∧ i < (n : Int) then some (if swE m (n - dg) = 0 then -1 else if i = -1 then (skE m dg (n - dg) mk (nbE n bt) (fun _ => 0) (ws_ m n dg)).1 else (skE m dg (n - dg) mk (nbE n bt) (fun _ => 0) (ws_ m n dg)).2 (i).toNat) else none) = _
        rw [if_neg (by omega)]
      · refine q_iload_n eX11_nearest_15 rfl ?_
        refine q_aload_n eX11_nearest_16 rfl ?_
        refine q_getfield eX11_nearest_17 gf_X11_58 (hK _ (by decide) (by decide)) (by decide) (xf_1_7 (by first | exact hX9 | exact hX)) ?_
        refine q_getfield eX11_nearest_20 gf_X11_153 (hK _ (by decide) (by decide)) (by decide) (by first | assumption) ?_
        refine q_icmp_ge (tgt := 30) eX11_nearest_23 (by decide) (by first | assumption | exact ⟨by omega, by omega⟩) (by first | assumption | exact ⟨by omega, by omega⟩) (fun c23 => ?_) (fun c23 => ?_)
        · refine q_iconst eX11_nearest_30 ?_
          refine q_need0 rfl eX11_nearest_31 lk_X11_117 (by decide) (by decide) (by decide) ?_
          refine PXR_t (lF := []) (lA := []) ?_ FOff.rfl' Off.rfl' (by decide) (by decide) h
          show (if -1 ≤ i ∧ i < (n : Int) then some (if swE m (n - dg) = 0 then -1 else if i = -1 then (skE m dg (n - dg) mk (nbE n bt) (fun _ => 0) (ws_ m n dg)).1 else (skE m dg (n - dg) mk (nbE n bt) (fun _ => 0) (ws_ m n dg)).2 (i).toNat) else none) = _
          rw [if_neg (by omega)]
        · refine q_iconst eX11_nearest_26 ?_
          refine q_goto (tgt := 31) eX11_nearest_27 (by decide) ?_
          refine q_need1 rfl eX11_nearest_31 lk_X11_117 (by decide) (by decide) (by decide) ?_
          refine q_aload_n eX11_nearest_34 rfl ?_
          refine q_getfield eX11_nearest_35 gf_X11_58 (hK _ (by decide) (by decide)) (by decide) (xf_1_7 (by first | exact hX9 | exact hX)) ?_
          refine q_getfield eX11_nearest_38 gf_X11_286 (hK _ (by decide) (by decide)) (by decide) (by first | assumption) ?_
          refine q_if_ne (tgt := 46) eX11_nearest_41 (by decide) (by exact ⟨by omega, by omega⟩) (fun c41 => ?_) (fun c41 => ?_)
          · refine q_aload_n eX11_nearest_46 rfl ?_
            refine q_getfield eX11_nearest_47 gf_X11_74 (hK _ (by decide) (by decide)) (by decide) (xf_1_9 (by first | exact hX9 | exact hX)) ?_
            refine q_callV [] (M1 := mX3_seek) eX11_nearest_50 mf_X3_seek lk_X11_333 (hK _ (by decide) (by decide)) (ev_seeks hK h c41) (by intro E F A al h; cases h.1) (by decide) (by decide) (by decide) (Nat.le_of_ble_eq_true rfl) (st := []) rfl (fun v9 F9 A9 al9 h9 => ?_)
            obtain ⟨e9, rfl, f9, o9, w9, w7, v39, r39⟩ := h9
            obtain rfl := Sum.inl.inj e9
            have hX9 := hX.foff f9 (by decide)
            have hXI : XI p e r q N m f g lg pl_ len tp fp n set dg mk ck (some bt) S F9 A9 := by
              refine ⟨h.1.pres hX9 (f9.fe (by decide)) (o9.ae (by decide)), h2.pres (o9.ae (by decide)), h.2.2.1.pres (f9.fe (by decide)) (o9.ae (by decide)), h4.pres (f9.fe (by decide)), h.2.2.2.2.1.pres (f9.fe (by decide)) (o9.ae (by decide)), h6.pres (f9.fe (by decide)) (o9.ae (by decide)), ⟨⟨A9 39, fun j hj => ⟨rfl, r39 j hj⟩⟩, ?_, hbt, fun j hj => by rw [o9 37 (by decide)]; exact h37 j hj, fun j hj => by rw [o9 38 (by decide)]; exact h38 j hj, ⟨?_, ?_, ?_⟩, Or.inr ⟨w9, (fun _ => 0), w7, v39⟩⟩, h.2.2.2.2.2.2.2.pres (f9.fe (by decide)) (o9.ae (by decide))⟩
              · rw [f9 36 0 (by decide)]; exact hw
              · rw [f9 36 4 (by decide)]; exact h364.1
              · rw [f9 36 5 (by decide)]; exact h364.2.1
              · rw [f9 36 6 (by decide)]; exact h364.2.2
            refine q_iload_n eX11_nearest_53 rfl ?_
            refine q_iconst eX11_nearest_54 ?_
            refine q_icmp_ne (tgt := 68) eX11_nearest_55 (by decide) (by first | assumption | exact ⟨by omega, by omega⟩) (by first | assumption | exact ⟨by omega, by omega⟩) (fun c55 => ?_) (fun c55 => ?_)
            · obtain ⟨t, rfl⟩ : ∃ t : Nat, i = t := ⟨i.toNat, by omega⟩
              refine q_aload_n eX11_nearest_68 rfl ?_
              refine q_getfield eX11_nearest_69 gf_X11_74 (hK _ (by decide) (by decide)) (by decide) (xf_1_9 (by first | exact hX9 | exact hX)) ?_
              refine q_getfield eX11_nearest_72 gf_X11_339 (hK _ (by decide) (by decide)) (by decide) (xf_36_8 (by first | exact hX9 | exact hX)) ?_
              refine q_iload_n eX11_nearest_75 rfl ?_
              refine q_callSP [vA 39, vI t] (M1 := mX7_at) eX11_nearest_76 mf_X7_at lk_X11_121 (ev_atN (hK _ (by decide) (by decide)) (show t < 63 by omega) (by decide)) (by decide) (by decide) (by decide) (Nat.le_of_ble_eq_true rfl) rfl ?_
              rw [v39 t (by omega)]
              refine q_retI eX11_nearest_79 rfl (by decide) (by decide) ?_
              first
              | (refine PXR_r ?_ f9 o9 (by decide) (by decide) hXI
                 show (if -1 ≤ (t : Int) ∧ (t : Int) < (n : Int) then some (if swE m (n - dg) = 0 then -1 else if (t : Int) = -1 then (skE m dg (n - dg) mk (nbE n bt) (fun _ => 0) (ws_ m n dg)).1 else (skE m dg (n - dg) mk (nbE n bt) (fun _ => 0) (ws_ m n dg)).2 ((t : Int)).toNat) else none) = _
                 rw [if_pos (by omega), if_neg c41, if_neg (by omega)]
                 rfl)
              | (refine PXR_r ?_ f9 o9 (by decide) (by decide) hXI
                 show (if -1 ≤ i ∧ i < (n : Int) then some (if swE m (n - dg) = 0 then -1 else if i = -1 then (skE m dg (n - dg) mk (nbE n bt) (fun _ => 0) (ws_ m n dg)).1 else (skE m dg (n - dg) mk (nbE n bt) (fun _ => 0) (ws_ m n dg)).2 (i).toNat) else none) = _
                 rw [if_pos (by omega), if_neg c41, if_pos (by omega)])
            · refine q_aload_n eX11_nearest_58 rfl ?_
              refine q_getfield eX11_nearest_59 gf_X11_74 (hK _ (by decide) (by decide)) (by decide) (xf_1_9 (by first | exact hX9 | exact hX)) ?_
              refine q_getfield eX11_nearest_62 gf_X11_336 (hK _ (by decide) (by decide)) (by decide) (by first | assumption) ?_
              refine q_goto (tgt := 79) eX11_nearest_65 (by decide) ?_
              refine q_retI eX11_nearest_79 rfl (by decide) (by decide) ?_
              first
              | (refine PXR_r ?_ f9 o9 (by decide) (by decide) hXI
                 show (if -1 ≤ (t : Int) ∧ (t : Int) < (n : Int) then some (if swE m (n - dg) = 0 then -1 else if (t : Int) = -1 then (skE m dg (n - dg) mk (nbE n bt) (fun _ => 0) (ws_ m n dg)).1 else (skE m dg (n - dg) mk (nbE n bt) (fun _ => 0) (ws_ m n dg)).2 ((t : Int)).toNat) else none) = _
                 rw [if_pos (by omega), if_neg c41, if_neg (by omega)]
                 rfl)
              | (refine PXR_r ?_ f9 o9 (by decide) (by decide) hXI
                 show (if -1 ≤ i ∧ i < (n : Int) then some (if swE m (n - dg) = 0 then -1 else if i = -1 then (skE m dg (n - dg) mk (nbE n bt) (fun _ => 0) (ws_ m n dg)).1 else (skE m dg (n - dg) mk (nbE n bt) (fun _ => 0) (ws_ m n dg)).2 (i).toNat) else none) = _
                 rw [if_pos (by omega), if_neg c41, if_pos (by omega)])
          · refine q_iconst eX11_nearest_44 ?_
            refine q_retI eX11_nearest_45 rfl (by decide) (by decide) ?_
            refine PXR_r (lF := []) (lA := []) ?_ FOff.rfl' Off.rfl' (by decide) (by decide) h
            show (if -1 ≤ i ∧ i < (n : Int) then some (if swE m (n - dg) = 0 then -1 else if i = -1 then (skE m dg (n - dg) mk (nbE n bt) (fun _ => 0) (ws_ m n dg)).1 else (skE m dg (n - dg) mk (nbE n bt) (fun _ => 0) (ws_ m n dg)).2 (i).toNat) else none) = _
            rw [if_pos (by omega), if_pos c41]
abbrev wdOk (m : Int) (n : Nat) (tp : Nat → Int) : Prop := ∀ j, j < n → tp j < m
def wrE (m : Int) (n dg len : Nat) (mk tp : Nat → Int) : Option Int := if len < n then none else some (if wdOk m n tp then (if ofE (lfE m n dg mk tp) dg = 0 then 1 else 0) else -1)
set_option maxRecDepth 20000 in
theorem ev_word {p e r q N : Nat} {m : Int} {f : Nat → Int} {g : Int} {lg pl_ tp mk ck : Nat → Int} {len n dg : Nat} {fp set : Int} {w : Option (Nat → Int)} {S : List Int} {F : HF} {A : HA} {al : AL} (hK : KX al) (h : XI p e r q N m f g lg pl_ len tp fp n set dg mk ck w S F A) : QE 7 1 6 mX11_word [vA 1] F A al (PXR eI (wrE m n dg len mk tp) F A al (fun F2 A2 => if len < n then XI p e r q N m f g lg pl_ len tp fp n set dg mk ck w S F2 A2 else if wdOk m n tp then XI p e r q N m f g lg pl_ 0 tp fp n set dg mk ck (some tp) S F2 A2 else XI p e r q N m f g lg pl_ 0 tp fp n set dg mk ck w S F2 A2)) := by
  refine QE.mk (by decide +kernel) (Nat.le_of_ble_eq_true rfl) ?_
  obtain ⟨⟨hX, hT, h3r, hMK⟩, h2, ⟨hl0, hl1, hta⟩, h4, ⟨⟨h51, h52, h53, h54⟩, h5m, h5c, ⟨hn1, hn63, hnq, hs0, hs1⟩, h5e⟩, h6, h7, ⟨⟨h81, h82⟩, h83⟩⟩ := id h
  obtain ⟨hG, hp, he, hq, hN, hg, ⟨hp2, hp7, he1, he4, hme, hqe, hq3, hNm, hgE⟩, hP, hL, hI⟩ := id hT
  obtain ⟨hm, hr, hf, hm2, hr1, hr6, hN4⟩ := id hG
  have hm4 := hG.m4
  have hq2 := hT.q2
  have hN9 : (N : Int) ≤ 4096 := by rw [hNm]; exact hN4
  have hdn : dg ≤ n := by
    have := cy_le (m := m) (r := r) (q := q) (n := n) (f := f) (g := g) (c := (paE p n n).1) (set := set) n
    rw [h5e] at this
    exact this
  have hE : ∀ x : Int, 0 ≤ x ∧ x < (N : Int) → El m r x := fun x h => ⟨h.1, by rw [← hNm]; exact h.2⟩
  have hmk : ∀ i, i ≤ dg → 0 ≤ mk i ∧ mk i < m := by
    have := hMK n set hn1 hn63 hnq hs0 hs1
    rw [h5e] at this
    exact this
  have hsw := sw_range (m := m) (k := n - dg) hm2
  have hwc := ws_cast (m := m) (n := n) (dg := dg) hm2
  have h54' : F 27 4 = vI (ws_ m n dg : Nat) := by rw [hwc]; exact h54
  refine q_aload_n eX11_word_0 rfl ?_
  refine q_getfield eX11_word_1 gf_X11_26 (hK _ (by decide) (by decide)) (by decide) (xf_1_3 (by first | exact hX8 | exact hX9 | exact hX)) ?_
  refine q_getfield eX11_word_4 gf_X11_89 (hK _ (by decide) (by decide)) (by decide) (by first | assumption) ?_
  refine q_aload_n eX11_word_7 rfl ?_
  refine q_getfield eX11_word_8 gf_X11_58 (hK _ (by decide) (by decide)) (by decide) (xf_1_7 (by first | exact hX8 | exact hX9 | exact hX)) ?_
  refine q_getfield eX11_word_11 gf_X11_153 (hK _ (by decide) (by decide)) (by decide) (by first | assumption) ?_
  refine q_icmp_ge (tgt := 25) eX11_word_14 (by decide) (by first | assumption | exact ⟨by omega, by omega⟩) (by first | assumption | exact ⟨by omega, by omega⟩) (fun c14 => ?_) (fun c14 => ?_)
  · refine q_aload_n eX11_word_25 rfl ?_
    refine q_getfield eX11_word_26 gf_X11_26 (hK _ (by decide) (by decide)) (by decide) (xf_1_3 (by first | exact hX8 | exact hX9 | exact hX)) ?_
    refine q_iconst eX11_word_29 ?_
    refine q_putfield eX11_word_30 pf_X11_89 (hK _ (by decide) (by decide)) (by decide) (FT_i rfl) ?_
    have hX9 := hX.up (v := vI 0) (show plainF xrefs 19 0 = true by decide)
    have q203 : up2 F 19 0 (vI 0) 2 3 = vI m := by rw [up2_row (by decide)]; exact hm
    have q272 : up2 F 19 0 (vI 0) 27 2 = vI dg := by rw [up2_row (by decide)]; exact h52
    have q271 : up2 F 19 0 (vI 0) 27 1 = vI n := by rw [up2_row (by decide)]; exact h51
    refine q_aload_n eX11_word_33 rfl ?_
    refine q_getfield eX11_word_34 gf_X11_26 (hK _ (by decide) (by decide)) (by decide) (xf_1_3 (by first | exact hX8 | exact hX9 | exact hX)) ?_
    refine q_aload_n eX11_word_37 rfl ?_
    refine q_getfield eX11_word_38 gf_X11_58 (hK _ (by decide) (by decide)) (by decide) (xf_1_7 (by first | exact hX8 | exact hX9 | exact hX)) ?_
    refine q_getfield eX11_word_41 gf_X11_153 (hK _ (by decide) (by decide)) (by decide) (by first | assumption) ?_
    refine q_aload_n eX11_word_44 rfl ?_
    refine q_getfield eX11_word_45 gf_X11_10 (hK _ (by decide) (by decide)) (by decide) (xf_1_0 (by first | exact hX8 | exact hX9 | exact hX)) ?_
    refine q_getfield eX11_word_48 gf_X11_140 (hK _ (by decide) (by decide)) (by decide) (by first | assumption) ?_
    refine q_callVP [vI n, vI m] (M1 := mX8_isBelow) eX11_word_51 mf_X8_isBelow lk_X11_302 (hK _ (by decide) (by decide)) (ev_isBelow hK hX9 (by omega) (by exact ⟨by omega, by omega⟩) (fun i hi => by have := hta i (by omega); exact ⟨by omega, by omega⟩)) (by decide) (by decide) (by decide) (Nat.le_of_ble_eq_true rfl) rfl ?_
    have hiff : (∀ j, j < n → A 20 j < m) ↔ wdOk m n tp := ⟨fun q j hj => by rw [← (hta j (by omega)).1]; exact q j hj, fun q j hj => by rw [(hta j (by omega)).1]; exact q j hj⟩
    refine q_if_ne (tgt := 59) eX11_word_54 (by decide) ir_ite (fun c54 => ?_) (fun c54 => ?_)
    · have hWD := hiff.mp (i1 c54)
      refine q_aload_n eX11_word_59 rfl ?_
      refine q_getfield eX11_word_60 gf_X11_74 (hK _ (by decide) (by decide)) (by decide) (xf_1_9 (by first | exact hX8 | exact hX9 | exact hX)) ?_
      refine q_aload_n eX11_word_63 rfl ?_
      refine q_getfield eX11_word_64 gf_X11_26 (hK _ (by decide) (by decide)) (by decide) (xf_1_3 (by first | exact hX8 | exact hX9 | exact hX)) ?_
      refine q_getfield eX11_word_67 gf_X11_305 (hK _ (by decide) (by decide)) (by decide) (xf_19_1 (by first | exact hX8 | exact hX9 | exact hX)) ?_
      refine q_callV [vA 20] (M1 := mX3_take) eX11_word_70 mf_X3_take lk_X11_308 (hK _ (by decide) (by decide)) (ev_take (bt := tp) hK hX9 q203 q272 q271 hm2 hm4 hdn hn63 hmk (fun i hi => h5m i (by omega)) (fun j hj => ⟨(hta j (by omega)).1, (hta j (by omega)).2.1, hWD j hj⟩)) (by intro E F A al h; cases h.1) (by decide) (by decide) (by decide) (Nat.le_of_ble_eq_true rfl) (st := []) rfl (fun v9 F9 A9 al9 h9 => ?_)
      obtain ⟨e9, rfl, f9, b0, b9, b1, b4, b5, b6, o9, v37, v38⟩ := h9
      obtain rfl := Sum.inl.inj e9
      have hX8 := hX9.foff f9 (by decide)
      have b1' := b1
      refine q_aload_n eX11_word_73 rfl ?_
      refine q_getfield eX11_word_74 gf_X11_74 (hK _ (by decide) (by decide)) (by decide) (xf_1_9 (by first | exact hX8 | exact hX9 | exact hX)) ?_
      refine q_getfield eX11_word_77 gf_X11_312 (hK _ (by decide) (by decide)) (by decide) (by first | assumption) ?_
      refine q_if_eq (tgt := 87) eX11_word_80 (by decide) (by rcases of_01 (lfE m n dg mk tp) dg with q | q <;> (unfold lfE at q; rw [q]; exact ⟨by decide, by decide⟩)) (fun c80 => ?_) (fun c80 => ?_)
      · refine q_iconst eX11_word_87 ?_
        refine q_retI eX11_word_88 rfl (by decide) (by decide) ?_
        have hC1 : ¬ len < n := by omega
        have f2 : FOff [(19, 0), (36, 0), (36, 1), (36, 4), (36, 5), (36, 6), (36, 9)] F F9 := (FOff.up (by decide)).trans (f9.mono (by decide))
        refine PXR_r ?_ f2 o9 (by decide) (by decide) ?_
        · unfold wrE lfE
          rw [if_neg hC1, if_pos hWD]
          first | rw [if_pos c80] | rw [if_neg c80]
        · rw [if_neg hC1, if_pos hWD]
          refine ⟨h.1.pres hX8 (f2.fe (by decide)) (o9.ae (by decide)), h2.pres (o9.ae (by decide)), ⟨?_, by omega, fun j hj => by rw [o9 20 (by decide)]; exact hta j hj⟩, h4.pres (f2.fe (by decide)), h.2.2.2.2.1.pres (f2.fe (by decide)) (o9.ae (by decide)), h6.pres (f2.fe (by decide)) (o9.ae (by decide)), ⟨?_, b0, fun j hj => ⟨(hta j (by omega)).2.1, hWD j hj⟩, v37, v38, ⟨b4, b5, b6⟩, Or.inl b9⟩, h.2.2.2.2.2.2.2.pres (f2.fe (by decide)) (o9.ae (by decide))⟩
          · rw [f9 19 0 (by decide)]; exact up2_eq _ _ _ _
          · obtain ⟨⟨c0, hc0⟩, -⟩ := h7
            exact ⟨c0, fun j hj => by rw [o9 39 (by decide)]; exact hc0 j hj⟩
      · refine q_iconst eX11_word_83 ?_
        refine q_goto (tgt := 88) eX11_word_84 (by decide) ?_
        refine q_retI eX11_word_88 rfl (by decide) (by decide) ?_
        have hC1 : ¬ len < n := by omega
        have f2 : FOff [(19, 0), (36, 0), (36, 1), (36, 4), (36, 5), (36, 6), (36, 9)] F F9 := (FOff.up (by decide)).trans (f9.mono (by decide))
        refine PXR_r ?_ f2 o9 (by decide) (by decide) ?_
        · unfold wrE lfE
          rw [if_neg hC1, if_pos hWD]
          first | rw [if_pos c80] | rw [if_neg c80]
        · rw [if_neg hC1, if_pos hWD]
          refine ⟨h.1.pres hX8 (f2.fe (by decide)) (o9.ae (by decide)), h2.pres (o9.ae (by decide)), ⟨?_, by omega, fun j hj => by rw [o9 20 (by decide)]; exact hta j hj⟩, h4.pres (f2.fe (by decide)), h.2.2.2.2.1.pres (f2.fe (by decide)) (o9.ae (by decide)), h6.pres (f2.fe (by decide)) (o9.ae (by decide)), ⟨?_, b0, fun j hj => ⟨(hta j (by omega)).2.1, hWD j hj⟩, v37, v38, ⟨b4, b5, b6⟩, Or.inl b9⟩, h.2.2.2.2.2.2.2.pres (f2.fe (by decide)) (o9.ae (by decide))⟩
          · rw [f9 19 0 (by decide)]; exact up2_eq _ _ _ _
          · obtain ⟨⟨c0, hc0⟩, -⟩ := h7
            exact ⟨c0, fun j hj => by rw [o9 39 (by decide)]; exact hc0 j hj⟩
    · refine q_iconst eX11_word_57 ?_
      refine q_retI eX11_word_58 rfl (by decide) (by decide) ?_
      have hC1 : ¬ len < n := by omega
      have hC2 : ¬ wdOk m n tp := fun q => i0 c54 (hiff.mpr q)
      have fU : FOff [(19, 0)] F (up2 F 19 0 (vI 0)) := FOff.up (by decide)
      refine PXR_r (by unfold wrE; rw [if_neg hC1, if_neg hC2]) fU (Off.rfl' (l := [])) (by decide) (by decide) ?_
      rw [if_neg hC1, if_neg hC2]
      exact ⟨h.1.pres hX9 (fU.fe (by decide)) AE.rfl', h2, ⟨up2_eq _ _ _ _, by omega, hta⟩, h4.pres (fU.fe (by decide)), h.2.2.2.2.1.pres (fU.fe (by decide)) AE.rfl', h6.pres (fU.fe (by decide)) AE.rfl', h7.pres (fU.fe (by decide)) AE.rfl', h.2.2.2.2.2.2.2.pres (fU.fe (by decide)) AE.rfl'⟩
  · refine q_throw0 rfl rfl (by decide +kernel) cl_i in_i th_i th_ot_i (by decide) eX11_word_17 eX11_word_20 eX11_word_21 eX11_word_24 (by decide) (by decide) (by decide) ?_
    refine PXR_t (lF := []) (lA := []) ?_ FOff.rfl' Off.rfl' (by decide) (by decide) ?_
    · unfold wrE
      rw [if_pos (by omega)]
    · rw [if_pos (by omega)]
      exact h
