/-! RootedRing: calls that change what stands -/
/-- a call that changes: the answer, what stays outside of the class, what holds behind it -/
def PXR (E : String) (R : Option Int) (F : HF) (A : HA) (al : AL) (Q : HF → HA → Prop) : PO := fun o F' A' al' => o = lo E R ∧ al' = al ∧ (∀ b k, 44 ≤ b → F' b k = F b k) ∧ (∀ b, b = 0 ∨ 44 ≤ b → A' b = A b) ∧ Q F' A'
theorem FOff.hi {l : List (Nat × Nat)} {F F' : HF} (h : FOff l F F') (hl : (l.all fun q => decide (q.1 < 44)) = true) : ∀ b k, 44 ≤ b → F' b k = F b k := by
  intro b k hb
  refine h b k (fun hm => ?_)
  have := List.all_eq_true.mp hl _ hm
  rw [decide_eq_true_eq] at this
  have h2 : b < 44 := this
  omega
theorem Off.hi {l : List Nat} {A A' : HA} (h : Off l A A') (hl : (l.all fun q => decide (q < 44 ∧ q ≠ 0)) = true) : ∀ b, b = 0 ∨ 44 ≤ b → A' b = A b := by
  intro b hb
  refine h b (fun hm => ?_)
  have := List.all_eq_true.mp hl _ hm
  rw [decide_eq_true_eq] at this
  omega
theorem PXR_r {E : String} {R : Option Int} {a : Int} {lF : List (Nat × Nat)} {lA : List Nat} {F F' : HF} {A A' : HA} {al : AL} {Q : HF → HA → Prop} (h : R = some a) (hF : FOff lF F F') (hA : Off lA A A') (h1 : (lF.all fun q => decide (q.1 < 44)) = true) (h2 : (lA.all fun q => decide (q < 44 ∧ q ≠ 0)) = true) (hQ : Q F' A') : PXR E R F A al Q (.inl (some a)) F' A' al := ⟨by rw [h]; rfl, rfl, hF.hi h1, hA.hi h2, hQ⟩
theorem PXR_t {E : String} {R : Option Int} {lF : List (Nat × Nat)} {lA : List Nat} {F F' : HF} {A A' : HA} {al : AL} {Q : HF → HA → Prop} (h : R = none) (hF : FOff lF F F') (hA : Off lA A A') (h1 : (lF.all fun q => decide (q.1 < 44)) = true) (h2 : (lA.all fun q => decide (q < 44 ∧ q ≠ 0)) = true) (hQ : Q F' A') : PXR E R F A al Q (.inr E) F' A' al := ⟨by rw [h]; rfl, rfl, hF.hi h1, hA.hi h2, hQ⟩
theorem XI.off {p e r q N : Nat} {m : Int} {f : Nat → Int} {g : Int} {lg pl_ : Nat → Int} {len : Nat} {tp : Nat → Int} {fp : Int} {n : Nat} {set : Int} {dg : Nat} {mk ck : Nat → Int} {w : Option (Nat → Int)} {S : List Int} {F F' : HF} {A A' : HA} {lF : List (Nat × Nat)} {lA : List Nat}
    (h : XI p e r q N m f g lg pl_ len tp fp n set dg mk ck w S F A) (hX : XF F') (hF : FOff lF F F') (hA : Off lA A A') (h1 : ((L1F ++ L4F ++ L5F ++ L7F ++ [(19, 0), (30, 0), (21, 0)]).all fun q => !(lF.contains q)) = true) (h2 : ((L1A ++ [17, 20, 28, 29, 31, 32, 37, 38, 39, 22]).all fun q => !(lA.contains q)) = true) :
    XI p e r q N m f g lg pl_ len tp fp n set dg mk ck w S F' A' := by
  have gF : FE (L1F ++ L4F ++ L5F ++ L7F ++ [(19, 0), (30, 0), (21, 0)]) F F' := hF.fe h1
  have gA : AE (L1A ++ [17, 20, 28, 29, 31, 32, 37, 38, 39, 22]) A A' := hA.ae h2
  obtain ⟨a1, a2, a3, a4, a5, a6, a7, a8⟩ := h
  exact ⟨a1.pres hX (fun q hq => gF q (by simp [hq])) (fun q hq => gA q (by simp [hq])), a2.pres (fun q hq => gA q (by simp at hq; simp [hq])), a3.pres (fun q hq => gF q (by simp at hq; simp [hq])) (fun q hq => gA q (by simp at hq; simp [hq])), a4.pres (fun q hq => gF q (by simp [hq])),
    a5.pres (fun q hq => gF q (by simp [hq])) (fun q hq => gA q (by simp at hq; rcases hq with rfl | rfl <;> simp)), a6.pres (fun q hq => gF q (by simp at hq; simp [hq])) (fun q hq => gA q (by simp at hq; rcases hq with rfl | rfl <;> simp)), a7.pres (fun q hq => gF q (by simp [hq])) (fun q hq => gA q (by simp at hq; rcases hq with rfl | rfl | rfl <;> simp)), a8.pres (fun q hq => gF q (by simp at hq; simp [hq])) (fun q hq => gA q (by simp at hq; simp [hq]))⟩
theorem say_len {m x : Int} : (sayE m x).length ≤ 200 := by
  unfold sayE
  split
  · simp
  · have := sp_len (c := fun i => dg m i x) 6 []
    simp at this
    omega
set_option maxRecDepth 20000 in
theorem ev_put {i x : Int} {p e r q N : Nat} {m : Int} {f : Nat → Int} {g : Int} {lg pl_ tp mk ck : Nat → Int} {len n dg : Nat} {fp set : Int} {w : Option (Nat → Int)} {S : List Int} {F : HF} {A : HA} {al : AL} (hK : KX al) (h : XI p e r q N m f g lg pl_ len tp fp n set dg mk ck w S F A) (hi : InR i) (hx : InR x) : QE 7 1 6 mX11_put [vA 1, vI i, vI x] F A al (PXR eN (if (0 ≤ i ∧ i < 8) ∧ 0 ≤ x ∧ x < (N : Int) then some (pl_ i.toNat) else none) F A al (fun F2 A2 => XI p e r q N m f g lg (if (0 ≤ i ∧ i < 8) ∧ 0 ≤ x ∧ x < (N : Int) then upc pl_ i.toNat x else pl_) len tp fp n set dg mk ck w S F2 A2)) := by
  refine QE.mk (by decide +kernel) (Nat.le_of_ble_eq_true rfl) ?_
  have hi_1 := hi.1
  have hi_2 := hi.2
  have hx_1 := hx.1
  have hx_2 := hx.2
  obtain ⟨⟨hX, hT, h3r, hMK⟩, h2, ⟨hl0, hl1, hta⟩, h4, ⟨⟨h51, h52, h53, h54⟩, h5m, h5c, ⟨hn1, hn63, hnq, hs0, hs1⟩, h5e⟩, h6, h7, ⟨⟨h81, h82⟩, h83⟩⟩ := id h
  obtain ⟨hG, hp, he, hq, hN, hg, ⟨hp2, hp7, he1, he4, hme, hqe, hq3, hNm, hgE⟩, hP, hL, hI⟩ := id hT
  obtain ⟨hm, hr, hf, hm2, hr1, hr6, hN4⟩ := id hG
  have hm4 := hG.m4
  have hq2 := hT.q2
  have hN9 : (N : Int) ≤ 4096 := by rw [hNm]; exact hN4
  have hdn : dg ≤ n := by
    have := cy_le (m := m) (r := r) (q := q) (n := n) (f := f) (g := g) (c := (paE p n n).1) (set := set) n
    rw [h5e] at this
    exact this
  have hE : ∀ x : Int, 0 ≤ x ∧ x < (N : Int) → El m r x := fun x h => ⟨h.1, by rw [← hNm]; exact h.2⟩
  refine q_iload_n eX11_put_0 rfl ?_
  refine q_if_lt (tgt := 25) eX11_put_1 (by decide) (by first | assumption | exact ⟨by omega, by omega⟩) (fun c1 => ?_) (fun c1 => ?_)
  · refine q_iconst eX11_put_25 ?_
    refine q_need0 rfl eX11_put_26 lk_X11_117 (by decide) (by decide) (by decide) ?_
    have hC : ¬ ((0 ≤ i ∧ i < 8) ∧ 0 ≤ x ∧ x < (N : Int)) := by first | exact fun hc => i0 c18 hc.2 | (rintro ⟨⟨q1, q2⟩, -⟩; omega)
    refine PXR_t (lF := []) (lA := []) (by rw [if_neg hC]) FOff.rfl' Off.rfl' (by decide) (by decide) ?_
    rw [if_neg hC]
    exact h
  · refine q_iload_n eX11_put_4 rfl ?_
    refine q_bipush eX11_put_5 (by decide +kernel) ?_
    refine q_icmp_ge (tgt := 25) eX11_put_7 (by decide) (by first | assumption | exact ⟨by omega, by omega⟩) (by first | assumption | exact ⟨by omega, by omega⟩) (fun c7 => ?_) (fun c7 => ?_)
    · refine q_iconst eX11_put_25 ?_
      refine q_need0 rfl eX11_put_26 lk_X11_117 (by decide) (by decide) (by decide) ?_
      have hC : ¬ ((0 ≤ i ∧ i < 8) ∧ 0 ≤ x ∧ x < (N : Int)) := by first | exact fun hc => i0 c18 hc.2 | (rintro ⟨⟨q1, q2⟩, -⟩; omega)
      refine PXR_t (lF := []) (lA := []) (by rw [if_neg hC]) FOff.rfl' Off.rfl' (by decide) (by decide) ?_
      rw [if_neg hC]
      exact h
    · refine q_aload_n eX11_put_10 rfl ?_
      refine q_getfield eX11_put_11 gf_X11_10 (hK _ (by decide) (by decide)) (by decide) (xf_1_0 hX) ?_
      refine q_iload_n eX11_put_14 rfl ?_
      refine q_callVP [vI x] (M1 := mX2_has) eX11_put_15 mf_X2_has lk_X11_113 (hK _ (by decide) (by decide)) (ev_has hK hN (by exact ⟨by omega, by omega⟩) hx) (by decide) (by decide) (by decide) (Nat.le_of_ble_eq_true rfl) rfl ?_
      refine q_if_eq (tgt := 25) eX11_put_18 (by decide) ir_ite (fun c18 => ?_) (fun c18 => ?_)
      · refine q_iconst eX11_put_25 ?_
        refine q_need0 rfl eX11_put_26 lk_X11_117 (by decide) (by decide) (by decide) ?_
        have hC : ¬ ((0 ≤ i ∧ i < 8) ∧ 0 ≤ x ∧ x < (N : Int)) := by first | exact fun hc => i0 c18 hc.2 | (rintro ⟨⟨q1, q2⟩, -⟩; omega)
        refine PXR_t (lF := []) (lA := []) (by rw [if_neg hC]) FOff.rfl' Off.rfl' (by decide) (by decide) ?_
        rw [if_neg hC]
        exact h
      · refine q_iconst eX11_put_21 ?_
        refine q_goto (tgt := 26) eX11_put_22 (by decide) ?_
        refine q_need1 rfl eX11_put_26 lk_X11_117 (by decide) (by decide) (by decide) ?_
        obtain ⟨t, rfl⟩ : ∃ t : Nat, i = t := ⟨i.toNat, by omega⟩
        refine q_aload_n eX11_put_29 rfl ?_
        refine q_getfield eX11_put_30 gf_X11_16 (hK _ (by decide) (by decide)) (by decide) (xf_1_1 hX) ?_
        refine q_iload_n eX11_put_33 rfl ?_
        refine q_callSP [vA 17, vI t] (M1 := mX7_at) eX11_put_34 mf_X7_at lk_X11_121 (ev_atN (hK _ (by decide) (by decide)) (show t < 8 by omega) (by decide)) (by decide) (by decide) (by decide) (Nat.le_of_ble_eq_true rfl) rfl ?_
        rw [(h2 t (by omega)).1]
        refine q_istore_n eX11_put_37 (by decide) rfl ?_
        refine q_aload_n eX11_put_38 rfl ?_
        refine q_getfield eX11_put_39 gf_X11_16 (hK _ (by decide) (by decide)) (by decide) (xf_1_1 hX) ?_
        refine q_iload_n eX11_put_42 rfl ?_
        refine q_iload_n eX11_put_43 rfl ?_
        refine q_callSV [vA 17, vI t, vI x] (M1 := mX7_set) eX11_put_44 mf_X7_set lk_X11_127 (ev_setN (hK _ (by decide) (by decide)) (show t < 8 by omega) (by decide)) (by decide) (by decide) (by decide) (Nat.le_of_ble_eq_true rfl) rfl (fun A3 h3 => ?_)
        subst h3
        refine q_iload_n eX11_put_47 rfl ?_
        refine q_retI eX11_put_48 rfl (by decide) (by decide) ?_
        have hx8 := i1 c18
        have hC : (0 ≤ (t : Int) ∧ (t : Int) < 8) ∧ 0 ≤ x ∧ x < (N : Int) := ⟨by omega, hx8⟩
        refine PXR_r (lF := []) (lA := [17]) (by rw [if_pos hC]; rfl) FOff.rfl' (Off.up (by simp)) (by decide) (by decide) ?_
        have hoA : Off [17] A (up2 A 17 t x) := Off.up (by simp)
        refine ⟨h.1.pres hX FE.rfl' (hoA.ae (by decide)), fun j hj => ?_, h.2.2.1.pres FE.rfl' (hoA.ae (by decide)), h4, h.2.2.2.2.1.pres FE.rfl' (hoA.ae (by decide)), h6.pres FE.rfl' (hoA.ae (by decide)), h7.pres FE.rfl' (hoA.ae (by decide)), h.2.2.2.2.2.2.2.pres FE.rfl' (hoA.ae (by decide))⟩
        rw [up2_at]
        show _ = (if (0 ≤ (t : Int) ∧ (t : Int) < 8) ∧ 0 ≤ x ∧ x < (N : Int) then upc pl_ t x else pl_) j ∧ El m r ((if (0 ≤ (t : Int) ∧ (t : Int) < 8) ∧ 0 ≤ x ∧ x < (N : Int) then upc pl_ t x else pl_) j)
        rw [if_pos hC]
        unfold upc
        by_cases hjt : j = t
        · rw [if_pos hjt, if_pos hjt]; exact ⟨rfl, hE x hx8⟩
        · rw [if_neg hjt, if_neg hjt]; exact h2 j hj
set_option maxRecDepth 20000 in
theorem ev_saySay {x : Int} {p e r q N : Nat} {m : Int} {f : Nat → Int} {g : Int} {lg pl_ tp mk ck : Nat → Int} {len n dg : Nat} {fp set : Int} {w : Option (Nat → Int)} {S : List Int} {F : HF} {A : HA} {al : AL} (hK : KX al) (h : XI p e r q N m f g lg pl_ len tp fp n set dg mk ck w S F A) (hx : InR x) : QE 7 1 6 mX11_say [vA 1, vI x] F A al (PXR eN (if 0 ≤ x ∧ x < (N : Int) then some (sayE m x).length else none) F A al (fun F2 A2 => XI p e r q N m f g lg pl_ len tp fp n set dg mk ck w (if 0 ≤ x ∧ x < (N : Int) then sayE m x else S) F2 A2)) := by
  refine QE.mk (by decide +kernel) (Nat.le_of_ble_eq_true rfl) ?_
  have hx_1 := hx.1
  have hx_2 := hx.2
  obtain ⟨⟨hX, hT, h3r, hMK⟩, h2, ⟨hl0, hl1, hta⟩, h4, ⟨⟨h51, h52, h53, h54⟩, h5m, h5c, ⟨hn1, hn63, hnq, hs0, hs1⟩, h5e⟩, h6, h7, ⟨⟨h81, h82⟩, h83⟩⟩ := id h
  obtain ⟨hG, hp, he, hq, hN, hg, ⟨hp2, hp7, he1, he4, hme, hqe, hq3, hNm, hgE⟩, hP, hL, hI⟩ := id hT
  obtain ⟨hm, hr, hf, hm2, hr1, hr6, hN4⟩ := id hG
  have hm4 := hG.m4
  have hq2 := hT.q2
  have hN9 : (N : Int) ≤ 4096 := by rw [hNm]; exact hN4
  have hdn : dg ≤ n := by
    have := cy_le (m := m) (r := r) (q := q) (n := n) (f := f) (g := g) (c := (paE p n n).1) (set := set) n
    rw [h5e] at this
    exact this
  have hE : ∀ x : Int, 0 ≤ x ∧ x < (N : Int) → El m r x := fun x h => ⟨h.1, by rw [← hNm]; exact h.2⟩
  refine q_aload_n eX11_say_0 rfl ?_
  refine q_getfield eX11_say_1 gf_X11_10 (hK _ (by decide) (by decide)) (by decide) (xf_1_0 (by first | exact hX9 | exact hX)) ?_
  refine q_iload_n eX11_say_4 rfl ?_
  refine q_callVP [vI x] (M1 := mX2_has) eX11_say_5 mf_X2_has lk_X11_113 (hK _ (by decide) (by decide)) (ev_has hK hN (by exact ⟨by omega, by omega⟩) hx) (by decide) (by decide) (by decide) (Nat.le_of_ble_eq_true rfl) rfl ?_
  refine q_need rfl eX11_say_8 lk_X11_117 (by decide) (by decide) (by decide) ir_ite (fun n8 => ?_) (fun n8 => ?_)
  · have hC := i0 n8
    refine PXR_t (lF := []) (lA := []) (by rw [if_neg hC]) FOff.rfl' Off.rfl' (by decide) (by decide) ?_
    rw [if_neg hC]
    exact h
  · have hx8 := i1 n8
    refine q_aload_n eX11_say_11 rfl ?_
    refine q_getfield eX11_say_12 gf_X11_33 (hK _ (by decide) (by decide)) (by decide) (xf_1_5 (by first | exact hX9 | exact hX)) ?_
    refine q_aload_n eX11_say_15 rfl ?_
    refine q_getfield eX11_say_16 gf_X11_10 (hK _ (by decide) (by decide)) (by decide) (xf_1_0 (by first | exact hX9 | exact hX)) ?_
    refine q_iload_n eX11_say_19 rfl ?_
    refine q_callV [vA 2, vI x] (M1 := mX6_write) eX11_say_20 mf_X6_write lk_X11_342 (hK _ (by decide) (by decide)) (ev_write hK hX hm hm2 hm4 hx8.1 (by omega)) nt_PSW (by decide) (by decide) (by decide) (Nat.le_of_ble_eq_true rfl) (st := []) rfl (fun v9 F9 A9 al9 h9 => ?_)
    obtain ⟨e9, rfl, f9, o9, s9⟩ := h9
    obtain rfl := Sum.inl.inj e9
    have hX9 := hX.foff f9 (by decide)
    have hs9 := s9.1
    refine q_aload_n eX11_say_23 rfl ?_
    refine q_getfield eX11_say_24 gf_X11_33 (hK _ (by decide) (by decide)) (by decide) (xf_1_5 (by first | exact hX9 | exact hX)) ?_
    refine q_getfield eX11_say_27 gf_X11_346 (hK _ (by decide) (by decide)) (by decide) (by first | assumption) ?_
    refine q_retI eX11_say_30 rfl (by decide) (by decide) ?_
    refine PXR_r (lF := [(21, 0)]) (lA := [22, 23]) (by rw [if_pos hx8]) f9 o9 (by decide) (by decide) ?_
    rw [if_pos hx8]
    exact ⟨h.1.pres hX9 (f9.fe (by decide)) (o9.ae (by decide)), h2.pres (o9.ae (by decide)), h.2.2.1.pres (f9.fe (by decide)) (o9.ae (by decide)), h4.pres (f9.fe (by decide)), h.2.2.2.2.1.pres (f9.fe (by decide)) (o9.ae (by decide)), h6.pres (f9.fe (by decide)) (o9.ae (by decide)), h7.pres (f9.fe (by decide)) (o9.ae (by decide)), s9, say_len⟩
def ap4 (tp : Nat → Int) (len : Nat) (v : Int) : Nat → Int := fun j => if len ≤ j ∧ j < len + 4 then byE v (j - len) else tp j
theorem byE_range (v : Int) (j : Nat) : 0 ≤ byE v j ∧ byE v j < 256 := ⟨Int.emod_nonneg _ (by decide), Int.emod_lt_of_pos _ (by decide)⟩
theorem ap_TA {tp : Nat → Int} {len : Nat} {v : Int} {A A' : HA} (h : TA tp A) (h1 : ∀ i, i < 4 → A' 20 (len + i) = byE v i) (h2 : ∀ i, i < len ∨ len + 4 ≤ i → A' 20 i = A 20 i) : TA (ap4 tp len v) A' := by
  intro j hj
  unfold ap4
  by_cases hc : len ≤ j ∧ j < len + 4
  · rw [if_pos hc]
    have := h1 (j - len) (by omega)
    rw [show len + (j - len) = j by omega] at this
    exact ⟨this, byE_range v _⟩
  · rw [if_neg hc, h2 j (by omega)]
    exact h j hj
def fdE (tp : Nat → Int) (len : Nat) (a b c d e : Int) : Nat → Int := ap4 (ap4 (ap4 (ap4 (ap4 tp len a) (len + 4) b) (len + 4 + 4) c) (len + 4 + 4 + 4) d) (len + 4 + 4 + 4 + 4) e
set_option maxRecDepth 20000 in
theorem ev_feed {va vb vc vd ve : Int} {p e r q N : Nat} {m : Int} {f : Nat → Int} {g : Int} {lg pl_ tp mk ck : Nat → Int} {len n dg : Nat} {fp set : Int} {w : Option (Nat → Int)} {S : List Int} {F : HF} {A : HA} {al : AL} (hK : KX al) (h : XI p e r q N m f g lg pl_ len tp fp n set dg mk ck w S F A) (hva : InR va) (hvb : InR vb) (hvc : InR vc) (hvd : InR vd) (hve : InR ve) : QE 2 1 6 mX11_feed [vA 1, vI va, vI vb, vI vc, vI vd, vI ve] F A al (PXR eN (some (if len ≤ 180 then ((len + 20 : Nat) : Int) else -1)) F A al (fun F2 A2 => XI p e r q N m f g lg pl_ (if len ≤ 180 then len + 20 else len) (if len ≤ 180 then fdE tp len va vb vc vd ve else tp) fp n set dg mk ck w S F2 A2)) := by
  refine QE.mk (by decide +kernel) (Nat.le_of_ble_eq_true rfl) ?_
  have hva_1 := hva.1
  have hva_2 := hva.2
  have hvb_1 := hvb.1
  have hvb_2 := hvb.2
  have hvc_1 := hvc.1
  have hvc_2 := hvc.2
  have hvd_1 := hvd.1
  have hvd_2 := hvd.2
  have hve_1 := hve.1
  have hve_2 := hve.2
  obtain ⟨⟨hX, hT, h3r, hMK⟩, h2, ⟨hl0, hl1, hta⟩, h4, ⟨⟨h51, h52, h53, h54⟩, h5m, h5c, ⟨hn1, hn63, hnq, hs0, hs1⟩, h5e⟩, h6, h7, ⟨⟨h81, h82⟩, h83⟩⟩ := id h
  obtain ⟨hG, hp, he, hq, hN, hg, ⟨hp2, hp7, he1, he4, hme, hqe, hq3, hNm, hgE⟩, hP, hL, hI⟩ := id hT
  obtain ⟨hm, hr, hf, hm2, hr1, hr6, hN4⟩ := id hG
  have hm4 := hG.m4
  have hq2 := hT.q2
  have hN9 : (N : Int) ≤ 4096 := by rw [hNm]; exact hN4
  have hdn : dg ≤ n := by
    have := cy_le (m := m) (r := r) (q := q) (n := n) (f := f) (g := g) (c := (paE p n n).1) (set := set) n
    rw [h5e] at this
    exact this
  have hE : ∀ x : Int, 0 ≤ x ∧ x < (N : Int) → El m r x := fun x h => ⟨h.1, by rw [← hNm]; exact h.2⟩
  refine q_aload_n eX11_feed_0 rfl ?_
  refine q_getfield eX11_feed_1 gf_X11_26 (hK _ (by decide) (by decide)) (by decide) (xf_1_3 (by first | exact hX5 | exact hX4 | exact hX3 | exact hX2 | exact hX1 | exact hX)) ?_
  refine q_getfield eX11_feed_4 gf_X11_89 (hK _ (by decide) (by decide)) (by decide) (by first | assumption) ?_
  refine q_bipush eX11_feed_7 (by decide +kernel) ?_
  refine q_iadd eX11_feed_9 ?_
  refine q_sipush eX11_feed_10 (by decide +kernel) ?_
  refine q_icmp_le (tgt := 18) eX11_feed_13 (by decide) (by first | assumption | exact ⟨by omega, by omega⟩) (by first | assumption | exact ⟨by omega, by omega⟩) (fun c13 => ?_) (fun c13 => ?_)
  · refine q_aload_n eX11_feed_18 rfl ?_
    refine q_getfield eX11_feed_19 gf_X11_26 (hK _ (by decide) (by decide)) (by decide) (xf_1_3 (by first | exact hX5 | exact hX4 | exact hX3 | exact hX2 | exact hX1 | exact hX)) ?_
    refine q_iload_n eX11_feed_22 rfl ?_
    refine q_callV [vI va] (M1 := mX8_append) eX11_feed_23 mf_X8_append lk_X11_92 (hK _ (by decide) (by decide)) (ev_append hK hX hva (show len + 4 ≤ 200 by omega) hl0) (by intro E F A al h; cases h.1) (by decide) (by decide) (by decide) (Nat.le_of_ble_eq_true rfl) (st := []) rfl (fun v9 F9 A9 al9 h9 => ?_)
    obtain ⟨e9, rfl, rfl, o1, a9, b9⟩ := h9
    obtain rfl := Sum.inl.inj e9
    have t1 := ap_TA hta a9 b9
    clear a9 b9
    have hX1 := hX.up (v := vI (len + 4 : Nat)) (show plainF xrefs 19 0 = true by decide)
    refine q_aload_n eX11_feed_26 rfl ?_
    refine q_getfield eX11_feed_27 gf_X11_26 (hK _ (by decide) (by decide)) (by decide) (xf_1_3 (by first | exact hX5 | exact hX4 | exact hX3 | exact hX2 | exact hX1 | exact hX)) ?_
    refine q_iload_n eX11_feed_30 rfl ?_
    refine q_callV [vI vb] (M1 := mX8_append) eX11_feed_31 mf_X8_append lk_X11_92 (hK _ (by decide) (by decide)) (ev_append hK hX1 hvb (show (len + 4) + 4 ≤ 200 by omega) (up2_eq _ _ _ _)) (by intro E F A al h; cases h.1) (by decide) (by decide) (by decide) (Nat.le_of_ble_eq_true rfl) (st := []) rfl (fun v9 F9 A9 al9 h9 => ?_)
    obtain ⟨e9, rfl, rfl, o2, a9, b9⟩ := h9
    obtain rfl := Sum.inl.inj e9
    have t2 := ap_TA t1 a9 b9
    clear a9 b9
    have hX2 := hX1.up (v := vI ((len + 4) + 4 : Nat)) (show plainF xrefs 19 0 = true by decide)
    rw [up2_up2] at hX2
    rw [up2_up2]
    refine q_aload_n eX11_feed_34 rfl ?_
    refine q_getfield eX11_feed_35 gf_X11_26 (hK _ (by decide) (by decide)) (by decide) (xf_1_3 (by first | exact hX5 | exact hX4 | exact hX3 | exact hX2 | exact hX1 | exact hX)) ?_
    refine q_iload_n eX11_feed_38 rfl ?_
    refine q_callV [vI vc] (M1 := mX8_append) eX11_feed_39 mf_X8_append lk_X11_92 (hK _ (by decide) (by decide)) (ev_append hK hX2 hvc (show (len + 4 + 4) + 4 ≤ 200 by omega) (up2_eq _ _ _ _)) (by intro E F A al h; cases h.1) (by decide) (by decide) (by decide) (Nat.le_of_ble_eq_true rfl) (st := []) rfl (fun v9 F9 A9 al9 h9 => ?_)
    obtain ⟨e9, rfl, rfl, o3, a9, b9⟩ := h9
    obtain rfl := Sum.inl.inj e9
    have t3 := ap_TA t2 a9 b9
    clear a9 b9
    have hX3 := hX2.up (v := vI ((len + 4 + 4) + 4 : Nat)) (show plainF xrefs 19 0 = true by decide)
    rw [up2_up2] at hX3
    rw [up2_up2]
    refine q_aload_n eX11_feed_42 rfl ?_
    refine q_getfield eX11_feed_43 gf_X11_26 (hK _ (by decide) (by decide)) (by decide) (xf_1_3 (by first | exact hX5 | exact hX4 | exact hX3 | exact hX2 | exact hX1 | exact hX)) ?_
    refine q_iload eX11_feed_46 rfl ?_
    refine q_callV [vI vd] (M1 := mX8_append) eX11_feed_48 mf_X8_append lk_X11_92 (hK _ (by decide) (by decide)) (ev_append hK hX3 hvd (show (len + 4 + 4 + 4) + 4 ≤ 200 by omega) (up2_eq _ _ _ _)) (by intro E F A al h; cases h.1) (by decide) (by decide) (by decide) (Nat.le_of_ble_eq_true rfl) (st := []) rfl (fun v9 F9 A9 al9 h9 => ?_)
    obtain ⟨e9, rfl, rfl, o4, a9, b9⟩ := h9
    obtain rfl := Sum.inl.inj e9
    have t4 := ap_TA t3 a9 b9
    clear a9 b9
    have hX4 := hX3.up (v := vI ((len + 4 + 4 + 4) + 4 : Nat)) (show plainF xrefs 19 0 = true by decide)
    rw [up2_up2] at hX4
    rw [up2_up2]
    refine q_aload_n eX11_feed_51 rfl ?_
    refine q_getfield eX11_feed_52 gf_X11_26 (hK _ (by decide) (by decide)) (by decide) (xf_1_3 (by first | exact hX5 | exact hX4 | exact hX3 | exact hX2 | exact hX1 | exact hX)) ?_
    refine q_iload eX11_feed_55 rfl ?_
    refine q_callV [vI ve] (M1 := mX8_append) eX11_feed_57 mf_X8_append lk_X11_92 (hK _ (by decide) (by decide)) (ev_append hK hX4 hve (show (len + 4 + 4 + 4 + 4) + 4 ≤ 200 by omega) (up2_eq _ _ _ _)) (by intro E F A al h; cases h.1) (by decide) (by decide) (by decide) (Nat.le_of_ble_eq_true rfl) (st := []) rfl (fun v9 F9 A9 al9 h9 => ?_)
    obtain ⟨e9, rfl, rfl, o5, a9, b9⟩ := h9
    obtain rfl := Sum.inl.inj e9
    have t5 := ap_TA t4 a9 b9
    clear a9 b9
    have hX5 := hX4.up (v := vI ((len + 4 + 4 + 4 + 4) + 4 : Nat)) (show plainF xrefs 19 0 = true by decide)
    rw [up2_up2] at hX5
    rw [up2_up2]
    refine q_aload_n eX11_feed_60 rfl ?_
    refine q_getfield eX11_feed_61 gf_X11_26 (hK _ (by decide) (by decide)) (by decide) (xf_1_3 (by first | exact hX5 | exact hX4 | exact hX3 | exact hX2 | exact hX1 | exact hX)) ?_
    refine q_getfield eX11_feed_64 gf_X11_89 (hK _ (by decide) (by decide)) (by decide) (up2_eq _ _ _ _) ?_
    refine q_retI eX11_feed_67 rfl (by decide) (by decide) ?_
    have hl8 : len ≤ 180 := by omega
    have oA : Off [20] A A9 := (((o1.trans o2).trans o3).trans o4).trans o5
    have oF : FOff [(19, 0)] F (up2 F 19 0 (vI (len + 4 + 4 + 4 + 4 + 4 : Nat))) := FOff.up (by decide)
    refine PXR_r (lF := [(19, 0)]) (lA := [20]) (by rw [if_pos hl8]) oF oA (by decide) (by decide) ?_
    rw [if_pos hl8, if_pos hl8]
    exact ⟨h.1.pres hX5 (oF.fe (by decide)) (oA.ae (by decide)), h2.pres (oA.ae (by decide)), ⟨up2_eq _ _ _ _, by omega, t5⟩, h4.pres (oF.fe (by decide)), h.2.2.2.2.1.pres (oF.fe (by decide)) (oA.ae (by decide)), h6.pres (oF.fe (by decide)) (oA.ae (by decide)), h7.pres (oF.fe (by decide)) (oA.ae (by decide)), h.2.2.2.2.2.2.2.pres (oF.fe (by decide)) (oA.ae (by decide))⟩
  · refine q_iconst eX11_feed_16 ?_
    refine q_retI eX11_feed_17 rfl (by decide) (by decide) ?_
    refine PXR_r (lF := []) (lA := []) (by rw [if_neg (show ¬ len ≤ 180 by omega)]) FOff.rfl' Off.rfl' (by decide) (by decide) ?_
    rw [if_neg (show ¬ len ≤ 180 by omega), if_neg (show ¬ len ≤ 180 by omega)]
    exact h
