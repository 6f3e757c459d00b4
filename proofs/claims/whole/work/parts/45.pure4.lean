/-! RootedRing: roots, zeros, within -/
theorem nth_yes {P : Nat → Bool} {y : Nat} (h : P y = true) (j : Nat) : nth P (y + 1) j = if j = ctn P y then (y : Int) else nth P y j := by
  show (if P y = true ∧ ctn P y = j then (y : Int) else nth P y j) = _
  by_cases hj : j = ctn P y
  · rw [if_pos ⟨h, hj.symm⟩, if_pos hj]
  · rw [if_neg (fun hc => hj hc.2.symm), if_neg hj]
theorem nth_no {P : Nat → Bool} {y : Nat} (h : ¬ P y = true) (j : Nat) : nth P (y + 1) j = nth P y j := by
  rw [nth, if_neg (fun hc => h hc.1)]
/-- the found ones so far -/
def FD (P : Nat → Bool) (y : Nat) (A : HA) : Prop := ∀ j, j < ctn P y → A 18 j = nth P y j
theorem FD.no {P : Nat → Bool} {y : Nat} {A A' : HA} (h : FD P y A) (hp : ¬ P y = true) (hA : A' 18 = A 18) : FD P (y + 1) A' := by
  intro j hj
  rw [ctn_no hp] at hj
  rw [nth_no hp, hA]
  exact h j hj
theorem FD.yes {P : Nat → Bool} {y : Nat} {A A' : HA} (h : FD P y A) (hp : P y = true) (hA : A' 18 = A 18) : FD P (y + 1) (up2 A' 18 (ctn P y) y) := by
  intro j hj
  rw [ctn_yes hp] at hj
  rw [nth_yes hp, up2_at]
  by_cases hj2 : j = ctn P y
  · rw [if_pos hj2, if_pos hj2]
  · rw [if_neg hj2, if_neg hj2, hA]
    exact h j (by omega)
theorem mr_ir {p r q : Nat} {m : Int} {lg : Nat → Int} {y n x : Int} : InR (mrE p r q m lg y n x) := by
  unfold mrE
  exact ir_ite
theorem mr_one {p r q : Nat} {m : Int} {lg : Nat → Int} {y n x : Int} (h : ¬ mrE p r q m lg y n x = 0) : mrE p r q m lg y n x = 1 := by
  unfold mrE at h ⊢
  exact if_pos (i1 h)
set_option maxRecDepth 20000 in
theorem lp_roots {x i : Int} {t : Nat} {A0 : HA} {p e r q N : Nat} {m : Int} {f : Nat → Int} {g : Int} {lg pl_ tp mk ck : Nat → Int} {len n dg : Nat} {fp set : Int} {w : Option (Nat → Int)} {S : List Int} {F : HF} {al : AL} (hK : KX al) (h0 : XI p e r q N m f g lg pl_ len tp fp n set dg mk ck w S F A0) (hi : InR i) (hx : El m r x) (ht : t ≤ 30) (ht1 : 1 ≤ t) : ∀ (k y : Nat) (A : HA), y + k = N → Off [13, 14, 15, 18] A0 A → FD (fun y => decide (mrE p r q m lg y t x = 1) && decide (pw m r f y t = x)) y A →
    QW mX11_roots 8 2 12 (PXP eN (mo1 (ctn (fun y => decide (mrE p r q m lg y t x = 1) && decide (pw m r f y t = x)) N) (nth (fun y => decide (mrE p r q m lg y t x = 1) && decide (pw m r f y t = x)) N) i) F A0 al) (0 + 1) (0 + 6) 36 [some (vA 1), some (vI x), some (vI t), some (vI i), some (vI (ctn (fun y => decide (mrE p r q m lg y t x = 1) && decide (pw m r f y t = x)) y : Nat)), some (vI y)] [] F A al := by
  obtain ⟨⟨hX, hT, h3r, hMK⟩, h2, ⟨hl0, hl1, hta⟩, h4, ⟨⟨h51, h52, h53, h54⟩, h5m, h5c, ⟨hn1, hn63, hnq, hs0, hs1⟩, h5e⟩, h6, h7, ⟨⟨h81, h82⟩, h83⟩⟩ := id h0
  obtain ⟨hG, hp, he, hq, hN, hg, ⟨hp2, hp7, he1, he4, hme, hqe, hq3, hNm, hgE⟩, hP, hL, hI⟩ := id hT
  obtain ⟨hm, hr, hf, hm2, hr1, hr6, hN4⟩ := id hG
  have hm4 := hG.m4
  have hq2 := hT.q2
  have hN9 : (N : Int) ≤ 4096 := by rw [hNm]; exact hN4
  have hdn : dg ≤ n := by
    have := cy_le (m := m) (r := r) (q := q) (n := n) (f := f) (g := g) (c := (paE p n n).1) (set := set) n
    rw [h5e] at this
    exact this
  have hE : ∀ x : Int, 0 ≤ x ∧ x < (N : Int) → El m r x := fun x h => ⟨h.1, by rw [← hNm]; exact h.2⟩
  intro k
  induction k with
  | zero =>
    intro y A hy ho hfd
    have e9 : y = N := by omega
    subst e9
    have hct := ctn_le (fun y => decide (mrE p r q m lg y t x = 1) && decide (pw m r f y t = x)) y
    refine q_iload eX11_roots_36 rfl ?_
    refine q_aload_n eX11_roots_38 rfl ?_
    refine q_getfield eX11_roots_39 gf_X11_10 (hK _ (by decide) (by decide)) (by decide) (xf_1_0 hX) ?_
    refine q_getfield eX11_roots_42 gf_X11_85 (hK _ (by decide) (by decide)) (by decide) (by first | assumption) ?_
    refine q_icmp_ge (tgt := 104) eX11_roots_45 (by decide) (by first | assumption | exact ⟨by omega, by omega⟩) (by first | assumption | exact ⟨by omega, by omega⟩) (fun c45 => ?_) (fun c45 => ?_)
    · refine q_aload_n eX11_roots_104 rfl ?_
      refine q_iload eX11_roots_105 rfl ?_
      refine q_iload_n eX11_roots_107 rfl ?_
      refine q_callVX [vI (ctn (fun y => decide (mrE p r q m lg y t x = 1) && decide (pw m r f y t = x)) y : Nat), vI i] rfl (M1 := mX11_manyOrOne) eX11_roots_108 mf_X11_manyOrOne lk_X11_231 (hK _ (by decide) (by decide)) (ev_manyOrOne (v := nth (fun y => decide (mrE p r q m lg y t x = 1) && decide (pw m r f y t = x)) y) hK hX (by omega) hi hfd) (by decide) (by decide) (by decide) (Nat.le_of_ble_eq_true rfl) (st := []) rfl (fun E F' A' al' h9 => ?_) (fun v9 F9 A9 al9 h9 => ?_)
      · obtain ⟨e9, rfl, rfl, o9⟩ := h9
        exact ⟨e9, rfl, rfl, ho.trans o9⟩
      obtain ⟨e9, rfl, rfl, o9⟩ := h9
      cases hmo : mo1 (ctn (fun y => decide (mrE p r q m lg y t x = 1) && decide (pw m r f y t = x)) y) (nth (fun y => decide (mrE p r q m lg y t x = 1) && decide (pw m r f y t = x)) y) i with
      | none => rw [hmo] at e9; cases e9
      | some a9 =>
      rw [hmo] at e9
      cases e9
      refine q_retI eX11_roots_111 rfl (by decide) (by decide) ?_
      exact PXP_r rfl (ho.trans o9)
    · exact absurd c45 (by omega)
  | succ k ih =>
    intro y A hy ho hfd
    have hT1 : GT p e r q N m f g lg F A := hT.off ho (by decide) (by decide) (by decide) (fun j hj => by simp; omega)
    have hyE := el_nat (i := y) hNm (by omega)
    have hct := ctn_le (fun y => decide (mrE p r q m lg y t x = 1) && decide (pw m r f y t = x)) y
    have hpe := (pw_el (f := f) hm2 hr1 (y : Int) t).lt hN4
    have hxr := hx.lt hN4
    have hb := ih (y + 1)
    refine q_iload eX11_roots_36 rfl ?_
    refine q_aload_n eX11_roots_38 rfl ?_
    refine q_getfield eX11_roots_39 gf_X11_10 (hK _ (by decide) (by decide)) (by decide) (xf_1_0 hX) ?_
    refine q_getfield eX11_roots_42 gf_X11_85 (hK _ (by decide) (by decide)) (by decide) (by first | assumption) ?_
    refine q_icmp_ge (tgt := 104) eX11_roots_45 (by decide) (by first | assumption | exact ⟨by omega, by omega⟩) (by first | assumption | exact ⟨by omega, by omega⟩) (fun c45 => ?_) (fun c45 => ?_)
    · exact absurd c45 (by omega)
    · refine q_iload eX11_roots_48 rfl ?_
      refine q_aload_n eX11_roots_50 rfl ?_
      refine q_getfield eX11_roots_51 gf_X11_20 (hK _ (by decide) (by decide)) (by decide) (xf_1_2 hX) ?_
      refine q_alen eX11_roots_54 (hK _ (by decide) (by decide)) ?_
      refine q_icmp_ge (tgt := 104) eX11_roots_55 (by decide) (by first | assumption | exact ⟨by omega, by omega⟩) (by first | assumption | exact ⟨by omega, by omega⟩) (fun c55 => ?_) (fun c55 => ?_)
      · exact absurd c55 (by omega)
      · refine q_aload_n eX11_roots_58 rfl ?_
        refine q_getfield eX11_roots_59 gf_X11_10 (hK _ (by decide) (by decide)) (by decide) (xf_1_0 hX) ?_
        refine q_iload eX11_roots_62 rfl ?_
        refine q_iload_n eX11_roots_64 rfl ?_
        refine q_iload_n eX11_roots_65 rfl ?_
        refine q_callVP [vI y, vI t, vI x] (M1 := mX2_mayReach) eX11_roots_66 mf_X2_mayReach lk_X11_225 (hK _ (by decide) (by decide)) (ev_mayReach hK hX hT1 hx hyE (by omega) (by omega)) (by decide) (by decide) (by decide) (Nat.le_of_ble_eq_true rfl) rfl ?_
        refine q_if_eq (tgt := 98) eX11_roots_69 (by decide) mr_ir (fun c69 => ?_) (fun c69 => ?_)
        · refine q_iinc eX11_roots_98 rfl (by decide) rfl ?_
          refine q_goto (tgt := 36) eX11_roots_101 (by decide) ?_
          first
          | (have hno : ¬ (fun y => decide (mrE p r q m lg y t x = 1) && decide (pw m r f y t = x)) y = true := by rw [Bool.and_eq_true, decide_eq_true_eq, decide_eq_true_eq]; exact fun h8 => absurd h8.1 (by rw [c69]; decide)
             rw [ctn_no hno] at hb
             exact hb A (by omega) ho (hfd.no hno rfl))
          | (have hno : ¬ (fun y => decide (mrE p r q m lg y t x = 1) && decide (pw m r f y t = x)) y = true := by rw [Bool.and_eq_true, decide_eq_true_eq, decide_eq_true_eq]; exact fun h8 => c83 h8.2
             rw [ctn_no hno] at hb
             exact hb A3 (by omega) (ho.trans h3.s34) (hfd.no hno (h3 18 (by decide))))
          | (have hys : (fun y => decide (mrE p r q m lg y t x = 1) && decide (pw m r f y t = x)) y = true := by rw [Bool.and_eq_true, decide_eq_true_eq, decide_eq_true_eq]; exact ⟨mr_one c69, c83⟩
             rw [ctn_yes hys] at hb
             exact hb _ (by omega) ((ho.trans h3.s34).trans (Off.up (by simp))) (hfd.yes hys (h3 18 (by decide))))
        · refine q_aload_n eX11_roots_72 rfl ?_
          refine q_getfield eX11_roots_73 gf_X11_10 (hK _ (by decide) (by decide)) (by decide) (xf_1_0 hX) ?_
          refine q_iload eX11_roots_76 rfl ?_
          refine q_iload_n eX11_roots_78 rfl ?_
          refine q_callVQ [vI y, vI t] (M1 := mX2_power) eX11_roots_79 mf_X2_power lk_X11_228 (hK _ (by decide) (by decide)) (ev_power hK hX hT1.1 hyE (by omega)) (by decide) (by decide) (by decide) (Nat.le_of_ble_eq_true rfl) rfl (fun A3 h3 => ?_)
          refine q_iload_n eX11_roots_82 rfl ?_
          refine q_icmp_ne (tgt := 98) eX11_roots_83 (by decide) (by first | assumption | exact ⟨by omega, by omega⟩) (by first | assumption | exact ⟨by omega, by omega⟩) (fun c83 => ?_) (fun c83 => ?_)
          · refine q_iinc eX11_roots_98 rfl (by decide) rfl ?_
            refine q_goto (tgt := 36) eX11_roots_101 (by decide) ?_
            first
            | (have hno : ¬ (fun y => decide (mrE p r q m lg y t x = 1) && decide (pw m r f y t = x)) y = true := by rw [Bool.and_eq_true, decide_eq_true_eq, decide_eq_true_eq]; exact fun h8 => absurd h8.1 (by rw [c69]; decide)
               rw [ctn_no hno] at hb
               exact hb A (by omega) ho (hfd.no hno rfl))
            | (have hno : ¬ (fun y => decide (mrE p r q m lg y t x = 1) && decide (pw m r f y t = x)) y = true := by rw [Bool.and_eq_true, decide_eq_true_eq, decide_eq_true_eq]; exact fun h8 => c83 h8.2
               rw [ctn_no hno] at hb
               exact hb A3 (by omega) (ho.trans h3.s34) (hfd.no hno (h3 18 (by decide))))
            | (have hys : (fun y => decide (mrE p r q m lg y t x = 1) && decide (pw m r f y t = x)) y = true := by rw [Bool.and_eq_true, decide_eq_true_eq, decide_eq_true_eq]; exact ⟨mr_one c69, c83⟩
               rw [ctn_yes hys] at hb
               exact hb _ (by omega) ((ho.trans h3.s34).trans (Off.up (by simp))) (hfd.yes hys (h3 18 (by decide))))
          · refine q_aload_n eX11_roots_86 rfl ?_
            refine q_getfield eX11_roots_87 gf_X11_20 (hK _ (by decide) (by decide)) (by decide) (xf_1_2 hX) ?_
            refine q_iload eX11_roots_90 rfl ?_
            refine q_iload eX11_roots_92 rfl ?_
            refine q_iast eX11_roots_94 (hK _ (by decide) (by decide)) (by omega) (by omega) ?_
            refine q_iinc eX11_roots_95 rfl (by decide) rfl ?_
            refine q_iinc eX11_roots_98 rfl (by decide) rfl ?_
            refine q_goto (tgt := 36) eX11_roots_101 (by decide) ?_
            first
            | (have hno : ¬ (fun y => decide (mrE p r q m lg y t x = 1) && decide (pw m r f y t = x)) y = true := by rw [Bool.and_eq_true, decide_eq_true_eq, decide_eq_true_eq]; exact fun h8 => absurd h8.1 (by rw [c69]; decide)
               rw [ctn_no hno] at hb
               exact hb A (by omega) ho (hfd.no hno rfl))
            | (have hno : ¬ (fun y => decide (mrE p r q m lg y t x = 1) && decide (pw m r f y t = x)) y = true := by rw [Bool.and_eq_true, decide_eq_true_eq, decide_eq_true_eq]; exact fun h8 => c83 h8.2
               rw [ctn_no hno] at hb
               exact hb A3 (by omega) (ho.trans h3.s34) (hfd.no hno (h3 18 (by decide))))
            | (have hys : (fun y => decide (mrE p r q m lg y t x = 1) && decide (pw m r f y t = x)) y = true := by rw [Bool.and_eq_true, decide_eq_true_eq, decide_eq_true_eq]; exact ⟨mr_one c69, c83⟩
               rw [ctn_yes hys] at hb
               exact hb _ (by omega) ((ho.trans h3.s34).trans (Off.up (by simp))) (hfd.yes hys (h3 18 (by decide))))
set_option maxRecDepth 20000 in
theorem ev_roots {x k i : Int} {p e r q N : Nat} {m : Int} {f : Nat → Int} {g : Int} {lg pl_ tp mk ck : Nat → Int} {len n dg : Nat} {fp set : Int} {w : Option (Nat → Int)} {S : List Int} {F : HF} {A : HA} {al : AL} (hK : KX al) (h : XI p e r q N m f g lg pl_ len tp fp n set dg mk ck w S F A) (hx : InR x) (hk : InR k) (hi : InR i) : QE 8 2 12 mX11_roots [vA 1, vI x, vI k, vI i] F A al (PXP eN (if (0 ≤ x ∧ x < (N : Int)) ∧ 1 ≤ k ∧ k ≤ 30 then mo1 (ctn (fun y => decide (mrE p r q m lg y k.toNat x = 1) && decide (pw m r f y k.toNat = x)) N) (nth (fun y => decide (mrE p r q m lg y k.toNat x = 1) && decide (pw m r f y k.toNat = x)) N) i else none) F A al) := by
  refine QE.mk (by decide +kernel) (Nat.le_of_ble_eq_true rfl) ?_
  have hx_1 := hx.1
  have hx_2 := hx.2
  have hk_1 := hk.1
  have hk_2 := hk.2
  have hi_1 := hi.1
  have hi_2 := hi.2
  obtain ⟨⟨hX, hT, h3r, hMK⟩, h2, ⟨hl0, hl1, hta⟩, h4, ⟨⟨h51, h52, h53, h54⟩, h5m, h5c, ⟨hn1, hn63, hnq, hs0, hs1⟩, h5e⟩, h6, h7, ⟨⟨h81, h82⟩, h83⟩⟩ := id h
  obtain ⟨hG, hp, he, hq, hN, hg, ⟨hp2, hp7, he1, he4, hme, hqe, hq3, hNm, hgE⟩, hP, hL, hI⟩ := id hT
  obtain ⟨hm, hr, hf, hm2, hr1, hr6, hN4⟩ := id hG
  have hm4 := hG.m4
  have hq2 := hT.q2
  have hN9 : (N : Int) ≤ 4096 := by rw [hNm]; exact hN4
  have hdn : dg ≤ n := by
    have := cy_le (m := m) (r := r) (q := q) (n := n) (f := f) (g := g) (c := (paE p n n).1) (set := set) n
    rw [h5e] at this
    exact this
  have hE : ∀ x : Int, 0 ≤ x ∧ x < (N : Int) → El m r x := fun x h => ⟨h.1, by rw [← hNm]; exact h.2⟩
  refine q_aload_n eX11_roots_0 rfl ?_
  refine q_getfield eX11_roots_1 gf_X11_10 (hK _ (by decide) (by decide)) (by decide) (xf_1_0 hX) ?_
  refine q_iload_n eX11_roots_4 rfl ?_
  refine q_callVP [vI x] (M1 := mX2_has) eX11_roots_5 mf_X2_has lk_X11_113 (hK _ (by decide) (by decide)) (ev_has hK hN (by exact ⟨by omega, by omega⟩) hx) (by decide) (by decide) (by decide) (Nat.le_of_ble_eq_true rfl) rfl ?_
  refine q_if_eq (tgt := 26) eX11_roots_8 (by decide) ir_ite (fun c8 => ?_) (fun c8 => ?_)
  · refine q_iconst eX11_roots_26 ?_
    refine q_need0 rfl eX11_roots_27 lk_X11_117 (by decide) (by decide) (by decide) ?_
    refine PXP_t ?_ Off.rfl'
    first | rw [if_neg (fun hc => i0 c8 hc.1)] | rw [if_neg (by rintro ⟨-, h1, h2⟩; omega)]
  · refine q_iload_n eX11_roots_11 rfl ?_
    refine q_iconst eX11_roots_12 ?_
    refine q_icmp_lt (tgt := 26) eX11_roots_13 (by decide) (by first | assumption | exact ⟨by omega, by omega⟩) (by first | assumption | exact ⟨by omega, by omega⟩) (fun c13 => ?_) (fun c13 => ?_)
    · refine q_iconst eX11_roots_26 ?_
      refine q_need0 rfl eX11_roots_27 lk_X11_117 (by decide) (by decide) (by decide) ?_
      refine PXP_t ?_ Off.rfl'
      first | rw [if_neg (fun hc => i0 c8 hc.1)] | rw [if_neg (by rintro ⟨-, h1, h2⟩; omega)]
    · refine q_iload_n eX11_roots_16 rfl ?_
      refine q_bipush eX11_roots_17 (by decide +kernel) ?_
      refine q_icmp_gt (tgt := 26) eX11_roots_19 (by decide) (by first | assumption | exact ⟨by omega, by omega⟩) (by first | assumption | exact ⟨by omega, by omega⟩) (fun c19 => ?_) (fun c19 => ?_)
      · refine q_iconst eX11_roots_26 ?_
        refine q_need0 rfl eX11_roots_27 lk_X11_117 (by decide) (by decide) (by decide) ?_
        refine PXP_t ?_ Off.rfl'
        first | rw [if_neg (fun hc => i0 c8 hc.1)] | rw [if_neg (by rintro ⟨-, h1, h2⟩; omega)]
      · refine q_iconst eX11_roots_22 ?_
        refine q_goto (tgt := 27) eX11_roots_23 (by decide) ?_
        refine q_need1 rfl eX11_roots_27 lk_X11_117 (by decide) (by decide) (by decide) ?_
        obtain ⟨t, rfl⟩ : ∃ t : Nat, k = t := ⟨k.toNat, by omega⟩
        rw [if_pos ⟨i1 c8, by omega, by omega⟩]
        refine q_iconst eX11_roots_30 ?_
        refine q_istore eX11_roots_31 (by decide) rfl ?_
        refine q_iconst eX11_roots_33 ?_
        refine q_istore eX11_roots_34 (by decide) rfl ?_
        exact lp_roots (t := t) hK h hi (hE x (i1 c8)) (by omega) (by omega) N 0 A (by omega) Off.rfl' (fun j hj => absurd hj (by show ¬ j < 0; omega))
set_option maxRecDepth 20000 in
theorem lp_zeros {i : Int} {t : Nat} {A0 : HA} {p e r q N : Nat} {m : Int} {f : Nat → Int} {g : Int} {lg pl_ tp mk ck : Nat → Int} {len n dg : Nat} {fp set : Int} {w : Option (Nat → Int)} {S : List Int} {F : HF} {al : AL} (hK : KX al) (h0 : XI p e r q N m f g lg pl_ len tp fp n set dg mk ck w S F A0) (hi : InR i) (ht : t < 8) : ∀ (k y : Nat) (A : HA), y + k = N → Off [13, 14, 15, 18] A0 A → FD (fun y => decide (hzE m r f pl_ y t (t + 1) = 0)) y A →
    QW mX11_zeros 8 2 12 (PXP eN (mo1 (ctn (fun y => decide (hzE m r f pl_ y t (t + 1) = 0)) N) (nth (fun y => decide (hzE m r f pl_ y t (t + 1) = 0)) N) i) F A0 al) (0 + 1) (0 + 6) 23 [some (vA 1), some (vI t), some (vI i), some (vI (ctn (fun y => decide (hzE m r f pl_ y t (t + 1) = 0)) y : Nat)), some (vI y)] [] F A al := by
  obtain ⟨⟨hX, hT, h3r, hMK⟩, h2, ⟨hl0, hl1, hta⟩, h4, ⟨⟨h51, h52, h53, h54⟩, h5m, h5c, ⟨hn1, hn63, hnq, hs0, hs1⟩, h5e⟩, h6, h7, ⟨⟨h81, h82⟩, h83⟩⟩ := id h0
  obtain ⟨hG, hp, he, hq, hN, hg, ⟨hp2, hp7, he1, he4, hme, hqe, hq3, hNm, hgE⟩, hP, hL, hI⟩ := id hT
  obtain ⟨hm, hr, hf, hm2, hr1, hr6, hN4⟩ := id hG
  have hm4 := hG.m4
  have hq2 := hT.q2
  have hN9 : (N : Int) ≤ 4096 := by rw [hNm]; exact hN4
  have hdn : dg ≤ n := by
    have := cy_le (m := m) (r := r) (q := q) (n := n) (f := f) (g := g) (c := (paE p n n).1) (set := set) n
    rw [h5e] at this
    exact this
  have hE : ∀ x : Int, 0 ≤ x ∧ x < (N : Int) → El m r x := fun x h => ⟨h.1, by rw [← hNm]; exact h.2⟩
  intro k
  induction k with
  | zero =>
    intro y A hy ho hfd
    have e9 : y = N := by omega
    subst e9
    have hct := ctn_le (fun y => decide (hzE m r f pl_ y t (t + 1) = 0)) y
    refine q_iload eX11_zeros_23 rfl ?_
    refine q_aload_n eX11_zeros_25 rfl ?_
    refine q_getfield eX11_zeros_26 gf_X11_10 (hK _ (by decide) (by decide)) (by decide) (xf_1_0 hX) ?_
    refine q_getfield eX11_zeros_29 gf_X11_85 (hK _ (by decide) (by decide)) (by decide) (by first | assumption) ?_
    refine q_icmp_ge (tgt := 78) eX11_zeros_32 (by decide) (by first | assumption | exact ⟨by omega, by omega⟩) (by first | assumption | exact ⟨by omega, by omega⟩) (fun c32 => ?_) (fun c32 => ?_)
    · refine q_aload_n eX11_zeros_78 rfl ?_
      refine q_iload_n eX11_zeros_79 rfl ?_
      refine q_iload_n eX11_zeros_80 rfl ?_
      refine q_callVX [vI (ctn (fun y => decide (hzE m r f pl_ y t (t + 1) = 0)) y : Nat), vI i] rfl (M1 := mX11_manyOrOne) eX11_zeros_81 mf_X11_manyOrOne lk_X11_231 (hK _ (by decide) (by decide)) (ev_manyOrOne (v := nth (fun y => decide (hzE m r f pl_ y t (t + 1) = 0)) y) hK hX (by omega) hi hfd) (by decide) (by decide) (by decide) (Nat.le_of_ble_eq_true rfl) (st := []) rfl (fun E F' A' al' h9 => ?_) (fun v9 F9 A9 al9 h9 => ?_)
      · obtain ⟨e9, rfl, rfl, o9⟩ := h9
        exact ⟨e9, rfl, rfl, ho.trans o9⟩
      obtain ⟨e9, rfl, rfl, o9⟩ := h9
      cases hmo : mo1 (ctn (fun y => decide (hzE m r f pl_ y t (t + 1) = 0)) y) (nth (fun y => decide (hzE m r f pl_ y t (t + 1) = 0)) y) i with
      | none => rw [hmo] at e9; cases e9
      | some a9 =>
      rw [hmo] at e9
      cases e9
      refine q_retI eX11_zeros_84 rfl (by decide) (by decide) ?_
      exact PXP_r rfl (ho.trans o9)
    · exact absurd c32 (by omega)
  | succ k ih =>
    intro y A hy ho hfd
    have hT1 : GT p e r q N m f g lg F A := hT.off ho (by decide) (by decide) (by decide) (fun j hj => by simp; omega)
    have hyE := el_nat (i := y) hNm (by omega)
    have hct := ctn_le (fun y => decide (hzE m r f pl_ y t (t + 1) = 0)) y
    have hb := ih (y + 1)
    have hpe := (hz_el (m := m) (r := r) (f := f) (c := pl_) (by omega) (y : Int) t (t + 1)).lt hN4
    refine q_iload eX11_zeros_23 rfl ?_
    refine q_aload_n eX11_zeros_25 rfl ?_
    refine q_getfield eX11_zeros_26 gf_X11_10 (hK _ (by decide) (by decide)) (by decide) (xf_1_0 hX) ?_
    refine q_getfield eX11_zeros_29 gf_X11_85 (hK _ (by decide) (by decide)) (by decide) (by first | assumption) ?_
    refine q_icmp_ge (tgt := 78) eX11_zeros_32 (by decide) (by first | assumption | exact ⟨by omega, by omega⟩) (by first | assumption | exact ⟨by omega, by omega⟩) (fun c32 => ?_) (fun c32 => ?_)
    · exact absurd c32 (by omega)
    · refine q_iload_n eX11_zeros_35 rfl ?_
      refine q_aload_n eX11_zeros_36 rfl ?_
      refine q_getfield eX11_zeros_37 gf_X11_20 (hK _ (by decide) (by decide)) (by decide) (xf_1_2 hX) ?_
      refine q_alen eX11_zeros_40 (hK _ (by decide) (by decide)) ?_
      refine q_icmp_ge (tgt := 78) eX11_zeros_41 (by decide) (by first | assumption | exact ⟨by omega, by omega⟩) (by first | assumption | exact ⟨by omega, by omega⟩) (fun c41 => ?_) (fun c41 => ?_)
      · exact absurd c41 (by omega)
      · refine q_aload_n eX11_zeros_44 rfl ?_
        refine q_getfield eX11_zeros_45 gf_X11_10 (hK _ (by decide) (by decide)) (by decide) (xf_1_0 hX) ?_
        refine q_aload_n eX11_zeros_48 rfl ?_
        refine q_getfield eX11_zeros_49 gf_X11_16 (hK _ (by decide) (by decide)) (by decide) (xf_1_1 hX) ?_
        refine q_iload_n eX11_zeros_52 rfl ?_
        refine q_iload eX11_zeros_53 rfl ?_
        refine q_callVQ [vA 17, vI t, vI y] (M1 := mX2_evaluate) eX11_zeros_55 mf_X2_evaluate lk_X11_234 (hK _ (by decide) (by decide)) (ev_eval (c := pl_) hK hX hT1.1 (hK _ (by decide) (by decide)) (by decide) (by decide) (by omega) hyE (fun i hi => (h2 i (by omega)).2) (fun i hi => by rw [ho 17 (by decide)]; exact (h2 i (by omega)).1)) (by decide) (by decide) (by decide) (Nat.le_of_ble_eq_true rfl) rfl (fun A3 h3 => ?_)
        refine q_if_ne (tgt := 72) eX11_zeros_58 (by decide) (by first | assumption | exact ⟨by omega, by omega⟩) (fun c58 => ?_) (fun c58 => ?_)
        · refine q_iinc eX11_zeros_72 rfl (by decide) rfl ?_
          refine q_goto (tgt := 23) eX11_zeros_75 (by decide) ?_
          first
          | (have hno : ¬ (fun y => decide (hzE m r f pl_ y t (t + 1) = 0)) y = true := by rw [decide_eq_true_eq]; exact c58
             rw [ctn_no hno] at hb
             exact hb A3 (by omega) (ho.trans h3.s34) (hfd.no hno (h3 18 (by decide))))
          | (have hys : (fun y => decide (hzE m r f pl_ y t (t + 1) = 0)) y = true := by rw [decide_eq_true_eq]; exact c58
             rw [ctn_yes hys] at hb
             exact hb _ (by omega) ((ho.trans h3.s34).trans (Off.up (by simp))) (hfd.yes hys (h3 18 (by decide))))
        · refine q_aload_n eX11_zeros_61 rfl ?_
          refine q_getfield eX11_zeros_62 gf_X11_20 (hK _ (by decide) (by decide)) (by decide) (xf_1_2 hX) ?_
          refine q_iload_n eX11_zeros_65 rfl ?_
          refine q_iload eX11_zeros_66 rfl ?_
          refine q_iast eX11_zeros_68 (hK _ (by decide) (by decide)) (by omega) (by omega) ?_
          refine q_iinc eX11_zeros_69 rfl (by decide) rfl ?_
          refine q_iinc eX11_zeros_72 rfl (by decide) rfl ?_
          refine q_goto (tgt := 23) eX11_zeros_75 (by decide) ?_
          first
          | (have hno : ¬ (fun y => decide (hzE m r f pl_ y t (t + 1) = 0)) y = true := by rw [decide_eq_true_eq]; exact c58
             rw [ctn_no hno] at hb
             exact hb A3 (by omega) (ho.trans h3.s34) (hfd.no hno (h3 18 (by decide))))
          | (have hys : (fun y => decide (hzE m r f pl_ y t (t + 1) = 0)) y = true := by rw [decide_eq_true_eq]; exact c58
             rw [ctn_yes hys] at hb
             exact hb _ (by omega) ((ho.trans h3.s34).trans (Off.up (by simp))) (hfd.yes hys (h3 18 (by decide))))
set_option maxRecDepth 20000 in
theorem ev_zeros {k i : Int} {p e r q N : Nat} {m : Int} {f : Nat → Int} {g : Int} {lg pl_ tp mk ck : Nat → Int} {len n dg : Nat} {fp set : Int} {w : Option (Nat → Int)} {S : List Int} {F : HF} {A : HA} {al : AL} (hK : KX al) (h : XI p e r q N m f g lg pl_ len tp fp n set dg mk ck w S F A) (hk : InR k) (hi : InR i) : QE 8 2 12 mX11_zeros [vA 1, vI k, vI i] F A al (PXP eN (if 0 ≤ k ∧ k < 8 then mo1 (ctn (fun y => decide (hzE m r f pl_ y k.toNat (k.toNat + 1) = 0)) N) (nth (fun y => decide (hzE m r f pl_ y k.toNat (k.toNat + 1) = 0)) N) i else none) F A al) := by
  refine QE.mk (by decide +kernel) (Nat.le_of_ble_eq_true rfl) ?_
  have hk_1 := hk.1
  have hk_2 := hk.2
  have hi_1 := hi.1
  have hi_2 := hi.2
  obtain ⟨⟨hX, hT, h3r, hMK⟩, h2, ⟨hl0, hl1, hta⟩, h4, ⟨⟨h51, h52, h53, h54⟩, h5m, h5c, ⟨hn1, hn63, hnq, hs0, hs1⟩, h5e⟩, h6, h7, ⟨⟨h81, h82⟩, h83⟩⟩ := id h
  obtain ⟨hG, hp, he, hq, hN, hg, ⟨hp2, hp7, he1, he4, hme, hqe, hq3, hNm, hgE⟩, hP, hL, hI⟩ := id hT
  obtain ⟨hm, hr, hf, hm2, hr1, hr6, hN4⟩ := id hG
  have hm4 := hG.m4
  have hq2 := hT.q2
  have hN9 : (N : Int) ≤ 4096 := by rw [hNm]; exact hN4
  have hdn : dg ≤ n := by
    have := cy_le (m := m) (r := r) (q := q) (n := n) (f := f) (g := g) (c := (paE p n n).1) (set := set) n
    rw [h5e] at this
    exact this
  have hE : ∀ x : Int, 0 ≤ x ∧ x < (N : Int) → El m r x := fun x h => ⟨h.1, by rw [← hNm]; exact h.2⟩
  refine q_iload_n eX11_zeros_0 rfl ?_
  refine q_if_lt (tgt := 14) eX11_zeros_1 (by decide) (by first | assumption | exact ⟨by omega, by omega⟩) (fun c1 => ?_) (fun c1 => ?_)
  · refine q_iconst eX11_zeros_14 ?_
    refine q_need0 rfl eX11_zeros_15 lk_X11_117 (by decide) (by decide) (by decide) ?_
    refine PXP_t ?_ Off.rfl'
    rw [if_neg (by omega)]
  · refine q_iload_n eX11_zeros_4 rfl ?_
    refine q_bipush eX11_zeros_5 (by decide +kernel) ?_
    refine q_icmp_ge (tgt := 14) eX11_zeros_7 (by decide) (by first | assumption | exact ⟨by omega, by omega⟩) (by first | assumption | exact ⟨by omega, by omega⟩) (fun c7 => ?_) (fun c7 => ?_)
    · refine q_iconst eX11_zeros_14 ?_
      refine q_need0 rfl eX11_zeros_15 lk_X11_117 (by decide) (by decide) (by decide) ?_
      refine PXP_t ?_ Off.rfl'
      rw [if_neg (by omega)]
    · refine q_iconst eX11_zeros_10 ?_
      refine q_goto (tgt := 15) eX11_zeros_11 (by decide) ?_
      refine q_need1 rfl eX11_zeros_15 lk_X11_117 (by decide) (by decide) (by decide) ?_
      obtain ⟨t, rfl⟩ : ∃ t : Nat, k = t := ⟨k.toNat, by omega⟩
      rw [if_pos (by omega)]
      refine q_iconst eX11_zeros_18 ?_
      refine q_istore_n eX11_zeros_19 (by decide) rfl ?_
      refine q_iconst eX11_zeros_20 ?_
      refine q_istore eX11_zeros_21 (by decide) rfl ?_
      exact lp_zeros (t := t) hK h hi (by omega) N 0 A (by omega) Off.rfl' (fun j hj => absurd hj (by show ¬ j < 0; omega))
set_option maxRecDepth 20000 in
theorem lp_within {i : Int} {t : Nat} {A0 : HA} {p e r q N : Nat} {m : Int} {f : Nat → Int} {g : Int} {lg pl_ tp mk ck : Nat → Int} {len n dg : Nat} {fp set : Int} {w : Option (Nat → Int)} {S : List Int} {F : HF} {al : AL} (hK : KX al) (h0 : XI p e r q N m f g lg pl_ len tp fp n set dg mk ck w S F A0) (hi : InR i) (ht : t ≤ 6) : ∀ (k y : Nat) (A : HA), y + k = N → Off [13, 14, 15, 18] A0 A → FD (fun y => decide (mvn p r m f y t = y)) y A →
    QW mX11_within 8 2 12 (PXP eN (mo1 (ctn (fun y => decide (mvn p r m f y t = y)) N) (nth (fun y => decide (mvn p r m f y t = y)) N) i) F A0 al) (0 + 1) (0 + 6) 43 [some (vA 1), some (vI t), some (vI i), some (vI (ctn (fun y => decide (mvn p r m f y t = y)) y : Nat)), some (vI y)] [] F A al := by
  obtain ⟨⟨hX, hT, h3r, hMK⟩, h2, ⟨hl0, hl1, hta⟩, h4, ⟨⟨h51, h52, h53, h54⟩, h5m, h5c, ⟨hn1, hn63, hnq, hs0, hs1⟩, h5e⟩, h6, h7, ⟨⟨h81, h82⟩, h83⟩⟩ := id h0
  obtain ⟨hG, hp, he, hq, hN, hg, ⟨hp2, hp7, he1, he4, hme, hqe, hq3, hNm, hgE⟩, hP, hL, hI⟩ := id hT
  obtain ⟨hm, hr, hf, hm2, hr1, hr6, hN4⟩ := id hG
  have hm4 := hG.m4
  have hq2 := hT.q2
  have hN9 : (N : Int) ≤ 4096 := by rw [hNm]; exact hN4
  have hdn : dg ≤ n := by
    have := cy_le (m := m) (r := r) (q := q) (n := n) (f := f) (g := g) (c := (paE p n n).1) (set := set) n
    rw [h5e] at this
    exact this
  have hE : ∀ x : Int, 0 ≤ x ∧ x < (N : Int) → El m r x := fun x h => ⟨h.1, by rw [← hNm]; exact h.2⟩
  intro k
  induction k with
  | zero =>
    intro y A hy ho hfd
    have e9 : y = N := by omega
    subst e9
    have hct := ctn_le (fun y => decide (mvn p r m f y t = y)) y
    refine q_iload eX11_within_43 rfl ?_
    refine q_aload_n eX11_within_45 rfl ?_
    refine q_getfield eX11_within_46 gf_X11_10 (hK _ (by decide) (by decide)) (by decide) (xf_1_0 hX) ?_
    refine q_getfield eX11_within_49 gf_X11_85 (hK _ (by decide) (by decide)) (by decide) (by first | assumption) ?_
    refine q_icmp_ge (tgt := 94) eX11_within_52 (by decide) (by first | assumption | exact ⟨by omega, by omega⟩) (by first | assumption | exact ⟨by omega, by omega⟩) (fun c52 => ?_) (fun c52 => ?_)
    · refine q_aload_n eX11_within_94 rfl ?_
      refine q_iload_n eX11_within_95 rfl ?_
      refine q_iload_n eX11_within_96 rfl ?_
      refine q_callVX [vI (ctn (fun y => decide (mvn p r m f y t = y)) y : Nat), vI i] rfl (M1 := mX11_manyOrOne) eX11_within_97 mf_X11_manyOrOne lk_X11_231 (hK _ (by decide) (by decide)) (ev_manyOrOne (v := nth (fun y => decide (mvn p r m f y t = y)) y) hK hX (by omega) hi hfd) (by decide) (by decide) (by decide) (Nat.le_of_ble_eq_true rfl) (st := []) rfl (fun E F' A' al' h9 => ?_) (fun v9 F9 A9 al9 h9 => ?_)
      · obtain ⟨e9, rfl, rfl, o9⟩ := h9
        exact ⟨e9, rfl, rfl, ho.trans o9⟩
      obtain ⟨e9, rfl, rfl, o9⟩ := h9
      cases hmo : mo1 (ctn (fun y => decide (mvn p r m f y t = y)) y) (nth (fun y => decide (mvn p r m f y t = y)) y) i with
      | none => rw [hmo] at e9; cases e9
      | some a9 =>
      rw [hmo] at e9
      cases e9
      refine q_retI eX11_within_100 rfl (by decide) (by decide) ?_
      exact PXP_r rfl (ho.trans o9)
    · exact absurd c52 (by omega)
  | succ k ih =>
    intro y A hy ho hfd
    have hT1 : GT p e r q N m f g lg F A := hT.off ho (by decide) (by decide) (by decide) (fun j hj => by simp; omega)
    have hyE := el_nat (i := y) hNm (by omega)
    have hct := ctn_le (fun y => decide (mvn p r m f y t = y)) y
    have hb := ih (y + 1)
    refine q_iload eX11_within_43 rfl ?_
    refine q_aload_n eX11_within_45 rfl ?_
    refine q_getfield eX11_within_46 gf_X11_10 (hK _ (by decide) (by decide)) (by decide) (xf_1_0 hX) ?_
    refine q_getfield eX11_within_49 gf_X11_85 (hK _ (by decide) (by decide)) (by decide) (by first | assumption) ?_
    refine q_icmp_ge (tgt := 94) eX11_within_52 (by decide) (by first | assumption | exact ⟨by omega, by omega⟩) (by first | assumption | exact ⟨by omega, by omega⟩) (fun c52 => ?_) (fun c52 => ?_)
    · exact absurd c52 (by omega)
    · refine q_iload_n eX11_within_55 rfl ?_
      refine q_aload_n eX11_within_56 rfl ?_
      refine q_getfield eX11_within_57 gf_X11_20 (hK _ (by decide) (by decide)) (by decide) (xf_1_2 hX) ?_
      refine q_alen eX11_within_60 (hK _ (by decide) (by decide)) ?_
      refine q_icmp_ge (tgt := 94) eX11_within_61 (by decide) (by first | assumption | exact ⟨by omega, by omega⟩) (by first | assumption | exact ⟨by omega, by omega⟩) (fun c61 => ?_) (fun c61 => ?_)
      · exact absurd c61 (by omega)
      · refine q_aload_n eX11_within_64 rfl ?_
        refine q_getfield eX11_within_65 gf_X11_10 (hK _ (by decide) (by decide)) (by decide) (xf_1_0 hX) ?_
        refine q_iload eX11_within_68 rfl ?_
        refine q_iload_n eX11_within_70 rfl ?_
        refine q_callVQ [vI y, vI t] (M1 := mX2_isWithin) eX11_within_71 mf_X2_isWithin lk_X11_241 (hK _ (by decide) (by decide)) (ev_isWithin hK hX hT1 hyE (by omega)) (by decide) (by decide) (by decide) (Nat.le_of_ble_eq_true rfl) rfl (fun A3 h3 => ?_)
        refine q_if_eq (tgt := 88) eX11_within_74 (by decide) ir_ite (fun c74 => ?_) (fun c74 => ?_)
        · refine q_iinc eX11_within_88 rfl (by decide) rfl ?_
          refine q_goto (tgt := 43) eX11_within_91 (by decide) ?_
          first
          | (have hno : ¬ (fun y => decide (mvn p r m f y t = y)) y = true := by rw [decide_eq_true_eq]; exact i0 c74
             rw [ctn_no hno] at hb
             exact hb A3 (by omega) (ho.trans h3.s34) (hfd.no hno (h3 18 (by decide))))
          | (have hys : (fun y => decide (mvn p r m f y t = y)) y = true := by rw [decide_eq_true_eq]; exact i1 c74
             rw [ctn_yes hys] at hb
             exact hb _ (by omega) ((ho.trans h3.s34).trans (Off.up (by simp))) (hfd.yes hys (h3 18 (by decide))))
        · refine q_aload_n eX11_within_77 rfl ?_
          refine q_getfield eX11_within_78 gf_X11_20 (hK _ (by decide) (by decide)) (by decide) (xf_1_2 hX) ?_
          refine q_iload_n eX11_within_81 rfl ?_
          refine q_iload eX11_within_82 rfl ?_
          refine q_iast eX11_within_84 (hK _ (by decide) (by decide)) (by omega) (by omega) ?_
          refine q_iinc eX11_within_85 rfl (by decide) rfl ?_
          refine q_iinc eX11_within_88 rfl (by decide) rfl ?_
          refine q_goto (tgt := 43) eX11_within_91 (by decide) ?_
          first
          | (have hno : ¬ (fun y => decide (mvn p r m f y t = y)) y = true := by rw [decide_eq_true_eq]; exact i0 c74
             rw [ctn_no hno] at hb
             exact hb A3 (by omega) (ho.trans h3.s34) (hfd.no hno (h3 18 (by decide))))
          | (have hys : (fun y => decide (mvn p r m f y t = y)) y = true := by rw [decide_eq_true_eq]; exact i1 c74
             rw [ctn_yes hys] at hb
             exact hb _ (by omega) ((ho.trans h3.s34).trans (Off.up (by simp))) (hfd.yes hys (h3 18 (by decide))))
set_option maxRecDepth 20000 in
theorem ev_within {k i : Int} {p e r q N : Nat} {m : Int} {f : Nat → Int} {g : Int} {lg pl_ tp mk ck : Nat → Int} {len n dg : Nat} {fp set : Int} {w : Option (Nat → Int)} {S : List Int} {F : HF} {A : HA} {al : AL} (hK : KX al) (h : XI p e r q N m f g lg pl_ len tp fp n set dg mk ck w S F A) (hk : InR k) (hi : InR i) : QE 8 2 12 mX11_within [vA 1, vI k, vI i] F A al (PXP eN (if (1 ≤ k ∧ k ≤ (r : Int)) ∧ (r : Int) % k = 0 then mo1 (ctn (fun y => decide (mvn p r m f y k.toNat = y)) N) (nth (fun y => decide (mvn p r m f y k.toNat = y)) N) i else none) F A al) := by
  refine QE.mk (by decide +kernel) (Nat.le_of_ble_eq_true rfl) ?_
  have hk_1 := hk.1
  have hk_2 := hk.2
  have hi_1 := hi.1
  have hi_2 := hi.2
  obtain ⟨⟨hX, hT, h3r, hMK⟩, h2, ⟨hl0, hl1, hta⟩, h4, ⟨⟨h51, h52, h53, h54⟩, h5m, h5c, ⟨hn1, hn63, hnq, hs0, hs1⟩, h5e⟩, h6, h7, ⟨⟨h81, h82⟩, h83⟩⟩ := id h
  obtain ⟨hG, hp, he, hq, hN, hg, ⟨hp2, hp7, he1, he4, hme, hqe, hq3, hNm, hgE⟩, hP, hL, hI⟩ := id hT
  obtain ⟨hm, hr, hf, hm2, hr1, hr6, hN4⟩ := id hG
  have hm4 := hG.m4
  have hq2 := hT.q2
  have hN9 : (N : Int) ≤ 4096 := by rw [hNm]; exact hN4
  have hdn : dg ≤ n := by
    have := cy_le (m := m) (r := r) (q := q) (n := n) (f := f) (g := g) (c := (paE p n n).1) (set := set) n
    rw [h5e] at this
    exact this
  have hE : ∀ x : Int, 0 ≤ x ∧ x < (N : Int) → El m r x := fun x h => ⟨h.1, by rw [← hNm]; exact h.2⟩
  refine q_iload_n eX11_within_0 rfl ?_
  refine q_iconst eX11_within_1 ?_
  refine q_icmp_lt (tgt := 34) eX11_within_2 (by decide) (by first | assumption | exact ⟨by omega, by omega⟩) (by first | assumption | exact ⟨by omega, by omega⟩) (fun c2 => ?_) (fun c2 => ?_)
  · refine q_iconst eX11_within_34 ?_
    refine q_need0 rfl eX11_within_35 lk_X11_117 (by decide) (by decide) (by decide) ?_
    refine PXP_t ?_ Off.rfl'
    rw [if_neg (by omega)]
  · refine q_iload_n eX11_within_5 rfl ?_
    refine q_aload_n eX11_within_6 rfl ?_
    refine q_getfield eX11_within_7 gf_X11_10 (hK _ (by decide) (by decide)) (by decide) (xf_1_0 hX) ?_
    refine q_getfield eX11_within_10 gf_X11_137 (hK _ (by decide) (by decide)) (by decide) (by first | assumption) ?_
    refine q_icmp_gt (tgt := 34) eX11_within_13 (by decide) (by first | assumption | exact ⟨by omega, by omega⟩) (by first | assumption | exact ⟨by omega, by omega⟩) (fun c13 => ?_) (fun c13 => ?_)
    · refine q_iconst eX11_within_34 ?_
      refine q_need0 rfl eX11_within_35 lk_X11_117 (by decide) (by decide) (by decide) ?_
      refine PXP_t ?_ Off.rfl'
      rw [if_neg (by omega)]
    · refine q_aload_n eX11_within_16 rfl ?_
      refine q_getfield eX11_within_17 gf_X11_10 (hK _ (by decide) (by decide)) (by decide) (xf_1_0 hX) ?_
      refine q_getfield eX11_within_20 gf_X11_137 (hK _ (by decide) (by decide)) (by decide) (by first | assumption) ?_
      refine q_iload_n eX11_within_23 rfl ?_
      refine q_callSP [vI r, vI k] (M1 := mX7_remainder) eX11_within_24 mf_X7_remainder lk_X11_238 (ev_remP (by omega) (by omega) (by omega) (by omega)) (by decide) (by decide) (by decide) (Nat.le_of_ble_eq_true rfl) rfl ?_
      have hrk : InR ((r : Int) % k) := by
        have h1 := Int.emod_nonneg (r : Int) (b := k) (by omega)
        have h2 := Int.emod_lt_of_pos (r : Int) (b := k) (by omega)
        exact ⟨by omega, by omega⟩
      refine q_if_ne (tgt := 34) eX11_within_27 (by decide) hrk (fun c27 => ?_) (fun c27 => ?_)
      · refine q_iconst eX11_within_34 ?_
        refine q_need0 rfl eX11_within_35 lk_X11_117 (by decide) (by decide) (by decide) ?_
        refine PXP_t ?_ Off.rfl'
        rw [if_neg (by omega)]
      · refine q_iconst eX11_within_30 ?_
        refine q_goto (tgt := 35) eX11_within_31 (by decide) ?_
        refine q_need1 rfl eX11_within_35 lk_X11_117 (by decide) (by decide) (by decide) ?_
        obtain ⟨t, rfl⟩ : ∃ t : Nat, k = t := ⟨k.toNat, by omega⟩
        rw [if_pos (by omega)]
        refine q_iconst eX11_within_38 ?_
        refine q_istore_n eX11_within_39 (by decide) rfl ?_
        refine q_iconst eX11_within_40 ?_
        refine q_istore eX11_within_41 (by decide) rfl ?_
        exact lp_within (t := t) hK h hi (by omega) N 0 A (by omega) Off.rfl' (fun j hj => absurd hj (by show ¬ j < 0; omega))
