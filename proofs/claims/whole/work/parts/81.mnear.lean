/-! the model: weighing, lightest, nearest -/
theorem two_le {m : Int} (hm : 2 ≤ m) : ∀ k : Nat, (2 : Int) ^ k ≤ m ^ k
  | 0 => by rw [Int.pow_zero, Int.pow_zero]; decide
  | k + 1 => by
    rw [Int.pow_succ, Int.pow_succ]
    exact Int.mul_le_mul (two_le hm k) hm (by decide) (Int.pow_nonneg (by omega))
theorem k16 {m : Int} {k : Nat} (hm : 2 ≤ m) (h : m ^ k ≤ 65536) : k ≤ 16 := by
  rcases Nat.lt_or_ge 16 k with h1 | h1
  · have h2 : (2 : Int) ^ 17 ≤ 2 ^ k := ipow_mono (by decide) h1
    have h3 := two_le hm k
    have h4 : (2 : Int) ^ 17 ≤ 65536 := Int.le_trans h2 (Int.le_trans h3 h)
    exact absurd h4 (by decide)
  · exact h1
theorem fo_ind {S : Type} {g : Nat → S → S} {P : Nat → S → Prop} {s : S} (h0 : P 0 s) (hs : ∀ d s, P d s → P (d + 1) (g d s)) : ∀ k, P k (foF g k s)
  | 0 => h0
  | k + 1 => hs k _ (fo_ind h0 hs k)
theorem wg_bd {m : Int} {n dg : Nat} {mk : Nat → Int} (hm : 2 ≤ m) : ∀ (k t : Nat) (row : Nat → Int) (s : (Nat → Int) × (Nat → Int)) (B : Int), (∀ j, (0 ≤ s.1 j ∧ s.1 j ≤ B) ∧ 0 ≤ s.2 j ∧ s.2 j ≤ B) → ∀ j, (0 ≤ (goF (wgS m n) m dg mk k t row s).1 j ∧ (goF (wgS m n) m dg mk k t row s).1 j ≤ B + m ^ k) ∧ 0 ≤ (goF (wgS m n) m dg mk k t row s).2 j ∧ (goF (wgS m n) m dg mk k t row s).2 j ≤ B + m ^ k
  | 0, t, row, s, B, h => by
    intro j
    rw [Int.pow_zero]
    obtain ⟨h1, h2⟩ := h j
    refine ⟨?_, ?_⟩
    · show 0 ≤ upc s.1 (wtE row n) (s.1 (wtE row n) + 1) j ∧ upc s.1 (wtE row n) (s.1 (wtE row n) + 1) j ≤ B + 1
      have h3 := (h (wtE row n)).1
      unfold upc
      split <;> omega
    · show 0 ≤ upc s.2 (leE m row n).toNat (s.2 (leE m row n).toNat + 1) j ∧ upc s.2 (leE m row n).toNat (s.2 (leE m row n).toNat + 1) j ≤ B + 1
      have h3 := (h (leE m row n).toNat).2
      unfold upc
      split <;> omega
  | k + 1, t, row, s, B, h => by
    have hh := fo_ind (g := fun d s => goF (wgS m n) m dg mk k (t + 1) (gwM m dg mk t d row) s) (P := fun d s => ∀ j, (0 ≤ s.1 j ∧ s.1 j ≤ B + d * m ^ k) ∧ 0 ≤ s.2 j ∧ s.2 j ≤ B + d * m ^ k) (s := s) (fun j => by
      rw [show B + ((0 : Nat) : Int) * m ^ k = B by rw [Int.natCast_zero, Int.zero_mul]; omega]
      exact h j) (fun d s hd => by
      have := wg_bd (n := n) (dg := dg) (mk := mk) hm k (t + 1) (gwM m dg mk t d row) s (B + d * m ^ k) hd
      rw [show B + (d : Int) * m ^ k + m ^ k = B + ((d + 1 : Nat) : Int) * m ^ k by rw [Int.natCast_succ, Int.add_mul, Int.one_mul]; omega] at this
      exact this) m.toNat
    rw [show B + (m.toNat : Int) * m ^ k = B + m ^ (k + 1) by rw [Int.pow_succ, Int.mul_comm, Int.toNat_of_nonneg (by omega)]] at hh
    exact hh
theorem lk_bd {m : Int} {n dg : Nat} {mk bt : Nat → Int} (hm : 2 ≤ m) : ∀ (k t : Nat) (row : Nat → Int) (s : Int × (Nat → Int)), (goF (lkS n bt) m dg mk k t row s).1 ≤ n
  | 0, t, row, s => by
    have hp : pfM row bt n ≤ n := ctn_le _ n
    show (lkS n bt row s).1 ≤ n
    unfold lkS
    split
    · show ((pfM row bt n : Nat) : Int) ≤ n; omega
    · next h =>
      rcases (show (pfM row bt n : Int) < s.1 ∨ s.1 ≤ (pfM row bt n : Int) by omega) with h1 | h1
      · exact absurd (Or.inl h1) h
      · show s.1 ≤ n; omega
  | k + 1, t, row, s => by
    obtain ⟨c, hc⟩ : ∃ c, m.toNat = c + 1 := ⟨m.toNat - 1, by omega⟩
    show (foF (fun d s => goF (lkS n bt) m dg mk k (t + 1) (gwM m dg mk t d row) s) m.toNat s).1 ≤ n
    rw [hc]
    exact lk_bd hm k (t + 1) _ _
def wgT (m : Int) (n dg : Nat) (mk : Nat → Int) : (Nat → Int) × (Nat → Int) := goF (wgS m n) m dg mk (n - dg) 0 (fun _ => 0) ((fun _ => 0), (fun _ => 0))
def lkT (m : Int) (n dg : Nat) (mk bt : Nat → Int) : Int × (Nat → Int) := goF (lkS n bt) m dg mk (n - dg) 0 (fun _ => 0) (64, fun _ => 0)
theorem mo_goW {m : Int} {n dg : Nat} {mk : Nat → Int} {F : HF} {A : HA} {al : AL} (hK : KM al) (hX : MR F) (hm : F 44 4 = vI m) (hn : F 44 33 = vI n) (hdg : F 44 35 = vI dg) (hm2 : 2 ≤ m) (hm4 : m ≤ 4096) (hn63 : n ≤ 63) (hdn : dg ≤ n) (hsm : m ^ (n - dg) ≤ 65536) (hmk : ∀ i, i ≤ dg → A 56 i = mk i ∧ 0 ≤ mk i ∧ mk i < m) (hcap : (n : Int) * (m / 2) ≤ 8000) : QE 20 0 0 mX12_goesAll [vA 44, vI 0] F A al (fun o F' A' al' => o = .inl none ∧ al' = al ∧ FOff [(44, 41), (44, 43)] F F' ∧ Off [58, 59, 60, 61] A A' ∧ SW (wgT m n dg mk) A') := by
  refine QE.post (mo_goesAll (S := (Nat → Int) × (Nat → Int)) (stp := wgS m n) (St := fun s _ A => SW s A) (s0 := ((fun _ => 0), (fun _ => 0))) (fl := 0) hK hX hm hn hdg (Or.inl rfl) hm2 hm4 hn63 hdn (k16 hm2 hsm) hmk ?_ ?_ (fun h => absurd rfl h) ?_) ?_
  · intro s F A A2 h hs
    refine ⟨fun j hj => ?_, fun j hj => ?_⟩
    · rw [h 59 (by decide)]; exact hs.1 j hj
    · rw [h 60 (by decide)]; exact hs.2 j hj
  · intro _ s row F2 A2 t ht hF2 hA2 hrow hr hs
    refine QE.post (mo_weighs hK (hX.foff hF2 (by decide)) ((hF2 44 4 (by decide)).trans hm) ((hF2 44 33 (by decide)).trans hn) hm2 hm4 hn63 ht hrow hr hcap hs) ?_
    rintro o F' A' al' ⟨rfl, rfl, rfl, o9, s9⟩
    exact ⟨rfl, rfl, FOff.rfl', o9.mono (by simp), s9⟩
  · intro F2 A2 _ h1 h2
    exact ⟨h1, h2⟩
  · intro o F' A' al' h
    exact h
theorem mo_goL {m : Int} {n dg : Nat} {mk bt : Nat → Int} {F : HF} {A : HA} {al : AL} (hK : KM al) (hX : MR F) (hm : F 44 4 = vI m) (hn : F 44 33 = vI n) (hdg : F 44 35 = vI dg) (hm2 : 2 ≤ m) (hm4 : m ≤ 4096) (hn63 : n ≤ 63) (hdn : dg ≤ n) (hsm : m ^ (n - dg) ≤ 65536) (hmk : ∀ i, i ≤ dg → A 56 i = mk i ∧ 0 ≤ mk i ∧ mk i < m) (hbt : ∀ j, j < n → A 62 j = bt j ∧ 0 ≤ bt j ∧ bt j < m) : QE 20 0 0 mX12_goesAll [vA 44, vI 1] F A al (fun o F' A' al' => o = .inl none ∧ al' = al ∧ FOff [(44, 41), (44, 43)] F F' ∧ Off [58, 59, 60, 61] A A' ∧ SL m n (lkT m n dg mk bt) F' A') := by
  refine QE.post (mo_goesAll (S := Int × (Nat → Int)) (stp := lkS n bt) (St := fun s F A => SL m n s F A) (s0 := (64, fun _ => 0)) (fl := 1) hK hX hm hn hdg (Or.inr rfl) hm2 hm4 hn63 hdn (k16 hm2 hsm) hmk ?_ (fun h => absurd h (by decide)) ?_ ?_) ?_
  · intro s F A A2 h hs
    refine ⟨hs.1, hs.2.1, fun h63 j hj => ?_⟩
    rw [h 61 (by decide)]; exact hs.2.2 h63 j hj
  · intro _ s row F2 A2 t ht hF2 hA2 hrow hr hs
    refine QE.post (mo_looksAt hK (hX.foff hF2 (by decide)) ((hF2 44 4 (by decide)).trans hm) ((hF2 44 33 (by decide)).trans hn) hm2 hm4 hn63 ht hrow hr (fun j hj => by rw [hA2 62 (by decide)]; exact hbt j hj) hs) ?_
    rintro o F' A' al' ⟨rfl, f9, rfl, o9, s9⟩
    exact ⟨rfl, rfl, f9, o9.mono (by simp), s9⟩
  · intro F2 A2 h1 _ _
    exact ⟨h1, ⟨by decide, by decide⟩, fun h => absurd h (by decide)⟩
  · intro o F' A' al' h
    exact h
def wgM (m : Int) (n dg : Nat) (mk : Nat → Int) (lee v : Int) : Int := if m ^ (n - dg) ≤ 65536 ∧ 0 ≤ v then (if lee ≠ 0 then (if v < 8192 then (wgT m n dg mk).2 v.toNat else 0) else (if v < 64 then (wgT m n dg mk).1 v.toNat else 0)) else -1
def ltM (c : Nat → Int) : Nat → Nat → Int
  | 0, _ => -1
  | k + 1, w => if 0 < c w then (w : Int) else ltM c k (w + 1)
def ltR (m : Int) (n dg : Nat) (mk : Nat → Int) (lee : Int) : Int := if m ^ (n - dg) ≤ 65536 then (if lee ≠ 0 then ltM (wgT m n dg mk).2 8191 1 else ltM (wgT m n dg mk).1 63 1) else -1
def nrM (m : Int) (n dg : Nat) (mk : Nat → Int) (w : Option (Nat → Int)) (i : Int) : Option Int := match w with
  | none => none
  | some bt => if -1 ≤ i ∧ i ≤ (n : Int) - 1 then some (if m ^ (n - dg) ≤ 65536 then (if i = -1 then (lkT m n dg mk bt).1 else (lkT m n dg mk bt).2 i.toNat) else -1) else none
set_option maxRecDepth 20000 in
theorem mo_weighing {lee v : Int} {p e r q N : Nat} {m : Int} {f : Nat → Int} {g : Int} {rt lg pl_ tp mk ck : Nat → Int} {len n dg : Nat} {fp set : Int} {w : Option (Nat → Int)} {S : List Int} {F : HF} {A : HA} {al : AL} (hK : KM al) (h0 : MI p e r q N m f g rt lg pl_ len tp fp n set dg mk ck w S F A) (hmk : ∀ i, i ≤ dg → 0 ≤ mk i ∧ mk i < m) (hlr : InR lee) (hv : InR v) : QE 21 0 0 mX12_weighing [vA 44, vI lee, vI v] F A al (PMP (some (wgM m n dg mk lee v)) F A al) := by
  refine QE.mk (by decide +kernel) (Nat.le_of_ble_eq_true rfl) ?_
  have hlr_1 := hlr.1
  have hlr_2 := hlr.2
  have hv_1 := hv.1
  have hv_2 := hv.2
  have h := h0.t0
  generalize hF0 : up2 F 44 0 (vI 0) = F1 at h
  have ht0 : F1 44 0 = vI 0 := by rw [← hF0]; exact up2_eq _ _ _ _
  have hoF : FOff SCF F F1 := by rw [← hF0]; exact FOff.up (by decide)
  obtain ⟨⟨hX, hT, h3r, hMH⟩, h2, ⟨hl0, hl1, hta⟩, h4, ⟨⟨h51, h52, h53⟩, h5m, h5c, ⟨hn1, hn63, hnq, hs0, hs1⟩, hdn⟩, h7, ⟨⟨h81, h82⟩, h83⟩⟩ := id h
  obtain ⟨hG, hp, he, hq, hN, hg, ⟨hp2, hp7, he1, he4, hme, hqe, hq3, hNm, hgE⟩, hP, hL, hR⟩ := id hT
  obtain ⟨hm, hr, hf, hm2, hr1, hr6, hN4⟩ := id hG
  have hm4 := hG.m4
  have hq2 := hT.q2
  have hN9 : (N : Int) ≤ 4096 := by rw [hNm]; exact hN4
  have hE : ∀ x : Int, 0 ≤ x ∧ x ≤ (N : Int) - 1 → El m r x := fun x h => ⟨h.1, by rw [← hNm]; omega⟩
  have hmk2 : ∀ i, i ≤ dg → A 56 i = mk i ∧ 0 ≤ mk i ∧ mk i < m := fun i hi => ⟨h5m i (by omega), hmk i hi⟩
  have hcap : (n : Int) * (m / 2) ≤ 8000 := le_cap hp2 hp7 he4 (by omega) hm2 hme hqe hN4 hn1 hn63 hnq
  have hNp : 1 ≤ N := by have := el_one (m := m) (r := r) hm2 hr1; have := this.2; omega
  refine q_aload_n eX12_weighing_0 rfl ?_
  refine q_iconst eX12_weighing_1 ?_
  refine q_putfield eX12_weighing_2 pf_X12_1 (hK _ (by decide) (by decide)) (by decide) (FT_i rfl) ?_
  rw [hF0]
  refine q_aload_n eX12_weighing_5 rfl ?_
  refine q_callVP [] (M1 := mX12_isSmall) eX12_weighing_6 mf_X12_isSmall lk_X12_411 (hK _ (by decide) (by decide)) (mo_isSmall hK hm h51 h53 hm2 hm4 hdn hn63) (by decide) (by decide) (by decide) (Nat.le_of_ble_eq_true rfl) rfl ?_
  refine q_if_eq (tgt := 16) eX12_weighing_9 (by decide) ir_ite (fun c9 => ?_) (fun c9 => ?_)
  · refine q_iconst eX12_weighing_16 ?_
    refine q_retI eX12_weighing_17 rfl (by decide) (by decide) ?_
    refine PMP_r (congrArg some ?_) ht0 hoF Off.rfl'
    unfold wgM
    first | exact if_neg (fun hc => i0 c9 hc.1) | exact if_neg (by rintro ⟨-, hc⟩; omega)
  · refine q_iload_n eX12_weighing_12 rfl ?_
    refine q_if_ge (tgt := 18) eX12_weighing_13 (by decide) (by first | assumption | exact ⟨by omega, by omega⟩) (fun c13 => ?_) (fun c13 => ?_)
    · obtain ⟨t, rfl⟩ : ∃ t : Nat, v = t := ⟨v.toNat, by omega⟩
      refine q_aload_n eX12_weighing_18 rfl ?_
      refine q_iconst eX12_weighing_19 ?_
      refine q_callV [vI 0] (M1 := mX12_goesAll) eX12_weighing_20 mf_X12_goesAll lk_X12_414 (hK _ (by decide) (by decide)) (mo_goW hK hX hm h51 h53 hm2 hm4 hn63 hdn (i1 c9) hmk2 hcap) (by intro E F A al h; cases h.1) (by decide) (by decide) (by decide) (Nat.le_of_ble_eq_true rfl) (st := []) rfl (fun v9 F9 A9 al9 h9 => ?_)
      obtain ⟨e9, rfl, f9, o9, s9⟩ := h9
      obtain rfl := Sum.inl.inj e9
      obtain ⟨s91, s92⟩ := s9
      refine q_iload_n eX12_weighing_23 rfl ?_
      refine q_if_eq (tgt := 45) eX12_weighing_24 (by decide) hlr (fun c24 => ?_) (fun c24 => ?_)
      · refine q_iload_n eX12_weighing_45 rfl ?_
        refine q_bipush eX12_weighing_46 (by decide +kernel) ?_
        refine q_icmp_ge (tgt := 60) eX12_weighing_48 (by decide) (by first | assumption | exact ⟨by omega, by omega⟩) (by first | assumption | exact ⟨by omega, by omega⟩) (fun c48 => ?_) (fun c48 => ?_)
        · refine q_iconst eX12_weighing_60 ?_
          refine q_retI eX12_weighing_61 rfl (by decide) (by decide) ?_
          refine PMP_r (congrArg some ?_) ((f9 44 0 (by decide)).trans ht0) (hoF.trans (f9.mono (by decide))) (o9.mono (by decide))
          unfold wgM
          rw [if_pos ⟨i1 c9, by omega⟩, if_neg (show ¬ lee ≠ 0 from fun q => q c24)]
          first | (rw [if_pos (by omega)]; exact (s91 t (by omega)).symm) | rw [if_neg (by omega)]
        · refine q_aload_n eX12_weighing_51 rfl ?_
          refine q_getfield eX12_weighing_52 gf_X12_81 (hK _ (by decide) (by decide)) (by decide) (mr_44_39 (by first | exact hX | exact hX.foff f9 (by decide))) ?_
          refine q_iload_n eX12_weighing_55 rfl ?_
          refine q_iald eX12_weighing_56 (hK _ (by decide) (by decide)) (by omega) (by omega) ?_
          refine q_goto (tgt := 61) eX12_weighing_57 (by decide) ?_
          refine q_retI eX12_weighing_61 rfl (by decide) (by decide) ?_
          refine PMP_r (congrArg some ?_) ((f9 44 0 (by decide)).trans ht0) (hoF.trans (f9.mono (by decide))) (o9.mono (by decide))
          unfold wgM
          rw [if_pos ⟨i1 c9, by omega⟩, if_neg (show ¬ lee ≠ 0 from fun q => q c24)]
          first | (rw [if_pos (by omega)]; exact (s91 t (by omega)).symm) | rw [if_neg (by omega)]
      · refine q_iload_n eX12_weighing_27 rfl ?_
        refine q_sipush eX12_weighing_28 (by decide +kernel) ?_
        refine q_icmp_ge (tgt := 43) eX12_weighing_31 (by decide) (by first | assumption | exact ⟨by omega, by omega⟩) (by first | assumption | exact ⟨by omega, by omega⟩) (fun c31 => ?_) (fun c31 => ?_)
        · refine q_iconst eX12_weighing_43 ?_
          refine q_retI eX12_weighing_44 rfl (by decide) (by decide) ?_
          refine PMP_r (congrArg some ?_) ((f9 44 0 (by decide)).trans ht0) (hoF.trans (f9.mono (by decide))) (o9.mono (by decide))
          unfold wgM
          rw [if_pos ⟨i1 c9, by omega⟩, if_pos (show lee ≠ 0 from c24)]
          first | (rw [if_pos (by omega)]; exact (s92 t (by omega)).symm) | rw [if_neg (by omega)]
        · refine q_aload_n eX12_weighing_34 rfl ?_
          refine q_getfield eX12_weighing_35 gf_X12_84 (hK _ (by decide) (by decide)) (by decide) (mr_44_40 (by first | exact hX | exact hX.foff f9 (by decide))) ?_
          refine q_iload_n eX12_weighing_38 rfl ?_
          refine q_iald eX12_weighing_39 (hK _ (by decide) (by decide)) (by omega) (by omega) ?_
          refine q_goto (tgt := 44) eX12_weighing_40 (by decide) ?_
          refine q_retI eX12_weighing_44 rfl (by decide) (by decide) ?_
          refine PMP_r (congrArg some ?_) ((f9 44 0 (by decide)).trans ht0) (hoF.trans (f9.mono (by decide))) (o9.mono (by decide))
          unfold wgM
          rw [if_pos ⟨i1 c9, by omega⟩, if_pos (show lee ≠ 0 from c24)]
          first | (rw [if_pos (by omega)]; exact (s92 t (by omega)).symm) | rw [if_neg (by omega)]
    · refine q_iconst eX12_weighing_16 ?_
      refine q_retI eX12_weighing_17 rfl (by decide) (by decide) ?_
      refine PMP_r (congrArg some ?_) ht0 hoF Off.rfl'
      unfold wgM
      first | exact if_neg (fun hc => i0 c9 hc.1) | exact if_neg (by rintro ⟨-, hc⟩; omega)
set_option maxRecDepth 20000 in
theorem lp_lt0 {c : Nat → Int} {lee T : Int} {F1 F2 : HF} {A A2 : HA} {F : HF} {al : AL} (hK : KM al) (hX : MR F2) (hlr : InR lee) (hlee : lee = 0) (out : ∀ v : Int, v = T → PMP (some T) F A al (.inl (some v)) F2 A2 al) (hc : ∀ j, j < 64 → A2 59 j = c j) (hr : ∀ j, InR (c j)) : ∀ (k w : Nat), w + k = 64 → 1 ≤ w → ltM c k w = T →
    QW mX12_lightest 21 0 0 (PMP (some T) F A al) 0 0 21 [some (vA 44), some (vI lee), some (vI w)] [] F2 A2 al := by
  intro k
  induction k with
  | zero =>
    intro w hw hw1 hT
    refine q_iload_n eX12_lightest_21 rfl ?_
    refine q_iload_n eX12_lightest_22 rfl ?_
    refine q_if_eq (tgt := 32) eX12_lightest_23 (by decide) hlr (fun c23 => ?_) (fun c23 => ?_)
    · refine q_bipush eX12_lightest_32 (by decide +kernel) ?_
      refine q_icmp_ge (tgt := 67) eX12_lightest_34 (by decide) (by first | assumption | exact ⟨by omega, by omega⟩) (by first | assumption | exact ⟨by omega, by omega⟩) (fun c34 => ?_) (fun c34 => ?_)
      · refine q_iconst eX12_lightest_67 ?_
        refine q_retI eX12_lightest_68 rfl (by decide) (by decide) ?_
        exact out _ hT
      · exact absurd c34 (by omega)
    · exact absurd hlee c23
  | succ k ih =>
    intro w hw hw1 hT
    have hcw := hc w (by omega)
    have hrw := hr w
    have hst : ltM c (k + 1) w = if 0 < c w then (w : Int) else ltM c k (w + 1) := rfl
    rw [hst] at hT
    refine q_iload_n eX12_lightest_21 rfl ?_
    refine q_iload_n eX12_lightest_22 rfl ?_
    refine q_if_eq (tgt := 32) eX12_lightest_23 (by decide) hlr (fun c23 => ?_) (fun c23 => ?_)
    · refine q_bipush eX12_lightest_32 (by decide +kernel) ?_
      refine q_icmp_ge (tgt := 67) eX12_lightest_34 (by decide) (by first | assumption | exact ⟨by omega, by omega⟩) (by first | assumption | exact ⟨by omega, by omega⟩) (fun c34 => ?_) (fun c34 => ?_)
      · exact absurd c34 (by omega)
      · refine q_iload_n eX12_lightest_37 rfl ?_
        refine q_if_eq (tgt := 50) eX12_lightest_38 (by decide) hlr (fun c38 => ?_) (fun c38 => ?_)
        · refine q_aload_n eX12_lightest_50 rfl ?_
          refine q_getfield eX12_lightest_51 gf_X12_81 (hK _ (by decide) (by decide)) (by decide) (mr_44_39 hX) ?_
          refine q_iload_n eX12_lightest_54 rfl ?_
          refine q_iald eX12_lightest_55 (hK _ (by decide) (by decide)) (by omega) (by omega) ?_
          rw [show A2 59 (w : Int).toNat = c w from hcw]
          refine q_if_le (tgt := 61) eX12_lightest_56 (by decide) (by first | assumption | exact ⟨by omega, by omega⟩) (fun c56 => ?_) (fun c56 => ?_)
          · refine q_iinc eX12_lightest_61 rfl (by decide) rfl ?_
            refine q_goto (tgt := 21) eX12_lightest_64 (by decide) ?_
            rw [if_neg (by omega)] at hT
            exact ih (w + 1) (by omega) (by omega) hT
          · refine q_iload_n eX12_lightest_59 rfl ?_
            refine q_retI eX12_lightest_60 rfl (by decide) (by decide) ?_
            rw [if_pos (by omega)] at hT
            exact out _ hT
        · exact absurd hlee c38
    · exact absurd hlee c23
set_option maxRecDepth 20000 in
theorem lp_lt1 {c : Nat → Int} {lee T : Int} {F1 F2 : HF} {A A2 : HA} {F : HF} {al : AL} (hK : KM al) (hX : MR F2) (hlr : InR lee) (hlee : lee ≠ 0) (out : ∀ v : Int, v = T → PMP (some T) F A al (.inl (some v)) F2 A2 al) (hc : ∀ j, j < 8192 → A2 60 j = c j) (hr : ∀ j, InR (c j)) : ∀ (k w : Nat), w + k = 8192 → 1 ≤ w → ltM c k w = T →
    QW mX12_lightest 21 0 0 (PMP (some T) F A al) 0 0 21 [some (vA 44), some (vI lee), some (vI w)] [] F2 A2 al := by
  intro k
  induction k with
  | zero =>
    intro w hw hw1 hT
    refine q_iload_n eX12_lightest_21 rfl ?_
    refine q_iload_n eX12_lightest_22 rfl ?_
    refine q_if_eq (tgt := 32) eX12_lightest_23 (by decide) hlr (fun c23 => ?_) (fun c23 => ?_)
    · exact absurd c23 hlee
    · refine q_sipush eX12_lightest_26 (by decide +kernel) ?_
      refine q_goto (tgt := 34) eX12_lightest_29 (by decide) ?_
      refine q_icmp_ge (tgt := 67) eX12_lightest_34 (by decide) (by first | assumption | exact ⟨by omega, by omega⟩) (by first | assumption | exact ⟨by omega, by omega⟩) (fun c34 => ?_) (fun c34 => ?_)
      · refine q_iconst eX12_lightest_67 ?_
        refine q_retI eX12_lightest_68 rfl (by decide) (by decide) ?_
        exact out _ hT
      · exact absurd c34 (by omega)
  | succ k ih =>
    intro w hw hw1 hT
    have hcw := hc w (by omega)
    have hrw := hr w
    have hst : ltM c (k + 1) w = if 0 < c w then (w : Int) else ltM c k (w + 1) := rfl
    rw [hst] at hT
    refine q_iload_n eX12_lightest_21 rfl ?_
    refine q_iload_n eX12_lightest_22 rfl ?_
    refine q_if_eq (tgt := 32) eX12_lightest_23 (by decide) hlr (fun c23 => ?_) (fun c23 => ?_)
    · exact absurd c23 hlee
    · refine q_sipush eX12_lightest_26 (by decide +kernel) ?_
      refine q_goto (tgt := 34) eX12_lightest_29 (by decide) ?_
      refine q_icmp_ge (tgt := 67) eX12_lightest_34 (by decide) (by first | assumption | exact ⟨by omega, by omega⟩) (by first | assumption | exact ⟨by omega, by omega⟩) (fun c34 => ?_) (fun c34 => ?_)
      · exact absurd c34 (by omega)
      · refine q_iload_n eX12_lightest_37 rfl ?_
        refine q_if_eq (tgt := 50) eX12_lightest_38 (by decide) hlr (fun c38 => ?_) (fun c38 => ?_)
        · exact absurd c38 hlee
        · refine q_aload_n eX12_lightest_41 rfl ?_
          refine q_getfield eX12_lightest_42 gf_X12_84 (hK _ (by decide) (by decide)) (by decide) (mr_44_40 hX) ?_
          refine q_iload_n eX12_lightest_45 rfl ?_
          refine q_iald eX12_lightest_46 (hK _ (by decide) (by decide)) (by omega) (by omega) ?_
          refine q_goto (tgt := 56) eX12_lightest_47 (by decide) ?_
          rw [show A2 60 (w : Int).toNat = c w from hcw]
          refine q_if_le (tgt := 61) eX12_lightest_56 (by decide) (by first | assumption | exact ⟨by omega, by omega⟩) (fun c56 => ?_) (fun c56 => ?_)
          · refine q_iinc eX12_lightest_61 rfl (by decide) rfl ?_
            refine q_goto (tgt := 21) eX12_lightest_64 (by decide) ?_
            rw [if_neg (by omega)] at hT
            exact ih (w + 1) (by omega) (by omega) hT
          · refine q_iload_n eX12_lightest_59 rfl ?_
            refine q_retI eX12_lightest_60 rfl (by decide) (by decide) ?_
            rw [if_pos (by omega)] at hT
            exact out _ hT
set_option maxRecDepth 20000 in
theorem mo_lightest {lee : Int} {p e r q N : Nat} {m : Int} {f : Nat → Int} {g : Int} {rt lg pl_ tp mk ck : Nat → Int} {len n dg : Nat} {fp set : Int} {w : Option (Nat → Int)} {S : List Int} {F : HF} {A : HA} {al : AL} (hK : KM al) (h0 : MI p e r q N m f g rt lg pl_ len tp fp n set dg mk ck w S F A) (hmk : ∀ i, i ≤ dg → 0 ≤ mk i ∧ mk i < m) (hlr : InR lee) : QE 21 0 0 mX12_lightest [vA 44, vI lee] F A al (PMP (some (ltR m n dg mk lee)) F A al) := by
  refine QE.mk (by decide +kernel) (Nat.le_of_ble_eq_true rfl) ?_
  have hlr_1 := hlr.1
  have hlr_2 := hlr.2
  have h := h0.t0
  generalize hF0 : up2 F 44 0 (vI 0) = F1 at h
  have ht0 : F1 44 0 = vI 0 := by rw [← hF0]; exact up2_eq _ _ _ _
  have hoF : FOff SCF F F1 := by rw [← hF0]; exact FOff.up (by decide)
  obtain ⟨⟨hX, hT, h3r, hMH⟩, h2, ⟨hl0, hl1, hta⟩, h4, ⟨⟨h51, h52, h53⟩, h5m, h5c, ⟨hn1, hn63, hnq, hs0, hs1⟩, hdn⟩, h7, ⟨⟨h81, h82⟩, h83⟩⟩ := id h
  obtain ⟨hG, hp, he, hq, hN, hg, ⟨hp2, hp7, he1, he4, hme, hqe, hq3, hNm, hgE⟩, hP, hL, hR⟩ := id hT
  obtain ⟨hm, hr, hf, hm2, hr1, hr6, hN4⟩ := id hG
  have hm4 := hG.m4
  have hq2 := hT.q2
  have hN9 : (N : Int) ≤ 4096 := by rw [hNm]; exact hN4
  have hE : ∀ x : Int, 0 ≤ x ∧ x ≤ (N : Int) - 1 → El m r x := fun x h => ⟨h.1, by rw [← hNm]; omega⟩
  have hmk2 : ∀ i, i ≤ dg → A 56 i = mk i ∧ 0 ≤ mk i ∧ mk i < m := fun i hi => ⟨h5m i (by omega), hmk i hi⟩
  have hcap : (n : Int) * (m / 2) ≤ 8000 := le_cap hp2 hp7 he4 (by omega) hm2 hme hqe hN4 hn1 hn63 hnq
  have hNp : 1 ≤ N := by have := el_one (m := m) (r := r) hm2 hr1; have := this.2; omega
  refine q_aload_n eX12_lightest_0 rfl ?_
  refine q_iconst eX12_lightest_1 ?_
  refine q_putfield eX12_lightest_2 pf_X12_1 (hK _ (by decide) (by decide)) (by decide) (FT_i rfl) ?_
  rw [hF0]
  refine q_aload_n eX12_lightest_5 rfl ?_
  refine q_callVP [] (M1 := mX12_isSmall) eX12_lightest_6 mf_X12_isSmall lk_X12_411 (hK _ (by decide) (by decide)) (mo_isSmall hK hm h51 h53 hm2 hm4 hdn hn63) (by decide) (by decide) (by decide) (Nat.le_of_ble_eq_true rfl) rfl ?_
  refine q_if_ne (tgt := 14) eX12_lightest_9 (by decide) ir_ite (fun c9 => ?_) (fun c9 => ?_)
  · refine q_aload_n eX12_lightest_14 rfl ?_
    refine q_iconst eX12_lightest_15 ?_
    refine q_callV [vI 0] (M1 := mX12_goesAll) eX12_lightest_16 mf_X12_goesAll lk_X12_414 (hK _ (by decide) (by decide)) (mo_goW hK hX hm h51 h53 hm2 hm4 hn63 hdn (i1 c9) hmk2 hcap) (by intro E F A al h; cases h.1) (by decide) (by decide) (by decide) (Nat.le_of_ble_eq_true rfl) (st := []) rfl (fun v9 F9 A9 al9 h9 => ?_)
    obtain ⟨e9, rfl, f9, o9, s9⟩ := h9
    obtain rfl := Sum.inl.inj e9
    obtain ⟨s91, s92⟩ := s9
    refine q_iconst eX12_lightest_19 ?_
    refine q_istore_n eX12_lightest_20 (by decide) rfl ?_
    have hbd : ∀ j, (0 ≤ (wgT m n dg mk).1 j ∧ (wgT m n dg mk).1 j ≤ 0 + m ^ (n - dg)) ∧ 0 ≤ (wgT m n dg mk).2 j ∧ (wgT m n dg mk).2 j ≤ 0 + m ^ (n - dg) := wg_bd (n := n) (dg := dg) (mk := mk) hm2 (n - dg) 0 (fun _ => 0) ((fun _ => 0), (fun _ => 0)) 0 (fun j => ⟨⟨Int.le_refl _, Int.le_refl _⟩, Int.le_refl _, Int.le_refl _⟩)
    have hsm := i1 c9
    have hb1 : ∀ j, InR ((wgT m n dg mk).1 j) := fun j => by obtain ⟨⟨z1, z2⟩, -⟩ := hbd j; exact ⟨by omega, by omega⟩
    have hb2 : ∀ j, InR ((wgT m n dg mk).2 j) := fun j => by obtain ⟨-, z1, z2⟩ := hbd j; exact ⟨by omega, by omega⟩
    have hX9 := hX.foff f9 (by decide)
    by_cases hl : lee = 0
    · have hR : ltR m n dg mk lee = ltM (wgT m n dg mk).1 63 1 := by unfold ltR; rw [if_pos hsm, if_neg (fun q => q hl)]
      rw [hR]
      exact lp_lt0 (F1 := F1) hK hX9 hlr hl (fun v hv => PMP_r (congrArg some hv.symm) ((f9 44 0 (by decide)).trans ht0) (hoF.trans (f9.mono (by decide))) (o9.mono (by decide))) s91 hb1 63 1 (by decide) (by decide) rfl
    · have hR : ltR m n dg mk lee = ltM (wgT m n dg mk).2 8191 1 := by unfold ltR; rw [if_pos hsm, if_pos hl]
      rw [hR]
      exact lp_lt1 (F1 := F1) hK hX9 hlr hl (fun v hv => PMP_r (congrArg some hv.symm) ((f9 44 0 (by decide)).trans ht0) (hoF.trans (f9.mono (by decide))) (o9.mono (by decide))) s92 hb2 8191 1 (by decide) (by decide) rfl
  · refine q_iconst eX12_lightest_12 ?_
    refine q_retI eX12_lightest_13 rfl (by decide) (by decide) ?_
    refine PMP_r (congrArg some ?_) ht0 hoF Off.rfl'
    unfold ltR
    exact if_neg (i0 c9)
set_option maxRecDepth 20000 in
theorem mo_nearest {i : Int} {p e r q N : Nat} {m : Int} {f : Nat → Int} {g : Int} {rt lg pl_ tp mk ck : Nat → Int} {len n dg : Nat} {fp set : Int} {w : Option (Nat → Int)} {S : List Int} {F : HF} {A : HA} {al : AL} (hK : KM al) (h0 : MI p e r q N m f g rt lg pl_ len tp fp n set dg mk ck w S F A) (hmk : ∀ i, i ≤ dg → 0 ≤ mk i ∧ mk i < m) (hi : InR i) : QE 21 0 0 mX12_nearest [vA 44, vI i] F A al (PMP (nrM m n dg mk w i) F A al) := by
  refine QE.mk (by decide +kernel) (Nat.le_of_ble_eq_true rfl) ?_
  have hi_1 := hi.1
  have hi_2 := hi.2
  have h := h0.t0
  generalize hF0 : up2 F 44 0 (vI 0) = F1 at h
  have ht0 : F1 44 0 = vI 0 := by rw [← hF0]; exact up2_eq _ _ _ _
  have hoF : FOff SCF F F1 := by rw [← hF0]; exact FOff.up (by decide)
  obtain ⟨⟨hX, hT, h3r, hMH⟩, h2, ⟨hl0, hl1, hta⟩, h4, ⟨⟨h51, h52, h53⟩, h5m, h5c, ⟨hn1, hn63, hnq, hs0, hs1⟩, hdn⟩, h7, ⟨⟨h81, h82⟩, h83⟩⟩ := id h
  obtain ⟨hG, hp, he, hq, hN, hg, ⟨hp2, hp7, he1, he4, hme, hqe, hq3, hNm, hgE⟩, hP, hL, hR⟩ := id hT
  obtain ⟨hm, hr, hf, hm2, hr1, hr6, hN4⟩ := id hG
  have hm4 := hG.m4
  have hq2 := hT.q2
  have hN9 : (N : Int) ≤ 4096 := by rw [hNm]; exact hN4
  have hE : ∀ x : Int, 0 ≤ x ∧ x ≤ (N : Int) - 1 → El m r x := fun x h => ⟨h.1, by rw [← hNm]; omega⟩
  have hmk2 : ∀ i, i ≤ dg → A 56 i = mk i ∧ 0 ≤ mk i ∧ mk i < m := fun i hi => ⟨h5m i (by omega), hmk i hi⟩
  have hNp : 1 ≤ N := by have := el_one (m := m) (r := r) hm2 hr1; have := this.2; omega
  refine q_aload_n eX12_nearest_0 rfl ?_
  refine q_iconst eX12_nearest_1 ?_
  refine q_putfield eX12_nearest_2 pf_X12_1 (hK _ (by decide) (by decide)) (by decide) (FT_i rfl) ?_
  rw [hF0]
  cases w with
  | none =>
    have hw : F1 44 45 = vI 0 := h7
    refine q_aload_n eX12_nearest_5 rfl ?_
    refine q_aload_n eX12_nearest_6 rfl ?_
    refine q_getfield eX12_nearest_7 gf_X12_160 (hK _ (by decide) (by decide)) (by decide) (by first | assumption) ?_
    refine q_if_eq (tgt := 35) eX12_nearest_10 (by decide) (by first | assumption | exact ⟨by omega, by omega⟩) (fun c10 => ?_) (fun c10 => ?_)
    · refine q_iconst eX12_nearest_35 ?_
      refine q_iconst eX12_nearest_36 ?_
      refine q_right0 eX12_nearest_37 lk_X12_304 hK ht0 (by decide) (by decide) (by decide) (Nat.le_of_ble_eq_true rfl) ?_
      refine q_if_ne (tgt := 45) eX12_nearest_40 (by decide) (by first | assumption | exact ⟨by omega, by omega⟩) (fun c40 => ?_) (fun c40 => ?_)
      · exact absurd rfl c40
      · refine q_iconst eX12_nearest_43 ?_
        refine q_retI eX12_nearest_44 rfl (by decide) (by decide) ?_
        exact PMP_t rfl hoF Off.rfl'
    · exact absurd rfl c10
  | some bt =>
    obtain ⟨hw, hbt⟩ := id h7
    refine q_aload_n eX12_nearest_5 rfl ?_
    refine q_aload_n eX12_nearest_6 rfl ?_
    refine q_getfield eX12_nearest_7 gf_X12_160 (hK _ (by decide) (by decide)) (by decide) (by first | assumption | exact s91) ?_
    refine q_if_eq (tgt := 35) eX12_nearest_10 (by decide) (by first | assumption | exact ⟨by omega, by omega⟩) (fun c10 => ?_) (fun c10 => ?_)
    · exact absurd c10 (by decide)
    · refine q_iload_n eX12_nearest_13 rfl ?_
      refine q_i2l eX12_nearest_14 (by first | assumption | exact ⟨by omega, by omega⟩) ?_
      refine q_ldc2 eX12_nearest_15 kc_X12_350 ?_
      refine q_aload_n eX12_nearest_18 rfl ?_
      refine q_getfield eX12_nearest_19 gf_X12_69 (hK _ (by decide) (by decide)) (by decide) (by first | assumption | exact s91) ?_
      refine q_iconst eX12_nearest_22 ?_
      refine q_isub eX12_nearest_23 ?_
      refine q_i2l eX12_nearest_24 (by first | assumption | exact ⟨by omega, by omega⟩) ?_
      refine q_callSP [vJ (i), vJ (-1), vJ ((n : Int) - 1)] (M1 := mX12_isIn) eX12_nearest_25 mf_X12_isIn lk_X12_206 (mo_isIn (by exact ⟨by omega, by omega⟩) (by exact ⟨by omega, by omega⟩) (by exact ⟨by omega, by omega⟩)) (by decide) (by decide) (by decide) (Nat.le_of_ble_eq_true rfl) rfl ?_
      refine q_if_eq (tgt := 35) eX12_nearest_28 (by decide) ir_ite (fun c28 => ?_) (fun c28 => ?_)
      · refine q_iconst eX12_nearest_35 ?_
        refine q_iconst eX12_nearest_36 ?_
        refine q_right0 eX12_nearest_37 lk_X12_304 hK ht0 (by decide) (by decide) (by decide) (Nat.le_of_ble_eq_true rfl) ?_
        refine q_if_ne (tgt := 45) eX12_nearest_40 (by decide) (by first | assumption | exact ⟨by omega, by omega⟩) (fun c40 => ?_) (fun c40 => ?_)
        · exact absurd rfl c40
        · refine q_iconst eX12_nearest_43 ?_
          refine q_retI eX12_nearest_44 rfl (by decide) (by decide) ?_
          refine PMP_t ?_ hoF Off.rfl'
          show (if -1 ≤ i ∧ i ≤ (n : Int) - 1 then some (if m ^ (n - dg) ≤ 65536 then (if i = -1 then (lkT m n dg mk bt).1 else (lkT m n dg mk bt).2 i.toNat) else -1) else none) = none
          rw [if_neg (i0 c28)]
      · refine q_iconst eX12_nearest_31 ?_
        refine q_goto (tgt := 36) eX12_nearest_32 (by decide) ?_
        refine q_iconst eX12_nearest_36 ?_
        refine q_right1 eX12_nearest_37 lk_X12_304 hK ht0 (by decide) (by decide) (by decide) (Nat.le_of_ble_eq_true rfl) ?_
        refine q_if_ne (tgt := 45) eX12_nearest_40 (by decide) (by first | assumption | exact ⟨by omega, by omega⟩) (fun c40 => ?_) (fun c40 => ?_)
        · have hi28 := i1 c28
          refine q_aload_n eX12_nearest_45 rfl ?_
          refine q_callVP [] (M1 := mX12_isSmall) eX12_nearest_46 mf_X12_isSmall lk_X12_411 (hK _ (by decide) (by decide)) (mo_isSmall hK hm h51 h53 hm2 hm4 hdn hn63) (by decide) (by decide) (by decide) (Nat.le_of_ble_eq_true rfl) rfl ?_
          refine q_if_ne (tgt := 54) eX12_nearest_49 (by decide) ir_ite (fun c49 => ?_) (fun c49 => ?_)
          · refine q_aload_n eX12_nearest_54 rfl ?_
            refine q_iconst eX12_nearest_55 ?_
            refine q_callV [vI 1] (M1 := mX12_goesAll) eX12_nearest_56 mf_X12_goesAll lk_X12_414 (hK _ (by decide) (by decide)) (mo_goL hK hX hm h51 h53 hm2 hm4 hn63 hdn (i1 c49) hmk2 hbt) (by intro E F A al h; cases h.1) (by decide) (by decide) (by decide) (Nat.le_of_ble_eq_true rfl) (st := []) rfl (fun v9 F9 A9 al9 h9 => ?_)
            obtain ⟨e9, rfl, f9, o9, s9⟩ := h9
            obtain rfl := Sum.inl.inj e9
            obtain ⟨s91, s92, s93⟩ := s9
            have hlb : (lkT m n dg mk bt).1 ≤ n := lk_bd hm2 _ _ _ _
            refine q_iload_n eX12_nearest_59 rfl ?_
            refine q_iconst eX12_nearest_60 ?_
            refine q_icmp_ne (tgt := 71) eX12_nearest_61 (by decide) (by first | assumption | exact ⟨by omega, by omega⟩) (by first | assumption | exact ⟨by omega, by omega⟩) (fun c61 => ?_) (fun c61 => ?_)
            · refine q_aload_n eX12_nearest_71 rfl ?_
              refine q_getfield eX12_nearest_72 gf_X12_87 (hK _ (by decide) (by decide)) (by decide) (mr_44_42 (by first | exact hX | exact hX.foff f9 (by decide))) ?_
              refine q_iload_n eX12_nearest_75 rfl ?_
              refine q_iald eX12_nearest_76 (hK _ (by decide) (by decide)) (by omega) (by omega) ?_
              refine q_retI eX12_nearest_77 rfl (by decide) (by decide) ?_
              refine PMP_r ?_ ((f9 44 0 (by decide)).trans ht0) (hoF.trans (f9.mono (by decide))) (o9.mono (by decide))
              show (if -1 ≤ i ∧ i ≤ (n : Int) - 1 then some (if m ^ (n - dg) ≤ 65536 then (if i = -1 then (lkT m n dg mk bt).1 else (lkT m n dg mk bt).2 i.toNat) else -1) else none) = some _
              rw [if_pos hi28, if_pos (i1 c49)]
              first
              | rw [if_pos (show i = -1 by omega)]
              | (rw [if_neg (show ¬ i = -1 by omega)]
                 exact congrArg some (s93 (by omega) i.toNat (by omega)).1.symm)
            · refine q_aload_n eX12_nearest_64 rfl ?_
              refine q_getfield eX12_nearest_65 gf_X12_405 (hK _ (by decide) (by decide)) (by decide) (by first | assumption | exact s91) ?_
              refine q_goto (tgt := 77) eX12_nearest_68 (by decide) ?_
              refine q_retI eX12_nearest_77 rfl (by decide) (by decide) ?_
              refine PMP_r ?_ ((f9 44 0 (by decide)).trans ht0) (hoF.trans (f9.mono (by decide))) (o9.mono (by decide))
              show (if -1 ≤ i ∧ i ≤ (n : Int) - 1 then some (if m ^ (n - dg) ≤ 65536 then (if i = -1 then (lkT m n dg mk bt).1 else (lkT m n dg mk bt).2 i.toNat) else -1) else none) = some _
              rw [if_pos hi28, if_pos (i1 c49)]
              first
              | rw [if_pos (show i = -1 by omega)]
              | (rw [if_neg (show ¬ i = -1 by omega)]
                 exact congrArg some (s93 (by omega) i.toNat (by omega)).1.symm)
          · refine q_iconst eX12_nearest_52 ?_
            refine q_retI eX12_nearest_53 rfl (by decide) (by decide) ?_
            refine PMP_r ?_ ht0 hoF Off.rfl'
            show (if -1 ≤ i ∧ i ≤ (n : Int) - 1 then some (if m ^ (n - dg) ≤ 65536 then (if i = -1 then (lkT m n dg mk bt).1 else (lkT m n dg mk bt).2 i.toNat) else -1) else none) = some _
            rw [if_pos hi28, if_neg (i0 c49)]
        · exact absurd c40 (by decide)
