/-! the law, walked from its end to its beginning -/
theorem rs_cut {m : Int} {r a : Nat} {H : Nat → Int} (hm : 0 < m) : ∀ k, (∀ t, a ≤ t → t < a + k → H t = 0) → rs m r H (a + k) = rs m r H a
  | 0, _ => rfl
  | k + 1, hz => by
    show pl m r (rs m r H (a + k)) (H (a + k)) = _
    rw [rs_cut hm k (fun t h1 h2 => hz t h1 (by omega)), hz _ (by omega) (by omega), pl_comm, pl_zero hm (rs_el hm H a)]
def cvT (m : Int) (r : Nat) (f mk ck : Nat → Int) (i t : Nat) : Int := tm m r f (mk t) (ck (i - t))
theorem cv_rs {m : Int} {r : Nat} {f mk ck : Nat → Int} (hm : 2 ≤ m) (hr : 0 < r) (hmk : ∀ j, 0 ≤ mk j ∧ mk j < m) (hck : ∀ j, 0 ≤ ck j ∧ ck j < m) (i : Nat) : ∀ t, (0 ≤ rs m r (cvT m r f mk ck i) t ∧ rs m r (cvT m r f mk ck i) t < m) ∧ rs m r (cvT m r f mk ck i) (t + 1) = (rs m r (cvT m r f mk ck i) t + mk t * ck (i - t)) % m
  | t => by
    have hm0 : 0 < m := by omega
    have h1 : ∀ t, 0 ≤ cvT m r f mk ck i t ∧ cvT m r f mk ck i t < m := fun t => by
      unfold cvT
      rw [tm_cc hm hr (hmk _) (hck _)]
      exact ⟨Int.emod_nonneg _ (by omega), Int.emod_lt_of_pos _ hm0⟩
    have h2 : ∀ t, 0 ≤ rs m r (cvT m r f mk ck i) t ∧ rs m r (cvT m r f mk ck i) t < m := fun t => by
      induction t with
      | zero => exact ⟨Int.le_refl _, hm0⟩
      | succ t ih =>
        show 0 ≤ pl m r _ _ ∧ pl m r _ _ < m
        rw [pl_cc hm hr ih (h1 t)]
        exact ⟨Int.emod_nonneg _ (by omega), Int.emod_lt_of_pos _ hm0⟩
    refine ⟨h2 t, ?_⟩
    show pl m r _ _ = _
    rw [pl_cc hm hr (h2 t) (h1 t)]
    unfold cvT
    rw [tm_cc hm hr (hmk _) (hck _), Int.add_emod_emod]
theorem coe_0 {n dg : Nat} {mk ck : Nat → Int} {t : Nat} (h : t ≤ dg) : coeE n dg mk ck 0 (t : Int) = some (mk t) := by
  unfold coeE
  rw [if_pos rfl, if_neg (by omega), if_pos ⟨by omega, by omega⟩]
  rfl
theorem coe_1 {n dg : Nat} {mk ck : Nat → Int} {t : Nat} (h : t ≤ n - dg) (hd : dg ≤ n) : coeE n dg mk ck 1 (t : Int) = some (ck t) := by
  unfold coeE
  rw [if_neg (by decide), if_pos rfl, if_neg (by omega), if_pos ⟨by omega, by omega⟩]
  rfl
theorem lv_le {p r : Nat} {m x : Int} {lg : Nat → Int} : ∀ (k i : Nat), lvE p r m lg x i k ≤ (i : Int) + k
  | 0, i => by show (i : Int) ≤ _; omega
  | k + 1, i => by
    show (if rl p r m lg (bpn p r m x i) = -1 then lvE p r m lg x (i + 1) k else (i : Int)) ≤ _
    split
    · have := lv_le (p := p) (r := r) (m := m) (x := x) (lg := lg) k (i + 1)
      omega
    · omega
def dgt (p e r : Nat) (m : Int) (f : Nat → Int) (g : Int) (lg : Nat → Int) (x : Int) (j : Nat) : Int := if j < e then rl p r m lg (dlE p r m f g lg x j) else -1
theorem LW.rl {p e r q N : Nat} {m : Int} {f : Nat → Int} {g : Int} {n dg : Nat} {set : Int} {mk ck : Nat → Int} {B : HA} {F : HF} {A : HA} (hw : LW p e r q N m f g n set dg mk ck B F A) (z : Int) : InR (rl p r m (lgR p r m q f g) z) := by
  obtain ⟨h, h3⟩ := rl_R hw.1.1.2.1 z
  rcases h with h | h
  · rw [h]; exact ⟨by decide, by decide⟩
  · exact ⟨by omega, by omega⟩
theorem LW.dgt {p e r q N : Nat} {m : Int} {f : Nat → Int} {g : Int} {n dg : Nat} {set : Int} {mk ck : Nat → Int} {B : HA} {F : HF} {A : HA} (hw : LW p e r q N m f g n set dg mk ck B F A) (x : Int) (j : Nat) : InR (dgt p e r m f g (lgR p r m q f g) x j) := by
  show InR (if j < e then _ else _)
  split
  · exact hw.rl _
  · exact ⟨by decide, by decide⟩
set_option maxRecDepth 20000 in
theorem lp_cin {p e r q N : Nat} {m : Int} {f : Nat → Int} {g : Int} {n dg : Nat} {set : Int} {mk ck : Nat → Int} {B : HA} {F : HF} {al : AL}  {i C D : Nat} {x y a9 a10 a13 a14 a16 a18 a19 a20 : Int} {l11 l12 : Option LV} (hG : RG p e r q N m f g) (hK : KX al) (hi : i ≤ n) (hn63 : n ≤ 63) (hd : dg ≤ n) (hmk : ∀ j, 0 ≤ mk j ∧ mk j < m) (hck : ∀ j, 0 ≤ ck j ∧ ck j < m) (hC : C ≤ 530000) (hD : D ≤ 7200000)
    (cont : ∀ (A : HA) (nc ns : Nat), LW p e r q N m f g n set dg mk ck B F A → nc ≤ C + 4 * (min i dg + 1) → ns ≤ D + 24 * (min i dg + 1) → LQw nc ns 834 [some (vA 0), some (vA 1), some (vI N), some (vI r), some (vI e), some (vI m), some (vI x), some (vI y), some (vA 45), some (vI a9), some (vI a10), l11, l12, some (vI a13), some (vI a14), some (vA 46), some (vI a16), some (vI n), some (vI a18), some (vI a19), some (vI a20), some (vI dg), some (vI ((n : Int) - dg)), some (vI i), some (vI (rs m r (cvT m r f mk ck i) (min i dg + 1))), some (vI ((min i dg + 1 : Nat) : Int))] [] F A al) :
    ∀ (k t nc ns : Nat) (A : HA), t + k = min i dg + 1 → i - (n - dg) ≤ t → LW p e r q N m f g n set dg mk ck B F A → nc ≤ C + 4 * t → ns ≤ D + 24 * t →
    LQw nc ns 790 [some (vA 0), some (vA 1), some (vI N), some (vI r), some (vI e), some (vI m), some (vI x), some (vI y), some (vA 45), some (vI a9), some (vI a10), l11, l12, some (vI a13), some (vI a14), some (vA 46), some (vI a16), some (vI n), some (vI a18), some (vI a19), some (vI a20), some (vI dg), some (vI ((n : Int) - dg)), some (vI i), some (vI (rs m r (cvT m r f mk ck i) t)), some (vI t)] [] F A al := by
  obtain ⟨hR, hp, hNe, hNm, he4, hr6, hN4, hq4, hm4, hL, hWH⟩ := id hG
  have hm2 := hR.m2
  have hq2 := hR.q2
  have hp2 := hR.1
  have he1 := hR.2.1
  have hr1 := hR.2.2.1
  have hm0 : 0 < m := by omega
  intro k
  induction k with
  | zero =>
    intro t nc ns A ht hlo hw hnc hns
    obtain rfl : t = min i dg + 1 := by omega
    refine q_iload eL_law_790 rfl ?_
    refine q_iload eL_law_792 rfl ?_
    refine q_iload eL_law_794 rfl ?_
    refine q_callSP [vI i, vI dg] (M1 := mJ9_min_7cf53) eL_law_796 mf_J9_min_7cf53 lk_L_18 (ev_min ⟨by omega, by omega⟩ ⟨by omega, by omega⟩) (by decide) (by omega) (by omega) (Nat.le_of_ble_eq_true rfl) rfl ?_
    rw [show min (i : Int) (dg : Int) = ((min i dg : Nat) : Int) by omega]
    refine q_icmp_gt (tgt := 834) eL_law_799 (by decide) (by first | assumption | exact ⟨by omega, by omega⟩) (by first | assumption | exact ⟨by omega, by omega⟩) (fun c => ?_) (fun c => ?_)
    · exact cont A nc ns hw (by omega) (by omega)
    · exact absurd c (by omega)
  | succ k ih =>
    intro t nc ns A ht hlo hw hnc hns
    obtain ⟨hcv, hcs⟩ := cv_rs (f := f) hm2 hr1 hmk hck i t
    refine q_iload eL_law_790 rfl ?_
    refine q_iload eL_law_792 rfl ?_
    refine q_iload eL_law_794 rfl ?_
    refine q_callSP [vI i, vI dg] (M1 := mJ9_min_7cf53) eL_law_796 mf_J9_min_7cf53 lk_L_18 (ev_min ⟨by omega, by omega⟩ ⟨by omega, by omega⟩) (by decide) (by omega) (by omega) (Nat.le_of_ble_eq_true rfl) rfl ?_
    rw [show min (i : Int) (dg : Int) = ((min i dg : Nat) : Int) by omega]
    refine q_icmp_gt (tgt := 834) eL_law_799 (by decide) (by first | assumption | exact ⟨by omega, by omega⟩) (by first | assumption | exact ⟨by omega, by omega⟩) (fun c => ?_) (fun c => ?_)
    · exact absurd c (by omega)
    · refine q_iload eL_law_802 rfl ?_
      refine q_aload_n eL_law_804 rfl ?_
      refine q_iconst eL_law_805 ?_
      refine q_iload eL_law_806 rfl ?_
      refine c_coe (x := 0) (i := (t : Int)) (v := mk t) ⟨by decide, by decide⟩ ⟨by omega, by omega⟩ hw hK eL_law_808 (coe_0 (by omega)) (by omega) (by omega) (Nat.le_of_ble_eq_true rfl) (fun A hw => ?_)
      refine q_aload_n eL_law_811 rfl ?_
      refine q_iconst eL_law_812 ?_
      refine q_iload eL_law_813 rfl ?_
      refine q_iload eL_law_815 rfl ?_
      refine q_isub eL_law_817 ?_
      rw [show (i : Int) - (t : Int) = ((i - t : Nat) : Int) by omega]
      refine c_coe (x := 1) (i := ((i - t : Nat) : Int)) (v := ck (i - t)) ⟨by decide, by decide⟩ ⟨by omega, by omega⟩ hw hK eL_law_818 (coe_1 (by omega) hd) (by omega) (by omega) (Nat.le_of_ble_eq_true rfl) (fun A hw => ?_)
      have hsq := sq_le (hmk t).1 (Int.le_of_lt (hmk t).2) (hck (i - t)).1 (Int.le_of_lt (hck (i - t)).2) hm4
      refine q_imul eL_law_821 ?_
      refine q_iadd eL_law_822 ?_
      refine q_iload eL_law_823 rfl ?_
      refine q_irem eL_law_825 (by omega) (by omega) (by omega) (by omega) ?_
      rw [← hcs]
      refine q_istore eL_law_826 (by decide) rfl ?_
      refine q_iinc eL_law_828 rfl (by decide) rfl ?_
      refine q_goto (tgt := 790) eL_law_831 (by decide) ?_
      exact ih (t + 1) _ _ A (by omega) (by omega) hw (by omega) (by omega)

set_option maxRecDepth 20000 in
theorem lp_cout {p e r q N : Nat} {m : Int} {f : Nat → Int} {g : Int} {n dg : Nat} {set : Int} {mk ck : Nat → Int} {B : HA} {F : HF} {al : AL}  {x y a9 a10 a13 a14 a16 a18 a19 a20 : Int} {l11 l12 : Option LV} (hG : RG p e r q N m f g) (hK : KX al) (hn : 1 ≤ n) (hn63 : n ≤ 63) (hd : dg ≤ n) (hmk : ∀ j, 0 ≤ mk j ∧ mk j < m) (hck : ∀ j, 0 ≤ ck j ∧ ck j < m) (hmz : ∀ j, dg < j → mk j = 0) (hcz : ∀ j, n - dg < j → ck j = 0) (hcv : ∀ i, i ≤ n → cv m r f mk ck i = if i = n then 1 else if i = 0 then m - 1 else 0) :
    ∀ (k i nc ns : Nat) (A : HA) (l24 l25 : Option LV), i + k = n + 1 → LW p e r q N m f g n set dg mk ck B F A → nc ≤ 500000 + 260 * i → ns ≤ 7000000 + 1600 * i →
    LQw nc ns 769 [some (vA 0), some (vA 1), some (vI N), some (vI r), some (vI e), some (vI m), some (vI x), some (vI y), some (vA 45), some (vI a9), some (vI a10), l11, l12, some (vI a13), some (vI a14), some (vA 46), some (vI a16), some (vI n), some (vI a18), some (vI a19), some (vI a20), some (vI dg), some (vI ((n : Int) - dg)), some (vI i), l24, l25] [] F A al := by
  obtain ⟨hR, hp, hNe, hNm, he4, hr6, hN4, hq4, hm4, hL, hWH⟩ := id hG
  have hm2 := hR.m2
  have hq2 := hR.q2
  have hp2 := hR.1
  have he1 := hR.2.1
  have hr1 := hR.2.2.1
  have hm0 : 0 < m := by omega
  intro k
  induction k with
  | zero =>
    intro i nc ns A l24 l25 hi hw hnc hns
    refine q_iload eL_law_769 rfl ?_
    refine q_iload eL_law_771 rfl ?_
    refine q_icmp_gt (tgt := 874) eL_law_773 (by decide) (by first | assumption | exact ⟨by omega, by omega⟩) (by first | assumption | exact ⟨by omega, by omega⟩) (fun c => ?_) (fun c => ?_)
    · refine q_iconst eL_law_874 ?_
      refine q_retZ eL_law_875 rfl (Or.inr rfl) (by omega) (by omega) ?_
      exact rfl
    · exact absurd c (by omega)
  | succ k ih =>
    intro i nc ns A l24 l25 hi hw hnc hns
    refine q_iload eL_law_769 rfl ?_
    refine q_iload eL_law_771 rfl ?_
    refine q_icmp_gt (tgt := 874) eL_law_773 (by decide) (by first | assumption | exact ⟨by omega, by omega⟩) (by first | assumption | exact ⟨by omega, by omega⟩) (fun c => ?_) (fun c => ?_)
    · exact absurd c (by omega)
    · refine q_iconst eL_law_776 ?_
      refine q_istore eL_law_777 (by decide) rfl ?_
      refine q_iconst eL_law_779 ?_
      refine q_iload eL_law_780 rfl ?_
      refine q_iload eL_law_782 rfl ?_
      refine q_isub eL_law_784 ?_
      refine q_callSP [vI 0, vI ((i : Int) - ((n : Int) - dg))] (M1 := mJ9_max_7cf53) eL_law_785 mf_J9_max_7cf53 lk_L_52 (ev_max ⟨by omega, by omega⟩ ⟨by omega, by omega⟩) (by decide) (by omega) (by omega) (Nat.le_of_ble_eq_true rfl) rfl ?_
      rw [show max (0 : Int) ((i : Int) - ((n : Int) - dg)) = ((i - (n - dg) : Nat) : Int) by omega]
      refine q_istore eL_law_788 (by decide) rfl ?_
      have hz : rs m r (cvT m r f mk ck i) (i - (n - dg)) = 0 := rs_zero hm0 (fun t ht => by
        unfold cvT
        rw [hcz _ (by omega), tm_zero hm0])
      have hfin : rs m r (cvT m r f mk ck i) (min i dg + 1) = if i = n then 1 else if i = 0 then m - 1 else 0 := by
        rw [← hcv i (by omega)]
        have h1 := rs_cut (r := r) (a := min i dg + 1) (H := cvT m r f mk ck i) hm0 (i - min i dg) (fun t ht ht2 => by
          unfold cvT
          have q9 : dg < t := by omega
          rw [hmz t q9, zero_tm hm0 (el_const hm2 hr1 (hck _))])
        rw [show min i dg + 1 + (i - min i dg) = i + 1 by omega] at h1
        exact h1.symm
      have hin := lp_cin (F := F) (B := B) (al := al) (set := set) (x := x) (y := y) (a9 := a9) (a10 := a10) (a13 := a13) (a14 := a14) (a16 := a16) (a18 := a18) (a19 := a19) (a20 := a20) (l11 := l11) (l12 := l12) (i := i) (C := 500000 + 260 * i) (D := 7000000 + 1600 * i) hG hK (by omega) hn63 hd hmk hck (by omega) (by omega) (fun A nc ns hw hnc hns => ?_) (min i dg + 1 - (i - (n - dg))) (i - (n - dg)) nc ns A (by omega) (Nat.le_refl _) hw (by omega) (by omega)
      · rw [hz] at hin
        exact hin
      · have hgo : ∀ l24 l25, LQw nc ns 868 [some (vA 0), some (vA 1), some (vI N), some (vI r), some (vI e), some (vI m), some (vI x), some (vI y), some (vA 45), some (vI a9), some (vI a10), l11, l12, some (vI a13), some (vI a14), some (vA 46), some (vI a16), some (vI n), some (vI a18), some (vI a19), some (vI a20), some (vI dg), some (vI ((n : Int) - dg)), some (vI i), l24, l25] [] F A al := fun l24 l25 => by
          refine q_iinc eL_law_868 rfl (by decide) rfl ?_
          refine q_goto (tgt := 769) eL_law_871 (by decide) ?_
          exact ih (i + 1) _ _ A l24 l25 (by omega) hw (by omega) (by omega)
        rw [hfin]
        refine q_iload eL_law_834 rfl ?_
        refine q_iload eL_law_836 rfl ?_
        refine q_iload eL_law_838 rfl ?_
        by_cases hin : i = n
        · rw [if_pos hin]
          refine q_icmp_ne (tgt := 850) eL_law_840 (by decide) ⟨by omega, by omega⟩ ⟨by omega, by omega⟩ (fun c => absurd (congrArg Nat.cast hin) c) (fun c => ?_)
          refine q_iconst eL_law_843 ?_
          refine q_iload eL_law_844 rfl ?_
          refine q_irem eL_law_846 (by decide) (by decide) (by omega) (by omega) ?_
          rw [Int.emod_eq_of_lt (by decide) (by omega)]
          refine q_goto (tgt := 863) eL_law_847 (by decide) ?_
          refine q_icmp_eq (tgt := 868) eL_law_863 (by decide) ⟨by decide, by decide⟩ ⟨by decide, by decide⟩ (fun c => ?_) (fun c => absurd rfl c)
          exact hgo _ _
        · rw [if_neg hin]
          refine q_icmp_ne (tgt := 850) eL_law_840 (by decide) ⟨by omega, by omega⟩ ⟨by omega, by omega⟩ (fun c => ?_) (fun c => absurd c (by omega))
          refine q_iload eL_law_850 rfl ?_
          by_cases hi0 : i = 0
          · rw [if_pos hi0]
            refine q_if_ne (tgt := 862) eL_law_852 (by decide) ⟨by omega, by omega⟩ (fun c => absurd (by omega) c) (fun c => ?_)
            refine q_iload eL_law_855 rfl ?_
            refine q_iconst eL_law_857 ?_
            refine q_isub eL_law_858 ?_
            refine q_goto (tgt := 863) eL_law_859 (by decide) ?_
            refine q_icmp_eq (tgt := 868) eL_law_863 (by decide) ⟨by omega, by omega⟩ ⟨by omega, by omega⟩ (fun c => ?_) (fun c => absurd rfl c)
            exact hgo _ _
          · rw [if_neg hi0]
            refine q_if_ne (tgt := 862) eL_law_852 (by decide) ⟨by omega, by omega⟩ (fun c => ?_) (fun c => absurd c (by omega))
            refine q_iconst eL_law_862 ?_
            refine q_icmp_eq (tgt := 868) eL_law_863 (by decide) ⟨by decide, by decide⟩ ⟨by decide, by decide⟩ (fun c => ?_) (fun c => absurd rfl c)
            exact hgo _ _

set_option maxRecDepth 20000 in
theorem t_680 {p e r q N : Nat} {m : Int} {f : Nat → Int} {g : Int} {n dg : Nat} {set : Int} {mk ck : Nat → Int} {B : HA} {F : HF} {A : HA} {al : AL} {nc ns : Nat} {S0 : Nat → Int} {n0 : Nat} {x y a9 a10 a13 a14 a16 a17 : Int} {l11 l12 : Option LV} (hG : RG p e r q N m f g) (hw : LW p e r q N m f g n set dg mk ck B F A) (hK : KX al) (h0 : al.1 0 = (4, n0)) (hn0 : n0 ≤ 260) (hB0 : B 0 = S0) (hnc : nc ≤ 400000) (hns : ns ≤ 6000000) :
    LQw nc ns 680 [some (vA 0), some (vA 1), some (vI N), some (vI r), some (vI e), some (vI m), some (vI x), some (vI y), some (vA 45), some (vI a9), some (vI a10), l11, l12, some (vI a13), some (vI a14), some (vA 46), some (vI a16), some (vI a17), none, none, none, none, none, none, none, none] [] F A al := by
  obtain ⟨hR, hp, hNe, hNm, he4, hr6, hN4, hq4, hm4, hL, hWH⟩ := id hG
  have hm2 := hR.m2
  have hq2 := hR.q2
  have hp2 := hR.1
  have he1 := hR.2.1
  have hr1 := hR.2.2.1
  have hm0 : 0 < m := by omega
  refine q_aload_n eL_law_680 rfl ?_
  refine q_aload_n eL_law_681 rfl ?_
  refine q_iconst eL_law_682 ?_
  refine q_callSP [vA 0, vI 4] (M1 := mL_cell) eL_law_683 mf_L_cell lk_L_29 (ev_cell (S0 := S0) (k := 4) h0 hn0 ((hw.2 0 (Or.inl rfl)).trans hB0) (by decide)) (by decide) (by omega) (by omega) (Nat.le_of_ble_eq_true rfl) rfl ?_
  obtain ⟨c40, c41⟩ := ce_rg S0 n0 4
  generalize ceE S0 n0 4 = c4 at c40 c41
  refine q_callS [vA 1, vI c4] (M1 := mL_length) eL_law_686 mf_L_length lk_L_58 (ev_length hK hw.1 hq2 hq4 c40 c41) (by intro E F A al h; obtain ⟨_, h, _⟩ := h; cases h) (by decide) (by omega) (by omega) (Nat.le_of_ble_eq_true rfl) (st := []) rfl (fun v9 F9 A9 al9 h9 => ?_)
  obtain ⟨n9, e9, rfl, rfl, hn1, hn63, hnq, ho⟩ := h9
  obtain rfl := Sum.inl.inj e9
  have hw := hw.s4 ho
  show LQw (nc + 1) (ns + 6) 689 _ [vI n9] _ _ _
  refine q_istore eL_law_689 (by decide) rfl ?_
  have hqn : ((q : Int) - 1) % (n9 : Int) = 0 := by
    rw [show ((q : Int) - 1) = ((q - 1 : Nat) : Int) by omega, ← Int.natCast_emod, hnq]
    rfl
  refine q_aload_n eL_law_691 rfl ?_
  refine q_iload eL_law_692 rfl ?_
  refine q_iconst eL_law_694 ?_
  refine q_iconst eL_law_695 ?_
  refine c_cls (a := (n9 : Int)) (i := -1) (k0 := 0) (v := ((paE p n9 n9).2 : Nat)) ⟨by omega, by omega⟩ ⟨by decide, by decide⟩ ⟨by decide, by decide⟩ hw hK eL_law_696 ((if_pos ⟨by omega, by omega, hqn⟩).trans (if_pos rfl)) (by omega) (by omega) (Nat.le_of_ble_eq_true rfl) (fun F A hw => ?_)
  generalize hcl : (paE p n9 n9).2 = cl
  have hcl9 : cl ≤ 63 := by
    have := pa_le (p := p) (n := n9) n9
    omega
  refine q_istore eL_law_699 (by decide) rfl ?_
  refine q_aload_n eL_law_701 rfl ?_
  refine q_iconst eL_law_702 ?_
  refine q_callSP [vA 0, vI 5] (M1 := mL_cell) eL_law_703 mf_L_cell lk_L_29 (ev_cell (S0 := S0) (k := 5) h0 hn0 ((hw.2 0 (Or.inl rfl)).trans hB0) (by decide)) (by decide) (by omega) (by omega) (Nat.le_of_ble_eq_true rfl) rfl ?_
  obtain ⟨c50, c51⟩ := ce_rg S0 n0 5
  generalize ceE S0 n0 5 = c5 at c50 c51
  refine q_iconst eL_law_706 ?_
  refine q_iload eL_law_707 rfl ?_
  refine q_bipush eL_law_709 (by decide +kernel) ?_
  refine q_callSP [vI cl, vI 20] (M1 := mJ9_min_7cf53) eL_law_711 mf_J9_min_7cf53 lk_L_18 (ev_min ⟨by omega, by omega⟩ ⟨by decide, by decide⟩) (by decide) (by omega) (by omega) (Nat.le_of_ble_eq_true rfl) rfl ?_
  rw [show min (cl : Int) 20 = ((min cl 20 : Nat) : Int) by omega]
  refine q_shl1 (n := min cl 20) (by omega) eL_law_714 ?_
  have hpow : (2 : Int) ^ (min cl 20) = ((2 ^ (min cl 20) : Nat) : Int) := by simp
  have hp0 : 0 < 2 ^ (min cl 20) := Nat.pow_pos (by decide)
  have hp1 : 2 ^ (min cl 20) ≤ 2 ^ 20 := Nat.pow_le_pow_right (by decide) (by omega)
  have hp3 : 2 ^ (min cl 20) ≤ 2 ^ cl := Nat.pow_le_pow_right (by decide) (by omega)
  have hp2 : (2 : Nat) ^ 20 = 1048576 := rfl
  rw [hpow]
  refine q_irem eL_law_715 c50 c51 (by omega) (by omega) ?_
  have hs0 : 0 ≤ c5 % ((2 ^ (min cl 20) : Nat) : Int) := Int.emod_nonneg _ (by omega)
  have hs1 : c5 % ((2 ^ (min cl 20) : Nat) : Int) < ((2 ^ (min cl 20) : Nat) : Int) := Int.emod_lt_of_pos _ (by omega)
  generalize c5 % ((2 ^ (min cl 20) : Nat) : Int) = s9 at hs0 hs1
  refine q_istore eL_law_716 (by decide) rfl ?_
  refine q_aload_n eL_law_718 rfl ?_
  refine q_iload eL_law_719 rfl ?_
  refine q_iload eL_law_721 rfl ?_
  have hcod : codOk p q (n9 : Int) s9 := by
    refine ⟨⟨by omega, by omega, hqn⟩, hs0, fun hk => hk.2 ?_⟩
    show s9 / 2 ^ (paE p n9 n9).2 = 0
    rw [hcl]
    refine Int.ediv_eq_zero_of_lt hs0 ?_
    rw [show (2 : Int) ^ cl = ((2 ^ cl : Nat) : Int) by simp]
    omega
  refine c_cod (a := (n9 : Int)) (s := s9) ⟨by omega, by omega⟩ ⟨by omega, by omega⟩ hw hK eL_law_723 hcod (by omega) (by omega) (Nat.le_of_ble_eq_true rfl) (fun F A hw => ?_)
  rw [Int.toNat_natCast] at hw ⊢
  generalize hcy : cyE m r q n9 f g (paE p n9 n9).1 s9 n9 = T at hw ⊢
  obtain ⟨dg9, mk9, ck9⟩ := T
  have hw : LW p e r q N m f g n9 s9 dg9 mk9 ck9 B F A := hw
  show LQw _ _ _ _ [vI ((n9 - dg9 : Nat) : Int)] F A _
  have hd := hw.1.cd.2.2.1
  obtain ⟨k1, k2, k3, k4, k5⟩ := hR.mkck hL hn1 hn63 hnq hcy
  rw [show ((n9 - dg9 : Nat) : Int) = (n9 : Int) - dg9 by omega]
  refine q_istore eL_law_726 (by decide) rfl ?_
  refine q_aload_n eL_law_728 rfl ?_
  refine q_iconst eL_law_729 ?_
  refine q_iconst eL_law_730 ?_
  refine c_coe (x := 0) (i := -1) (v := dg9) ⟨by decide, by decide⟩ ⟨by decide, by decide⟩ hw hK eL_law_731 rfl (by omega) (by omega) (Nat.le_of_ble_eq_true rfl) (fun A hw => ?_)
  refine q_istore eL_law_734 (by decide) rfl ?_
  refine q_aload_n eL_law_736 rfl ?_
  refine q_iconst eL_law_737 ?_
  refine q_iconst eL_law_738 ?_
  refine c_coe (x := 1) (i := -1) (v := (n9 : Int) - dg9) ⟨by decide, by decide⟩ ⟨by decide, by decide⟩ hw hK eL_law_739 rfl (by omega) (by omega) (Nat.le_of_ble_eq_true rfl) (fun A hw => ?_)
  refine q_istore eL_law_742 (by decide) rfl ?_
  refine q_iload eL_law_744 rfl ?_
  refine q_iload eL_law_746 rfl ?_
  refine q_iload eL_law_748 rfl ?_
  refine q_isub eL_law_750 ?_
  refine q_icmp_ne (tgt := 764) eL_law_751 (by decide) ⟨by omega, by omega⟩ ⟨by omega, by omega⟩ (fun c => absurd rfl c) (fun c => ?_)
  refine q_iload eL_law_754 rfl ?_
  refine q_iload eL_law_756 rfl ?_
  refine q_iadd eL_law_758 ?_
  refine q_iload eL_law_759 rfl ?_
  refine q_icmp_eq (tgt := 766) eL_law_761 (by decide) ⟨by omega, by omega⟩ ⟨by omega, by omega⟩ (fun c => ?_) (fun c => absurd (by omega) c)
  refine q_iconst eL_law_766 ?_
  refine q_istore eL_law_767 (by decide) rfl ?_
  exact lp_cout hG hK hn1 hn63 hd k1 k2 k3 k4 k5 (n9 + 1) 0 _ _ A none none (by omega) hw (by omega) (by omega)

set_option maxRecDepth 20000 in
theorem lp_sum {p e r q N : Nat} {m : Int} {f : Nat → Int} {g : Int} {n dg : Nat} {set : Int} {mk ck : Nat → Int} {B : HA} {F : HF} {al : AL} {S0 : Nat → Int} {n0 : Nat} {a9 a10 a13 x y : Int} {l11 l12 : Option LV} {k : Nat} (hG : RG p e r q N m f g) (hK : KX al) (h0 : al.1 0 = (4, n0)) (hn0 : n0 ≤ 260) (hB0 : B 0 = S0) (hk : k < q - 1) :
    ∀ (j i nc ns : Nat) (A : HA), i + j = e → LW p e r q N m f g n set dg mk ck B F A → nc ≤ 300100 + 2 * i → ns ≤ 5910000 + 12 * i →
    LQw nc ns 646 [some (vA 0), some (vA 1), some (vI N), some (vI r), some (vI e), some (vI m), some (vI x), some (vI y), some (vA 45), some (vI a9), some (vI a10), l11, l12, some (vI a13), some (vI k), some (vA 46), some (vI (pl m r 1 (pw m r f g k))), some (vI i), none, none, none, none, none, none, none, none] [] F A al := by
  obtain ⟨hR, hp, hNe, hNm, he4, hr6, hN4, hq4, hm4, hL, hWH⟩ := id hG
  have hm2 := hR.m2
  have hq2 := hR.q2
  have hp2 := hR.1
  have he1 := hR.2.1
  have hr1 := hR.2.2.1
  have hm0 : 0 < m := by omega
  have hk1 := hR.el k
  have ho1 : El m r (pl m r 1 (pw m r f g k)) := pl_el hm0 _ _
  intro j
  induction j with
  | zero =>
    intro i nc ns A hi hw hnc hns
    refine q_iload eL_law_646 rfl ?_
    refine q_iload eL_law_648 rfl ?_
    refine q_icmp_ge (tgt := 680) eL_law_650 (by decide) (by first | assumption | exact ⟨by omega, by omega⟩) (by first | assumption | exact ⟨by omega, by omega⟩) (fun c => ?_) (fun c => ?_)
    · exact t_680 hG hw hK h0 hn0 hB0 (by omega) (by omega)
    · exact absurd c (by omega)
  | succ j ih =>
    intro i nc ns A hi hw hnc hns
    refine q_iload eL_law_646 rfl ?_
    refine q_iload eL_law_648 rfl ?_
    refine q_icmp_ge (tgt := 680) eL_law_650 (by decide) (by first | assumption | exact ⟨by omega, by omega⟩) (by first | assumption | exact ⟨by omega, by omega⟩) (fun c => ?_) (fun c => ?_)
    · exact absurd c (by omega)
    · refine q_aload_n eL_law_653 rfl ?_
      refine q_iload eL_law_654 rfl ?_
      refine q_iload eL_law_656 rfl ?_
      refine c_sum (x := (k : Int)) (i := (i : Int)) (v := rl p r m (lgR p r m q f g) (dlE p r m f g (lgR p r m q f g) (pl m r 1 (pw m r f g k)) i)) ⟨by omega, by omega⟩ ⟨by omega, by omega⟩ hw hK eL_law_658 (if_pos ⟨⟨by omega, by omega⟩, by omega, by omega⟩) (by omega) (by omega) (Nat.le_of_ble_eq_true rfl) (fun A hw => ?_)
      refine q_aload_n eL_law_661 rfl ?_
      refine q_iload eL_law_662 rfl ?_
      refine q_iload eL_law_664 rfl ?_
      refine c_dig (x := pl m r 1 (pw m r f g k)) (i := (i : Int)) (v := rl p r m (lgR p r m q f g) (dlE p r m f g (lgR p r m q f g) (pl m r 1 (pw m r f g k)) i)) (hG.inN ho1).2 ⟨by omega, by omega⟩ hw hK eL_law_666 (if_pos ⟨(hG.inN ho1).1, by omega, by omega⟩) (by omega) (by omega) (Nat.le_of_ble_eq_true rfl) (fun A hw => ?_)
      refine q_icmp_eq (tgt := 674) eL_law_669 (by decide) (hw.rl _) (hw.rl _) (fun c => ?_) (fun c => absurd rfl c)
      refine q_iinc eL_law_674 rfl (by decide) rfl ?_
      refine q_goto (tgt := 646) eL_law_677 (by decide) ?_
      exact ih (i + 1) _ _ A (by omega) hw (by omega) (by omega)

set_option maxRecDepth 20000 in
theorem t_574 {p e r q N : Nat} {m : Int} {f : Nat → Int} {g : Int} {n dg : Nat} {set : Int} {mk ck : Nat → Int} {B : HA} {F : HF} {A : HA} {al : AL} {nc ns : Nat} {S0 : Nat → Int} {n0 : Nat} {x y a9 a10 a13 a14 : Int} {l11 l12 : Option LV} (hG : RG p e r q N m f g) (hw : LW p e r q N m f g n set dg mk ck B F A) (hK : KX al) (h0 : al.1 0 = (4, n0)) (hn0 : n0 ≤ 260) (hB0 : B 0 = S0) (hal : al.2 = 46) (hnc : nc ≤ 300000) (hns : ns ≤ 5900000) :
    LQw nc ns 574 [some (vA 0), some (vA 1), some (vI N), some (vI r), some (vI e), some (vI m), some (vI x), some (vI y), some (vA 45), some (vI a9), some (vI a10), l11, l12, some (vI a13), some (vI a14), none, none, none, none, none, none, none, none, none, none, none] [] F A al := by
  obtain ⟨hR, hp, hNe, hNm, he4, hr6, hN4, hq4, hm4, hL, hWH⟩ := id hG
  have hm2 := hR.m2
  have hq2 := hR.q2
  have hp2 := hR.1
  have he1 := hR.2.1
  have hr1 := hR.2.2.1
  have hm0 : 0 < m := by omega
  refine q_aload_n eL_law_574 rfl ?_
  refine q_iconst eL_law_575 ?_
  refine q_callSP [vA 0, vI 3] (M1 := mL_cell) eL_law_576 mf_L_cell lk_L_29 (ev_cell (S0 := S0) (k := 3) h0 hn0 ((hw.2 0 (Or.inl rfl)).trans hB0) (by decide)) (by decide) (by omega) (by omega) (Nat.le_of_ble_eq_true rfl) rfl ?_
  obtain ⟨c30, c31⟩ := ce_rg S0 n0 3
  generalize ceE S0 n0 3 = c3 at c30 c31
  refine q_iconst eL_law_579 ?_
  refine q_aload_n eL_law_580 rfl ?_
  refine q_iconst eL_law_581 ?_
  refine c_cnt (what := 4) (v := q) ⟨by decide, by decide⟩ hw hK eL_law_582 rfl (by omega) (by omega) (Nat.le_of_ble_eq_true rfl) (fun A hw => ?_)
  refine q_iconst eL_law_585 ?_
  refine q_isub eL_law_586 ?_
  refine q_callSP [vI 1, vI ((q : Int) - 1)] (M1 := mJ9_max_7cf53) eL_law_587 mf_J9_max_7cf53 lk_L_52 (ev_max ⟨by decide, by decide⟩ ⟨by omega, by omega⟩) (by decide) (by omega) (by omega) (Nat.le_of_ble_eq_true rfl) rfl ?_
  rw [show max (1 : Int) ((q : Int) - 1) = (q : Int) - 1 by omega]
  refine q_irem eL_law_590 c30 c31 (by omega) (by omega) ?_
  have hk0 : 0 ≤ c3 % ((q : Int) - 1) := Int.emod_nonneg _ (by omega)
  have hk1 : c3 % ((q : Int) - 1) < (q : Int) - 1 := Int.emod_lt_of_pos _ (by omega)
  obtain ⟨k, hk⟩ : ∃ k : Nat, c3 % ((q : Int) - 1) = k := ⟨(c3 % ((q : Int) - 1)).toNat, (Int.toNat_of_nonneg hk0).symm⟩
  rw [hk] at hk0 hk1 ⊢
  refine q_istore eL_law_591 (by decide) rfl ?_
  obtain ⟨K, n46⟩ := al
  obtain rfl : n46 = 46 := hal
  have hkE := hR.el k
  have h1E := el_one (m := m) (r := r) hm2 hr1
  have ho1 : El m r (pl m r 1 (pw m r f g k)) := pl_el hm0 _ _
  have hk46 : (kU (K, 46) (0, 4)).1 46 = (0, 4) := by
    show (if (46 : Nat) = 46 then ((0, 4) : Nat × Nat) else K 46) = (0, 4)
    exact if_pos rfl
  have hK9 : KX (kU (K, 46) (0, 4)) := hK.kU (show 44 ≤ 46 by decide) _
  have h09 : (kU (K, 46) (0, 4)).1 0 = (4, n0) := h0
  refine q_iconst eL_law_593 ?_
  refine q_newa_I (N := 4) eL_law_594 (by decide) (by omega) (by omega) ?_
  refine q_dup eL_law_596 rfl ?_
  refine q_iconst eL_law_597 ?_
  refine q_iload eL_law_598 rfl ?_
  refine q_iast eL_law_600 hk46 (by decide) (by decide) ?_
  refine q_dup eL_law_601 rfl ?_
  refine q_iconst eL_law_602 ?_
  refine q_iconst eL_law_603 ?_
  refine q_iast eL_law_604 hk46 (by decide) (by decide) ?_
  refine q_dup eL_law_605 rfl ?_
  refine q_iconst eL_law_606 ?_
  refine q_iconst eL_law_607 ?_
  refine q_iast eL_law_608 hk46 (by decide) (by decide) ?_
  refine q_dup eL_law_609 rfl ?_
  refine q_iconst eL_law_610 ?_
  refine q_iconst eL_law_611 ?_
  refine q_iast eL_law_612 hk46 (by decide) (by decide) ?_
  have hw := (((((hw.nA (a := 46) (by decide)).up (k := 0) (v := (k : Int)) (a := 46) (by decide)).up (k := 1) (v := -1) (a := 46) (by decide)).up (k := 2) (v := -1) (a := 46) (by decide)).up (k := 3) (v := -1) (a := 46) (by decide))
  have hB9 : (up2 (up2 (up2 (up2 (nA B 46) 46 0 (k : Int)) 46 1 (-1)) 46 2 (-1)) 46 3 (-1)) 0 = S0 := by
    rw [up2_row (by decide), up2_row (by decide), up2_row (by decide), up2_row (by decide)]
    exact (if_neg (by decide)).trans hB0
  have b0 : (up2 (up2 (up2 (up2 (nA B 46) 46 0 (k : Int)) 46 1 (-1)) 46 2 (-1)) 46 3 (-1)) 46 0 = k := (up2_ne (by decide)).trans ((up2_ne (by decide)).trans ((up2_ne (by decide)).trans (up2_eq _ _ _ _)))
  have b1 : (up2 (up2 (up2 (up2 (nA B 46) 46 0 (k : Int)) 46 1 (-1)) 46 2 (-1)) 46 3 (-1)) 46 1 = -1 := (up2_ne (by decide)).trans ((up2_ne (by decide)).trans (up2_eq _ _ _ _))
  have b2 : (up2 (up2 (up2 (up2 (nA B 46) 46 0 (k : Int)) 46 1 (-1)) 46 2 (-1)) 46 3 (-1)) 46 2 = -1 := (up2_ne (by decide)).trans (up2_eq _ _ _ _)
  have b3 : (up2 (up2 (up2 (up2 (nA B 46) 46 0 (k : Int)) 46 1 (-1)) 46 2 (-1)) 46 3 (-1)) 46 3 = -1 := up2_eq _ _ _ _
  generalize up2 (up2 (up2 (up2 (nA B 46) 46 0 (k : Int)) 46 1 (-1)) 46 2 (-1)) 46 3 (-1) = B9 at hw hB9 b0 b1 b2 b3
  have hgen : ∀ A9 : HA, LW p e r q N m f g n set dg mk ck B9 F A9 → LQw (nc + 1 + 1) (ns + 6 + 4) 613 [some (vA 0), some (vA 1), some (vI N), some (vI r), some (vI e), some (vI m), some (vI x), some (vI y), some (vA 45), some (vI a9), some (vI a10), l11, l12, some (vI a13), some (vI k), none, none, none, none, none, none, none, none, none, none, none] [vA 46] F A9 (kU (K, 46) (0, 4)) := by
    intro A9 hw
    have a0 : A9 46 (0 : Int).toNat = k := (congrFun (hw.2 46 (Or.inr (by decide))) 0).trans b0
    have a1 : A9 46 (1 : Int).toNat = -1 := (congrFun (hw.2 46 (Or.inr (by decide))) 1).trans b1
    have a2 : A9 46 (2 : Int).toNat = -1 := (congrFun (hw.2 46 (Or.inr (by decide))) 2).trans b2
    have a3 : A9 46 (3 : Int).toNat = -1 := (congrFun (hw.2 46 (Or.inr (by decide))) 3).trans b3
    have hK := hK9
    refine q_astore eL_law_613 (by decide) rfl ?_
    refine q_aload_n eL_law_615 rfl ?_
    refine q_iconst eL_law_616 ?_
    refine q_iconst eL_law_617 ?_
    refine q_aload_n eL_law_618 rfl ?_
    refine q_aload eL_law_619 rfl ?_
    refine q_iconst eL_law_621 ?_
    refine q_iald eL_law_622 hk46 (by decide) (by decide) ?_
    rw [a0]
    refine q_aload eL_law_623 rfl ?_
    refine q_iconst eL_law_625 ?_
    refine q_iald eL_law_626 hk46 (by decide) (by decide) ?_
    rw [a1]
    refine q_aload eL_law_627 rfl ?_
    refine q_iconst eL_law_629 ?_
    refine q_iald eL_law_630 hk46 (by decide) (by decide) ?_
    rw [a2]
    refine q_aload eL_law_631 rfl ?_
    refine q_iconst eL_law_633 ?_
    refine q_iald eL_law_634 hk46 (by decide) (by decide) ?_
    rw [a3]
    refine c_wh (d0 := (k : Int)) (d1 := -1) (d2 := -1) (d3 := -1) (v := pw m r f g k) ⟨by omega, by omega⟩ ⟨by decide, by decide⟩ ⟨by decide, by decide⟩ ⟨by decide, by decide⟩ hw hK eL_law_635 ((if_pos ⟨Or.inr ⟨by omega, by omega, by omega⟩, Or.inl rfl, Or.inl rfl, Or.inl rfl⟩).trans (congrArg some (hR.wd0 k))) (by omega) (by omega) (Nat.le_of_ble_eq_true rfl) (fun A hw => ?_)
    refine c_el (how := 0) (x := 1) (y := pw m r f g k) (v := pl m r 1 (pw m r f g k)) ⟨by decide, by decide⟩ (hG.inN h1E).2 (hG.inN hkE).2 hw hK eL_law_638 (el_0 (hG.inN h1E).1 (hG.inN hkE).1) (by omega) (by omega) (Nat.le_of_ble_eq_true rfl) (fun A hw => ?_)
    refine q_istore eL_law_641 (by decide) rfl ?_
    refine q_iconst eL_law_643 ?_
    refine q_istore eL_law_644 (by decide) rfl ?_
    exact lp_sum hG hK h09 hn0 hB9 (by omega) e 0 _ _ A (by omega) hw (by omega) (by omega)
  exact hgen _ hw

set_option maxRecDepth 20000 in
theorem lp_its {p e r q N : Nat} {m : Int} {f : Nat → Int} {g : Int} {n dg : Nat} {set : Int} {mk ck : Nat → Int} {B : HA} {F : HF} {al : AL} {S0 : Nat → Int} {n0 : Nat} {a9 a10 a11 a12 x y : Int} (hG : RG p e r q N m f g) (hK : KX al) (h0 : al.1 0 = (4, n0)) (hn0 : n0 ≤ 260) (hB0 : B 0 = S0) (hal : al.2 = 46) (hx : El m r x) :
    ∀ (j i nc ns : Nat) (A : HA), i + j = r → LW p e r q N m f g n set dg mk ck B F A → nc ≤ 200000 + 2 * i → ns ≤ 5800000 + 12 * i →
    LQw nc ns 544 [some (vA 0), some (vA 1), some (vI N), some (vI r), some (vI e), some (vI m), some (vI x), some (vI y), some (vA 45), some (vI a9), some (vI a10), some (vI a11), some (vI a12), some (vI (mvn p r m f x i)), some (vI i), none, none, none, none, none, none, none, none, none, none, none] [] F A al := by
  obtain ⟨hR, hp, hNe, hNm, he4, hr6, hN4, hq4, hm4, hL, hWH⟩ := id hG
  have hm2 := hR.m2
  have hq2 := hR.q2
  have hp2 := hR.1
  have he1 := hR.2.1
  have hr1 := hR.2.2.1
  have hm0 : 0 < m := by omega
  intro j
  induction j with
  | zero =>
    intro i nc ns A hi hw hnc hns
    obtain rfl : i = r := by omega
    refine q_iload eL_law_544 rfl ?_
    refine q_iload_n eL_law_546 rfl ?_
    refine q_icmp_ge (tgt := 565) eL_law_547 (by decide) (by first | assumption | exact ⟨by omega, by omega⟩) (by first | assumption | exact ⟨by omega, by omega⟩) (fun c => ?_) (fun c => ?_)
    · refine q_iload eL_law_565 rfl ?_
      refine q_iload eL_law_567 rfl ?_
      rw [hR.mvn_r hx]
      refine q_icmp_eq (tgt := 574) eL_law_569 (by decide) (hG.inN hx).2 (hG.inN hx).2 (fun c => ?_) (fun c => absurd rfl c)
      exact t_574 hG hw hK h0 hn0 hB0 hal (by omega) (by omega)
    · exact absurd c (by omega)
  | succ j ih =>
    intro i nc ns A hi hw hnc hns
    have hxi := mvn_el (p := p) (f := f) hm0 hx i
    refine q_iload eL_law_544 rfl ?_
    refine q_iload_n eL_law_546 rfl ?_
    refine q_icmp_ge (tgt := 565) eL_law_547 (by decide) (by first | assumption | exact ⟨by omega, by omega⟩) (by first | assumption | exact ⟨by omega, by omega⟩) (fun c => ?_) (fun c => ?_)
    · exact absurd c (by omega)
    · refine q_aload_n eL_law_550 rfl ?_
      refine q_iload eL_law_551 rfl ?_
      refine q_iconst eL_law_553 ?_
      refine c_of (x := mvn p r m f x i) (what := 2) (v := mvn p r m f x (i + 1)) (hG.inN hxi).2 ⟨by decide, by decide⟩ hw hK eL_law_554 (of_2 (hG.inN hxi).1) (by omega) (by omega) (Nat.le_of_ble_eq_true rfl) (fun A hw => ?_)
      refine q_istore eL_law_557 (by decide) rfl ?_
      refine q_iinc eL_law_559 rfl (by decide) rfl ?_
      refine q_goto (tgt := 544) eL_law_562 (by decide) ?_
      exact ih (i + 1) _ _ A (by omega) hw (by omega) (by omega)

set_option maxRecDepth 20000 in
theorem t_373 {p e r q N : Nat} {m : Int} {f : Nat → Int} {g : Int} {n dg : Nat} {set : Int} {mk ck : Nat → Int} {B : HA} {F : HF} {A : HA} {al : AL} {nc ns : Nat} {S0 : Nat → Int} {n0 : Nat} {x y a9 a10 : Int} {l11 l12 : Option LV} (hG : RG p e r q N m f g) (hw : LW p e r q N m f g n set dg mk ck B F A) (hK : KX al) (h0 : al.1 0 = (4, n0)) (hn0 : n0 ≤ 260) (hB0 : B 0 = S0) (hal : al.2 = 46) (hx : El m r x) (hy : El m r y) (hnc : nc ≤ 150000) (hns : ns ≤ 5700000) :
    LQw nc ns 373 [some (vA 0), some (vA 1), some (vI N), some (vI r), some (vI e), some (vI m), some (vI x), some (vI y), some (vA 45), some (vI a9), some (vI a10), l11, l12, none, none, none, none, none, none, none, none, none, none, none, none, none] [] F A al := by
  obtain ⟨hR, hp, hNe, hNm, he4, hr6, hN4, hq4, hm4, hL, hWH⟩ := id hG
  have hm2 := hR.m2
  have hq2 := hR.q2
  have hp2 := hR.1
  have he1 := hR.2.1
  have hr1 := hR.2.2.1
  have hm0 : 0 < m := by omega
  have hsE : El m r (pl m r x y) := pl_el hm0 _ _
  have htE : El m r (tm m r f x y) := tm_el hm0 _ _
  have hmx : El m r (mv p r m f x) := mv_el hm0
  have hmy : El m r (mv p r m f y) := mv_el hm0
  have hms : El m r (mv p r m f (pl m r x y)) := mv_el hm0
  have hmt : El m r (mv p r m f (tm m r f x y)) := mv_el hm0
  have htx := hR.tr_const hx
  have hty := hR.tr_const hy
  have hnx := hR.nm_const hx
  have hny := hR.nm_const hy
  have hsq := sq_le hnx.1 (Int.le_of_lt hnx.2) hny.1 (Int.le_of_lt hny.2) hm4
  have hr9 : 0 ≤ (trE p r m f x r + trE p r m f y r) % m ∧ (trE p r m f x r + trE p r m f y r) % m < m := ⟨Int.emod_nonneg _ (by omega), Int.emod_lt_of_pos _ hm0⟩
  have hr8 : 0 ≤ (nmE p r m f x r * nmE p r m f y r) % m ∧ (nmE p r m f x r * nmE p r m f y r) % m < m := ⟨Int.emod_nonneg _ (by omega), Int.emod_lt_of_pos _ hm0⟩
  refine q_aload_n eL_law_373 rfl ?_
  refine q_iconst eL_law_374 ?_
  refine q_iload eL_law_375 rfl ?_
  refine q_iload eL_law_377 rfl ?_
  refine c_el (how := 0) (x := x) (y := y) (v := pl m r x y) ⟨by decide, by decide⟩ (hG.inN hx).2 (hG.inN hy).2 hw hK eL_law_379 (el_0 (hG.inN hx).1 (hG.inN hy).1) (by omega) (by omega) (Nat.le_of_ble_eq_true rfl) (fun A hw => ?_)
  refine q_istore eL_law_382 (by decide) rfl ?_
  refine q_aload_n eL_law_384 rfl ?_
  refine q_iconst eL_law_385 ?_
  refine q_iload eL_law_386 rfl ?_
  refine q_iload eL_law_388 rfl ?_
  refine c_el (how := 2) (x := x) (y := y) (v := tm m r f x y) ⟨by decide, by decide⟩ (hG.inN hx).2 (hG.inN hy).2 hw hK eL_law_390 (el_2 (hG.inN hx).1 (hG.inN hy).1) (by omega) (by omega) (Nat.le_of_ble_eq_true rfl) (fun A hw => ?_)
  refine q_istore eL_law_393 (by decide) rfl ?_
  refine q_aload_n eL_law_395 rfl ?_
  refine q_iload eL_law_396 rfl ?_
  refine q_iconst eL_law_398 ?_
  refine c_of (x := pl m r x y) (what := 2) (v := mv p r m f (pl m r x y)) (hG.inN hsE).2 ⟨by decide, by decide⟩ hw hK eL_law_399 (of_2 (hG.inN hsE).1) (by omega) (by omega) (Nat.le_of_ble_eq_true rfl) (fun A hw => ?_)
  refine q_aload_n eL_law_402 rfl ?_
  refine q_iconst eL_law_403 ?_
  refine q_aload_n eL_law_404 rfl ?_
  refine q_iload eL_law_405 rfl ?_
  refine q_iconst eL_law_407 ?_
  refine c_of (x := x) (what := 2) (v := mv p r m f x) (hG.inN hx).2 ⟨by decide, by decide⟩ hw hK eL_law_408 (of_2 (hG.inN hx).1) (by omega) (by omega) (Nat.le_of_ble_eq_true rfl) (fun A hw => ?_)
  refine q_aload_n eL_law_411 rfl ?_
  refine q_iload eL_law_412 rfl ?_
  refine q_iconst eL_law_414 ?_
  refine c_of (x := y) (what := 2) (v := mv p r m f y) (hG.inN hy).2 ⟨by decide, by decide⟩ hw hK eL_law_415 (of_2 (hG.inN hy).1) (by omega) (by omega) (Nat.le_of_ble_eq_true rfl) (fun A hw => ?_)
  refine c_el (how := 0) (x := mv p r m f x) (y := mv p r m f y) (v := mv p r m f (pl m r x y)) ⟨by decide, by decide⟩ (hG.inN hmx).2 (hG.inN hmy).2 hw hK eL_law_418 ((el_0 (hG.inN hmx).1 (hG.inN hmy).1).trans (congrArg some (hR.mv_pl x y).symm)) (by omega) (by omega) (Nat.le_of_ble_eq_true rfl) (fun A hw => ?_)
  refine q_icmp_ne (tgt := 453) eL_law_421 (by decide) (hG.inN hms).2 (hG.inN hms).2 (fun c => absurd rfl c) (fun c => ?_)
  refine q_aload_n eL_law_424 rfl ?_
  refine q_iload eL_law_425 rfl ?_
  refine q_iconst eL_law_427 ?_
  refine c_of (x := tm m r f x y) (what := 2) (v := mv p r m f (tm m r f x y)) (hG.inN htE).2 ⟨by decide, by decide⟩ hw hK eL_law_428 (of_2 (hG.inN htE).1) (by omega) (by omega) (Nat.le_of_ble_eq_true rfl) (fun A hw => ?_)
  refine q_aload_n eL_law_431 rfl ?_
  refine q_iconst eL_law_432 ?_
  refine q_aload_n eL_law_433 rfl ?_
  refine q_iload eL_law_434 rfl ?_
  refine q_iconst eL_law_436 ?_
  refine c_of (x := x) (what := 2) (v := mv p r m f x) (hG.inN hx).2 ⟨by decide, by decide⟩ hw hK eL_law_437 (of_2 (hG.inN hx).1) (by omega) (by omega) (Nat.le_of_ble_eq_true rfl) (fun A hw => ?_)
  refine q_aload_n eL_law_440 rfl ?_
  refine q_iload eL_law_441 rfl ?_
  refine q_iconst eL_law_443 ?_
  refine c_of (x := y) (what := 2) (v := mv p r m f y) (hG.inN hy).2 ⟨by decide, by decide⟩ hw hK eL_law_444 (of_2 (hG.inN hy).1) (by omega) (by omega) (Nat.le_of_ble_eq_true rfl) (fun A hw => ?_)
  refine c_el (how := 2) (x := mv p r m f x) (y := mv p r m f y) (v := mv p r m f (tm m r f x y)) ⟨by decide, by decide⟩ (hG.inN hmx).2 (hG.inN hmy).2 hw hK eL_law_447 ((el_2 (hG.inN hmx).1 (hG.inN hmy).1).trans (congrArg some (hR.mv_tm x y).symm)) (by omega) (by omega) (Nat.le_of_ble_eq_true rfl) (fun A hw => ?_)
  refine q_icmp_eq (tgt := 455) eL_law_450 (by decide) (hG.inN hmt).2 (hG.inN hmt).2 (fun c => ?_) (fun c => absurd rfl c)
  refine q_aload_n eL_law_455 rfl ?_
  refine q_iload eL_law_456 rfl ?_
  refine q_iconst eL_law_458 ?_
  refine c_of (x := x) (what := 3) (v := trE p r m f x r) (hG.inN hx).2 ⟨by decide, by decide⟩ hw hK eL_law_459 (of_3 (hG.inN hx).1) (by omega) (by omega) (Nat.le_of_ble_eq_true rfl) (fun A hw => ?_)
  refine q_iload eL_law_462 rfl ?_
  refine q_icmp_ge (tgt := 535) eL_law_464 (by decide) ⟨by omega, by omega⟩ ⟨by omega, by omega⟩ (fun c => absurd c (by omega)) (fun c => ?_)
  refine q_aload_n eL_law_467 rfl ?_
  refine q_iload eL_law_468 rfl ?_
  refine q_iconst eL_law_470 ?_
  refine c_of (x := x) (what := 4) (v := nmE p r m f x r) (hG.inN hx).2 ⟨by decide, by decide⟩ hw hK eL_law_471 (of_4 (hG.inN hx).1) (by omega) (by omega) (Nat.le_of_ble_eq_true rfl) (fun A hw => ?_)
  refine q_iload eL_law_474 rfl ?_
  refine q_icmp_ge (tgt := 535) eL_law_476 (by decide) ⟨by omega, by omega⟩ ⟨by omega, by omega⟩ (fun c => absurd c (by omega)) (fun c => ?_)
  refine q_aload_n eL_law_479 rfl ?_
  refine q_iload eL_law_480 rfl ?_
  refine q_iconst eL_law_482 ?_
  refine c_of (x := pl m r x y) (what := 3) (v := (trE p r m f x r + trE p r m f y r) % m) (hG.inN hsE).2 ⟨by decide, by decide⟩ hw hK eL_law_483 ((of_3 (hG.inN hsE).1).trans (congrArg some (hR.tr_sum hx hy))) (by omega) (by omega) (Nat.le_of_ble_eq_true rfl) (fun A hw => ?_)
  refine q_aload_n eL_law_486 rfl ?_
  refine q_iload eL_law_487 rfl ?_
  refine q_iconst eL_law_489 ?_
  refine c_of (x := x) (what := 3) (v := trE p r m f x r) (hG.inN hx).2 ⟨by decide, by decide⟩ hw hK eL_law_490 (of_3 (hG.inN hx).1) (by omega) (by omega) (Nat.le_of_ble_eq_true rfl) (fun A hw => ?_)
  refine q_aload_n eL_law_493 rfl ?_
  refine q_iload eL_law_494 rfl ?_
  refine q_iconst eL_law_496 ?_
  refine c_of (x := y) (what := 3) (v := trE p r m f y r) (hG.inN hy).2 ⟨by decide, by decide⟩ hw hK eL_law_497 (of_3 (hG.inN hy).1) (by omega) (by omega) (Nat.le_of_ble_eq_true rfl) (fun A hw => ?_)
  refine q_iadd eL_law_500 ?_
  refine q_iload eL_law_501 rfl ?_
  refine q_irem eL_law_503 (by omega) (by omega) (by omega) (by omega) ?_
  refine q_icmp_ne (tgt := 535) eL_law_504 (by decide) ⟨by omega, by omega⟩ ⟨by omega, by omega⟩ (fun c => absurd rfl c) (fun c => ?_)
  refine q_aload_n eL_law_507 rfl ?_
  refine q_iload eL_law_508 rfl ?_
  refine q_iconst eL_law_510 ?_
  refine c_of (x := tm m r f x y) (what := 4) (v := (nmE p r m f x r * nmE p r m f y r) % m) (hG.inN htE).2 ⟨by decide, by decide⟩ hw hK eL_law_511 ((of_4 (hG.inN htE).1).trans (congrArg some (hR.nm_prod hx hy))) (by omega) (by omega) (Nat.le_of_ble_eq_true rfl) (fun A hw => ?_)
  refine q_aload_n eL_law_514 rfl ?_
  refine q_iload eL_law_515 rfl ?_
  refine q_iconst eL_law_517 ?_
  refine c_of (x := x) (what := 4) (v := nmE p r m f x r) (hG.inN hx).2 ⟨by decide, by decide⟩ hw hK eL_law_518 (of_4 (hG.inN hx).1) (by omega) (by omega) (Nat.le_of_ble_eq_true rfl) (fun A hw => ?_)
  refine q_aload_n eL_law_521 rfl ?_
  refine q_iload eL_law_522 rfl ?_
  refine q_iconst eL_law_524 ?_
  refine c_of (x := y) (what := 4) (v := nmE p r m f y r) (hG.inN hy).2 ⟨by decide, by decide⟩ hw hK eL_law_525 (of_4 (hG.inN hy).1) (by omega) (by omega) (Nat.le_of_ble_eq_true rfl) (fun A hw => ?_)
  refine q_imul eL_law_528 ?_
  refine q_iload eL_law_529 rfl ?_
  refine q_irem eL_law_531 (by omega) (by omega) (by omega) (by omega) ?_
  refine q_icmp_eq (tgt := 537) eL_law_532 (by decide) ⟨by omega, by omega⟩ ⟨by omega, by omega⟩ (fun c => ?_) (fun c => absurd rfl c)
  refine q_iload eL_law_537 rfl ?_
  refine q_istore eL_law_539 (by decide) rfl ?_
  refine q_iconst eL_law_541 ?_
  refine q_istore eL_law_542 (by decide) rfl ?_
  exact lp_its hG hK h0 hn0 hB0 hal hx r 0 _ _ A (by omega) hw (by omega) (by omega)

set_option maxRecDepth 20000 in
theorem t_221 {p e r q N : Nat} {m : Int} {f : Nat → Int} {g : Int} {n dg : Nat} {set : Int} {mk ck : Nat → Int} {B : HA} {F : HF} {A : HA} {al : AL} {nc ns : Nat} {S0 : Nat → Int} {n0 : Nat} {x y a9 : Int} (hG : RG p e r q N m f g) (hw : LW p e r q N m f g n set dg mk ck B F A) (hK : KX al) (h0 : al.1 0 = (4, n0)) (hn0 : n0 ≤ 260) (hB0 : B 0 = S0) (hal : al.2 = 46) (hx : El m r x) (hy : El m r y) (hnc : nc ≤ 120000) (hns : ns ≤ 5600000) :
    LQw nc ns 221 [some (vA 0), some (vA 1), some (vI N), some (vI r), some (vI e), some (vI m), some (vI x), some (vI y), some (vA 45), some (vI a9), some (vI (ro p r m f g (lgR p r m q f g) x)), none, none, none, none, none, none, none, none, none, none, none, none, none, none, none] [] F A al := by
  obtain ⟨hR, hp, hNe, hNm, he4, hr6, hN4, hq4, hm4, hL, hWH⟩ := id hG
  have hm2 := hR.m2
  have hq2 := hR.q2
  have hp2 := hR.1
  have he1 := hR.2.1
  have hr1 := hR.2.2.1
  have hm0 : 0 < m := by omega
  subst hNe
  have hxN := (hG.inN hx).1
  have hlv0 := lv_ge (p := p) (r := r) (m := m) (x := x) (lg := lgR p r m q f g) e 0
  have hlv1 := lv_le (p := p) (r := r) (m := m) (x := x) (lg := lgR p r m q f g) e 0
  have hlv := hR.lv0 (x := x)
  by_cases hu : rl p r m (lgR p r m q f g) x = -1
  · have hne : lvE p r m (lgR p r m q f g) x 0 e ≠ 0 := fun k => hlv.mp k hu
    refine q_aload_n eL_law_221 rfl ?_
    refine q_iload eL_law_222 rfl ?_
    refine q_iconst eL_law_224 ?_
    refine c_of (x := x) (what := 0) (v := lvE p r m (lgR p r m q f g) x 0 e) (hG.inN hx).2 ⟨by decide, by decide⟩ hw hK eL_law_225 (of_0 hxN) (by omega) (by omega) (Nat.le_of_ble_eq_true rfl) (fun A hw => ?_)
    refine q_if_ne (tgt := 335) eL_law_228 (by decide) ⟨by omega, by omega⟩ (fun c => ?_) (fun c => absurd c hne)
    refine q_aload_n eL_law_335 rfl ?_
    refine q_iload eL_law_336 rfl ?_
    refine q_bipush eL_law_338 (by decide +kernel) ?_
    refine c_of (x := x) (what := 6) (v := -1) (hG.inN hx).2 ⟨by decide, by decide⟩ hw hK eL_law_340 ((of_6 hxN).trans (congrArg some (if_pos hu))) (by omega) (by omega) (Nat.le_of_ble_eq_true rfl) (fun A hw => ?_)
    refine q_iconst eL_law_343 ?_
    refine q_icmp_ne (tgt := 371) eL_law_344 (by decide) ⟨by decide, by decide⟩ ⟨by decide, by decide⟩ (fun c => absurd rfl c) (fun c => ?_)
    refine q_aload_n eL_law_347 rfl ?_
    refine q_iload eL_law_348 rfl ?_
    refine q_bipush eL_law_350 (by decide +kernel) ?_
    refine c_of (x := x) (what := 7) (v := -1) (hG.inN hx).2 ⟨by decide, by decide⟩ hw hK eL_law_352 ((of_7 hxN).trans (congrArg some (if_pos hu))) (by omega) (by omega) (Nat.le_of_ble_eq_true rfl) (fun A hw => ?_)
    refine q_iconst eL_law_355 ?_
    refine q_icmp_ne (tgt := 371) eL_law_356 (by decide) ⟨by decide, by decide⟩ ⟨by decide, by decide⟩ (fun c => absurd rfl c) (fun c => ?_)
    refine q_aload_n eL_law_359 rfl ?_
    refine q_iload eL_law_360 rfl ?_
    refine q_bipush eL_law_362 (by decide +kernel) ?_
    refine c_of (x := x) (what := 8) (v := -1) (hG.inN hx).2 ⟨by decide, by decide⟩ hw hK eL_law_364 ((of_8 hxN).trans (congrArg some (if_pos hu))) (by omega) (by omega) (Nat.le_of_ble_eq_true rfl) (fun A hw => ?_)
    refine q_iconst eL_law_367 ?_
    refine q_icmp_eq (tgt := 373) eL_law_368 (by decide) ⟨by decide, by decide⟩ ⟨by decide, by decide⟩ (fun c => ?_) (fun c => absurd rfl c)
    exact t_373 hG hw hK h0 hn0 hB0 hal hx hy (by omega) (by omega)
  · obtain ⟨u1, u2, u3, u4⟩ := hR.unitp hp hx hu
    have u5 : 1 ≤ ordE p e r q m f g (lgR p r m q f g) x ∧ (((q : Int) - 1) * (coE p e r (p ^ (e * r)) m f (lgR p r m q f g) : Nat)) % (ordE p e r q m f g (lgR p r m q f g) x : Nat) = 0 := hR.ordd hp hNm hx hu
    have hroE : El m r (ro p r m f g (lgR p r m q f g) x) := ro_el hw.1.1.2.1 x
    have hiE : El m r (pw m r f x (ivN p e q)) := pw_el hm2 hr1 x _
    have h1E := el_one (m := m) (r := r) hm2 hr1
    have htyi : El m r (tm m r f y (pw m r f x (ivN p e q))) := tm_el hm0 _ _
    have hp7 : p ≤ 7 := by
      obtain ⟨-, -, -, -, -, -, ⟨-, h7, -⟩, -⟩ := hw.1.1.2.1
      exact h7
    have hco : coE p e r (p ^ (e * r)) m f (lgR p r m q f g) ≤ 343 := co_le hp2 hp7 he4
    have hod : ordE p e r q m f g (lgR p r m q f g) x ≤ 4096 := by
      have hl : low p r m x ≠ 0 := fun k => hu (hR.rl_no.mpr k)
      have h1 := (hR.ord_pos hp hx hl).2
      have h2 := hR.L_le
      have h3 := Nat.le_of_dvd (by omega) h1
      omega
    have hc12 : 0 ≤ ((q : Int) - 1) * (coE p e r (p ^ (e * r)) m f (lgR p r m q f g) : Nat) ∧ ((q : Int) - 1) * (coE p e r (p ^ (e * r)) m f (lgR p r m q f g) : Nat) ≤ 4096 * 343 := by
      refine ⟨Int.mul_nonneg (by omega) (by omega), ?_⟩
      exact Int.mul_le_mul (by omega) (by omega) (by omega) (by decide)
    have hlv9 := hlv.mpr hu
    refine q_aload_n eL_law_221 rfl ?_
    refine q_iload eL_law_222 rfl ?_
    refine q_iconst eL_law_224 ?_
    refine c_of (x := x) (what := 0) (v := 0) (hG.inN hx).2 ⟨by decide, by decide⟩ hw hK eL_law_225 ((of_0 hxN).trans (congrArg some hlv9)) (by omega) (by omega) (Nat.le_of_ble_eq_true rfl) (fun A hw => ?_)
    refine q_if_ne (tgt := 335) eL_law_228 (by decide) ⟨by decide, by decide⟩ (fun c => absurd rfl c) (fun c => ?_)
    refine q_aload_n eL_law_231 rfl ?_
    refine q_iload eL_law_232 rfl ?_
    refine q_bipush eL_law_234 (by decide +kernel) ?_
    refine c_of (x := x) (what := 6) (v := obl p e r q m f g (lgR p r m q f g) x) (hG.inN hx).2 ⟨by decide, by decide⟩ hw hK eL_law_236 ((of_6 hxN).trans (congrArg some (if_neg hu))) (by omega) (by omega) (Nat.le_of_ble_eq_true rfl) (fun A hw => ?_)
    refine q_istore eL_law_239 (by decide) rfl ?_
    refine q_aload_n eL_law_241 rfl ?_
    refine q_iconst eL_law_242 ?_
    refine q_iload eL_law_243 rfl ?_
    refine q_iload eL_law_245 rfl ?_
    refine c_el (how := 2) (x := ro p r m f g (lgR p r m q f g) x) (y := obl p e r q m f g (lgR p r m q f g) x) (v := x) ⟨by decide, by decide⟩ (hG.inN hroE).2 (hG.inN u3).2 hw hK eL_law_247 ((el_2 (hG.inN hroE).1 (hG.inN u3).1).trans (congrArg some u1)) (by omega) (by omega) (Nat.le_of_ble_eq_true rfl) (fun A hw => ?_)
    refine q_iload eL_law_250 rfl ?_
    refine q_icmp_ne (tgt := 266) eL_law_252 (by decide) (hG.inN hx).2 (hG.inN hx).2 (fun c => absurd rfl c) (fun c => ?_)
    refine q_aload_n eL_law_255 rfl ?_
    refine q_iload eL_law_256 rfl ?_
    refine q_iconst eL_law_258 ?_
    refine c_of (x := obl p e r q m f g (lgR p r m q f g) x) (what := 1) (v := 1) (hG.inN u3).2 ⟨by decide, by decide⟩ hw hK eL_law_259 ((of_1 (hG.inN u3).1).trans (congrArg some u2)) (by omega) (by omega) (Nat.le_of_ble_eq_true rfl) (fun A hw => ?_)
    refine q_iconst eL_law_262 ?_
    refine q_icmp_eq (tgt := 268) eL_law_263 (by decide) ⟨by decide, by decide⟩ ⟨by decide, by decide⟩ (fun c => ?_) (fun c => absurd rfl c)
    refine q_aload_n eL_law_268 rfl ?_
    refine q_iload eL_law_269 rfl ?_
    refine q_bipush eL_law_271 (by decide +kernel) ?_
    refine c_of (x := x) (what := 8) (v := pw m r f x (ivN p e q)) (hG.inN hx).2 ⟨by decide, by decide⟩ hw hK eL_law_273 ((of_8 hxN).trans (congrArg some (if_neg hu))) (by omega) (by omega) (Nat.le_of_ble_eq_true rfl) (fun A hw => ?_)
    refine q_istore eL_law_276 (by decide) rfl ?_
    refine q_aload_n eL_law_278 rfl ?_
    refine q_iconst eL_law_279 ?_
    refine q_iload eL_law_280 rfl ?_
    refine q_iload eL_law_282 rfl ?_
    refine c_el (how := 2) (x := x) (y := pw m r f x (ivN p e q)) (v := 1) ⟨by decide, by decide⟩ (hG.inN hx).2 (hG.inN hiE).2 hw hK eL_law_284 ((el_2 hxN (hG.inN hiE).1).trans (congrArg some u4)) (by omega) (by omega) (Nat.le_of_ble_eq_true rfl) (fun A hw => ?_)
    refine q_iconst eL_law_287 ?_
    refine q_icmp_ne (tgt := 330) eL_law_288 (by decide) ⟨by decide, by decide⟩ ⟨by decide, by decide⟩ (fun c => absurd rfl c) (fun c => ?_)
    refine q_aload_n eL_law_291 rfl ?_
    refine q_iconst eL_law_292 ?_
    refine q_iload eL_law_293 rfl ?_
    refine q_iload eL_law_295 rfl ?_
    refine c_el (how := 3) (x := y) (y := x) (v := tm m r f y (pw m r f x (ivN p e q))) ⟨by decide, by decide⟩ (hG.inN hy).2 (hG.inN hx).2 hw hK eL_law_297 (el_3 (hG.inN hy).1 hxN hu) (by omega) (by omega) (Nat.le_of_ble_eq_true rfl) (fun A hw => ?_)
    refine q_aload_n eL_law_300 rfl ?_
    refine q_iconst eL_law_301 ?_
    refine q_iload eL_law_302 rfl ?_
    refine q_iload eL_law_304 rfl ?_
    refine c_el (how := 2) (x := y) (y := pw m r f x (ivN p e q)) (v := tm m r f y (pw m r f x (ivN p e q))) ⟨by decide, by decide⟩ (hG.inN hy).2 (hG.inN hiE).2 hw hK eL_law_306 (el_2 (hG.inN hy).1 (hG.inN hiE).1) (by omega) (by omega) (Nat.le_of_ble_eq_true rfl) (fun A hw => ?_)
    refine q_icmp_ne (tgt := 330) eL_law_309 (by decide) (hG.inN htyi).2 (hG.inN htyi).2 (fun c => absurd rfl c) (fun c => ?_)
    refine q_aload_n eL_law_312 rfl ?_
    refine q_bipush eL_law_313 (by decide +kernel) ?_
    refine c_cnt (what := 12) (v := ((q : Int) - 1) * (coE p e r (p ^ (e * r)) m f (lgR p r m q f g) : Nat)) ⟨by decide, by decide⟩ hw hK eL_law_315 rfl (by omega) (by omega) (Nat.le_of_ble_eq_true rfl) (fun A hw => ?_)
    refine q_aload_n eL_law_318 rfl ?_
    refine q_iload eL_law_319 rfl ?_
    refine q_bipush eL_law_321 (by decide +kernel) ?_
    refine c_of (x := x) (what := 7) (v := ((ordE p e r q m f g (lgR p r m q f g) x : Nat) : Int)) (hG.inN hx).2 ⟨by decide, by decide⟩ hw hK eL_law_323 ((of_7 hxN).trans (congrArg some (if_neg hu))) (by omega) (by omega) (Nat.le_of_ble_eq_true rfl) (fun A hw => ?_)
    refine q_irem eL_law_326 (by omega) (by omega) (by omega) (by omega) ?_
    rw [u5.2]
    refine q_if_eq (tgt := 332) eL_law_327 (by decide) ⟨by decide, by decide⟩ (fun c => ?_) (fun c => absurd rfl c)
    refine q_goto (tgt := 373) eL_law_332 (by decide) ?_
    exact t_373 hG hw hK h0 hn0 hB0 hal hx hy (by omega) (by omega)

set_option maxRecDepth 20000 in
theorem t_172 {p e r q N : Nat} {m : Int} {f : Nat → Int} {g : Int} {n dg : Nat} {set : Int} {mk ck : Nat → Int} {B : HA} {F : HF} {A : HA} {al : AL} {nc ns : Nat} {S0 : Nat → Int} {n0 : Nat} {x y a9 : Int} (hG : RG p e r q N m f g) (hw : LW p e r q N m f g n set dg mk ck B F A) (hK : KX al) (h0 : al.1 0 = (4, n0)) (hn0 : n0 ≤ 260) (hB0 : B 0 = S0) (hal : al.2 = 46) (hx : El m r x) (hy : El m r y) (h45 : al.1 45 = (0, 4)) (hBd : ∀ j : Nat, j < 4 → B 45 j = dgt p e r m f g (lgR p r m q f g) x j) (hnc : nc ≤ 110000) (hns : ns ≤ 5500000) :
    LQw nc ns 172 [some (vA 0), some (vA 1), some (vI N), some (vI r), some (vI e), some (vI m), some (vI x), some (vI y), some (vA 45), some (vI a9), none, none, none, none, none, none, none, none, none, none, none, none, none, none, none, none] [] F A al := by
  obtain ⟨hR, hp, hNe, hNm, he4, hr6, hN4, hq4, hm4, hL, hWH⟩ := id hG
  have hm2 := hR.m2
  have hq2 := hR.q2
  have hp2 := hR.1
  have he1 := hR.2.1
  have hr1 := hR.2.2.1
  have hm0 : 0 < m := by omega
  have hxN := (hG.inN hx).1
  have hroE : El m r (ro p r m f g (lgR p r m q f g) x) := ro_el hw.1.1.2.1 x
  have hz := hR.ro_z x
  have hd0 : B 45 0 = rl p r m (lgR p r m q f g) x := (hBd 0 (by decide)).trans (if_pos (by omega))
  refine q_aload_n eL_law_172 rfl ?_
  refine q_iload eL_law_173 rfl ?_
  refine q_iconst eL_law_175 ?_
  refine c_of (x := x) (what := 1) (v := ro p r m f g (lgR p r m q f g) x) (hG.inN hx).2 ⟨by decide, by decide⟩ hw hK eL_law_176 (of_1 hxN) (by omega) (by omega) (Nat.le_of_ble_eq_true rfl) (fun A hw => ?_)
  refine q_istore eL_law_179 (by decide) rfl ?_
  refine q_aload_n eL_law_181 rfl ?_
  refine q_iload eL_law_182 rfl ?_
  refine q_iconst eL_law_184 ?_
  refine c_of (x := ro p r m f g (lgR p r m q f g) x) (what := 1) (v := ro p r m f g (lgR p r m q f g) x) (hG.inN hroE).2 ⟨by decide, by decide⟩ hw hK eL_law_185 ((of_1 (hG.inN hroE).1).trans (congrArg some (hR.ro_fix x))) (by omega) (by omega) (Nat.le_of_ble_eq_true rfl) (fun A hw => ?_)
  refine q_iload eL_law_188 rfl ?_
  refine q_icmp_ne (tgt := 219) eL_law_190 (by decide) (hG.inN hroE).2 (hG.inN hroE).2 (fun c => absurd rfl c) (fun c => ?_)
  have a0 : A 45 (0 : Int).toNat = rl p r m (lgR p r m q f g) x := (congrFun (hw.2 45 (Or.inr (by decide))) 0).trans hd0
  refine q_aload eL_law_193 rfl ?_
  refine q_iconst eL_law_195 ?_
  refine q_iald eL_law_196 h45 (by decide) (by decide) ?_
  rw [a0]
  refine q_iconst eL_law_197 ?_
  by_cases hu : rl p r m (lgR p r m q f g) x = -1
  · rw [hu]
    refine q_icmp_ne (tgt := 205) eL_law_198 (by decide) ⟨by decide, by decide⟩ ⟨by decide, by decide⟩ (fun c => absurd rfl c) (fun c => ?_)
    refine q_iconst eL_law_201 ?_
    refine q_goto (tgt := 206) eL_law_202 (by decide) ?_
    refine q_iload eL_law_206 rfl ?_
    refine q_if_ne (tgt := 215) eL_law_208 (by decide) (hG.inN hroE).2 (fun c => absurd (hz.mpr hu) c) (fun c => ?_)
    refine q_iconst eL_law_211 ?_
    refine q_goto (tgt := 216) eL_law_212 (by decide) ?_
    refine q_icmp_eq (tgt := 221) eL_law_216 (by decide) ⟨by decide, by decide⟩ ⟨by decide, by decide⟩ (fun c => ?_) (fun c => absurd rfl c)
    exact t_221 hG hw hK h0 hn0 hB0 hal hx hy (by omega) (by omega)
  · refine q_icmp_ne (tgt := 205) eL_law_198 (by decide) (hw.rl x) ⟨by decide, by decide⟩ (fun c => ?_) (fun c => absurd c hu)
    refine q_iconst eL_law_205 ?_
    refine q_iload eL_law_206 rfl ?_
    refine q_if_ne (tgt := 215) eL_law_208 (by decide) (hG.inN hroE).2 (fun c => ?_) (fun c => absurd (hz.mp c) hu)
    refine q_iconst eL_law_215 ?_
    refine q_icmp_eq (tgt := 221) eL_law_216 (by decide) ⟨by decide, by decide⟩ ⟨by decide, by decide⟩ (fun c => ?_) (fun c => absurd rfl c)
    exact t_221 hG hw hK h0 hn0 hB0 hal hx hy (by omega) (by omega)

set_option maxRecDepth 20000 in
theorem t_158 {p e r q N : Nat} {m : Int} {f : Nat → Int} {g : Int} {n dg : Nat} {set : Int} {mk ck : Nat → Int} {B : HA} {F : HF} {A : HA} {al : AL} {nc ns : Nat} {S0 : Nat → Int} {n0 : Nat} {x y : Int} {i : Nat} (hG : RG p e r q N m f g) (hw : LW p e r q N m f g n set dg mk ck B F A) (hK : KX al) (h0 : al.1 0 = (4, n0)) (hn0 : n0 ≤ 260) (hB0 : B 0 = S0) (hal : al.2 = 46) (hx : El m r x) (hy : El m r y) (h45 : al.1 45 = (0, 4)) (hBd : ∀ j : Nat, j < 4 → B 45 j = dgt p e r m f g (lgR p r m q f g) x j) (hi : i ≤ e) (hlv : lvE p r m (lgR p r m q f g) x 0 e = i) (hnc : nc ≤ 100100) (hns : ns ≤ 5401000) :
    LQw nc ns 158 [some (vA 0), some (vA 1), some (vI N), some (vI r), some (vI e), some (vI m), some (vI x), some (vI y), some (vA 45), some (vI i), none, none, none, none, none, none, none, none, none, none, none, none, none, none, none, none] [] F A al := by
  obtain ⟨hR, hp, hNe, hNm, he4, hr6, hN4, hq4, hm4, hL, hWH⟩ := id hG
  have hm2 := hR.m2
  have hq2 := hR.q2
  have hp2 := hR.1
  have he1 := hR.2.1
  have hr1 := hR.2.2.1
  have hm0 : 0 < m := by omega
  refine q_iload eL_law_158 rfl ?_
  refine q_aload_n eL_law_160 rfl ?_
  refine q_iload eL_law_161 rfl ?_
  refine q_iconst eL_law_163 ?_
  refine c_of (x := x) (what := 0) (v := (i : Int)) (hG.inN hx).2 ⟨by decide, by decide⟩ hw hK eL_law_164 ((of_0 (hG.inN hx).1).trans (congrArg some hlv)) (by omega) (by omega) (Nat.le_of_ble_eq_true rfl) (fun A hw => ?_)
  refine q_icmp_eq (tgt := 172) eL_law_167 (by decide) ⟨by omega, by omega⟩ ⟨by omega, by omega⟩ (fun c => ?_) (fun c => absurd rfl c)
  exact t_172 hG hw hK h0 hn0 hB0 hal hx hy h45 hBd (by omega) (by omega)

set_option maxRecDepth 20000 in
theorem lp_lev {p e r q N : Nat} {m : Int} {f : Nat → Int} {g : Int} {n dg : Nat} {set : Int} {mk ck : Nat → Int} {B : HA} {F : HF} {A : HA} {al : AL} {nc ns : Nat} {S0 : Nat → Int} {n0 : Nat} {x y : Int} (hG : RG p e r q N m f g) (hw : LW p e r q N m f g n set dg mk ck B F A) (hK : KX al) (h0 : al.1 0 = (4, n0)) (hn0 : n0 ≤ 260) (hB0 : B 0 = S0) (hal : al.2 = 46) (hx : El m r x) (hy : El m r y) (h45 : al.1 45 = (0, 4)) (hBd : ∀ j : Nat, j < 4 → B 45 j = dgt p e r m f g (lgR p r m q f g) x j) (hnc : nc ≤ 100000) (hns : ns ≤ 5400000) :
    ∀ (j i : Nat), i + j = e → lvE p r m (lgR p r m q f g) x 0 e = lvE p r m (lgR p r m q f g) x i j → dlE p r m f g (lgR p r m q f g) x i = bpn p r m x i →
    LQw nc ns 136 [some (vA 0), some (vA 1), some (vI N), some (vI r), some (vI e), some (vI m), some (vI x), some (vI y), some (vA 45), some (vI i), none, none, none, none, none, none, none, none, none, none, none, none, none, none, none, none] [] F A al := by
  obtain ⟨hR, hp, hNe, hNm, he4, hr6, hN4, hq4, hm4, hL, hWH⟩ := id hG
  have hm2 := hR.m2
  have hq2 := hR.q2
  have hp2 := hR.1
  have he1 := hR.2.1
  have hr1 := hR.2.2.1
  have hm0 : 0 < m := by omega
  intro j
  induction j with
  | zero =>
    intro i hi hlv hdl
    refine q_iload eL_law_136 rfl ?_
    refine q_iload eL_law_138 rfl ?_
    refine q_icmp_ge (tgt := 158) eL_law_140 (by decide) (by first | assumption | exact ⟨by omega, by omega⟩) (by first | assumption | exact ⟨by omega, by omega⟩) (fun c => ?_) (fun c => ?_)
    · exact t_158 hG hw hK h0 hn0 hB0 hal hx hy h45 hBd (by omega) hlv (by omega) (by omega)
    · exact absurd c (by omega)
  | succ j ih =>
    intro i hi hlv hdl
    have a0 : A 45 ((i : Nat) : Int).toNat = rl p r m (lgR p r m q f g) (dlE p r m f g (lgR p r m q f g) x i) := (congrFun (hw.2 45 (Or.inr (by decide))) i).trans ((hBd i (by omega)).trans (if_pos (by omega)))
    refine q_iload eL_law_136 rfl ?_
    refine q_iload eL_law_138 rfl ?_
    refine q_icmp_ge (tgt := 158) eL_law_140 (by decide) (by first | assumption | exact ⟨by omega, by omega⟩) (by first | assumption | exact ⟨by omega, by omega⟩) (fun c => ?_) (fun c => ?_)
    · exact absurd c (by omega)
    · refine q_aload eL_law_143 rfl ?_
      refine q_iload eL_law_145 rfl ?_
      refine q_iald eL_law_147 h45 (by omega) (by omega) ?_
      rw [a0]
      refine q_iconst eL_law_148 ?_
      refine q_icmp_ne (tgt := 158) eL_law_149 (by decide) (hw.rl _) ⟨by decide, by decide⟩ (fun c => ?_) (fun c => ?_)
      · rw [hdl] at c
        exact t_158 hG hw hK h0 hn0 hB0 hal hx hy h45 hBd (by omega) (hlv.trans (lv_yes c)) (by omega) (by omega)
      · have c9 := c
        rw [hdl] at c9
        refine q_iinc eL_law_152 rfl (by decide) rfl ?_
        refine q_goto (tgt := 136) eL_law_155 (by decide) ?_
        exact ih (i + 1) (by omega) (hlv.trans (lv_no c9)) (dl_bpn hm0 hx hdl c)

set_option maxRecDepth 20000 in
theorem t_106 {p e r q N : Nat} {m : Int} {f : Nat → Int} {g : Int} {n dg : Nat} {set : Int} {mk ck : Nat → Int} {B : HA} {F : HF} {A : HA} {al : AL} {nc ns : Nat} {S0 : Nat → Int} {n0 : Nat} {x y : Int} (hG : RG p e r q N m f g) (hw : LW p e r q N m f g n set dg mk ck B F A) (hK : KX al) (h0 : al.1 0 = (4, n0)) (hn0 : n0 ≤ 260) (hB0 : B 0 = S0) (hal : al.2 = 46) (hx : El m r x) (hy : El m r y) (h45 : al.1 45 = (0, 4)) (hBd : ∀ j : Nat, j < 4 → B 45 j = dgt p e r m f g (lgR p r m q f g) x j) (hnc : nc ≤ 90000) (hns : ns ≤ 5300000) :
    LQw nc ns 106 [some (vA 0), some (vA 1), some (vI N), some (vI r), some (vI e), some (vI m), some (vI x), some (vI y), some (vA 45), some (vI e), none, none, none, none, none, none, none, none, none, none, none, none, none, none, none, none] [] F A al := by
  obtain ⟨hR, hp, hNe, hNm, he4, hr6, hN4, hq4, hm4, hL, hWH⟩ := id hG
  have hm2 := hR.m2
  have hq2 := hR.q2
  have hp2 := hR.1
  have he1 := hR.2.1
  have hr1 := hR.2.2.1
  have hm0 : 0 < m := by omega
  have hW := hWH x (dgt p e r m f g (lgR p r m q f g) x 0) (dgt p e r m f g (lgR p r m q f g) x 1) (dgt p e r m f g (lgR p r m q f g) x 2) (dgt p e r m f g (lgR p r m q f g) x 3) hx (fun i hi => by
    rcases (show i = 0 ∨ i = 1 ∨ i = 2 ∨ i = 3 by omega) with rfl | rfl | rfl | rfl <;> rfl)
  have a0 : A 45 (0 : Int).toNat = dgt p e r m f g (lgR p r m q f g) x 0 := (congrFun (hw.2 45 (Or.inr (by decide))) 0).trans (hBd 0 (by decide))
  have a1 : A 45 (1 : Int).toNat = dgt p e r m f g (lgR p r m q f g) x 1 := (congrFun (hw.2 45 (Or.inr (by decide))) 1).trans (hBd 1 (by decide))
  have a2 : A 45 (2 : Int).toNat = dgt p e r m f g (lgR p r m q f g) x 2 := (congrFun (hw.2 45 (Or.inr (by decide))) 2).trans (hBd 2 (by decide))
  have a3 : A 45 (3 : Int).toNat = dgt p e r m f g (lgR p r m q f g) x 3 := (congrFun (hw.2 45 (Or.inr (by decide))) 3).trans (hBd 3 (by decide))
  refine q_aload_n eL_law_106 rfl ?_
  refine q_aload eL_law_107 rfl ?_
  refine q_iconst eL_law_109 ?_
  refine q_iald eL_law_110 h45 (by decide) (by decide) ?_
  rw [a0]
  refine q_aload eL_law_111 rfl ?_
  refine q_iconst eL_law_113 ?_
  refine q_iald eL_law_114 h45 (by decide) (by decide) ?_
  rw [a1]
  refine q_aload eL_law_115 rfl ?_
  refine q_iconst eL_law_117 ?_
  refine q_iald eL_law_118 h45 (by decide) (by decide) ?_
  rw [a2]
  refine q_aload eL_law_119 rfl ?_
  refine q_iconst eL_law_121 ?_
  refine q_iald eL_law_122 h45 (by decide) (by decide) ?_
  rw [a3]
  refine c_wh (v := x) (hw.dgt x 0) (hw.dgt x 1) (hw.dgt x 2) (hw.dgt x 3) hw hK eL_law_123 ((if_pos hW.1).trans (congrArg some hW.2)) (by omega) (by omega) (Nat.le_of_ble_eq_true rfl) (fun A hw => ?_)
  refine q_iload eL_law_126 rfl ?_
  refine q_icmp_eq (tgt := 133) eL_law_128 (by decide) (hG.inN hx).2 (hG.inN hx).2 (fun c => ?_) (fun c => absurd rfl c)
  refine q_iconst eL_law_133 ?_
  refine q_istore eL_law_134 (by decide) rfl ?_
  exact lp_lev hG hw hK h0 hn0 hB0 hal hx hy h45 hBd (by omega) (by omega) e 0 (by omega) rfl rfl

set_option maxRecDepth 20000 in
theorem lp_dig {p e r q N : Nat} {m : Int} {f : Nat → Int} {g : Int} {n dg : Nat} {set : Int} {mk ck : Nat → Int} {F : HF} {al : AL} {S0 : Nat → Int} {n0 : Nat} {x y : Int} (hG : RG p e r q N m f g) (hK : KX al) (h0 : al.1 0 = (4, n0)) (hn0 : n0 ≤ 260) (hal : al.2 = 46) (hx : El m r x) (hy : El m r y) (h45 : al.1 45 = (0, 4)) :
    ∀ (j i nc ns : Nat) (A B : HA), i + j = e → LW p e r q N m f g n set dg mk ck B F A → B 0 = S0 → (∀ j : Nat, j < 4 → B 45 j = if j < i then dgt p e r m f g (lgR p r m q f g) x j else -1) → nc ≤ 80000 + 2 * i → ns ≤ 5200000 + 12 * i →
    LQw nc ns 80 [some (vA 0), some (vA 1), some (vI N), some (vI r), some (vI e), some (vI m), some (vI x), some (vI y), some (vA 45), some (vI i), none, none, none, none, none, none, none, none, none, none, none, none, none, none, none, none] [] F A al := by
  obtain ⟨hR, hp, hNe, hNm, he4, hr6, hN4, hq4, hm4, hL, hWH⟩ := id hG
  have hm2 := hR.m2
  have hq2 := hR.q2
  have hp2 := hR.1
  have he1 := hR.2.1
  have hr1 := hR.2.2.1
  have hm0 : 0 < m := by omega
  intro j
  induction j with
  | zero =>
    intro i nc ns A B hi hw hB0 hBd hnc hns
    obtain rfl : i = e := by omega
    refine q_iload eL_law_80 rfl ?_
    refine q_iload eL_law_82 rfl ?_
    refine q_icmp_ge (tgt := 106) eL_law_84 (by decide) (by first | assumption | exact ⟨by omega, by omega⟩) (by first | assumption | exact ⟨by omega, by omega⟩) (fun c => ?_) (fun c => ?_)
    · refine t_106 hG hw hK h0 hn0 hB0 hal hx hy h45 (fun j hj => ?_) (by omega) (by omega)
      rw [hBd j hj]
      by_cases hji : j < i
      · rw [if_pos hji]
      · rw [if_neg hji]
        exact (if_neg hji).symm
    · exact absurd c (by omega)
  | succ j ih =>
    intro i nc ns A B hi hw hB0 hBd hnc hns
    refine q_iload eL_law_80 rfl ?_
    refine q_iload eL_law_82 rfl ?_
    refine q_icmp_ge (tgt := 106) eL_law_84 (by decide) (by first | assumption | exact ⟨by omega, by omega⟩) (by first | assumption | exact ⟨by omega, by omega⟩) (fun c => ?_) (fun c => ?_)
    · exact absurd c (by omega)
    · refine q_aload eL_law_87 rfl ?_
      refine q_iload eL_law_89 rfl ?_
      refine q_aload_n eL_law_91 rfl ?_
      refine q_iload eL_law_92 rfl ?_
      refine q_iload eL_law_94 rfl ?_
      refine c_dig (x := x) (i := (i : Int)) (v := rl p r m (lgR p r m q f g) (dlE p r m f g (lgR p r m q f g) x i)) (hG.inN hx).2 ⟨by omega, by omega⟩ hw hK eL_law_96 (if_pos ⟨(hG.inN hx).1, by omega, by omega⟩) (by omega) (by omega) (Nat.le_of_ble_eq_true rfl) (fun A hw => ?_)
      refine q_iast eL_law_99 h45 (by omega) (by omega) ?_
      refine q_iinc eL_law_100 rfl (by decide) rfl ?_
      refine q_goto (tgt := 80) eL_law_103 (by decide) ?_
      refine ih (i + 1) _ _ _ (up2 B 45 i (rl p r m (lgR p r m q f g) (dlE p r m f g (lgR p r m q f g) x i))) (by omega) (hw.up (by decide)) ((up2_row (show (0 : Nat) ≠ 45 by decide)).trans hB0) (fun t ht => ?_) (by omega) (by omega)
      rw [up2_at]
      by_cases hti : t = i
      · rw [if_pos hti, if_pos (by omega), hti]
        exact (if_pos (by omega)).symm
      · rw [if_neg hti, hBd t ht]
        by_cases h9 : t < i
        · rw [if_pos h9, if_pos (by omega)]
        · rw [if_neg h9, if_neg (by omega)]

set_option maxRecDepth 20000 in
theorem t_38 {p e r q N : Nat} {m : Int} {f : Nat → Int} {g : Int} {n dg : Nat} {set : Int} {mk ck : Nat → Int} {B : HA} {F : HF} {A : HA} {al : AL} {nc ns : Nat} {S0 : Nat → Int} {n0 : Nat} (hG : RG p e r q N m f g) (hw : LW p e r q N m f g n set dg mk ck B F A) (hK : KX al) (h0 : al.1 0 = (4, n0)) (hn0 : n0 ≤ 260) (hB0 : B 0 = S0) (hal : al.2 = 45) (hnc : nc ≤ 70000) (hns : ns ≤ 5100000) :
    LQw nc ns 38 [some (vA 0), some (vA 1), some (vI N), some (vI r), some (vI e), some (vI m), none, none, none, none, none, none, none, none, none, none, none, none, none, none, none, none, none, none, none, none] [] F A al := by
  obtain ⟨hR, hp, hNe, hNm, he4, hr6, hN4, hq4, hm4, hL, hWH⟩ := id hG
  have hm2 := hR.m2
  have hq2 := hR.q2
  have hp2 := hR.1
  have he1 := hR.2.1
  have hr1 := hR.2.2.1
  have hm0 : 0 < m := by omega
  refine q_aload_n eL_law_38 rfl ?_
  refine q_iconst eL_law_39 ?_
  refine q_callSP [vA 0, vI 1] (M1 := mL_cell) eL_law_40 mf_L_cell lk_L_29 (ev_cell (S0 := S0) (k := 1) h0 hn0 ((hw.2 0 (Or.inl rfl)).trans hB0) (by decide)) (by decide) (by omega) (by omega) (Nat.le_of_ble_eq_true rfl) rfl ?_
  obtain ⟨cx0, cx1⟩ := ce_rg S0 n0 1
  generalize ceE S0 n0 1 = cx at cx0 cx1
  refine q_iload_n eL_law_43 rfl ?_
  have hN1 : 1 ≤ N := by
    rw [hNe]
    exact Nat.pow_pos (by omega)
  refine q_irem eL_law_44 cx0 cx1 (by omega) (by omega) ?_
  refine q_istore eL_law_45 (by decide) rfl ?_
  refine q_aload_n eL_law_47 rfl ?_
  refine q_iconst eL_law_48 ?_
  refine q_callSP [vA 0, vI 2] (M1 := mL_cell) eL_law_49 mf_L_cell lk_L_29 (ev_cell (S0 := S0) (k := 2) h0 hn0 ((hw.2 0 (Or.inl rfl)).trans hB0) (by decide)) (by decide) (by omega) (by omega) (Nat.le_of_ble_eq_true rfl) rfl ?_
  obtain ⟨cy0, cy1⟩ := ce_rg S0 n0 2
  generalize ceE S0 n0 2 = cy at cy0 cy1
  refine q_iload_n eL_law_52 rfl ?_
  refine q_irem eL_law_53 cy0 cy1 (by omega) (by omega) ?_
  refine q_istore eL_law_54 (by decide) rfl ?_
  have hx : El m r (cx % (N : Int)) := hG.elN ⟨Int.emod_nonneg _ (by omega), Int.emod_lt_of_pos _ (by omega)⟩
  have hy : El m r (cy % (N : Int)) := hG.elN ⟨Int.emod_nonneg _ (by omega), Int.emod_lt_of_pos _ (by omega)⟩
  generalize cx % (N : Int) = x at hx
  generalize cy % (N : Int) = y at hy
  obtain ⟨K, n45⟩ := al
  obtain rfl : n45 = 45 := hal
  have hk45 : (kU (K, 45) (0, 4)).1 45 = (0, 4) := by
    show (if (45 : Nat) = 45 then ((0, 4) : Nat × Nat) else K 45) = (0, 4)
    exact if_pos rfl
  refine q_iconst eL_law_56 ?_
  refine q_newa_I (N := 4) eL_law_57 (by decide) (by omega) (by omega) ?_
  refine q_dup eL_law_59 rfl ?_
  refine q_iconst eL_law_60 ?_
  refine q_iconst eL_law_61 ?_
  refine q_iast eL_law_62 hk45 (by decide) (by decide) ?_
  refine q_dup eL_law_63 rfl ?_
  refine q_iconst eL_law_64 ?_
  refine q_iconst eL_law_65 ?_
  refine q_iast eL_law_66 hk45 (by decide) (by decide) ?_
  refine q_dup eL_law_67 rfl ?_
  refine q_iconst eL_law_68 ?_
  refine q_iconst eL_law_69 ?_
  refine q_iast eL_law_70 hk45 (by decide) (by decide) ?_
  refine q_dup eL_law_71 rfl ?_
  refine q_iconst eL_law_72 ?_
  refine q_iconst eL_law_73 ?_
  refine q_iast eL_law_74 hk45 (by decide) (by decide) ?_
  refine q_astore eL_law_75 (by decide) rfl ?_
  refine q_iconst eL_law_77 ?_
  refine q_istore eL_law_78 (by decide) rfl ?_
  have hw := (((((hw.nA (a := 45) (by decide)).up (k := 0) (v := -1) (a := 45) (by decide)).up (k := 1) (v := -1) (a := 45) (by decide)).up (k := 2) (v := -1) (a := 45) (by decide)).up (k := 3) (v := -1) (a := 45) (by decide))
  refine lp_dig (S0 := S0) hG (hK.kU (show 44 ≤ 45 by decide) _) h0 hn0 rfl hx hy hk45 e 0 _ _ _ _ (by omega) hw ?_ (fun j hj => ?_) (by omega) (by omega)
  · rw [up2_row (by decide), up2_row (by decide), up2_row (by decide), up2_row (by decide)]
    exact (if_neg (by decide)).trans hB0
  · rw [if_neg (by omega)]
    rcases (show j = 0 ∨ j = 1 ∨ j = 2 ∨ j = 3 by omega) with rfl | rfl | rfl | rfl
    · exact (up2_ne (by decide)).trans ((up2_ne (by decide)).trans ((up2_ne (by decide)).trans (up2_eq _ _ _ _)))
    · exact (up2_ne (by decide)).trans ((up2_ne (by decide)).trans (up2_eq _ _ _ _))
    · exact (up2_ne (by decide)).trans (up2_eq _ _ _ _)
    · exact up2_eq _ _ _ _

