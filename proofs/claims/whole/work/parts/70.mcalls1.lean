/-! the model: calls that change nothing but scratch -/
def exM (p r : Nat) (m : Int) (f : Nat → Int) (N : Nat) : Nat → Nat
  | 0 => 1
  | x + 1 => if low p r m ((x : Int) + 1) ≠ 0 ∧ pw m r f ((x : Int) + 1) (exM p r m f N x) ≠ 1 then exM p r m f N x / Nat.gcd (exM p r m f N x) (odM m r f N ((x : Int) + 1)) * odM m r f N ((x : Int) + 1) else exM p r m f N x
theorem lcm_dvd {a b L : Nat} (ha : 1 ≤ a) (h1 : a ∣ L) (h2 : b ∣ L) : a / Nat.gcd a b * b ∣ L := by
  have h3 := Nat.lcm_dvd h1 h2
  have h4 : a / Nat.gcd a b * b = Nat.lcm a b := by
    unfold Nat.lcm
    exact Nat.div_mul_right_comm (Nat.gcd_dvd_left a b) b
  rw [h4]; exact h3
theorem exM_dvd {p r N L : Nat} {m : Int} {f : Nat → Int} (hL : 1 ≤ L) (hNm : (N : Int) = m ^ r) (hd : ∀ x, El m r x → low p r m x ≠ 0 → odM m r f N x ∣ L) : ∀ x, x < N → exM p r m f N x ∣ L
  | 0, _ => Nat.one_dvd L
  | x + 1, h => by
    have ih := exM_dvd hL hNm hd x (by omega)
    unfold exM
    split
    · next hc => exact lcm_dvd (Nat.pos_of_dvd_of_pos ih (by omega)) ih (hd _ ⟨by omega, by rw [← hNm]; omega⟩ hc.1)
    · exact ih
set_option maxRecDepth 20000 in
theorem lp_exponent {p e r q N : Nat} {m : Int} {f : Nat → Int} {g : Int} {rt lg : Nat → Int} {F : HF} {A0 : HA} {al : AL} (hK : KM al) (hX : MR F) (hT0 : GY p e r q N m f g rt lg F A0) (hMH : MH p e r q N m f) : ∀ (k x : Nat) (A : HA) (l3 : Option LV), x + k + 1 = N → Off [51, 52, 53] A0 A →
    QW mX12_exponent 4 0 0 (PQ (exM p r m f N (N - 1) : Nat) F al (fun A2 => Off [51, 52, 53] A0 A2)) 0 0 4 [some (vA 44), some (vI (exM p r m f N x : Nat)), some (vI ((x : Int) + 1)), l3] [] F A al := by
  obtain ⟨hG, hp, he, hq, hN, hg, ⟨hp2, hp7, he1, he4, hme, hqe, hq3, hNm, hgE⟩, hP, hL, hR⟩ := id hT0
  obtain ⟨hm, hr, hf, hm2, hr1, hr6, hN4⟩ := id hG
  have hm4 := hG.m4
  have hq2 := hT0.q2
  have hN9 : (N : Int) ≤ 4096 := by rw [hNm]; exact hN4
  obtain ⟨-, -, L, hL1, hL4, hL⟩ := hMH
  have hdv := fun x hx => exM_dvd (p := p) hL1 hNm (fun y hy hl => (hL y hy hl).2.2.2) x hx
  have hrg : ∀ x, x < N → 1 ≤ exM p r m f N x ∧ exM p r m f N x ≤ 4096 := fun x hx => ⟨Nat.pos_of_dvd_of_pos (hdv x hx) (by omega), Nat.le_trans (Nat.le_of_dvd (by omega) (hdv x hx)) hL4⟩
  intro k
  induction k with
  | zero =>
    intro x A l3 hx ho
    have ex : x = N - 1 := by omega
    subst ex
    refine q_iload_n eX12_exponent_4 rfl ?_
    refine q_aload_n eX12_exponent_5 rfl ?_
    refine q_getfield eX12_exponent_6 gf_X12_28 (hK _ (by decide) (by decide)) (by decide) (by first | assumption) ?_
    refine q_icmp_ge (tgt := 53) eX12_exponent_9 (by decide) (by first | assumption | exact ⟨by omega, by omega⟩) (by first | assumption | exact ⟨by omega, by omega⟩) (fun c9 => ?_) (fun c9 => ?_)
    · refine q_iload_n eX12_exponent_53 rfl ?_
      refine q_retI eX12_exponent_54 rfl (by decide) (by decide) ?_
      exact ⟨rfl, rfl, rfl, ho⟩
    · exact absurd c9 (by omega)
  | succ k ih =>
    intro x A l3 hx ho
    have hT1 : GY p e r q N m f g rt lg F A := hT0.off ho (by decide) (by decide) (by decide) (by decide)
    have hxe : El m r ((x : Int) + 1) := ⟨by omega, by rw [← hNm]; omega⟩
    obtain ⟨g1, g2⟩ := hrg x (by omega)
    have hpe := pw_el (f := f) hm2 hr1 ((x : Int) + 1) (exM p r m f N x)
    have hpl := hpe.lt hN4
    have hs : exM p r m f N (x + 1) = if low p r m ((x : Int) + 1) ≠ 0 ∧ pw m r f ((x : Int) + 1) (exM p r m f N x) ≠ 1 then exM p r m f N x / Nat.gcd (exM p r m f N x) (odM m r f N ((x : Int) + 1)) * odM m r f N ((x : Int) + 1) else exM p r m f N x := rfl
    have hb := ih (x + 1)
    have hgd := Nat.gcd_dvd_left (exM p r m f N x) (odM m r f N ((x : Int) + 1))
    have hg1 := Nat.gcd_pos_of_pos_left (odM m r f N ((x : Int) + 1)) (show 0 < exM p r m f N x by omega)
    have hg2 := Nat.le_of_dvd (by omega) hgd
    have hdc : ((exM p r m f N x : Nat) : Int) / ((Nat.gcd (exM p r m f N x) (odM m r f N ((x : Int) + 1)) : Nat) : Int) = ((exM p r m f N x / Nat.gcd (exM p r m f N x) (odM m r f N ((x : Int) + 1)) : Nat) : Int) := by simp
    refine q_iload_n eX12_exponent_4 rfl ?_
    refine q_aload_n eX12_exponent_5 rfl ?_
    refine q_getfield eX12_exponent_6 gf_X12_28 (hK _ (by decide) (by decide)) (by decide) (by first | assumption) ?_
    refine q_icmp_ge (tgt := 53) eX12_exponent_9 (by decide) (by first | assumption | exact ⟨by omega, by omega⟩) (by first | assumption | exact ⟨by omega, by omega⟩) (fun c9 => ?_) (fun c9 => ?_)
    · exact absurd c9 (by omega)
    · refine q_aload_n eX12_exponent_12 rfl ?_
      refine q_iload_n eX12_exponent_13 rfl ?_
      refine q_callVP [vI ((x : Int) + 1)] (M1 := mX12_isUnit) eX12_exponent_14 mf_X12_isUnit lk_X12_290 (hK _ (by decide) (by decide)) (mo_isUnit hK hX hT1 hxe) (by decide) (by decide) (by decide) (Nat.le_of_ble_eq_true rfl) rfl ?_
      refine q_if_eq (tgt := 47) eX12_exponent_17 (by decide) ir_iten (fun c17 => ?_) (fun c17 => ?_)
      · refine q_iinc eX12_exponent_47 rfl (by decide) rfl ?_
        refine q_goto (tgt := 4) eX12_exponent_50 (by decide) ?_
        first
        | (rw [hs, if_neg (fun hc => hc.1 (i0n c17))] at hb
           exact hb A _ (by omega) ho)
        | (rw [hs, if_neg (fun hc => hc.2 c28)] at hb
           exact hb A3 _ (by omega) (ho.trans h3))
        | (rw [hs, if_pos ⟨i1n c17, c28⟩] at hb
           have hb2 := hb A4 (some (vI (odM m r f N ((x : Int) + 1) : Nat))) (by omega) ((ho.trans h3).trans h4)
           rw [Int.natCast_mul] at hb2
           exact hb2)
      · refine q_aload_n eX12_exponent_20 rfl ?_
        refine q_iload_n eX12_exponent_21 rfl ?_
        refine q_iload_n eX12_exponent_22 rfl ?_
        refine q_i2l eX12_exponent_23 (by exact ⟨by omega, by omega⟩) ?_
        refine q_callVQ [vI ((x : Int) + 1), vJ (exM p r m f N x : Nat)] (M1 := mX12_raised) eX12_exponent_24 mf_X12_raised lk_X12_147 (hK _ (by decide) (by decide)) (mo_raised hK hX hT1.1 hxe (by omega)) (by decide) (by decide) (by decide) (Nat.le_of_ble_eq_true rfl) rfl (fun A3 h3 => ?_)
        refine q_iconst eX12_exponent_27 ?_
        refine q_icmp_eq (tgt := 47) eX12_exponent_28 (by decide) (by first | assumption | exact ⟨by omega, by omega⟩) (by first | assumption | exact ⟨by omega, by omega⟩) (fun c28 => ?_) (fun c28 => ?_)
        · refine q_iinc eX12_exponent_47 rfl (by decide) rfl ?_
          refine q_goto (tgt := 4) eX12_exponent_50 (by decide) ?_
          first
          | (rw [hs, if_neg (fun hc => hc.1 (i0n c17))] at hb
             exact hb A _ (by omega) ho)
          | (rw [hs, if_neg (fun hc => hc.2 c28)] at hb
             exact hb A3 _ (by omega) (ho.trans h3))
          | (rw [hs, if_pos ⟨i1n c17, c28⟩] at hb
             have hb2 := hb A4 (some (vI (odM m r f N ((x : Int) + 1) : Nat))) (by omega) ((ho.trans h3).trans h4)
             rw [Int.natCast_mul] at hb2
             exact hb2)
        · have hod := hL _ hxe (i1n c17)
          have hodl := Nat.le_of_dvd (by omega) hod.2.2.2
          refine q_aload_n eX12_exponent_31 rfl ?_
          refine q_iload_n eX12_exponent_32 rfl ?_
          refine q_callVQ [vI ((x : Int) + 1)] (M1 := mX12_orderOf) eX12_exponent_33 mf_X12_orderOf lk_X12_314 (hK _ (by decide) (by decide)) (mo_orderOf (K := odM m r f N ((x : Int) + 1)) hK hX (hT1.off h3 (by decide) (by decide) (by decide) (by decide)) hxe hod.1 hod.2.1 hod.2.2.1 (by omega)) (by decide) (by decide) (by decide) (Nat.le_of_ble_eq_true rfl) rfl (fun A4 h4 => ?_)
          refine q_istore_n eX12_exponent_36 (by decide) rfl ?_
          refine q_iload_n eX12_exponent_37 rfl ?_
          refine q_iload_n eX12_exponent_38 rfl ?_
          refine q_iload_n eX12_exponent_39 rfl ?_
          refine q_callSP [vI (exM p r m f N x : Nat), vI (odM m r f N ((x : Int) + 1) : Nat)] (M1 := mX12_common) eX12_exponent_40 mf_X12_common lk_X12_317 (mo_common (by omega) (by omega)) (by decide) (by decide) (by decide) (Nat.le_of_ble_eq_true rfl) rfl ?_
          refine q_idiv eX12_exponent_43 (by omega) (by omega) (by omega) (by omega) ?_
          rw [hdc]
          refine q_iload_n eX12_exponent_44 rfl ?_
          refine q_imul eX12_exponent_45 ?_
          refine q_istore_n eX12_exponent_46 (by decide) rfl ?_
          refine q_iinc eX12_exponent_47 rfl (by decide) rfl ?_
          refine q_goto (tgt := 4) eX12_exponent_50 (by decide) ?_
          first
          | (rw [hs, if_neg (fun hc => hc.1 (i0n c17))] at hb
             exact hb A _ (by omega) ho)
          | (rw [hs, if_neg (fun hc => hc.2 c28)] at hb
             exact hb A3 _ (by omega) (ho.trans h3))
          | (rw [hs, if_pos ⟨i1n c17, c28⟩] at hb
             have hb2 := hb A4 (some (vI (odM m r f N ((x : Int) + 1) : Nat))) (by omega) ((ho.trans h3).trans h4)
             rw [Int.natCast_mul] at hb2
             exact hb2)
set_option maxRecDepth 20000 in
theorem mo_exponent {p e r q N : Nat} {m : Int} {f : Nat → Int} {g : Int} {rt lg : Nat → Int} {F : HF} {A : HA} {al : AL} (hK : KM al) (hX : MR F) (hT : GY p e r q N m f g rt lg F A) (hMH : MH p e r q N m f) (hN1 : 1 ≤ N) : QE 4 0 0 mX12_exponent [vA 44] F A al (PQ (exM p r m f N (N - 1) : Nat) F al (fun A2 => Off [51, 52, 53] A A2)) := by
  refine QE.mk (by decide +kernel) (Nat.le_of_ble_eq_true rfl) ?_
  refine q_iconst eX12_exponent_0 ?_
  refine q_istore_n eX12_exponent_1 (by decide) rfl ?_
  refine q_iconst eX12_exponent_2 ?_
  refine q_istore_n eX12_exponent_3 (by decide) rfl ?_
  exact lp_exponent hK hX hT hMH (N - 1) 0 A _ (by omega) Off.rfl'
def cntM (p e r q N : Nat) (m : Int) (f : Nat → Int) (g : Int) (len n dg : Nat) (what : Int) : Option Int :=
  if what = 0 then some p else if what = 1 then some e else if what = 2 then some r else if what = 3 then some m else if what = 4 then some q else if what = 5 then some N else if what = 6 then some (umE N q : Nat) else if what = 7 then some g else if what = 8 then some n else if what = 9 then some ((n : Int) - dg) else if what = 10 then some len else if what = 11 then some (dvE r : Nat) else if what = 12 then some (exM p r m f N (N - 1) : Nat) else none
set_option maxRecDepth 20000 in
theorem mo_cnt {what : Int} {p e r q N : Nat} {m : Int} {f : Nat → Int} {g : Int} {rt lg pl_ tp mk ck : Nat → Int} {len n dg : Nat} {fp set : Int} {w : Option (Nat → Int)} {S : List Int} {F : HF} {A : HA} {al : AL} (hK : KM al) (h0 : MI p e r q N m f g rt lg pl_ len tp fp n set dg mk ck w S F A) (hx : InR what) : QE 5 0 0 mX12_count [vA 44, vI what] F A al (PMP (cntM p e r q N m f g len n dg what) F A al) := by
  refine QE.mk (by decide +kernel) (Nat.le_of_ble_eq_true rfl) ?_
  have hx_1 := hx.1
  have hx_2 := hx.2
  have h := h0.t0
  generalize hF0 : up2 F 44 0 (vI 0) = F1 at h
  have ht0 : F1 44 0 = vI 0 := by rw [← hF0]; exact up2_eq _ _ _ _
  have hoF : FOff SCF F F1 := by rw [← hF0]; exact FOff.up (by decide)
  obtain ⟨⟨hX, hT, h3r, hMH⟩, h2, ⟨hl0, hl1, hta⟩, h4, ⟨⟨h51, h52, h53⟩, h5m, h5c, ⟨hn1, hn63, hnq, hs0, hs1⟩, hdn⟩, h7, ⟨⟨h81, h82⟩, h83⟩⟩ := id h
  obtain ⟨hG, hp, he, hq, hN, hg, ⟨hp2, hp7, he1, he4, hme, hqe, hq3, hNm, hgE⟩, hP, hL, hR⟩ := id hT
  obtain ⟨hm, hr, hf, hm2, hr1, hr6, hN4⟩ := id hG
  have hm4 := hG.m4
  have hq2 := hT.q2
  have hN9 : (N : Int) ≤ 4096 := by rw [hNm]; exact hN4
  have hE : ∀ x : Int, 0 ≤ x ∧ x ≤ (N : Int) - 1 → El m r x := fun x h => ⟨h.1, by rw [← hNm]; omega⟩
  have hNp : 1 ≤ N := by have := el_one (m := m) (r := r) hm2 hr1; have := this.2; omega
  refine q_aload_n eX12_count_0 rfl ?_
  refine q_iconst eX12_count_1 ?_
  refine q_putfield eX12_count_2 pf_X12_1 (hK _ (by decide) (by decide)) (by decide) (FT_i rfl) ?_
  rw [hF0]
  refine q_aload_n eX12_count_5 rfl ?_
  refine q_iload_n eX12_count_6 rfl ?_
  refine q_i2l eX12_count_7 (by first | assumption | exact ⟨by omega, by omega⟩) ?_
  refine q_lconst (v := 0) eX12_count_8 (by decide +kernel) ?_
  refine q_ldc2 eX12_count_9 kc_X12_320 ?_
  refine q_callSP [vJ (what), vJ (0), vJ (12)] (M1 := mX12_isIn) eX12_count_12 mf_X12_isIn lk_X12_206 (mo_isIn (by exact ⟨by omega, by omega⟩) (by exact ⟨by omega, by omega⟩) (by exact ⟨by omega, by omega⟩)) (by decide) (by decide) (by decide) (Nat.le_of_ble_eq_true rfl) rfl ?_
  refine q_iconst eX12_count_15 ?_
  refine q_rightX eX12_count_16 lk_X12_304 hK ht0 (by decide) (by decide) (by decide) (Nat.le_of_ble_eq_true rfl) ir_ite (fun n16 => ?_) (fun n16 => ?_)
  · have hni := i0 n16
    refine q_if_ne (tgt := 24) eX12_count_19 (by decide) (by first | assumption | exact ⟨by omega, by omega⟩) (fun c19 => ?_) (fun c19 => ?_)
    · exact absurd rfl c19
    · refine q_iconst eX12_count_22 ?_
      refine q_retI eX12_count_23 rfl (by decide) (by decide) ?_
      refine PMP_t ?_ hoF Off.rfl'
      unfold cntM
      repeat rw [if_neg (by omega)]
  · have hin := i1 n16
    refine q_if_ne (tgt := 24) eX12_count_19 (by decide) (by first | assumption | exact ⟨by omega, by omega⟩) (fun c19 => ?_) (fun c19 => ?_)
    · refine q_iload_n eX12_count_24 rfl ?_
      by_cases w0 : what = 0
      · refine q_tableIn (off := 63) (tgt := 88) eX12_count_25 hx (by omega) (by omega) (by rw [w0]; decide) (by decide) ?_
        subst w0
        refine q_aload_n eX12_count_88 rfl ?_
        refine q_getfield eX12_count_89 gf_X12_13 (hK _ (by decide) (by decide)) (by decide) (by first | assumption) ?_
        refine q_retI eX12_count_92 rfl (by decide) (by decide) ?_
        exact PMP_r rfl ht0 hoF Off.rfl'
      by_cases w1 : what = 1
      · refine q_tableIn (off := 68) (tgt := 93) eX12_count_25 hx (by omega) (by omega) (by rw [w1]; decide) (by decide) ?_
        subst w1
        refine q_aload_n eX12_count_93 rfl ?_
        refine q_getfield eX12_count_94 gf_X12_16 (hK _ (by decide) (by decide)) (by decide) (by first | assumption) ?_
        refine q_retI eX12_count_97 rfl (by decide) (by decide) ?_
        exact PMP_r rfl ht0 hoF Off.rfl'
      by_cases w2 : what = 2
      · refine q_tableIn (off := 73) (tgt := 98) eX12_count_25 hx (by omega) (by omega) (by rw [w2]; decide) (by decide) ?_
        subst w2
        refine q_aload_n eX12_count_98 rfl ?_
        refine q_getfield eX12_count_99 gf_X12_19 (hK _ (by decide) (by decide)) (by decide) (by first | assumption) ?_
        refine q_retI eX12_count_102 rfl (by decide) (by decide) ?_
        exact PMP_r rfl ht0 hoF Off.rfl'
      by_cases w3 : what = 3
      · refine q_tableIn (off := 78) (tgt := 103) eX12_count_25 hx (by omega) (by omega) (by rw [w3]; decide) (by decide) ?_
        subst w3
        refine q_aload_n eX12_count_103 rfl ?_
        refine q_getfield eX12_count_104 gf_X12_22 (hK _ (by decide) (by decide)) (by decide) (by first | assumption) ?_
        refine q_retI eX12_count_107 rfl (by decide) (by decide) ?_
        exact PMP_r rfl ht0 hoF Off.rfl'
      by_cases w4 : what = 4
      · refine q_tableIn (off := 83) (tgt := 108) eX12_count_25 hx (by omega) (by omega) (by rw [w4]; decide) (by decide) ?_
        subst w4
        refine q_aload_n eX12_count_108 rfl ?_
        refine q_getfield eX12_count_109 gf_X12_25 (hK _ (by decide) (by decide)) (by decide) (by first | assumption) ?_
        refine q_retI eX12_count_112 rfl (by decide) (by decide) ?_
        exact PMP_r rfl ht0 hoF Off.rfl'
      by_cases w5 : what = 5
      · refine q_tableIn (off := 88) (tgt := 113) eX12_count_25 hx (by omega) (by omega) (by rw [w5]; decide) (by decide) ?_
        subst w5
        refine q_aload_n eX12_count_113 rfl ?_
        refine q_getfield eX12_count_114 gf_X12_28 (hK _ (by decide) (by decide)) (by decide) (by first | assumption) ?_
        refine q_retI eX12_count_117 rfl (by decide) (by decide) ?_
        exact PMP_r rfl ht0 hoF Off.rfl'
      by_cases w6 : what = 6
      · refine q_tableIn (off := 93) (tgt := 118) eX12_count_25 hx (by omega) (by omega) (by rw [w6]; decide) (by decide) ?_
        subst w6
        refine q_aload_n eX12_count_118 rfl ?_
        refine q_callVP [] (M1 := mX12_unitMany) eX12_count_119 mf_X12_unitMany lk_X12_143 (hK _ (by decide) (by decide)) (mo_unitMany hK hX hT) (by decide) (by decide) (by decide) (Nat.le_of_ble_eq_true rfl) rfl ?_
        refine q_retI eX12_count_122 rfl (by decide) (by decide) ?_
        exact PMP_r rfl ht0 hoF Off.rfl'
      by_cases w7 : what = 7
      · refine q_tableIn (off := 98) (tgt := 123) eX12_count_25 hx (by omega) (by omega) (by rw [w7]; decide) (by decide) ?_
        subst w7
        refine q_aload_n eX12_count_123 rfl ?_
        refine q_getfield eX12_count_124 gf_X12_179 (hK _ (by decide) (by decide)) (by decide) (by first | assumption) ?_
        refine q_retI eX12_count_127 rfl (by decide) (by decide) ?_
        exact PMP_r rfl ht0 hoF Off.rfl'
      by_cases w8 : what = 8
      · refine q_tableIn (off := 103) (tgt := 128) eX12_count_25 hx (by omega) (by omega) (by rw [w8]; decide) (by decide) ?_
        subst w8
        refine q_aload_n eX12_count_128 rfl ?_
        refine q_getfield eX12_count_129 gf_X12_69 (hK _ (by decide) (by decide)) (by decide) (by first | assumption) ?_
        refine q_retI eX12_count_132 rfl (by decide) (by decide) ?_
        exact PMP_r rfl ht0 hoF Off.rfl'
      by_cases w9 : what = 9
      · refine q_tableIn (off := 108) (tgt := 133) eX12_count_25 hx (by omega) (by omega) (by rw [w9]; decide) (by decide) ?_
        subst w9
        refine q_aload_n eX12_count_133 rfl ?_
        refine q_getfield eX12_count_134 gf_X12_69 (hK _ (by decide) (by decide)) (by decide) (by first | assumption) ?_
        refine q_aload_n eX12_count_137 rfl ?_
        refine q_getfield eX12_count_138 gf_X12_322 (hK _ (by decide) (by decide)) (by decide) (by first | assumption) ?_
        refine q_isub eX12_count_141 ?_
        refine q_retI eX12_count_142 rfl (by decide) (by decide) ?_
        exact PMP_r rfl ht0 hoF Off.rfl'
      by_cases w10 : what = 10
      · refine q_tableIn (off := 118) (tgt := 143) eX12_count_25 hx (by omega) (by omega) (by rw [w10]; decide) (by decide) ?_
        subst w10
        refine q_aload_n eX12_count_143 rfl ?_
        refine q_getfield eX12_count_144 gf_X12_214 (hK _ (by decide) (by decide)) (by decide) (by first | assumption) ?_
        refine q_retI eX12_count_147 rfl (by decide) (by decide) ?_
        exact PMP_r rfl ht0 hoF Off.rfl'
      by_cases w11 : what = 11
      · refine q_tableIn (off := 123) (tgt := 148) eX12_count_25 hx (by omega) (by omega) (by rw [w11]; decide) (by decide) ?_
        subst w11
        refine q_aload_n eX12_count_148 rfl ?_
        refine q_callVP [] (M1 := mX12_divisors) eX12_count_149 mf_X12_divisors lk_X12_325 (hK _ (by decide) (by decide)) (mo_divisors hK hr hr6) (by decide) (by decide) (by decide) (Nat.le_of_ble_eq_true rfl) rfl ?_
        refine q_retI eX12_count_152 rfl (by decide) (by decide) ?_
        exact PMP_r rfl ht0 hoF Off.rfl'
      refine q_tableOut (tgt := 153) eX12_count_25 hx (by omega) (by decide) ?_
      refine q_aload_n eX12_count_153 rfl ?_
      refine q_callVQ [] (M1 := mX12_exponent) eX12_count_154 mf_X12_exponent lk_X12_328 (hK _ (by decide) (by decide)) (mo_exponent hK hX hT hMH hNp) (by decide) (by decide) (by decide) (Nat.le_of_ble_eq_true rfl) rfl (fun A3 h3 => ?_)
      refine q_retI eX12_count_157 rfl (by decide) (by decide) ?_
      refine PMP_r ?_ ht0 hoF (h3.mono (by decide))
      have e12 : what = 12 := by omega
      subst e12
      rfl
    · exact absurd c19 (by decide)
set_option maxRecDepth 20000 in
theorem mo_modulus {i : Int} {p e r q N : Nat} {m : Int} {f : Nat → Int} {g : Int} {rt lg pl_ tp mk ck : Nat → Int} {len n dg : Nat} {fp set : Int} {w : Option (Nat → Int)} {S : List Int} {F : HF} {A : HA} {al : AL} (hK : KM al) (h0 : MI p e r q N m f g rt lg pl_ len tp fp n set dg mk ck w S F A) (hx : InR i) : QE 2 0 0 mX12_modulus [vA 44, vI i] F A al (PMP (if 0 ≤ i ∧ i ≤ (r : Int) then some (if i.toNat = r then 1 else f i.toNat) else none) F A al) := by
  refine QE.mk (by decide +kernel) (Nat.le_of_ble_eq_true rfl) ?_
  have hx_1 := hx.1
  have hx_2 := hx.2
  have h := h0.t0
  generalize hF0 : up2 F 44 0 (vI 0) = F1 at h
  have ht0 : F1 44 0 = vI 0 := by rw [← hF0]; exact up2_eq _ _ _ _
  have hoF : FOff SCF F F1 := by rw [← hF0]; exact FOff.up (by decide)
  obtain ⟨⟨hX, hT, h3r, hMH⟩, h2, ⟨hl0, hl1, hta⟩, h4, ⟨⟨h51, h52, h53⟩, h5m, h5c, ⟨hn1, hn63, hnq, hs0, hs1⟩, hdn⟩, h7, ⟨⟨h81, h82⟩, h83⟩⟩ := id h
  obtain ⟨hG, hp, he, hq, hN, hg, ⟨hp2, hp7, he1, he4, hme, hqe, hq3, hNm, hgE⟩, hP, hL, hR⟩ := id hT
  obtain ⟨hm, hr, hf, hm2, hr1, hr6, hN4⟩ := id hG
  have hm4 := hG.m4
  have hq2 := hT.q2
  have hN9 : (N : Int) ≤ 4096 := by rw [hNm]; exact hN4
  have hE : ∀ x : Int, 0 ≤ x ∧ x ≤ (N : Int) - 1 → El m r x := fun x h => ⟨h.1, by rw [← hNm]; omega⟩
  have hNp : 1 ≤ N := by have := el_one (m := m) (r := r) hm2 hr1; have := this.2; omega
  refine q_aload_n eX12_modulus_0 rfl ?_
  refine q_iconst eX12_modulus_1 ?_
  refine q_putfield eX12_modulus_2 pf_X12_1 (hK _ (by decide) (by decide)) (by decide) (FT_i rfl) ?_
  rw [hF0]
  refine q_aload_n eX12_modulus_5 rfl ?_
  refine q_iload_n eX12_modulus_6 rfl ?_
  refine q_i2l eX12_modulus_7 (by first | assumption | exact ⟨by omega, by omega⟩) ?_
  refine q_lconst (v := 0) eX12_modulus_8 (by decide +kernel) ?_
  refine q_aload_n eX12_modulus_9 rfl ?_
  refine q_getfield eX12_modulus_10 gf_X12_19 (hK _ (by decide) (by decide)) (by decide) (by first | assumption) ?_
  refine q_i2l eX12_modulus_13 (by first | assumption | exact ⟨by omega, by omega⟩) ?_
  refine q_callSP [vJ (i), vJ (0), vJ (r)] (M1 := mX12_isIn) eX12_modulus_14 mf_X12_isIn lk_X12_206 (mo_isIn (by exact ⟨by omega, by omega⟩) (by exact ⟨by omega, by omega⟩) (by exact ⟨by omega, by omega⟩)) (by decide) (by decide) (by decide) (Nat.le_of_ble_eq_true rfl) rfl ?_
  refine q_iconst eX12_modulus_17 ?_
  refine q_rightX eX12_modulus_18 lk_X12_304 hK ht0 (by decide) (by decide) (by decide) (Nat.le_of_ble_eq_true rfl) ir_ite (fun n18 => ?_) (fun n18 => ?_)
  · have hni := i0 n18
    refine q_if_eq (tgt := 33) eX12_modulus_21 (by decide) (by first | assumption | exact ⟨by omega, by omega⟩) (fun c21 => ?_) (fun c21 => ?_)
    · refine q_iconst eX12_modulus_33 ?_
      refine q_retI eX12_modulus_34 rfl (by decide) (by decide) ?_
      first
      | (refine PMP_t ?_ hoF Off.rfl'
         rw [if_neg (by omega)])
      | (refine PMP_r ?_ ht0 hoF Off.rfl'
         rw [if_pos (by omega)]
         show some (if t = r then (1 : Int) else f t) = some (A 45 t)
         by_cases ht : t = r
         · rw [if_pos ht, ht, h3r]
         · rw [if_neg ht, (hf t (by omega)).1])
    · exact absurd rfl c21
  · have hin := i1 n18
    obtain ⟨t, rfl⟩ : ∃ t : Nat, i = t := ⟨i.toNat, by omega⟩
    refine q_if_eq (tgt := 33) eX12_modulus_21 (by decide) (by first | assumption | exact ⟨by omega, by omega⟩) (fun c21 => ?_) (fun c21 => ?_)
    · exact absurd c21 (by decide)
    · refine q_aload_n eX12_modulus_24 rfl ?_
      refine q_getfield eX12_modulus_25 gf_X12_31 (hK _ (by decide) (by decide)) (by decide) (mr_44_7 hX) ?_
      refine q_iload_n eX12_modulus_28 rfl ?_
      refine q_iald eX12_modulus_29 (hK _ (by decide) (by decide)) (by omega) (by omega) ?_
      refine q_goto (tgt := 34) eX12_modulus_30 (by decide) ?_
      refine q_retI eX12_modulus_34 rfl (by decide) (by decide) ?_
      first
      | (refine PMP_t ?_ hoF Off.rfl'
         rw [if_neg (by omega)])
      | (refine PMP_r ?_ ht0 hoF Off.rfl'
         rw [if_pos (by omega)]
         show some (if t = r then (1 : Int) else f t) = some (A 45 t)
         by_cases ht : t = r
         · rw [if_pos ht, ht, h3r]
         · rw [if_neg ht, (hf t (by omega)).1])
