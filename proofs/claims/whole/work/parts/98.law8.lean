/-! the law: its loop, its start, the claim -/
def PL1 : PO := fun o _ _ _ => o = .inl (some 1)
set_option maxRecDepth 20000 in
set_option maxRecDepth 20000 in
theorem lp_law (hEQ : EQs) {S0 : Nat → Int} {n0 oo D mc ms : Nat} (hn0 : n0 ≤ 3072) (h67 : 67 ≤ oo) (hR : ∀ j, InR (S0 j)) (hD : 60 ≤ D) : ∀ (k i nc ns : Nat) (l5 l6 : Option LV) (F : HF) (A : HA) (al : AL), n0 < i + 6 * (k + 1) → i ≤ n0 + 6 → JI F A → KX al → KM al → al.1 0 = (4, n0) → al.1 oo = (2, 1) → oo < al.2 → A 0 = S0 → nc + 4 * k ≤ mc → ns + 32 * k ≤ ms →
    QW mL_law D mc ms PL1 nc ns 23 [some (vA 0), some (vA 1), some (vA 44), some (vA oo), some (vI (i : Nat)), l5, l6] [] F A al
  | k, i, nc, ns, l5, l6, F, A, al, hk, hi6, hJ, hK, hM, hs, hoo, hot, hA0, hmc, hms => by
    refine q_iload eL_23 rfl ?_
    refine q_aload_n eL_25 rfl ?_
    refine q_slen eL_26 hs ?_
    refine q_bipush eL_27 (by decide +kernel) ?_
    refine q_isub eL_29 ?_
    refine q_icmp_gt (tgt := 1905) eL_30 (by decide) ⟨by omega, by omega⟩ ⟨by omega, by omega⟩ (fun c => ?_) (fun c => ?_)
    · refine q_iconst eL_1905 ?_
      refine q_retZ eL_1906 rfl (Or.inr rfl) (by omega) (by omega) ?_
      exact rfl
    · have hi : i + 6 ≤ n0 := by omega
      obtain ⟨k, rfl⟩ : ∃ k', k = k' + 1 := ⟨k - 1, by omega⟩
      have kk : ∀ (F2 : HF) (A2 : HA) (al2 : AL) (nc2 ns2 : Nat) (l5 l6 : Option LV), KE al.2 al al2 → JI F2 A2 → A2 0 = S0 → nc2 ≤ nc + 4 → ns2 ≤ ns + 32 → QW mL_law D mc ms PL1 nc2 ns2 1899 [some (vA 0), some (vA 1), some (vA 44), some (vA oo), some (vI (i : Nat)), l5, l6] [] F2 A2 al2 := by
        intro F2 A2 al2 nc2 ns2 l5 l6 ke hJ2 h0 h1 h2
        refine q_iinc eL_1899 rfl (by decide) rfl ?_
        refine q_goto (tgt := 23) eL_1902 (by decide) ?_
        exact lp_law hEQ hn0 h67 hR hD k (i + 6) nc2 ns2 l5 l6 F2 A2 al2 (by omega) (by omega) hJ2 (fun a h1 h2 => (ke.2 a (by omega)).trans (hK a h1 h2)) (fun a h1 h2 => (ke.2 a (by omega)).trans (hM a h1 h2)) ((ke.2 0 (by omega)).trans hs) ((ke.2 oo hot).trans hoo) (Nat.lt_of_lt_of_le hot ke.1) h0 (by omega) (by omega)
      refine q_aload_n eL_33 rfl ?_
      refine q_iload eL_34 rfl ?_
      refine q_sldE eL_36 hA0 hs (by omega) (by omega) ?_
      refine q_bipush eL_37 (by decide +kernel) ?_
      refine q_iand31 eL_39 ?_
      have ha1 : 0 ≤ S0 ((i : Nat) : Int).toNat % 32 := Int.emod_nonneg _ (by decide)
      have ha2 : S0 ((i : Nat) : Int).toNat % 32 < 32 := Int.emod_lt_of_pos _ (by decide)
      generalize S0 ((i : Nat) : Int).toNat % 32 = w at ha1 ha2
      have hw : InR w := ⟨by omega, by omega⟩
      by_cases w0 : w = 0
      · refine q_tableIn (off := 132) (tgt := 172) eL_40 hw (by omega) (by omega) (by rw [w0]; decide) (by decide) ?_
        exact op_ring hEQ hJ hK hM hs hoo h67 hot hA0 hi hn0 hR hD (by omega) (by omega) kk
      by_cases w1 : w = 1
      · refine q_tableIn (off := 181) (tgt := 221) eL_40 hw (by omega) (by omega) (by rw [w1]; decide) (by decide) ?_
        exact op_feed hEQ hJ hK hM hs hoo h67 hot hA0 hi hn0 hR hD (by omega) (by omega) kk
      by_cases w2 : w = 2
      · refine q_tableIn (off := 254) (tgt := 294) eL_40 hw (by omega) (by omega) (by rw [w2]; decide) (by decide) ?_
        exact op_tell hEQ hJ hK hM hs hoo h67 hot hA0 hi hn0 hR hD (by omega) (by omega) kk
      by_cases w3 : w = 3
      · refine q_tableIn (off := 322) (tgt := 362) eL_40 hw (by omega) (by omega) (by rw [w3]; decide) (by decide) ?_
        exact op_fault hEQ hJ hK hM hs hoo h67 hot hA0 hi hn0 hR hD (by omega) (by omega) kk
      by_cases w4 : w = 4
      · refine q_tableIn (off := 335) (tgt := 375) eL_40 hw (by omega) (by omega) (by rw [w4]; decide) (by decide) ?_
        exact op_put hEQ hJ hK hM hs hoo h67 hot hA0 hi hn0 hR hD (by omega) (by omega) kk
      by_cases w5 : w = 5
      · refine q_tableIn (off := 403) (tgt := 443) eL_40 hw (by omega) (by omega) (by rw [w5]; decide) (by decide) ?_
        exact op_count hEQ hJ hK hM hs hoo h67 hot hA0 hi hn0 hR hD (by omega) (by omega) kk
      by_cases w6 : w = 6
      · refine q_tableIn (off := 459) (tgt := 499) eL_40 hw (by omega) (by omega) (by rw [w6]; decide) (by decide) ?_
        exact op_modulus hEQ hJ hK hM hs hoo h67 hot hA0 hi hn0 hR hD (by omega) (by omega) kk
      by_cases w7 : w = 7
      · refine q_tableIn (off := 515) (tgt := 555) eL_40 hw (by omega) (by omega) (by rw [w7]; decide) (by decide) ?_
        exact op_element hEQ hJ hK hM hs hoo h67 hot hA0 hi hn0 hR hD (by omega) (by omega) kk
      by_cases w8 : w = 8
      · refine q_tableIn (off := 595) (tgt := 635) eL_40 hw (by omega) (by omega) (by rw [w8]; decide) (by decide) ?_
        exact op_of hEQ hJ hK hM hs hoo h67 hot hA0 hi hn0 hR hD (by omega) (by omega) kk
      by_cases w9 : w = 9
      · refine q_tableIn (off := 663) (tgt := 703) eL_40 hw (by omega) (by omega) (by rw [w9]; decide) (by decide) ?_
        exact op_digit hEQ hJ hK hM hs hoo h67 hot hA0 hi hn0 hR hD (by omega) (by omega) kk
      by_cases w10 : w = 10
      · refine q_tableIn (off := 731) (tgt := 771) eL_40 hw (by omega) (by omega) (by rw [w10]; decide) (by decide) ?_
        exact op_whole hEQ hJ hK hM hs hoo h67 hot hA0 hi hn0 hR hD (by omega) (by omega) kk
      by_cases w11 : w = 11
      · refine q_tableIn (off := 823) (tgt := 863) eL_40 hw (by omega) (by omega) (by rw [w11]; decide) (by decide) ?_
        exact op_sum hEQ hJ hK hM hs hoo h67 hot hA0 hi hn0 hR hD (by omega) (by omega) kk
      by_cases w12 : w = 12
      · refine q_tableIn (off := 891) (tgt := 931) eL_40 hw (by omega) (by omega) (by rw [w12]; decide) (by decide) ?_
        exact op_roots hEQ hJ hK hM hs hoo h67 hot hA0 hi hn0 hR hD (by omega) (by omega) kk
      by_cases w13 : w = 13
      · refine q_tableIn (off := 971) (tgt := 1011) eL_40 hw (by omega) (by omega) (by rw [w13]; decide) (by decide) ?_
        exact op_zeros hEQ hJ hK hM hs hoo h67 hot hA0 hi hn0 hR hD (by omega) (by omega) kk
      by_cases w14 : w = 14
      · refine q_tableIn (off := 1039) (tgt := 1079) eL_40 hw (by omega) (by omega) (by rw [w14]; decide) (by decide) ?_
        exact op_within hEQ hJ hK hM hs hoo h67 hot hA0 hi hn0 hR hD (by omega) (by omega) kk
      by_cases w15 : w = 15
      · refine q_tableIn (off := 1107) (tgt := 1147) eL_40 hw (by omega) (by omega) (by rw [w15]; decide) (by decide) ?_
        exact op_units hEQ hJ hK hM hs hoo h67 hot hA0 hi hn0 hR hD (by omega) (by omega) kk
      by_cases w16 : w = 16
      · refine q_tableIn (off := 1163) (tgt := 1203) eL_40 hw (by omega) (by omega) (by rw [w16]; decide) (by decide) ?_
        exact op_many hEQ hJ hK hM hs hoo h67 hot hA0 hi hn0 hR hD (by omega) (by omega) kk
      by_cases w17 : w = 17
      · refine q_tableIn (off := 1231) (tgt := 1271) eL_40 hw (by omega) (by omega) (by rw [w17]; decide) (by decide) ?_
        exact op_classes hEQ hJ hK hM hs hoo h67 hot hA0 hi hn0 hR hD (by omega) (by omega) kk
      by_cases w18 : w = 18
      · refine q_tableIn (off := 1311) (tgt := 1351) eL_40 hw (by omega) (by omega) (by rw [w18]; decide) (by decide) ?_
        exact op_code hEQ hJ hK hM hs hoo h67 hot hA0 hi hn0 hR hD (by omega) (by omega) kk
      by_cases w19 : w = 19
      · refine q_tableIn (off := 1348) (tgt := 1388) eL_40 hw (by omega) (by omega) (by rw [w19]; decide) (by decide) ?_
        exact op_coefficient hEQ hJ hK hM hs hoo h67 hot hA0 hi hn0 hR hD (by omega) (by omega) kk
      by_cases w20 : w = 20
      · refine q_tableIn (off := 1416) (tgt := 1456) eL_40 hw (by omega) (by omega) (by rw [w20]; decide) (by decide) ?_
        exact op_weighing hEQ hJ hK hM hs hoo h67 hot hA0 hi hn0 hR hD (by omega) (by omega) kk
      by_cases w21 : w = 21
      · refine q_tableIn (off := 1469) (tgt := 1509) eL_40 hw (by omega) (by omega) (by rw [w21]; decide) (by decide) ?_
        exact op_lightest hEQ hJ hK hM hs hoo h67 hot hA0 hi hn0 hR hD (by omega) (by omega) kk
      by_cases w22 : w = 22
      · refine q_tableIn (off := 1510) (tgt := 1550) eL_40 hw (by omega) (by omega) (by rw [w22]; decide) (by decide) ?_
        exact op_word hEQ hJ hK hM hs hoo h67 hot hA0 hi hn0 hR hD (by omega) (by omega) kk
      by_cases w23 : w = 23
      · refine q_tableIn (off := 1554) (tgt := 1594) eL_40 hw (by omega) (by omega) (by rw [w23]; decide) (by decide) ?_
        exact op_number hEQ hJ hK hM hs hoo h67 hot hA0 hi hn0 hR hD (by omega) (by omega) kk
      by_cases w24 : w = 24
      · refine q_tableIn (off := 1610) (tgt := 1650) eL_40 hw (by omega) (by omega) (by rw [w24]; decide) (by decide) ?_
        exact op_rest hEQ hJ hK hM hs hoo h67 hot hA0 hi hn0 hR hD (by omega) (by omega) kk
      by_cases w25 : w = 25
      · refine q_tableIn (off := 1666) (tgt := 1706) eL_40 hw (by omega) (by omega) (by rw [w25]; decide) (by decide) ?_
        exact op_mend hEQ hJ hK hM hs hoo h67 hot hA0 hi hn0 hR hD (by omega) (by omega) kk
      by_cases w26 : w = 26
      · refine q_tableIn (off := 1722) (tgt := 1762) eL_40 hw (by omega) (by omega) (by rw [w26]; decide) (by decide) ?_
        exact op_nearest hEQ hJ hK hM hs hoo h67 hot hA0 hi hn0 hR hD (by omega) (by omega) kk
      by_cases w27 : w = 27
      · refine q_tableIn (off := 1778) (tgt := 1818) eL_40 hw (by omega) (by omega) (by rw [w27]; decide) (by decide) ?_
        exact op_say hEQ hJ hK hM hs hoo h67 hot hA0 hi hn0 hR hD (by omega) (by omega) kk
      by_cases w28 : w = 28
      · refine q_tableIn (off := 1834) (tgt := 1874) eL_40 hw (by omega) (by omega) (by rw [w28]; decide) (by decide) ?_
        exact op_said hEQ hJ hK hM hs hoo h67 hot hA0 hi hn0 hR hD (by omega) (by omega) kk
      refine q_tableOut (tgt := 1899) eL_40 hw (by omega) (by decide) ?_
      exact kk F A al nc ns l5 l6 ⟨Nat.le_refl _, fun _ _ => rfl⟩ hJ hA0 (by omega) (by omega)
theorem nwL_8 : NW RL 8 9 "RootedRing" 10 := ⟨⟨_, rfl⟩, tb_i (List.mem_of_getElem? (i := 128) (by decide +kernel)) (by decide +kernel), tb_i (List.mem_of_getElem? (i := 129) (by decide +kernel)) (by decide +kernel), tb_i (List.mem_of_getElem? (i := 107) (by decide +kernel)) (by decide +kernel), by decide +kernel, by decide⟩
theorem nwL_85 : NW RL 85 10 "RootedRingModel" 54 := ⟨⟨_, rfl⟩, tb_i (List.mem_of_getElem? (i := 1190) (by decide +kernel)) (by decide +kernel), tb_i (List.mem_of_getElem? (i := 1191) (by decide +kernel)) (by decide +kernel), tb_i (List.mem_of_getElem? (i := 121) (by decide +kernel)) (by decide +kernel), by decide +kernel, by decide⟩
set_option maxRecDepth 20000 in
theorem law_start (hEQ : EQs) {S0 : Nat → Int} {n0 : Nat} (hn0 : n0 ≤ 3072) (hR : ∀ j, InR (S0 j)) {F : HF} {A : HA} {K : Nat → Nat × Nat} (hs : K 0 = (4, n0)) (hA0 : A 0 = S0) : QW mL_law 100 601024 7293034 PL1 0 0 0 (padL 7 [vA 0]) [] F A (K, 1) := by
  obtain ⟨rh, rm, r3⟩ := hEQ 2 1 1 ⟨by decide, by decide⟩
  have hcy := r3.2.2.2.2.2.2.2.2.2.2.1 1 0 (by decide) (by decide) (Nat.mod_one _) (by decide) (by decide)
  refine q_new eL_0 nwL_8 (Nat.le_of_ble_eq_true rfl) (Nat.le_of_ble_eq_true rfl) ?_
  refine q_dup eL_3 rfl ?_
  refine q_callI [] (M1 := mX11_init) eL_4 mf_X11_init lk_L_84 (ev_x11 rfl rh) (by intro E F A al h; cases h.1) (Nat.le_of_ble_eq_true rfl) (Nat.le_of_ble_eq_true rfl) (Nat.le_of_ble_eq_true rfl) (Nat.le_of_ble_eq_true rfl) (st := [vA 1]) rfl (fun v1 F1 A1 al1 h1 => ?_)
  obtain ⟨e1, k1, kx1, a1, s1, hX⟩ := h1
  obtain rfl := Sum.inl.inj e1
  obtain ⟨K1, n1⟩ := al1
  obtain rfl : n1 = 44 := k1
  refine q_astore_n eL_7 (by decide) rfl ?_
  refine q_new eL_8 nwL_85 (Nat.le_of_ble_eq_true rfl) (Nat.le_of_ble_eq_true rfl) ?_
  refine q_dup eL_11 rfl ?_
  refine q_callI [] (M1 := mX12_init) eL_12 mf_X12_init lk_L_87 (mo_init (f := rF 2 1 1) (g := rG 2 1 1) (if_pos rfl) rfl rfl rfl rfl rfl rfl rfl rfl rfl rfl rfl rm) (by intro E F A al h; cases h.1) (Nat.le_of_ble_eq_true rfl) (Nat.le_of_ble_eq_true rfl) (Nat.le_of_ble_eq_true rfl) (Nat.le_of_ble_eq_true rfl) (st := [vA 44]) rfl (fun v2 F2 A2 al2 h2 => ?_)
  obtain ⟨e2, k2, km2, kb2, f2, a2, hY⟩ := h2
  obtain rfl := Sum.inl.inj e2
  obtain ⟨K2, n2⟩ := al2
  have k2 : 67 ≤ n2 := k2
  have kx2 : KX (K2, n2) := fun a h1 h2 => by
    show K2 a = klf a
    rw [show K2 a = _ from kb2 a h2]
    show (if a = 44 then _ else K1 a) = _
    rw [if_neg (by omega)]; exact kx1 a h1 h2
  have ks2 : K2 0 = (4, n0) := by
    rw [show K2 0 = _ from kb2 0 (by decide)]
    show (if 0 = 44 then _ else K1 0) = _
    rw [if_neg (by decide)]
    exact s1.trans ((if_neg (show ¬ 0 = 1 by decide)).trans hs)
  refine q_astore_n eL_15 (by decide) rfl ?_
  refine q_iconst eL_16 ?_
  refine q_newa_J (N := 1) eL_17 (by decide) (Nat.le_of_ble_eq_true rfl) (Nat.le_of_ble_eq_true rfl) ?_
  refine q_astore_n eL_19 (by decide) rfl ?_
  refine q_iconst eL_20 ?_
  refine q_istore eL_21 (by decide) rfl ?_
  refine lp_law hEQ hn0 k2 hR (Nat.le_of_ble_eq_true rfl) 512 0 _ _ _ _ _ _ _ (by omega) (by omega) ⟨2, 1, 1, fun _ => 0, 0, fun _ => 0, -1, 1, 0, _, _, _, none, [], ⟨by decide, by decide⟩, hX.lo ?_ ?_, ?_⟩ ?_ ?_ ?_ (if_pos rfl) (Nat.lt_succ_self _) ?_ (Nat.le_of_ble_eq_true rfl) (Nat.le_of_ble_eq_true rfl)
  · intro b k hb
    rw [f2 b (by omega)]
    show (if b = 44 then _ else F1 b) k = _
    rw [if_neg (by omega)]
  · intro b hb
    show (if b = n2 then _ else A2 b) = _
    rw [if_neg (by omega), a2 b hb]
  · have hY2 := hY.mid (F' := F2) (A' := nA A2 n2) (fun _ => rfl) (fun b h1 h2 => if_neg (by omega))
    rw [hcy]
    exact hY2
  · intro a h1 h2
    show (if a = n2 then _ else K2 a) = _
    rw [if_neg (by omega)]; exact kx2 a h1 h2
  · intro a h1 h2
    show (if a = n2 then _ else K2 a) = _
    rw [if_neg (by omega)]; exact km2 a h1 h2
  · show (if 0 = n2 then _ else K2 0) = _
    rw [if_neg (by omega)]; exact ks2
  · show (if 0 = n2 then _ else A2 0) = S0
    rw [if_neg (by omega), a2 0 (by decide)]
    exact a1.trans hA0
theorem ak_spec {ty : FieldType} {args : Array Value} {s : State} (h : (Cond.arrayClass ty).before args s = true) : ∃ c, ArrOfT s c ty ∧ s.vm.findClass ("[" ++ ty.toString) = some c := by
  obtain ⟨c, k, comp, h1, h2, h3⟩ := Cond.arrayClass_spec h
  exact ⟨c, fun n z => ⟨fun k h => (by cases h), k, h2, comp, h3⟩, h1⟩
theorem ao_spec {t : FieldType} {args : Array Value} {s : State} (h : (Cond.arrayOver (.array t)).before args s = true) : ∃ c, ArrOfT s c (.array t) ∧ s.vm.findClass ("[" ++ (FieldType.array t).toString) = some c := by
  have h : (Cond.arrayOver (.array t)).holds args s none s [] = true := h
  simp only [Cond.holds, Cond.value, beq_iff_eq] at h
  cases hc : s.vm.findClass (FieldType.array t).toString with
  | none => simp [hc] at h
  | some comp =>
    simp only [hc, Option.bind_some, Option.bind_eq_some_iff, Option.map_eq_some_iff] at h
    obtain ⟨c, hi, k, hk, hb⟩ := h
    cases hkind : k.kind with
    | array component ty =>
      rw [hkind] at hb
      simp at hb
      exact ⟨c, fun n z => ⟨fun k h => (by cases h), k, hk, component, by rw [hkind, hb.1]⟩, hb.2⟩
    | _ => rw [hkind] at hb; simp at hb
theorem inst_all : ∀ q ∈ vwCl, Cond.instantiable q.1 q.2.2 ∈ TBg := List.forall_mem_cons.mpr ⟨tb_i (List.mem_of_getElem? (i := 305) (by decide +kernel)) (by decide +kernel), List.forall_mem_cons.mpr ⟨tb_i (List.mem_of_getElem? (i := 137) (by decide +kernel)) (by decide +kernel), List.forall_mem_cons.mpr ⟨tb_i (List.mem_of_getElem? (i := 393) (by decide +kernel)) (by decide +kernel), List.forall_mem_cons.mpr ⟨tb_i (List.mem_of_getElem? (i := 244) (by decide +kernel)) (by decide +kernel), List.forall_mem_cons.mpr ⟨tb_i (List.mem_of_getElem? (i := 262) (by decide +kernel)) (by decide +kernel), List.forall_mem_cons.mpr ⟨tb_i (List.mem_of_getElem? (i := 226) (by decide +kernel)) (by decide +kernel), List.forall_mem_cons.mpr ⟨tb_i (List.mem_of_getElem? (i := 210) (by decide +kernel)) (by decide +kernel), List.forall_mem_cons.mpr ⟨tb_i (List.mem_of_getElem? (i := 356) (by decide +kernel)) (by decide +kernel), List.forall_mem_cons.mpr ⟨tb_i (List.mem_of_getElem? (i := 350) (by decide +kernel)) (by decide +kernel), List.forall_mem_cons.mpr ⟨tb_i (List.mem_of_getElem? (i := 129) (by decide +kernel)) (by decide +kernel), List.forall_mem_cons.mpr ⟨tb_i (List.mem_of_getElem? (i := 1191) (by decide +kernel)) (by decide +kernel), fun _ h => absurd h List.not_mem_nil⟩⟩⟩⟩⟩⟩⟩⟩⟩⟩⟩
theorem kk_of {s : State} {args : Array Value} (hts : ∀ w ∈ TBg, w.before args s = true) (h1 : (Cond.arrayClass .int).before args s = true) (h2 : (Cond.arrayClass .byte).before args s = true) (h3 : (Cond.arrayClass .long).before args s = true) (h4 : (Cond.arrayOver (.array .int)).before args s = true) : ∃ G : GG, KK G s := by
  obtain ⟨c1, x1, y1⟩ := ak_spec h1
  obtain ⟨c2, x2, y2⟩ := ak_spec h2
  obtain ⟨c3, x3, y3⟩ := ak_spec h3
  obtain ⟨c4, x4, y4⟩ := ao_spec h4
  have hc : ∀ c : Nat, ∃ x : ClassId × (Nat → Nat), ∀ q : vw_C, vwCl[c]? = some q → u_Kn s q.1 q.2.1 q.2.2 x.1 x.2 := by
    intro c
    cases hq : vwCl[c]? with
    | none => exact ⟨(c1, fun _ => 0), fun q h => by cases h⟩
    | some q =>
      obtain ⟨C, T, N⟩ := q
      obtain ⟨cC, iS, hk⟩ := u_known (C := C) (T := T) (N := N) (n := N) hts (cl_all hq).1 (hts _ (inst_all _ (List.mem_of_getElem? hq)))
      exact ⟨(cC, iS), fun q h => by cases h; exact hk⟩
  refine ⟨((fun c => (Classical.choose (hc c)).1, fun c => (Classical.choose (hc c)).2), c1, c2, c3, c4), fun c q h => Classical.choose_spec (hc c) q h, fun k q h => ?_⟩
  match k, h with
  | 0, h => cases h; exact ⟨x1, y1⟩
  | 1, h => cases h; exact ⟨x2, y2⟩
  | 2, h => cases h; exact ⟨x3, y3⟩
  | 3, h => cases h; exact ⟨x4, y4⟩
  | k + 4, h => simp at h
def R_law : String := "RootedRingLaw"
def lw_P (b : Addr) (xs : List Int32) (args : Array Value) (s : State) : Prop := args = #[.ref b] ∧ s.IntsAt b xs ∧ xs.length ≤ 3072 ∧ (Jvm.Cond.and given_1 narrow_1).before args s = true
def lw_Q (_ : Array Value) (s : State) (o : Outcome) (t : State) : Prop := o = .returned (some (.int 1)) ∧ Framed s o t [] 601024 7293034
def lw_Z (below : List Frame) (a : Array Value) (s : State) : State → Prop := fun t => ∃ o, t.status = .running ∧ Ended t below o ∧ lw_Q a s o t
theorem whole_start (hEQ : EQs) {p : Program} {e : Env} {s : State} {m : MethodId} {below : List Frame} {meth : Method} {c : Code} (l : Launch) (hflags : l.flags = flags0) {b L : Nat} {xs : Nat → Int32} (hL : L ≤ 3072)
    (hx : p.tables.exec = Jvm.exec) (hb : c.code = code) (hr : meth.sig.returnType = ret) (hml : c.maxLocals = 7) (hown : s.vm.findClass R_law = some m.cls) (hts : ∀ w ∈ lw_tbl, w.before #[Value.ref b] s = true) (hX : va_X b L xs s s.heap) (hbl : b < s.heap.size) (hlocks : meth.locks = false) (hgv : (Jvm.Cond.and given_1 narrow_1).before #[Value.ref b] s = true) (hname : meth.name = "law") (htab : c.exceptionTable.toList = []) :
    W p l e room_1 s m #[Value.ref b] below meth c s.heap [] 0 0 (lw_Z below #[Value.ref b] s) (entryFrame m ([Value.ref b] : List Value).toArray 7) := by
  have hT : ∀ {w : Cond}, w ∈ lw_tbl → w.before #[Value.ref b] s = true := fun h => hts _ h
  have htg : ∀ w ∈ TBg, w.before #[Value.ref b] s = true := fun w hw => hts w (List.mem_filter.mp hw).1
  have hfl := flat_of_before _ hgv
  obtain ⟨G, hK⟩ := kk_of htg (hT (w := (Jvm.Cond.arrayClass Jvm.ClassFile.FieldType.int)) (List.mem_of_getElem? (i := 208) (by decide +kernel))) (hT (w := (Jvm.Cond.arrayClass Jvm.ClassFile.FieldType.byte)) (List.mem_of_getElem? (i := 1431) (by decide +kernel))) (hT (w := (Jvm.Cond.arrayClass Jvm.ClassFile.FieldType.long)) (List.mem_of_getElem? (i := 1779) (by decide +kernel))) (hT (w := (Jvm.Cond.arrayOver (Jvm.ClassFile.FieldType.array Jvm.ClassFile.FieldType.int))) (List.mem_of_getElem? (i := 143) (by decide +kernel)))
  have hXW : XW s := by
    refine ⟨?_, ?_, ?_, hT (w := (Jvm.Cond.arrayOver (Jvm.ClassFile.FieldType.array Jvm.ClassFile.FieldType.int))) (List.mem_of_getElem? (i := 143) (by decide +kernel))⟩
    · intro q hq
      have h9 : q = ("java/util/NoSuchElementException", "java/util/NoSuchElementException") ∨ q = ("java/lang/IllegalArgumentException", "java/lang/IllegalArgumentException") := by simpa [xwC] using hq
      rcases h9 with rfl | rfl
      · exact hT (w := (Jvm.Cond.castable "java/util/NoSuchElementException" "java/util/NoSuchElementException")) (List.mem_of_getElem? (i := 855) (by decide +kernel))
      · exact hT (w := (Jvm.Cond.castable "java/lang/IllegalArgumentException" "java/lang/IllegalArgumentException")) (List.mem_of_getElem? (i := 696) (by decide +kernel))
    · intro q hq
      have h9 : q = ("RootedRing", 9, yX2_init, "RootedRing") ∨ q = ("RootedRing", 25, yX8_init, "RootedRing") ∨ q = ("RootedRing", 32, yX6_init, "RootedRing") ∨ q = ("RootedRing", 39, yX4_init, "RootedRing") := by simpa [xwM] using hq
      rcases h9 with rfl | rfl | rfl | rfl
      · exact hT (w := (Jvm.Cond.methodLinkNest "RootedRing" (9 : Nat) ({ cls := "RootedRing$Galois", name := "<init>", desc := "()V" } : Jvm.MethodName) "RootedRing")) (List.mem_of_getElem? (i := 138) (by decide +kernel))
      · exact hT (w := (Jvm.Cond.methodLinkNest "RootedRing" (25 : Nat) ({ cls := "RootedRing$Tape", name := "<init>", desc := "()V" } : Jvm.MethodName) "RootedRing")) (List.mem_of_getElem? (i := 211) (by decide +kernel))
      · exact hT (w := (Jvm.Cond.methodLinkNest "RootedRing" (32 : Nat) ({ cls := "RootedRing$Speech", name := "<init>", desc := "()V" } : Jvm.MethodName) "RootedRing")) (List.mem_of_getElem? (i := 227) (by decide +kernel))
      · exact hT (w := (Jvm.Cond.methodLinkNest "RootedRing" (39 : Nat) ({ cls := "RootedRing$Partition", name := "<init>", desc := "()V" } : Jvm.MethodName) "RootedRing")) (List.mem_of_getElem? (i := 245) (by decide +kernel))
    · intro x hx9
      have h9 : x = { cls := "java/lang/RuntimeException", name := "<init>", desc := "()V" } ∨ x = { cls := "java/lang/Exception", name := "<init>", desc := "()V" } ∨ x = { cls := "java/lang/Throwable", name := "<init>", desc := "()V" } := by simpa [xwD] using hx9
      rcases h9 with rfl | rfl | rfl
      · exact hT (w := (Jvm.Cond.declares ({ cls := "java/lang/RuntimeException", name := "<init>", desc := "()V" } : Jvm.MethodName))) (List.mem_of_getElem? (i := 697) (by decide +kernel))
      · exact hT (w := (Jvm.Cond.declares ({ cls := "java/lang/Exception", name := "<init>", desc := "()V" } : Jvm.MethodName))) (List.mem_of_getElem? (i := 699) (by decide +kernel))
      · exact hT (w := (Jvm.Cond.declares ({ cls := "java/lang/Throwable", name := "<init>", desc := "()V" } : Jvm.MethodName))) (List.mem_of_getElem? (i := 701) (by decide +kernel))
  have hZs : Zs (fun q : Nat => s.heap.size ≤ q) s s.heap := by
    refine ⟨vx_Zqof (args := #[Value.ref b]) (hT (w := (Jvm.Cond.laysStatic "java/lang/Throwable" "UNASSIGNED_STACK" "[Ljava/lang/StackTraceElement;")) (List.mem_of_getElem? (i := 721) (by decide +kernel))) (hT (w := (Jvm.Cond.initialized "java/lang/Throwable")) (List.mem_of_getElem? (i := 122) (by decide +kernel))) (hfl _ (by decide +kernel)) (fun a ha => Nat.not_le.mpr ha), vx_Zqof (args := #[Value.ref b]) (hT (w := (Jvm.Cond.laysStatic "java/lang/Throwable" "SUPPRESSED_SENTINEL" "Ljava/util/List;")) (List.mem_of_getElem? (i := 723) (by decide +kernel))) (hT (w := (Jvm.Cond.initialized "java/lang/Throwable")) (List.mem_of_getElem? (i := 122) (by decide +kernel))) (hfl _ (by decide +kernel)) (fun a ha => Nat.not_le.mpr ha)⟩
  rw [show ([Value.ref b] : List Value) = ([vA 0] : List LV).map (tr (fun _ => b)) from rfl, lg_entry_eq]
  have hcore := law_start hEQ (S0 := fun j => (xs j).toInt) (n0 := L) hL (fun j => ⟨Int32.le_toInt _, Int32.toInt_lt _⟩) (F := fun _ _ => vN) (A := fun a => if a = 0 then (fun j => (xs j).toInt) else fun _ => 0) (K := fun a => if a = 0 then (4, L) else (9, 0)) (if_pos rfl) (if_pos rfl)
  have h := hcore p l e room_1 s m #[Value.ref b] below meth c G (fun q : Nat => s.heap.size ≤ q) (fun _ => b) 1
    ⟨hx, by rw [Launch.stackTraces, hflags]; decide, hb, hml, hown, htg, hr, hlocks, hname, htab, hXW, hK, hZs, fun _ h => h, Nat.le_of_ble_eq_true rfl, Nat.le_of_ble_eq_true rfl, Nat.le_of_ble_eq_true rfl, Nat.le_of_ble_eq_true rfl⟩
    (fun _ => b) s.heap [] _ ⟨⟨fun k q h => by simp [wl] at h, ⟨fun i j p q h => by simp [wl] at h, fun k q h => by simp [wl] at h⟩, fun _ _ => trivial, fun k hk => if_neg (show ¬ k = 0 by have : 1 ≤ k := hk; omega), Nat.one_pos, rfl, ?_, Nat.not_le.mpr hbl, fun k => ?_⟩, va_S.rf, Nat.le_refl _, fun _ _ => rfl, QL.entry (ad := fun _ => b) (nL := 7) (as := [vA 0]) (by decide) ⟨Nat.one_pos, trivial⟩, hbl⟩ trivial
  · intro T hTT X
    obtain ⟨t, a1, o, b1, b2, b3⟩ := h T hTT X
    refine ⟨t, a1, o, b1, b2, ?_⟩
    rcases b3 with ⟨⟨⟨v, F', A', al', ad', e1, e2, -⟩, -⟩, L9, ⟨f1, f2, f3⟩, f4⟩ | ⟨q, -, E, ce, L9, ⟨⟨F', A', al', ad', e2, -⟩, -⟩, -⟩
    · cases e2
      exact ⟨e1, f1, f2, State.sameButNew.drop_fresh (L := []) f3 f4⟩
    · cases e2
  · show va_X b L (fun j => Int32.ofInt ((if 0 = 0 then (fun j => (xs j).toInt) else fun _ => 0) j)) s s.heap
    rw [if_pos rfl]
    simp only [Int32.ofInt_toInt]
    exact hX
  · show (if k = 0 then (4, L) else (9, 0) : Nat × Nat).2 < 2147483648
    split
    · show L < 2147483648; omega
    · decide
set_option maxHeartbeats 4000000 in
theorem lw_walk (hEQ : EQs) (l : Launch) (hflags : l.flags = flags0) (b : Addr) (xs : List Int32) : MetFree l x (headSpec (Jvm.Cond.code x code maxLocals ret :: tables_1) room_1) (lw_P b xs) (fun _ _ _ _ _ => True) lw_Q := by
  refine MetFree.of_bodyS (code := code) (maxLocals := maxLocals) (ret := ret) (by decide) ?_ ?_
  · intro args s m h hn
    obtain ⟨meth, c, h1, h2, h3, h4, h5, h6, -, -⟩ := Cond.code_spec hn (atoms_spec (ws := Jvm.Cond.code x code maxLocals ret :: tables_1) h _ List.mem_cons_self)
    exact ⟨meth, c, h1, h2, h3, h4, h5, h6⟩
  · intro p e s m args below meth c s₁ B hml0 hP _
    obtain ⟨rfl, hx, hbd, hgv⟩ := hP
    obtain ⟨scr, harrAt, hlist, hof, hsmall⟩ := hx
    obtain ⟨hcb, hkn, -, -⟩ := State.arrayAt?_spec harrAt
    have hown : s.vm.findClass R_law = some m.cls := findClass_of_methodNamed B.named
    have hts0 : ∀ c ∈ (Jvm.Cond.code x code maxLocals ret :: tables_1), c.before #[Value.ref b] s = true := atoms_spec (ws := Jvm.Cond.code x code maxLocals ret :: tables_1) B.pre
    have hts : ∀ w ∈ lw_tbl, w.before #[Value.ref b] s = true := k2_hts_sels lw_privs (fun w hw => hts0 w (List.mem_cons_of_mem _ hw)) lw_privs_ok
    have hml : c.maxLocals = 7 := B.maxLocals_eq (hts0 _ List.mem_cons_self)
    have X₀ : Stand p l e room_1 s m #[Value.ref b] below meth c s₁ [] 0 0 := Stand.of_body B
    have hh0 : s₁.heap = s.heap := by rw [B.state]; rfl
    have hsz : scr.slots.size = xs.length := by rw [← Array.length_toList, hlist, List.length_map]
    have hval : ∀ j : Nat, j < xs.length → scr.slots[j]? = some (.int (xs.getD j 0)) := fun j hj => by
      rw [← Array.getElem?_toList, hlist]
      simp [hj]
    have hbl : b < s.heap.size := (Array.getElem?_eq_some_iff.mp hcb).1
    have hX : va_X b xs.length (fun j => xs.getD j 0) s s.heap := ⟨scr, hcb, hof, hkn, hsz, hval⟩
    have htab : c.exceptionTable.toList = [] := by
      obtain ⟨meth9, c9, h1, h2, -, -, -, -, h7, -⟩ := Cond.code_spec B.named (hts0 _ List.mem_cons_self)
      cases Option.some.inj (h1.symm.trans B.method)
      cases Option.some.inj (h2.symm.trans (Stand.of_body B).code)
      rw [Array.isEmpty_iff.mp h7]
    have K : W p l e room_1 s m #[Value.ref b] below meth c s₁.heap [] 0 0 (lw_Z below #[Value.ref b] s) (entryFrame m ([Value.ref b] : List Value).toArray 7) := by
      rw [hh0]
      exact whole_start hEQ l hflags hbd B.exec B.bytes B.returns hml hown hts hX hbl B.notSynchronized hgv (name_of_methodNamed B.named B.method).1 htab
    obtain ⟨t, a1, o, b1, b2, b3⟩ := K s₁ rfl X₀
    exact ⟨t, o, a1, b1, b2, b3⟩
theorem lw_pre_spec {args : Array Value} {s : State} (h : (Jvm.Cond.and given_1 narrow_1).before args s = true) (hr : rest_1_c.before args s = true) : ∃ (b : Addr) (xs : List Int32), lw_P b xs args s := by
  have hs := flat_of_before _ h
  have hq := flat_of_before _ hr
  have hc : (Cond.count 1).before args s = true := hs _ (by decide +kernel)
  have harr : (Cond.arrayOf (.arg 0) .int).before args s = true := hs _ (by decide +kernel)
  have hle : (Cond.le (.length (.arg 0)) (.int 3072)).before args s = true := hs _ (by decide +kernel)
  have hlen : (Cond.isInt (.length (.arg 0))).before args s = true := hq _ (by decide +kernel)
  have hall : (Cond.all (.arg 0) (.isInt (.elem (.arg 0) (.index 0)))).before args s = true := hq _ (by decide +kernel)
  obtain ⟨b, xs, hb, hx⟩ := State.ints_of_pre rfl harr hlen hall
  have hsm : xs.length < 2 ^ 31 := hx.choose_spec.2.2.2
  have hev : (Term.length (.arg 0)).eval args s none [] s = some (.int xs.length.toInt32) := hx.length_eval hb
  have hv := Cond.le_ints hev (show (Term.int 3072).eval args s none [] s = some (.int 3072) from rfl)
  have hd : xs.length.toInt32 ≤ 3072 := by
    simpa [Cond.before, Cond.holds, hv] using hle
  have hN : xs.length ≤ 3072 := (Int32.ofNat_le_ofNat hsm (by decide)).mp (show Int32.ofNat xs.length ≤ Int32.ofNat 3072 from hd)
  exact ⟨b, xs, Cond.one_arg hc (show args[0]? = some (.ref b) from hb), hx, hN, h⟩
theorem lw_comes (hEQ : EQs) (l : Launch) (hflags : l.flags = flags0) : Comes l x (Jvm.Cond.code x code maxLocals ret :: tables_1) room_1 (fun tb e args s => Calls_1 tb e args s ∧ rest_1 tb e args s ∧ Pre_1 tb e args s)
    (fun _ _ args s o t => lw_Q args s o t) := by
  intro p e ha hc hk s m args below hf hfit hheap happ hpre
  obtain ⟨b, xs, hP⟩ := lw_pre_spec hpre.2.2 hpre.2.1
  obtain ⟨k, o, h1, h2, h3, hQ⟩ := lw_walk hEQ l hflags b xs p e ha hc hk s m args below hf ((Spec.applies_iff_loose hf).mp happ).1 hP trivial
  exact ⟨k, o, h1, h2, h3, hQ⟩
theorem lw_frame {s t : State} {o : Outcome} {args : Array Value} (h : Framed s o t [] 601024 7293034) :
    Framed s o t (fieldLocs frame_1_writes args s ++ arrayLocs frame_1_arrays args s ++ staticLocs frame_1_statics s) 601024 7293034 := h
theorem lw_limb (hEQ : EQs) (L : Cond) (hL : ∀ (args : Array Value) (s t : State), L.after args s (.returned (some (.int 1))) t = true) :
    ArmFor flags0 classFile x code maxLocals ret World_1 tables_1 room_1 Calls_1 rest_1 Pre_1
      (fun tb e a s o t => postC L tb e a s o t ∧ Framed s o t (fieldLocs frame_1_writes a s ++ arrayLocs frame_1_arrays a s ++ staticLocs frame_1_statics s) 601024 7293034) := by
  intro l hflags _ _ p e ha hc hk s m args below hf hfit hheap happ hpre
  obtain ⟨k, o, h1, h2, h3, rfl, hF⟩ := lw_comes hEQ l hflags p e ha hc hk s m args below hf hfit hheap happ hpre
  exact ⟨k, _, h1, h2, h3, hL args s _, lw_frame hF⟩
theorem i_vc : Claimed_1_1 ∧ Claimed_1_2 := ⟨lw_limb eqs limb_1_1 (fun args s t => by simp [limb_1_1, Cond.after, Cond.holds, Cond.value]), lw_limb eqs limb_1_2 (fun args s t => Cond.after_iff.mpr (by
  first | (rw [show limb_1_2 = Cond.eq .result (.int 1) from rfl, Cond.eq_ints (x := 1) (y := 1) rfl rfl]; simp; done) | (simp [limb_1_2, Cond.value, Term.eval]; done)))⟩
