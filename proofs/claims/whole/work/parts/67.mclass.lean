/-! the model: classes, codes -/
def orb (p n i : Nat) : Nat → Nat
  | 0 => i
  | k + 1 => orb p n i k * p % n
/-- the first k from s on (t to try) that is back at i -/
def orF (p n i : Nat) : Nat → Nat → Nat
  | 0, s => s
  | t + 1, s => if orb p n i s = i then s else orF p n i t (s + 1)
def orK (p n i : Nat) : Nat := orF p n i n 1
def mnO (p n i : Nat) : Nat → Nat
  | 0 => i
  | k + 1 => min (mnO p n i k) (orb p n i (k + 1))
def lsM (p n i : Nat) : Nat := mnO p n i (orK p n i - 1)
def OrbOK (p n : Nat) : Prop := ∀ i, i < n → 1 ≤ orK p n i ∧ orb p n i (orK p n i) = i ∧ (∀ j, 1 ≤ j → j < orK p n i → orb p n i j ≠ i) ∧ lsM p n i ≤ i
theorem orb_lt {p n i : Nat} (hi : i < n) : ∀ k, orb p n i k < n
  | 0 => hi
  | _ + 1 => Nat.mod_lt _ (by omega)
theorem mnO_le {p n i : Nat} : ∀ k, mnO p n i k ≤ i
  | 0 => Nat.le_refl _
  | k + 1 => Nat.le_trans (Nat.min_le_left _ _) (mnO_le k)
set_option maxRecDepth 20000 in
theorem lp_leastOf {p n i : Nat} {F : HF} {A : HA} {al : AL} (hK : KM al) (hp : F 44 1 = vI p) (hp7 : p ≤ 7) (hn63 : n ≤ 63) (hi : i < n) (hO : OrbOK p n) : ∀ (s k : Nat), k + s = orK p n i → 1 ≤ k →
    QW mX12_leastOf 1 0 0 (PI (lsM p n i : Nat) F A al) 0 0 12 [some (vA 44), some (vI n), some (vI i), some (vI (mnO p n i (k - 1) : Nat)), some (vI (orb p n i k : Nat))] [] F A al := by
  obtain ⟨o1, o2, o3, -⟩ := hO i hi
  intro s
  induction s with
  | zero =>
    intro k hk hk1
    have ek : k = orK p n i := by omega
    subst ek
    rw [o2]
    refine q_iload eX12_leastOf_12 rfl ?_
    refine q_iload_n eX12_leastOf_14 rfl ?_
    refine q_icmp_eq (tgt := 39) eX12_leastOf_15 (by decide) (by first | assumption | exact ⟨by omega, by omega⟩) (by first | assumption | exact ⟨by omega, by omega⟩) (fun c15 => ?_) (fun c15 => ?_)
    · refine q_iload_n eX12_leastOf_39 rfl ?_
      refine q_retI eX12_leastOf_40 rfl (by decide) (by decide) ?_
      exact PI_ok rfl
    · exact absurd rfl c15
  | succ s ih =>
    intro k hk hk1
    have hne := o3 k hk1 (by omega)
    have hlt := orb_lt (p := p) hi k
    have hml := mnO_le (p := p) (n := n) (i := i) (k - 1)
    have hmul : orb p n i k * p ≤ 63 * 7 := Nat.mul_le_mul (by omega) hp7
    have e1 : ((orb p n i k : Nat) : Int) * (p : Int) = ((orb p n i k * p : Nat) : Int) := by simp
    have e2 : ((orb p n i k * p : Nat) : Int) % (n : Int) = ((orb p n i (k + 1) : Nat) : Int) := by rw [orb]; simp
    have e3 : min ((mnO p n i (k - 1) : Nat) : Int) ((orb p n i k : Nat) : Int) = ((mnO p n i k : Nat) : Int) := by
      obtain ⟨z, rfl⟩ : ∃ z, k = z + 1 := ⟨k - 1, by omega⟩
      show _ = ((min (mnO p n i z) (orb p n i (z + 1)) : Nat) : Int)
      rw [show z + 1 - 1 = z from rfl]
      omega
    refine q_iload eX12_leastOf_12 rfl ?_
    refine q_iload_n eX12_leastOf_14 rfl ?_
    refine q_icmp_eq (tgt := 39) eX12_leastOf_15 (by decide) (by first | assumption | exact ⟨by omega, by omega⟩) (by first | assumption | exact ⟨by omega, by omega⟩) (fun c15 => ?_) (fun c15 => ?_)
    · exact absurd c15 (by omega)
    · refine q_iload_n eX12_leastOf_18 rfl ?_
      refine q_iload eX12_leastOf_19 rfl ?_
      refine q_callSP [vI (mnO p n i (k - 1) : Nat), vI (orb p n i k : Nat)] (M1 := mJ9_min_7cf53) eX12_leastOf_21 mf_J9_min_7cf53 lk_X12_249 (ev_min (by exact ⟨by omega, by omega⟩) (by exact ⟨by omega, by omega⟩)) (by decide) (by decide) (by decide) (Nat.le_of_ble_eq_true rfl) rfl ?_
      rw [e3]
      refine q_istore_n eX12_leastOf_24 (by decide) rfl ?_
      refine q_iload eX12_leastOf_25 rfl ?_
      refine q_aload_n eX12_leastOf_27 rfl ?_
      refine q_getfield eX12_leastOf_28 gf_X12_13 (hK _ (by decide) (by decide)) (by decide) (by first | assumption) ?_
      refine q_imul eX12_leastOf_31 ?_
      rw [e1]
      refine q_iload_n eX12_leastOf_32 rfl ?_
      refine q_irem eX12_leastOf_33 (by omega) (by omega) (by omega) (by omega) ?_
      rw [e2]
      refine q_istore eX12_leastOf_34 (by decide) rfl ?_
      refine q_goto (tgt := 12) eX12_leastOf_36 (by decide) ?_
      exact ih (k + 1) (by omega) (by omega)
set_option maxRecDepth 20000 in
theorem mo_leastOf {p n i : Nat} {F : HF} {A : HA} {al : AL} (hK : KM al) (hp : F 44 1 = vI p) (hp7 : p ≤ 7) (hn63 : n ≤ 63) (hi : i < n) (hO : OrbOK p n)  : QE 1 0 0 mX12_leastOf [vA 44, vI n, vI i] F A al (PI (lsM p n i : Nat) F A al) := by
  refine QE.mk (by decide +kernel) (Nat.le_of_ble_eq_true rfl) ?_
  obtain ⟨o1, o2, o3, -⟩ := hO i hi
  have hmul : i * p ≤ 63 * 7 := Nat.mul_le_mul (by omega) hp7
  have e1 : (i : Int) * (p : Int) = ((i * p : Nat) : Int) := by simp
  have e2 : ((i * p : Nat) : Int) % (n : Int) = ((orb p n i 1 : Nat) : Int) := by show _ = ((i * p % n : Nat) : Int); simp
  refine q_iload_n eX12_leastOf_0 rfl ?_
  refine q_istore_n eX12_leastOf_1 (by decide) rfl ?_
  refine q_iload_n eX12_leastOf_2 rfl ?_
  refine q_aload_n eX12_leastOf_3 rfl ?_
  refine q_getfield eX12_leastOf_4 gf_X12_13 (hK _ (by decide) (by decide)) (by decide) (by first | assumption) ?_
  refine q_imul eX12_leastOf_7 ?_
  rw [e1]
  refine q_iload_n eX12_leastOf_8 rfl ?_
  refine q_irem eX12_leastOf_9 (by omega) (by omega) (by omega) (by omega) ?_
  rw [e2]
  refine q_istore eX12_leastOf_10 (by decide) rfl ?_
  exact lp_leastOf hK hp hp7 hn63 hi hO (orK p n i - 1) 1 (by omega) (by decide)
set_option maxRecDepth 20000 in
theorem lp_classMany {p n : Nat} {F : HF} {A : HA} {al : AL} (hK : KM al) (hp : F 44 1 = vI p) (hp7 : p ≤ 7) (hn63 : n ≤ 63) (hO : OrbOK p n) : ∀ (s k : Nat), k + s = n →
    QW mX12_classMany 2 0 0 (PI (ctn (fun k => decide (lsM p n k = k)) n : Nat) F A al) 0 0 4 [some (vA 44), some (vI n), some (vI (ctn (fun k => decide (lsM p n k = k)) k : Nat)), some (vI k)] [] F A al := by
  intro s
  induction s with
  | zero =>
    intro k hk
    have ek : k = n := by omega
    subst ek
    refine q_iload_n eX12_classMany_4 rfl ?_
    refine q_iload_n eX12_classMany_5 rfl ?_
    refine q_icmp_ge (tgt := 33) eX12_classMany_6 (by decide) (by first | assumption | exact ⟨by omega, by omega⟩) (by first | assumption | exact ⟨by omega, by omega⟩) (fun c6 => ?_) (fun c6 => ?_)
    · refine q_iload_n eX12_classMany_33 rfl ?_
      refine q_retI eX12_classMany_34 rfl (by decide) (by decide) ?_
      exact PI_ok rfl
    · exact absurd c6 (by omega)
  | succ s ih =>
    intro k hk
    have hle := (hO k (by omega)).2.2.2
    have hct := ctn_le (fun k => decide (lsM p n k = k)) k
    have hb := ih (k + 1) (by omega)
    refine q_iload_n eX12_classMany_4 rfl ?_
    refine q_iload_n eX12_classMany_5 rfl ?_
    refine q_icmp_ge (tgt := 33) eX12_classMany_6 (by decide) (by first | assumption | exact ⟨by omega, by omega⟩) (by first | assumption | exact ⟨by omega, by omega⟩) (fun c6 => ?_) (fun c6 => ?_)
    · exact absurd c6 (by omega)
    · refine q_iload_n eX12_classMany_9 rfl ?_
      refine q_aload_n eX12_classMany_10 rfl ?_
      refine q_iload_n eX12_classMany_11 rfl ?_
      refine q_iload_n eX12_classMany_12 rfl ?_
      refine q_callVP [vI n, vI k] (M1 := mX12_leastOf) eX12_classMany_13 mf_X12_leastOf lk_X12_376 (hK _ (by decide) (by decide)) (mo_leastOf hK hp hp7 hn63 (show k < n by omega) hO) (by decide) (by decide) (by decide) (Nat.le_of_ble_eq_true rfl) rfl ?_
      refine q_iload_n eX12_classMany_16 rfl ?_
      refine q_icmp_ne (tgt := 24) eX12_classMany_17 (by decide) (by first | assumption | exact ⟨by omega, by omega⟩) (by first | assumption | exact ⟨by omega, by omega⟩) (fun c17 => ?_) (fun c17 => ?_)
      · refine q_iconst eX12_classMany_24 ?_
        refine q_iadd eX12_classMany_25 ?_
        refine q_istore_n eX12_classMany_26 (by decide) rfl ?_
        refine q_iinc eX12_classMany_27 rfl (by decide) rfl ?_
        refine q_goto (tgt := 4) eX12_classMany_30 (by decide) ?_
        first
        | (rw [ctn_yes (by rw [decide_eq_true_eq]; omega)] at hb
           exact hb)
        | (rw [ctn_no (by rw [decide_eq_true_eq]; omega)] at hb
           rw [Int.add_zero]
           exact hb)
      · refine q_iconst eX12_classMany_20 ?_
        refine q_goto (tgt := 25) eX12_classMany_21 (by decide) ?_
        refine q_iadd eX12_classMany_25 ?_
        refine q_istore_n eX12_classMany_26 (by decide) rfl ?_
        refine q_iinc eX12_classMany_27 rfl (by decide) rfl ?_
        refine q_goto (tgt := 4) eX12_classMany_30 (by decide) ?_
        first
        | (rw [ctn_yes (by rw [decide_eq_true_eq]; omega)] at hb
           exact hb)
        | (rw [ctn_no (by rw [decide_eq_true_eq]; omega)] at hb
           rw [Int.add_zero]
           exact hb)
set_option maxRecDepth 20000 in
theorem mo_classMany {p n : Nat} {F : HF} {A : HA} {al : AL} (hK : KM al) (hp : F 44 1 = vI p) (hp7 : p ≤ 7) (hn63 : n ≤ 63) (hO : OrbOK p n)  : QE 2 0 0 mX12_classMany [vA 44, vI n] F A al (PI (ctn (fun k => decide (lsM p n k = k)) n : Nat) F A al) := by
  refine QE.mk (by decide +kernel) (Nat.le_of_ble_eq_true rfl) ?_
  refine q_iconst eX12_classMany_0 ?_
  refine q_istore_n eX12_classMany_1 (by decide) rfl ?_
  refine q_iconst eX12_classMany_2 ?_
  refine q_istore_n eX12_classMany_3 (by decide) rfl ?_
  exact lp_classMany hK hp hp7 hn63 hO n 0 (by omega)
def coM (p n i : Nat) : Nat := ctn (fun k => decide (lsM p n k = k)) (lsM p n i)
set_option maxRecDepth 20000 in
theorem lp_classOf {p n i : Nat} {F : HF} {A : HA} {al : AL} (hK : KM al) (hp : F 44 1 = vI p) (hp7 : p ≤ 7) (hn63 : n ≤ 63) (hO : OrbOK p n) (hi : i < n) : ∀ (s k : Nat), k + s = lsM p n i →
    QW mX12_classOf 2 0 0 (PI (coM p n i : Nat) F A al) 0 0 5 [some (vA 44), some (vI n), some (vI i), some (vI (ctn (fun k => decide (lsM p n k = k)) k : Nat)), some (vI k)] [] F A al := by
  have hli := (hO i hi).2.2.2
  intro s
  induction s with
  | zero =>
    intro k hk
    have ek : k = lsM p n i := by omega
    refine q_iload eX12_classOf_5 rfl ?_
    refine q_aload_n eX12_classOf_7 rfl ?_
    refine q_iload_n eX12_classOf_8 rfl ?_
    refine q_iload_n eX12_classOf_9 rfl ?_
    refine q_callVP [vI n, vI i] (M1 := mX12_leastOf) eX12_classOf_10 mf_X12_leastOf lk_X12_376 (hK _ (by decide) (by decide)) (mo_leastOf hK hp hp7 hn63 (show i < n by omega) hO) (by decide) (by decide) (by decide) (Nat.le_of_ble_eq_true rfl) rfl ?_
    refine q_icmp_ge (tgt := 42) eX12_classOf_13 (by decide) (by first | assumption | exact ⟨by omega, by omega⟩) (by first | assumption | exact ⟨by omega, by omega⟩) (fun c13 => ?_) (fun c13 => ?_)
    · refine q_iload_n eX12_classOf_42 rfl ?_
      refine q_retI eX12_classOf_43 rfl (by decide) (by decide) ?_
      exact PI_ok (by rw [ek]; rfl)
    · exact absurd c13 (by omega)
  | succ s ih =>
    intro k hk
    have hle := (hO k (by omega)).2.2.2
    have hct := ctn_le (fun k => decide (lsM p n k = k)) k
    have hb := ih (k + 1) (by omega)
    refine q_iload eX12_classOf_5 rfl ?_
    refine q_aload_n eX12_classOf_7 rfl ?_
    refine q_iload_n eX12_classOf_8 rfl ?_
    refine q_iload_n eX12_classOf_9 rfl ?_
    refine q_callVP [vI n, vI i] (M1 := mX12_leastOf) eX12_classOf_10 mf_X12_leastOf lk_X12_376 (hK _ (by decide) (by decide)) (mo_leastOf hK hp hp7 hn63 (show i < n by omega) hO) (by decide) (by decide) (by decide) (Nat.le_of_ble_eq_true rfl) rfl ?_
    refine q_icmp_ge (tgt := 42) eX12_classOf_13 (by decide) (by first | assumption | exact ⟨by omega, by omega⟩) (by first | assumption | exact ⟨by omega, by omega⟩) (fun c13 => ?_) (fun c13 => ?_)
    · exact absurd c13 (by omega)
    · refine q_iload_n eX12_classOf_16 rfl ?_
      refine q_aload_n eX12_classOf_17 rfl ?_
      refine q_iload_n eX12_classOf_18 rfl ?_
      refine q_iload eX12_classOf_19 rfl ?_
      refine q_callVP [vI n, vI k] (M1 := mX12_leastOf) eX12_classOf_21 mf_X12_leastOf lk_X12_376 (hK _ (by decide) (by decide)) (mo_leastOf hK hp hp7 hn63 (show k < n by omega) hO) (by decide) (by decide) (by decide) (Nat.le_of_ble_eq_true rfl) rfl ?_
      refine q_iload eX12_classOf_24 rfl ?_
      refine q_icmp_ne (tgt := 33) eX12_classOf_26 (by decide) (by first | assumption | exact ⟨by omega, by omega⟩) (by first | assumption | exact ⟨by omega, by omega⟩) (fun c26 => ?_) (fun c26 => ?_)
      · refine q_iconst eX12_classOf_33 ?_
        refine q_iadd eX12_classOf_34 ?_
        refine q_istore_n eX12_classOf_35 (by decide) rfl ?_
        refine q_iinc eX12_classOf_36 rfl (by decide) rfl ?_
        refine q_goto (tgt := 5) eX12_classOf_39 (by decide) ?_
        first
        | (rw [ctn_yes (by rw [decide_eq_true_eq]; omega)] at hb
           exact hb)
        | (rw [ctn_no (by rw [decide_eq_true_eq]; omega)] at hb
           rw [Int.add_zero]
           exact hb)
      · refine q_iconst eX12_classOf_29 ?_
        refine q_goto (tgt := 34) eX12_classOf_30 (by decide) ?_
        refine q_iadd eX12_classOf_34 ?_
        refine q_istore_n eX12_classOf_35 (by decide) rfl ?_
        refine q_iinc eX12_classOf_36 rfl (by decide) rfl ?_
        refine q_goto (tgt := 5) eX12_classOf_39 (by decide) ?_
        first
        | (rw [ctn_yes (by rw [decide_eq_true_eq]; omega)] at hb
           exact hb)
        | (rw [ctn_no (by rw [decide_eq_true_eq]; omega)] at hb
           rw [Int.add_zero]
           exact hb)
set_option maxRecDepth 20000 in
theorem mo_classOf {p n i : Nat} {F : HF} {A : HA} {al : AL} (hK : KM al) (hp : F 44 1 = vI p) (hp7 : p ≤ 7) (hn63 : n ≤ 63) (hO : OrbOK p n) (hi : i < n) : QE 2 0 0 mX12_classOf [vA 44, vI n, vI i] F A al (PI (coM p n i : Nat) F A al) := by
  refine QE.mk (by decide +kernel) (Nat.le_of_ble_eq_true rfl) ?_
  refine q_iconst eX12_classOf_0 ?_
  refine q_istore_n eX12_classOf_1 (by decide) rfl ?_
  refine q_iconst eX12_classOf_2 ?_
  refine q_istore eX12_classOf_3 (by decide) rfl ?_
  exact lp_classOf hK hp hp7 hn63 hO hi (lsM p n i) 0 (by omega)
set_option maxRecDepth 20000 in
theorem lp_classAt {p n i : Nat} {F : HF} {A : HA} {al : AL} (hK : KM al) (hp : F 44 1 = vI p) (hp7 : p ≤ 7) (hn63 : n ≤ 63) (hO : OrbOK p n) (hi : i ≤ 63) : ∀ (s k : Nat), k + s = n → ctn (fun k => decide (lsM p n k = k)) k ≤ i →
    QW mX12_classAt 2 0 0 (PI (nthE (fun k => decide (lsM p n k = k)) i s k) F A al) 0 0 5 [some (vA 44), some (vI n), some (vI i), some (vI ((i : Int) - (ctn (fun k => decide (lsM p n k = k)) k : Nat))), some (vI k)] [] F A al := by
  intro s
  induction s with
  | zero =>
    intro k hk hc
    have ek : k = n := by omega
    subst ek
    refine q_iload eX12_classAt_5 rfl ?_
    refine q_iload_n eX12_classAt_7 rfl ?_
    refine q_icmp_ge (tgt := 39) eX12_classAt_8 (by decide) (by first | assumption | exact ⟨by omega, by omega⟩) (by first | assumption | exact ⟨by omega, by omega⟩) (fun c8 => ?_) (fun c8 => ?_)
    · refine q_iconst eX12_classAt_39 ?_
      refine q_retI eX12_classAt_40 rfl (by decide) (by decide) ?_
      exact PI_ok rfl
    · exact absurd c8 (by omega)
  | succ s ih =>
    intro k hk hc
    have hle := (hO k (by omega)).2.2.2
    have hct := ctn_le (fun k => decide (lsM p n k = k)) k
    have hb := ih (k + 1) (by omega)
    have hs : nthE (fun k => decide (lsM p n k = k)) i (s + 1) k = if (fun k => decide (lsM p n k = k)) k = true ∧ ctn (fun k => decide (lsM p n k = k)) k = i then (k : Int) else nthE (fun k => decide (lsM p n k = k)) i s (k + 1) := rfl
    refine q_iload eX12_classAt_5 rfl ?_
    refine q_iload_n eX12_classAt_7 rfl ?_
    refine q_icmp_ge (tgt := 39) eX12_classAt_8 (by decide) (by first | assumption | exact ⟨by omega, by omega⟩) (by first | assumption | exact ⟨by omega, by omega⟩) (fun c8 => ?_) (fun c8 => ?_)
    · exact absurd c8 (by omega)
    · refine q_aload_n eX12_classAt_11 rfl ?_
      refine q_iload_n eX12_classAt_12 rfl ?_
      refine q_iload eX12_classAt_13 rfl ?_
      refine q_callVP [vI n, vI k] (M1 := mX12_leastOf) eX12_classAt_15 mf_X12_leastOf lk_X12_376 (hK _ (by decide) (by decide)) (mo_leastOf hK hp hp7 hn63 (show k < n by omega) hO) (by decide) (by decide) (by decide) (Nat.le_of_ble_eq_true rfl) rfl ?_
      refine q_iload eX12_classAt_18 rfl ?_
      refine q_icmp_ne (tgt := 33) eX12_classAt_20 (by decide) (by first | assumption | exact ⟨by omega, by omega⟩) (by first | assumption | exact ⟨by omega, by omega⟩) (fun c20 => ?_) (fun c20 => ?_)
      · refine q_iinc eX12_classAt_33 rfl (by decide) rfl ?_
        refine q_goto (tgt := 5) eX12_classAt_36 (by decide) ?_
        first
        | (have hy : (fun k => decide (lsM p n k = k)) k = true := by rw [decide_eq_true_eq]; omega
           rw [hs, if_neg (by rintro ⟨-, h2⟩; omega)]
           rw [ctn_yes hy] at hb
           have hb2 := hb (by omega)
           rw [show (i : Int) - ((ctn (fun k => decide (lsM p n k = k)) k + 1 : Nat) : Int) = (i : Int) - ((ctn (fun k => decide (lsM p n k = k)) k : Nat) : Int) + -1 by omega] at hb2
           exact hb2)
        | (have hy : ¬ (fun k => decide (lsM p n k = k)) k = true := by rw [decide_eq_true_eq]; omega
           rw [hs, if_neg (fun h2 => hy h2.1)]
           rw [ctn_no hy] at hb
           exact hb hc)
      · refine q_iload_n eX12_classAt_23 rfl ?_
        refine q_if_ne (tgt := 30) eX12_classAt_24 (by decide) (by first | assumption | exact ⟨by omega, by omega⟩) (fun c24 => ?_) (fun c24 => ?_)
        · refine q_iinc eX12_classAt_30 rfl (by decide) rfl ?_
          refine q_iinc eX12_classAt_33 rfl (by decide) rfl ?_
          refine q_goto (tgt := 5) eX12_classAt_36 (by decide) ?_
          first
          | (have hy : (fun k => decide (lsM p n k = k)) k = true := by rw [decide_eq_true_eq]; omega
             rw [hs, if_neg (by rintro ⟨-, h2⟩; omega)]
             rw [ctn_yes hy] at hb
             have hb2 := hb (by omega)
             rw [show (i : Int) - ((ctn (fun k => decide (lsM p n k = k)) k + 1 : Nat) : Int) = (i : Int) - ((ctn (fun k => decide (lsM p n k = k)) k : Nat) : Int) + -1 by omega] at hb2
             exact hb2)
          | (have hy : ¬ (fun k => decide (lsM p n k = k)) k = true := by rw [decide_eq_true_eq]; omega
             rw [hs, if_neg (fun h2 => hy h2.1)]
             rw [ctn_no hy] at hb
             exact hb hc)
        · refine q_iload eX12_classAt_27 rfl ?_
          refine q_retI eX12_classAt_29 rfl (by decide) (by decide) ?_
          refine PI_ok ?_
          rw [hs, if_pos ⟨by rw [decide_eq_true_eq]; omega, by omega⟩]
set_option maxRecDepth 20000 in
theorem mo_classAt {p n i : Nat} {F : HF} {A : HA} {al : AL} (hK : KM al) (hp : F 44 1 = vI p) (hp7 : p ≤ 7) (hn63 : n ≤ 63) (hO : OrbOK p n) (hi : i ≤ 63) : QE 2 0 0 mX12_classAt [vA 44, vI n, vI i] F A al (PI (nthE (fun k => decide (lsM p n k = k)) i n 0) F A al) := by
  refine QE.mk (by decide +kernel) (Nat.le_of_ble_eq_true rfl) ?_
  refine q_iload_n eX12_classAt_0 rfl ?_
  refine q_istore_n eX12_classAt_1 (by decide) rfl ?_
  refine q_iconst eX12_classAt_2 ?_
  refine q_istore eX12_classAt_3 (by decide) rfl ?_
  have h := lp_classAt (A := A) (i := i) hK hp hp7 hn63 hO hi n 0 (by omega) (by show 0 ≤ i; omega)
  rw [show ((i : Int) - ((ctn (fun k => decide (lsM p n k = k)) 0 : Nat) : Int)) = (i : Int) by show (i : Int) - 0 = i; omega] at h
  exact h
set_option maxRecDepth 20000 in
theorem mo_isLong {q : Nat} {n : Int} {F : HF} {A : HA} {al : AL} (hK : KM al) (hq : F 44 5 = vI q) (hq2 : 2 ≤ q) (hq4 : q ≤ 4096) (hn : InR n) : QE 2 0 0 mX12_isLong [vA 44, vI n] F A al (PI (if 1 ≤ n ∧ n ≤ 63 ∧ ((q : Int) - 1) % n = 0 then 1 else 0) F A al) := by
  refine QE.mk (by decide +kernel) (Nat.le_of_ble_eq_true rfl) ?_
  have hn1 := hn.1
  have hn2 := hn.2
  refine q_iload_n eX12_isLong_0 rfl ?_
  refine q_i2l eX12_isLong_1 (by first | assumption | exact ⟨by omega, by omega⟩) ?_
  refine q_lconst (v := 1) eX12_isLong_2 (by decide +kernel) ?_
  refine q_ldc2 eX12_isLong_3 kc_X12_374 ?_
  refine q_callSP [vJ n, vJ 1, vJ 63] (M1 := mX12_isIn) eX12_isLong_6 mf_X12_isIn lk_X12_206 (mo_isIn (by exact ⟨by omega, by omega⟩) (by exact ⟨by omega, by omega⟩) (by exact ⟨by omega, by omega⟩)) (by decide) (by decide) (by decide) (Nat.le_of_ble_eq_true rfl) rfl ?_
  refine q_if_eq (tgt := 27) eX12_isLong_9 (by decide) ir_ite (fun c9 => ?_) (fun c9 => ?_)
  · refine q_iconst eX12_isLong_27 ?_
    refine q_retZ eX12_isLong_28 rfl (by first | exact Or.inl rfl | exact Or.inr rfl | assumption) (by decide) (by decide) ?_
    refine PI_ok ?_
    first
    | exact (if_pos ⟨(i1 c9).1, (i1 c9).2, c20⟩).symm
    | exact (if_pos ⟨(i1 c9).1, (i1 c9).2, by omega⟩).symm
    | exact (if_neg (fun hc => c20 hc.2.2)).symm
    | exact (if_neg (fun hc => i0 c9 ⟨hc.1, hc.2.1⟩)).symm
  · refine q_aload_n eX12_isLong_12 rfl ?_
    refine q_getfield eX12_isLong_13 gf_X12_25 (hK _ (by decide) (by decide)) (by decide) (by first | assumption) ?_
    refine q_iconst eX12_isLong_16 ?_
    refine q_isub eX12_isLong_17 ?_
    refine q_iload_n eX12_isLong_18 rfl ?_
    refine q_irem eX12_isLong_19 (by omega) (by omega) (by have := (i1 c9); omega) (by omega) ?_
    have hmo : InR (((q : Int) - 1) % n) := by
      have h1 := Int.emod_nonneg ((q : Int) - 1) (b := n) (by have := (i1 c9); omega)
      have h2 := Int.emod_lt_of_pos ((q : Int) - 1) (b := n) (by have := (i1 c9); omega)
      exact ⟨by omega, by omega⟩
    refine q_if_ne (tgt := 27) eX12_isLong_20 (by decide) hmo (fun c20 => ?_) (fun c20 => ?_)
    · refine q_iconst eX12_isLong_27 ?_
      refine q_retZ eX12_isLong_28 rfl (by first | exact Or.inl rfl | exact Or.inr rfl | assumption) (by decide) (by decide) ?_
      refine PI_ok ?_
      first
      | exact (if_pos ⟨(i1 c9).1, (i1 c9).2, c20⟩).symm
      | exact (if_pos ⟨(i1 c9).1, (i1 c9).2, by omega⟩).symm
      | exact (if_neg (fun hc => c20 hc.2.2)).symm
      | exact (if_neg (fun hc => i0 c9 ⟨hc.1, hc.2.1⟩)).symm
    · refine q_iconst eX12_isLong_23 ?_
      refine q_goto (tgt := 28) eX12_isLong_24 (by decide) ?_
      refine q_retZ eX12_isLong_28 rfl (by first | exact Or.inl rfl | exact Or.inr rfl | assumption) (by decide) (by decide) ?_
      refine PI_ok ?_
      first
      | exact (if_pos ⟨(i1 c9).1, (i1 c9).2, c20⟩).symm
      | exact (if_pos ⟨(i1 c9).1, (i1 c9).2, by omega⟩).symm
      | exact (if_neg (fun hc => c20 hc.2.2)).symm
      | exact (if_neg (fun hc => i0 c9 ⟨hc.1, hc.2.1⟩)).symm
