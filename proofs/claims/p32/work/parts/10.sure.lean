/-! posts, and calls by them; the class Sure -/
def PI (x : Int) (F : HF) (A : HA) (al : AL) : PO := fun o F' A' al' => o = .inl (some x) ∧ F' = F ∧ A' = A ∧ al' = al
def PQ (x : Int) (F : HF) (al : AL) (Q : HA → Prop) : PO := fun o F' A' al' => o = .inl (some x) ∧ F' = F ∧ al' = al ∧ Q A'
def PV (F : HF) (al : AL) (Q : HA → Prop) : PO := fun o F' A' al' => o = .inl none ∧ F' = F ∧ al' = al ∧ Q A'
theorem nt_PI {x : Int} {F : HF} {A : HA} {al : AL} : NT (PI x F A al) := by intro E F A al h; cases h.1
theorem nt_PQ {x : Int} {F : HF} {al : AL} {Q : HA → Prop} : NT (PQ x F al Q) := by intro E F A al h; cases h.1
theorem nt_PV {F : HF} {al : AL} {Q : HA → Prop} : NT (PV F al Q) := by intro E F A al h; cases h.1
theorem PI_ok {x y : Int} {F : HF} {A : HA} {al : AL} (h : x = y) : PI y F A al (.inl (some x)) F A al := ⟨by rw [h], rfl, rfl, rfl⟩
section QCallP
variable {M : MT} {d mc ms : Nat} {Post : PO} {nc ns pc : Nat} {L : List (Option LV)} {st : List LV} {F : HF} {A : HA} {al : AL}
variable {M1 : MT} {d1 n1 idx : Nat} {x : Int}
theorem q_callSP (as : List LV) (hd : decode M.2.1 pc = .ok (.invokestatic idx, 3)) (hm : MF M1 as.length) (hw : CS M.1.cls idx M1) (ev : QE d1 0 0 M1 as F A al (PI x F A al)) (hd1 : d1 < d) (hm1 : nc ≤ mc) (hm2 : ns ≤ ms) (hr : catS st ≤ 8)
    {st0 : List LV} (hst0 : st0 = as.reverse ++ st) (k : QW M d mc ms Post nc ns (pc + 3) L (vI x :: st) F A al) : QW M d mc ms Post nc ns pc L st0 F A al :=
  q_callS as hd hm hw ev nt_PI hd1 hm1 hm2 hr hst0 (fun v F' A' al' h => by obtain ⟨e, rfl, rfl, rfl⟩ := h; cases e; exact k)
theorem q_callVP (as : List LV) {b ci n : Nat} (hd : decode M.2.1 pc = .ok (.invokevirtual idx, 3)) (hm : MF M1 as.length) (hw : CV M.1.cls idx M1 ci) (hk : al.1 b = (ci + 10, n)) (ev : QE d1 0 0 M1 (vA b :: as) F A al (PI x F A al)) (hd1 : d1 < d) (hm1 : nc ≤ mc) (hm2 : ns ≤ ms) (hr : catS st ≤ 8)
    {st0 : List LV} (hst0 : st0 = as.reverse ++ vA b :: st) (k : QW M d mc ms Post nc ns (pc + 3) L (vI x :: st) F A al) : QW M d mc ms Post nc ns pc L st0 F A al :=
  q_callV as hd hm hw hk ev nt_PI hd1 hm1 hm2 hr hst0 (fun v F' A' al' h => by obtain ⟨e, rfl, rfl, rfl⟩ := h; cases e; exact k)
theorem q_callSQ (as : List LV) {Q : HA → Prop} (hd : decode M.2.1 pc = .ok (.invokestatic idx, 3)) (hm : MF M1 as.length) (hw : CS M.1.cls idx M1) (ev : QE d1 0 0 M1 as F A al (PQ x F al Q)) (hd1 : d1 < d) (hm1 : nc ≤ mc) (hm2 : ns ≤ ms) (hr : catS st ≤ 8)
    {st0 : List LV} (hst0 : st0 = as.reverse ++ st) (k : ∀ A', Q A' → QW M d mc ms Post nc ns (pc + 3) L (vI x :: st) F A' al) : QW M d mc ms Post nc ns pc L st0 F A al :=
  q_callS as hd hm hw ev nt_PQ hd1 hm1 hm2 hr hst0 (fun v F' A' al' h => by obtain ⟨e, rfl, rfl, h⟩ := h; cases e; exact k A' h)
theorem q_callVQ (as : List LV) {Q : HA → Prop} {b ci n : Nat} (hd : decode M.2.1 pc = .ok (.invokevirtual idx, 3)) (hm : MF M1 as.length) (hw : CV M.1.cls idx M1 ci) (hk : al.1 b = (ci + 10, n)) (ev : QE d1 0 0 M1 (vA b :: as) F A al (PQ x F al Q)) (hd1 : d1 < d) (hm1 : nc ≤ mc) (hm2 : ns ≤ ms) (hr : catS st ≤ 8)
    {st0 : List LV} (hst0 : st0 = as.reverse ++ vA b :: st) (k : ∀ A', Q A' → QW M d mc ms Post nc ns (pc + 3) L (vI x :: st) F A' al) : QW M d mc ms Post nc ns pc L st0 F A al :=
  q_callV as hd hm hw hk ev nt_PQ hd1 hm1 hm2 hr hst0 (fun v F' A' al' h => by obtain ⟨e, rfl, rfl, h⟩ := h; cases e; exact k A' h)
theorem q_callSV (as : List LV) {Q : HA → Prop} (hd : decode M.2.1 pc = .ok (.invokestatic idx, 3)) (hm : MF M1 as.length) (hw : CS M.1.cls idx M1) (ev : QE d1 0 0 M1 as F A al (PV F al Q)) (hd1 : d1 < d) (hm1 : nc ≤ mc) (hm2 : ns ≤ ms) (hr : catS st ≤ 8)
    {st0 : List LV} (hst0 : st0 = as.reverse ++ st) (k : ∀ A', Q A' → QW M d mc ms Post nc ns (pc + 3) L st F A' al) : QW M d mc ms Post nc ns pc L st0 F A al :=
  q_callS as hd hm hw ev nt_PV hd1 hm1 hm2 hr hst0 (fun v F' A' al' h => by obtain ⟨e, rfl, rfl, h⟩ := h; cases e; exact k A' h)
theorem q_callVV (as : List LV) {Q : HA → Prop} {b ci n : Nat} (hd : decode M.2.1 pc = .ok (.invokevirtual idx, 3)) (hm : MF M1 as.length) (hw : CV M.1.cls idx M1 ci) (hk : al.1 b = (ci + 10, n)) (ev : QE d1 0 0 M1 (vA b :: as) F A al (PV F al Q)) (hd1 : d1 < d) (hm1 : nc ≤ mc) (hm2 : ns ≤ ms) (hr : catS st ≤ 8)
    {st0 : List LV} (hst0 : st0 = as.reverse ++ vA b :: st) (k : ∀ A', Q A' → QW M d mc ms Post nc ns (pc + 3) L st F A' al) : QW M d mc ms Post nc ns pc L st0 F A al :=
  q_callV as hd hm hw hk ev nt_PV hd1 hm1 hm2 hr hst0 (fun v F' A' al' h => by obtain ⟨e, rfl, rfl, h⟩ := h; cases e; exact k A' h)
end QCallP
def atS (A : HA) (a n : Nat) (i : Int) : Int := if 0 ≤ i ∧ i < n then A a i.toNat else 0

theorem ev_at {a n : Nat} {i : Int} {F : HF} {A : HA} {al : AL} (hk : al.1 a = (0, n)) (hi : InR i) (hn : n < 2147483648) : QE 0 0 0 mX7_at [vA a, vI i] F A al (PI (atS A a n i) F A al) := by
  refine QE.mk (by decide +kernel) (Nat.le_of_ble_eq_true rfl) ?_
  refine q_iload_n eX7_at_0 rfl ?_
  refine q_if_lt (tgt := 16) eX7_at_1 (by decide) (by first | assumption | exact ⟨by omega, by omega⟩) (fun c1 => ?_) (fun c1 => ?_)
  · refine q_iconst eX7_at_16 ?_
    refine q_retI eX7_at_17 rfl (by decide) (by decide) ?_
    refine PI_ok ?_
    unfold atS
    first | rw [if_neg (by omega)] | rw [if_pos ⟨by omega, by omega⟩]
  · refine q_iload_n eX7_at_4 rfl ?_
    refine q_aload_n eX7_at_5 rfl ?_
    refine q_alen eX7_at_6 hk ?_
    refine q_icmp_ge (tgt := 16) eX7_at_7 (by decide) (by first | assumption | exact ⟨by omega, by omega⟩) (by first | assumption | exact ⟨by omega, by omega⟩) (fun c7 => ?_) (fun c7 => ?_)
    · refine q_iconst eX7_at_16 ?_
      refine q_retI eX7_at_17 rfl (by decide) (by decide) ?_
      refine PI_ok ?_
      unfold atS
      first | rw [if_neg (by omega)] | rw [if_pos ⟨by omega, by omega⟩]
    · refine q_aload_n eX7_at_10 rfl ?_
      refine q_iload_n eX7_at_11 rfl ?_
      refine q_iald eX7_at_12 hk (by omega) (by omega) ?_
      refine q_goto (tgt := 17) eX7_at_13 (by decide) ?_
      refine q_retI eX7_at_17 rfl (by decide) (by decide) ?_
      refine PI_ok ?_
      unfold atS
      first | rw [if_neg (by omega)] | rw [if_pos ⟨by omega, by omega⟩]
theorem ev_set {a n : Nat} {i x : Int} {F : HF} {A : HA} {al : AL} (hk : al.1 a = (0, n)) (hi : InR i) (hn : n < 2147483648) : QE 0 0 0 mX7_set [vA a, vI i, vI x] F A al (PV F al (fun A2 => A2 = if 0 ≤ i ∧ i < n then up2 A a i.toNat x else A)) := by
  refine QE.mk (by decide +kernel) (Nat.le_of_ble_eq_true rfl) ?_
  refine q_iload_n eX7_set_0 rfl ?_
  refine q_if_lt (tgt := 14) eX7_set_1 (by decide) (by first | assumption | exact ⟨by omega, by omega⟩) (fun c1 => ?_) (fun c1 => ?_)
  · refine q_retV eX7_set_14 rfl (by decide) (by decide) ?_
    refine ⟨rfl, rfl, rfl, ?_⟩
    first | rw [if_neg (by omega)] | rw [if_pos ⟨by omega, by omega⟩]
  · refine q_iload_n eX7_set_4 rfl ?_
    refine q_aload_n eX7_set_5 rfl ?_
    refine q_alen eX7_set_6 hk ?_
    refine q_icmp_ge (tgt := 14) eX7_set_7 (by decide) (by first | assumption | exact ⟨by omega, by omega⟩) (by first | assumption | exact ⟨by omega, by omega⟩) (fun c7 => ?_) (fun c7 => ?_)
    · refine q_retV eX7_set_14 rfl (by decide) (by decide) ?_
      refine ⟨rfl, rfl, rfl, ?_⟩
      first | rw [if_neg (by omega)] | rw [if_pos ⟨by omega, by omega⟩]
    · refine q_aload_n eX7_set_10 rfl ?_
      refine q_iload_n eX7_set_11 rfl ?_
      refine q_iload_n eX7_set_12 rfl ?_
      refine q_iast eX7_set_13 hk (by omega) (by omega) ?_
      refine q_retV eX7_set_14 rfl (by decide) (by decide) ?_
      refine ⟨rfl, rfl, rfl, ?_⟩
      first | rw [if_neg (by omega)] | rw [if_pos ⟨by omega, by omega⟩]
theorem ev_add {a n : Nat} {i x : Int} {F : HF} {A : HA} {al : AL} (hk : al.1 a = (0, n)) (hi : InR i) (hn : n < 2147483648) : QE 0 0 0 mX7_add [vA a, vI i, vI x] F A al (PV F al (fun A2 => A2 = if 0 ≤ i ∧ i < n then up2 A a i.toNat (A a i.toNat + x) else A)) := by
  refine QE.mk (by decide +kernel) (Nat.le_of_ble_eq_true rfl) ?_
  refine q_iload_n eX7_add_0 rfl ?_
  refine q_if_lt (tgt := 17) eX7_add_1 (by decide) (by first | assumption | exact ⟨by omega, by omega⟩) (fun c1 => ?_) (fun c1 => ?_)
  · refine q_retV eX7_add_17 rfl (by decide) (by decide) ?_
    refine ⟨rfl, rfl, rfl, ?_⟩
    first | rw [if_neg (by omega)] | rw [if_pos ⟨by omega, by omega⟩]
  · refine q_iload_n eX7_add_4 rfl ?_
    refine q_aload_n eX7_add_5 rfl ?_
    refine q_alen eX7_add_6 hk ?_
    refine q_icmp_ge (tgt := 17) eX7_add_7 (by decide) (by first | assumption | exact ⟨by omega, by omega⟩) (by first | assumption | exact ⟨by omega, by omega⟩) (fun c7 => ?_) (fun c7 => ?_)
    · refine q_retV eX7_add_17 rfl (by decide) (by decide) ?_
      refine ⟨rfl, rfl, rfl, ?_⟩
      first | rw [if_neg (by omega)] | rw [if_pos ⟨by omega, by omega⟩]
    · refine q_aload_n eX7_add_10 rfl ?_
      refine q_iload_n eX7_add_11 rfl ?_
      refine q_dup2 eX7_add_12 rfl rfl ?_
      refine q_iald eX7_add_13 hk (by omega) (by omega) ?_
      refine q_iload_n eX7_add_14 rfl ?_
      refine q_iadd eX7_add_15 ?_
      refine q_iast eX7_add_16 hk (by omega) (by omega) ?_
      refine q_retV eX7_add_17 rfl (by decide) (by decide) ?_
      refine ⟨rfl, rfl, rfl, ?_⟩
      first | rw [if_neg (by omega)] | rw [if_pos ⟨by omega, by omega⟩]
theorem ev_quot {a b : Int} {F : HF} {A : HA} {al : AL} (ha : 0 ≤ a) (ha2 : a < 2147483648) (hb : InR b) : QE 0 0 0 mX7_quotient [vI a, vI b] F A al (PI (if 0 < b then a / b else 0) F A al) := by
  refine QE.mk (by decide +kernel) (Nat.le_of_ble_eq_true rfl) ?_
  have hb1 := hb.1
  have hb2 := hb.2
  refine q_iload_n eX7_quotient_0 rfl ?_
  refine q_if_le (tgt := 10) eX7_quotient_1 (by decide) (by first | assumption | exact ⟨by omega, by omega⟩) (fun c1 => ?_) (fun c1 => ?_)
  · refine q_iconst eX7_quotient_10 ?_
    refine q_retI eX7_quotient_11 rfl (by decide) (by decide) ?_
    refine PI_ok ?_
    first | rw [if_neg (by omega)] | rw [if_pos (by omega)]
  · refine q_iload_n eX7_quotient_4 rfl ?_
    refine q_iload_n eX7_quotient_5 rfl ?_
    refine q_idiv eX7_quotient_6 (by omega) (by omega) (by omega) (by omega) ?_
    refine q_goto (tgt := 11) eX7_quotient_7 (by decide) ?_
    refine q_retI eX7_quotient_11 rfl (by decide) (by decide) ?_
    refine PI_ok ?_
    first | rw [if_neg (by omega)] | rw [if_pos (by omega)]
theorem ev_rem {a b : Int} {F : HF} {A : HA} {al : AL} (ha : 0 ≤ a) (ha2 : a < 2147483648) (hb : InR b) : QE 0 0 0 mX7_remainder [vI a, vI b] F A al (PI (if 0 < b then a % b else 0) F A al) := by
  refine QE.mk (by decide +kernel) (Nat.le_of_ble_eq_true rfl) ?_
  have hb1 := hb.1
  have hb2 := hb.2
  refine q_iload_n eX7_remainder_0 rfl ?_
  refine q_if_le (tgt := 10) eX7_remainder_1 (by decide) (by first | assumption | exact ⟨by omega, by omega⟩) (fun c1 => ?_) (fun c1 => ?_)
  · refine q_iconst eX7_remainder_10 ?_
    refine q_retI eX7_remainder_11 rfl (by decide) (by decide) ?_
    refine PI_ok ?_
    first | rw [if_neg (by omega)] | rw [if_pos (by omega)]
  · refine q_iload_n eX7_remainder_4 rfl ?_
    refine q_iload_n eX7_remainder_5 rfl ?_
    refine q_irem eX7_remainder_6 (by omega) (by omega) (by omega) (by omega) ?_
    refine q_goto (tgt := 11) eX7_remainder_7 (by decide) ?_
    refine q_retI eX7_remainder_11 rfl (by decide) (by decide) ?_
    refine PI_ok ?_
    first | rw [if_neg (by omega)] | rw [if_pos (by omega)]
theorem lp_raise {b n : Int} {F : HF} {A : HA} {al : AL} (hn : InR n) : ∀ (k : Nat) (i made : Int), 0 ≤ i → (k : Int) = (n - i).toNat → i ≤ 2147483647 →
    QW mX7_raise 0 0 0 (PI (made * b ^ k) F A al) 0 0 4 [some (vI b), some (vI n), some (vI made), some (vI i)] [] F A al := by
  have hn1 := hn.1
  have hn2 := hn.2
  intro k
  induction k with
  | zero =>
    intro i made h0 hk hi
    refine q_iload_n eX7_raise_4 rfl ?_
    refine q_iload_n eX7_raise_5 rfl ?_
    refine q_icmp_ge (tgt := 19) eX7_raise_6 (by decide) (by first | assumption | exact ⟨by omega, by omega⟩) (by first | assumption | exact ⟨by omega, by omega⟩) (fun c6 => ?_) (fun c6 => ?_)
    · refine q_iload_n eX7_raise_19 rfl ?_
      refine q_retI eX7_raise_20 rfl (by decide) (by decide) ?_
      refine PI_ok ?_
      simp
    · exact absurd c6 (by omega)
  | succ k ih =>
    intro i made h0 hk hi
    have e : made * b ^ (k + 1) = made * b * b ^ k := by rw [Int.pow_succ, Int.mul_comm (b ^ k) b, Int.mul_assoc]
    rw [e]
    refine q_iload_n eX7_raise_4 rfl ?_
    refine q_iload_n eX7_raise_5 rfl ?_
    refine q_icmp_ge (tgt := 19) eX7_raise_6 (by decide) (by first | assumption | exact ⟨by omega, by omega⟩) (by first | assumption | exact ⟨by omega, by omega⟩) (fun c6 => ?_) (fun c6 => ?_)
    · exact absurd c6 (by omega)
    · refine q_iload_n eX7_raise_9 rfl ?_
      refine q_iload_n eX7_raise_10 rfl ?_
      refine q_imul eX7_raise_11 ?_
      refine q_istore_n eX7_raise_12 (by decide) rfl ?_
      refine q_iinc eX7_raise_13 rfl (by decide) rfl ?_
      refine q_goto (tgt := 4) eX7_raise_16 (by decide) ?_
      exact ih (i + 1) (made * b) (by omega) (by omega) (by omega)
theorem ev_raise {b n : Int} {F : HF} {A : HA} {al : AL} (hn : InR n) : QE 0 0 0 mX7_raise [vI b, vI n] F A al (PI (b ^ n.toNat) F A al) := by
  refine QE.mk (by decide +kernel) (Nat.le_of_ble_eq_true rfl) ?_
  refine q_iconst eX7_raise_0 ?_
  refine q_istore_n eX7_raise_1 (by decide) rfl ?_
  refine q_iconst eX7_raise_2 ?_
  refine q_istore_n eX7_raise_3 (by decide) rfl ?_
  have h := lp_raise (b := b) (F := F) (A := A) (al := al) hn n.toNat 0 1 (by omega) (by omega) (by omega)
  rw [Int.one_mul] at h
  exact h
theorem gcd_step {a b d : Nat} (hd : 1 < d) (hb : 1 ≤ b) (h : ∀ x, d < x → ¬ (x ∣ a ∧ x ∣ b)) (h1 : d ∣ a) (h2 : d ∣ b) : Nat.gcd a b = d := by
  have hg := Nat.dvd_gcd h1 h2
  have hp : 0 < Nat.gcd a b := Nat.gcd_pos_of_pos_right _ hb
  have hle := Nat.le_of_dvd hp hg
  rcases Nat.lt_or_ge d (Nat.gcd a b) with q | q
  · exact absurd ⟨Nat.gcd_dvd_left a b, Nat.gcd_dvd_right a b⟩ (h _ q)
  · omega
theorem lp_common {a b : Nat} {F : HF} {A : HA} {al : AL} (ha : a < 2147483648) (hb : 1 ≤ b) (hb2 : b < 2147483648) : ∀ (d : Nat), d ≤ b → (∀ x, d < x → ¬ (x ∣ a ∧ x ∣ b)) →
    QW mX7_common 0 0 0 (PI (Nat.gcd a b : Nat) F A al) 0 0 2 [some (vI a), some (vI b), some (vI d)] [] F A al := by
  intro d
  induction d with
  | zero =>
    intro hd hx
    exact absurd ⟨Nat.one_dvd a, Nat.one_dvd b⟩ (hx 1 (by omega))
  | succ d ih =>
    intro hd hx
    refine q_iload_n eX7_common_2 rfl ?_
    refine q_iconst eX7_common_3 ?_
    refine q_icmp_le (tgt := 27) eX7_common_4 (by decide) (by first | assumption | exact ⟨by omega, by omega⟩) (by first | assumption | exact ⟨by omega, by omega⟩) (fun c4 => ?_) (fun c4 => ?_)
    · refine q_iconst eX7_common_27 ?_
      refine q_retI eX7_common_28 rfl (by decide) (by decide) ?_
      refine PI_ok ?_
      have hp : 0 < Nat.gcd a b := Nat.gcd_pos_of_pos_right _ hb
      rcases Nat.lt_or_ge (d + 1) (Nat.gcd a b) with q | q
      · exact absurd ⟨Nat.gcd_dvd_left a b, Nat.gcd_dvd_right a b⟩ (hx _ q)
      · omega
    · refine q_iload_n eX7_common_7 rfl ?_
      refine q_iload_n eX7_common_8 rfl ?_
      refine q_irem eX7_common_9 (by omega) (by omega) (by omega) (by omega) ?_
      refine q_if_ne (tgt := 21) eX7_common_10 (by decide) ⟨by have := Int.emod_nonneg (a : Int) (b := ((d + 1 : Nat) : Int)) (by omega); omega, by have := Int.emod_lt_of_pos (a : Int) (b := ((d + 1 : Nat) : Int)) (by omega); omega⟩ (fun c10 => ?_) (fun c10 => ?_)
      · refine q_iinc eX7_common_21 rfl (by decide) rfl ?_
        refine q_goto (tgt := 2) eX7_common_24 (by decide) ?_
        have e : (((d + 1 : Nat) : Int) + -1) = (d : Int) := by omega
        rw [e]
        refine ih (by omega) (fun x hx1 hx2 => ?_)
        rcases Nat.lt_or_ge (d + 1) x with q | q
        · exact hx x q hx2
        · have e2 : x = d + 1 := by omega
          subst e2
          obtain ⟨⟨u, hu⟩, v, hv⟩ := hx2
          first
          | exact c10 (by rw [hu]; exact Int.emod_eq_zero_of_dvd ⟨u, by push_cast; rfl⟩)
          | exact c16 (by rw [hv]; exact Int.emod_eq_zero_of_dvd ⟨v, by push_cast; rfl⟩)
      · refine q_iload_n eX7_common_13 rfl ?_
        refine q_iload_n eX7_common_14 rfl ?_
        refine q_irem eX7_common_15 (by omega) (by omega) (by omega) (by omega) ?_
        refine q_if_ne (tgt := 21) eX7_common_16 (by decide) ⟨by have := Int.emod_nonneg (b : Int) (b := ((d + 1 : Nat) : Int)) (by omega); omega, by have := Int.emod_lt_of_pos (b : Int) (b := ((d + 1 : Nat) : Int)) (by omega); omega⟩ (fun c16 => ?_) (fun c16 => ?_)
        · refine q_iinc eX7_common_21 rfl (by decide) rfl ?_
          refine q_goto (tgt := 2) eX7_common_24 (by decide) ?_
          have e : (((d + 1 : Nat) : Int) + -1) = (d : Int) := by omega
          rw [e]
          refine ih (by omega) (fun x hx1 hx2 => ?_)
          rcases Nat.lt_or_ge (d + 1) x with q | q
          · exact hx x q hx2
          · have e2 : x = d + 1 := by omega
            subst e2
            obtain ⟨⟨u, hu⟩, v, hv⟩ := hx2
            first
            | exact c10 (by rw [hu]; exact Int.emod_eq_zero_of_dvd ⟨u, by push_cast; rfl⟩)
            | exact c16 (by rw [hv]; exact Int.emod_eq_zero_of_dvd ⟨v, by push_cast; rfl⟩)
        · refine q_iload_n eX7_common_19 rfl ?_
          refine q_retI eX7_common_20 rfl (by decide) (by decide) ?_
          refine PI_ok ?_
          rw [gcd_step (by omega) hb hx (Int.natCast_dvd_natCast.mp (Int.dvd_of_emod_eq_zero c10)) (Int.natCast_dvd_natCast.mp (Int.dvd_of_emod_eq_zero c16))]
theorem ev_common {a b : Nat} {F : HF} {A : HA} {al : AL} (ha : a < 2147483648) (hb : 1 ≤ b) (hb2 : b < 2147483648) : QE 0 0 0 mX7_common [vI a, vI b] F A al (PI (Nat.gcd a b : Nat) F A al) := by
  refine QE.mk (by decide +kernel) (Nat.le_of_ble_eq_true rfl) ?_
  refine q_iload_n eX7_common_0 rfl ?_
  refine q_istore_n eX7_common_1 (by decide) rfl ?_
  exact lp_common ha hb hb2 b (Nat.le_refl _) (fun x hx hxd => by have := Nat.le_of_dvd (by omega) hxd.2; omega)
def mixI (b f : Int) : Nat → Int → Int → Int
  | 0, _, _ => 0
  | n + 1, x, y => (x % b + f * (y % b)) % b + b * mixI b f n (x / b) (y / b)
theorem mixI_zero (b f : Int) : ∀ n, mixI b f n 0 0 = 0
  | 0 => rfl
  | n + 1 => by
    unfold mixI
    rw [Int.zero_emod, Int.mul_zero, Int.add_zero, Int.zero_emod, Int.zero_ediv, mixI_zero b f n]
    simp
theorem lp_mix {b f X Y : Int} {F : HF} {A : HA} {al : AL} (hb : 2 ≤ b) (hb2 : b < 2147483648) (hf : 0 ≤ f) (hfb : (f + 1) * b < 2147483648) : ∀ (n : Nat) (x y made worth : Int), 0 ≤ x → 0 ≤ y → x < 2 ^ n → y < 2 ^ n → x < 2147483648 → y < 2147483648 →
    QW mX7_mix 0 0 0 (PI (made + worth * mixI b f n x y) F A al) 0 0 19 [some (vI X), some (vI Y), some (vI f), some (vI b), some (vI made), some (vI worth), some (vI x), some (vI y)] [] F A al := by
  intro n
  induction n with
  | zero =>
    intro x y made worth hx hy hx2 hy2 hx3 hy3
    have hx0 : x = 0 := by simp at hx2; omega
    have hy0 : y = 0 := by simp at hy2; omega
    subst hx0; subst hy0
    refine q_iload eX7_mix_19 rfl ?_
    refine q_if_gt (tgt := 29) eX7_mix_21 (by decide) (by first | assumption | exact ⟨by omega, by omega⟩) (fun c21 => ?_) (fun c21 => ?_)
    · exact absurd c21 (by omega)
    · refine q_iload eX7_mix_24 rfl ?_
      refine q_if_le (tgt := 71) eX7_mix_26 (by decide) (by first | assumption | exact ⟨by omega, by omega⟩) (fun c26 => ?_) (fun c26 => ?_)
      · refine q_iload eX7_mix_71 rfl ?_
        refine q_retI eX7_mix_73 rfl (by decide) (by decide) ?_
        refine PI_ok ?_
        simp [mixI]
      · exact absurd c26 (by omega)
  | succ n ih =>
    intro x y made worth hx hy hx2 hy2 hx3 hy3
    have h1 := Int.emod_nonneg x (b := b) (by omega)
    have h2 := Int.emod_lt_of_pos x (b := b) (by omega)
    have h3 := Int.emod_nonneg y (b := b) (by omega)
    have h4 := Int.emod_lt_of_pos y (b := b) (by omega)
    have h5 : 0 ≤ f * (y % b) := Int.mul_nonneg hf h3
    have h6 : f * (y % b) ≤ f * b := Int.mul_le_mul_of_nonneg_left (by omega) hf
    have h7 : (f + 1) * b = f * b + b := by rw [Int.add_mul, Int.one_mul]
    have h8 : x / b < 2 ^ n := Int.ediv_lt_of_lt_mul (by omega) (by
      have e1 : (2:Int) ^ (n + 1) = 2 ^ n * 2 := Int.pow_succ 2 n
      have e2 : (2:Int) ^ n * 2 ≤ 2 ^ n * b := Int.mul_le_mul_of_nonneg_left hb (Int.le_of_lt (Int.pow_pos (by decide)))
      omega)
    have h9 : y / b < 2 ^ n := Int.ediv_lt_of_lt_mul (by omega) (by
      have e1 : (2:Int) ^ (n + 1) = 2 ^ n * 2 := Int.pow_succ 2 n
      have e2 : (2:Int) ^ n * 2 ≤ 2 ^ n * b := Int.mul_le_mul_of_nonneg_left hb (Int.le_of_lt (Int.pow_pos (by decide)))
      omega)
    have ha : 0 ≤ x / b := Int.ediv_nonneg hx (by omega)
    have hc : 0 ≤ y / b := Int.ediv_nonneg hy (by omega)
    have hd : x / b ≤ x := Int.ediv_le_self b hx
    have he : y / b ≤ y := Int.ediv_le_self b hy
    have key := ih (x / b) (y / b) (made + worth * ((x % b + f * (y % b)) % b)) (worth * b) ha hc h8 h9 (by omega) (by omega)
    have e : made + worth * mixI b f (n + 1) x y = made + worth * ((x % b + f * (y % b)) % b) + worth * b * mixI b f n (x / b) (y / b) := by
      show made + worth * ((x % b + f * (y % b)) % b + b * mixI b f n (x / b) (y / b)) = _
      rw [Int.mul_add, Int.mul_assoc, Int.add_assoc]
    rw [e]
    refine q_iload eX7_mix_19 rfl ?_
    refine q_if_gt (tgt := 29) eX7_mix_21 (by decide) (by first | assumption | exact ⟨by omega, by omega⟩) (fun c21 => ?_) (fun c21 => ?_)
    · refine q_iload eX7_mix_29 rfl ?_
      refine q_iload eX7_mix_31 rfl ?_
      refine q_iload eX7_mix_33 rfl ?_
      refine q_iload_n eX7_mix_35 rfl ?_
      refine q_irem eX7_mix_36 (by omega) (by omega) (by omega) (by omega) ?_
      refine q_iload_n eX7_mix_37 rfl ?_
      refine q_iload eX7_mix_38 rfl ?_
      refine q_iload_n eX7_mix_40 rfl ?_
      refine q_irem eX7_mix_41 (by omega) (by omega) (by omega) (by omega) ?_
      refine q_imul eX7_mix_42 ?_
      refine q_iadd eX7_mix_43 ?_
      refine q_iload_n eX7_mix_44 rfl ?_
      refine q_irem eX7_mix_45 (by omega) (by omega) (by omega) (by omega) ?_
      refine q_imul eX7_mix_46 ?_
      refine q_iadd eX7_mix_47 ?_
      refine q_istore eX7_mix_48 (by decide) rfl ?_
      refine q_iload eX7_mix_50 rfl ?_
      refine q_iload_n eX7_mix_52 rfl ?_
      refine q_imul eX7_mix_53 ?_
      refine q_istore eX7_mix_54 (by decide) rfl ?_
      refine q_iload eX7_mix_56 rfl ?_
      refine q_iload_n eX7_mix_58 rfl ?_
      refine q_idiv eX7_mix_59 (by omega) (by omega) (by omega) (by omega) ?_
      refine q_istore eX7_mix_60 (by decide) rfl ?_
      refine q_iload eX7_mix_62 rfl ?_
      refine q_iload_n eX7_mix_64 rfl ?_
      refine q_idiv eX7_mix_65 (by omega) (by omega) (by omega) (by omega) ?_
      refine q_istore eX7_mix_66 (by decide) rfl ?_
      refine q_goto (tgt := 19) eX7_mix_68 (by decide) ?_
      exact key
    · refine q_iload eX7_mix_24 rfl ?_
      refine q_if_le (tgt := 71) eX7_mix_26 (by decide) (by first | assumption | exact ⟨by omega, by omega⟩) (fun c26 => ?_) (fun c26 => ?_)
      · refine q_iload eX7_mix_71 rfl ?_
        refine q_retI eX7_mix_73 rfl (by decide) (by decide) ?_
        refine PI_ok ?_
        have e1 : x = 0 := by omega
        have e2 : y = 0 := by omega
        subst e1; subst e2
        rw [← e, mixI_zero]
        simp
      · refine q_iload eX7_mix_29 rfl ?_
        refine q_iload eX7_mix_31 rfl ?_
        refine q_iload eX7_mix_33 rfl ?_
        refine q_iload_n eX7_mix_35 rfl ?_
        refine q_irem eX7_mix_36 (by omega) (by omega) (by omega) (by omega) ?_
        refine q_iload_n eX7_mix_37 rfl ?_
        refine q_iload eX7_mix_38 rfl ?_
        refine q_iload_n eX7_mix_40 rfl ?_
        refine q_irem eX7_mix_41 (by omega) (by omega) (by omega) (by omega) ?_
        refine q_imul eX7_mix_42 ?_
        refine q_iadd eX7_mix_43 ?_
        refine q_iload_n eX7_mix_44 rfl ?_
        refine q_irem eX7_mix_45 (by omega) (by omega) (by omega) (by omega) ?_
        refine q_imul eX7_mix_46 ?_
        refine q_iadd eX7_mix_47 ?_
        refine q_istore eX7_mix_48 (by decide) rfl ?_
        refine q_iload eX7_mix_50 rfl ?_
        refine q_iload_n eX7_mix_52 rfl ?_
        refine q_imul eX7_mix_53 ?_
        refine q_istore eX7_mix_54 (by decide) rfl ?_
        refine q_iload eX7_mix_56 rfl ?_
        refine q_iload_n eX7_mix_58 rfl ?_
        refine q_idiv eX7_mix_59 (by omega) (by omega) (by omega) (by omega) ?_
        refine q_istore eX7_mix_60 (by decide) rfl ?_
        refine q_iload eX7_mix_62 rfl ?_
        refine q_iload_n eX7_mix_64 rfl ?_
        refine q_idiv eX7_mix_65 (by omega) (by omega) (by omega) (by omega) ?_
        refine q_istore eX7_mix_66 (by decide) rfl ?_
        refine q_goto (tgt := 19) eX7_mix_68 (by decide) ?_
        exact key
theorem ev_mix {x y f b : Int} {F : HF} {A : HA} {al : AL} (hx : 0 ≤ x) (hx2 : x < 2147483648) (hy : 0 ≤ y) (hy2 : y < 2147483648) (hb1 : -2147483648 ≤ b) (hb2 : b < 2147483648) (hf : 0 ≤ f) (hfb : (f + 1) * b < 2147483648) : QE 0 0 0 mX7_mix [vI x, vI y, vI f, vI b] F A al (PI (if b < 2 then 0 else mixI b f 31 x y) F A al) := by
  refine QE.mk (by decide +kernel) (Nat.le_of_ble_eq_true rfl) ?_
  refine q_iload_n eX7_mix_0 rfl ?_
  refine q_iconst eX7_mix_1 ?_
  refine q_icmp_ge (tgt := 7) eX7_mix_2 (by decide) (by first | assumption | exact ⟨by omega, by omega⟩) (by first | assumption | exact ⟨by omega, by omega⟩) (fun c2 => ?_) (fun c2 => ?_)
  · refine q_iconst eX7_mix_7 ?_
    refine q_istore eX7_mix_8 (by decide) rfl ?_
    refine q_iconst eX7_mix_10 ?_
    refine q_istore eX7_mix_11 (by decide) rfl ?_
    refine q_iload_n eX7_mix_13 rfl ?_
    refine q_istore eX7_mix_14 (by decide) rfl ?_
    refine q_iload_n eX7_mix_16 rfl ?_
    refine q_istore eX7_mix_17 (by decide) rfl ?_
    have h := lp_mix (X := x) (Y := y) (F := F) (A := A) (al := al) (by omega : 2 ≤ b) hb2 hf hfb 31 x y 0 1 hx hy (by omega) (by omega) hx2 hy2
    rw [Int.zero_add, Int.one_mul] at h
    rw [if_neg (by omega)]
    exact h
  · refine q_iconst eX7_mix_5 ?_
    refine q_retI eX7_mix_6 rfl (by decide) (by decide) ?_
    refine PI_ok ?_
    rw [if_pos (by omega)]
