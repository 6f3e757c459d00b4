/-! Tape, Partition -/
def upc (c : Nat → Int) (x : Nat) (v : Int) : Nat → Int := fun j => if j = x then v else c j
/-- k steps of an orbit from x, told v -/
def jnE (p n : Nat) (v : Int) : Nat → Nat → (Nat → Int) → (Nat → Int)
  | 0, _, c => c
  | k + 1, x, c => jnE p n v k (x * p % n) (upc c x v)
set_option maxRecDepth 20000 in
theorem lp_join {least p n ps : Nat} {F : HF} {A0 : HA} {al : AL} (hK : KX al) (hX : XF F) (hn : F 24 0 = vI n) (hps : F 24 1 = vI ps) (hp7 : p ≤ 7) (hn1 : 1 ≤ n) (hn63 : n ≤ 63) {C : Nat → Int} : ∀ (k i x : Nat) (A : HA) (c : Nat → Int), i + k = n → x < n → Off [25] A0 A → (∀ j, j < 63 → A 25 j = c j) → jnE p n ps k x c = C →
    QW mX4_join 1 0 0 (PV F al (fun A2 => Off [25] A0 A2 ∧ ∀ j, j < 63 → A2 25 j = C j)) 0 0 5 [some (vA 24), some (vI least), some (vI p), some (vI x), some (vI i)] [] F A al := by
  intro k
  induction k with
  | zero =>
    intro i x A c hi hx ho h1 hC
    refine q_iload eX4_join_5 rfl ?_
    refine q_aload_n eX4_join_7 rfl ?_
    refine q_getfield eX4_join_8 gf_X4_9 (hK _ (by decide) (by decide)) (by decide) (by assumption) ?_
    refine q_icmp_ge (tgt := 43) eX4_join_11 (by decide) (by first | assumption | exact ⟨by omega, by omega⟩) (by first | assumption | exact ⟨by omega, by omega⟩) (fun c11 => ?_) (fun c11 => ?_)
    · refine q_retV eX4_join_43 rfl (by decide) (by decide) ?_
      exact ⟨rfl, rfl, rfl, ho, fun j hj => by rw [h1 j hj, ← hC]; rfl⟩
    · exact absurd c11 (by omega)
  | succ k ih =>
    intro i x A c hi hx ho h1 hC
    have hxp : (x : Int) * p = ((x * p : Nat) : Int) := by simp
    have hxb : x * p ≤ 63 * 7 := Nat.mul_le_mul (by omega) hp7
    have hmo : ((x * p : Nat) : Int) % n = ((x * p % n : Nat) : Int) := by simp
    have hlt : x * p % n < n := Nat.mod_lt _ (by omega)
    refine q_iload eX4_join_5 rfl ?_
    refine q_aload_n eX4_join_7 rfl ?_
    refine q_getfield eX4_join_8 gf_X4_9 (hK _ (by decide) (by decide)) (by decide) (by assumption) ?_
    refine q_icmp_ge (tgt := 43) eX4_join_11 (by decide) (by first | assumption | exact ⟨by omega, by omega⟩) (by first | assumption | exact ⟨by omega, by omega⟩) (fun c11 => ?_) (fun c11 => ?_)
    · exact absurd c11 (by omega)
    · refine q_aload_n eX4_join_14 rfl ?_
      refine q_getfield eX4_join_15 gf_X4_18 (hK _ (by decide) (by decide)) (by decide) (xf_24_2 hX) ?_
      refine q_iload_n eX4_join_18 rfl ?_
      refine q_aload_n eX4_join_19 rfl ?_
      refine q_getfield eX4_join_20 gf_X4_15 (hK _ (by decide) (by decide)) (by decide) (by assumption) ?_
      refine q_callSV [vA 25, vI x, vI ps] (M1 := mX7_set) eX4_join_23 mf_X7_set lk_X4_36 (ev_setN (hK _ (by decide) (by decide)) (show x < 63 by omega) (by decide)) (by decide) (by decide) (by decide) (Nat.le_of_ble_eq_true rfl) rfl (fun A3 h3b => ?_)
      subst h3b
      refine q_iload_n eX4_join_26 rfl ?_
      refine q_iload_n eX4_join_27 rfl ?_
      refine q_imul eX4_join_28 ?_
      refine q_aload_n eX4_join_29 rfl ?_
      refine q_getfield eX4_join_30 gf_X4_9 (hK _ (by decide) (by decide)) (by decide) (by assumption) ?_
      rw [hxp]
      refine q_callSP [vI (x * p : Nat), vI n] (M1 := mX7_remainder) eX4_join_33 mf_X7_remainder lk_X4_42 (ev_remP (by omega) (by omega) (by omega) (by omega)) (by decide) (by decide) (by decide) (Nat.le_of_ble_eq_true rfl) rfl ?_
      rw [hmo]
      refine q_istore_n eX4_join_36 (by decide) rfl ?_
      refine q_iinc eX4_join_37 rfl (by decide) rfl ?_
      refine q_goto (tgt := 5) eX4_join_40 (by decide) ?_
      refine ih (i + 1) (x * p % n) _ (upc c x ps) (by omega) hlt (ho.trans (Off.up (by simp))) (fun j hj => ?_) hC
      rw [up2_at, h1 j hj]
      rfl
set_option maxRecDepth 20000 in
theorem ev_join {x p n ps : Nat} {c : Nat → Int} {F : HF} {A : HA} {al : AL} (hK : KX al) (hX : XF F) (hn : F 24 0 = vI n) (hps : F 24 1 = vI ps) (hp7 : p ≤ 7) (hn1 : 1 ≤ n) (hn63 : n ≤ 63) (hx : x < n) (hc : ∀ j, j < 63 → A 25 j = c j) : QE 1 0 0 mX4_join [vA 24, vI x, vI p] F A al (PV F al (fun A2 => Off [25] A A2 ∧ ∀ j, j < 63 → A2 25 j = jnE p n ps n x c j)) := by
  refine QE.mk (by decide +kernel) (Nat.le_of_ble_eq_true rfl) ?_
  refine q_iload_n eX4_join_0 rfl ?_
  refine q_istore_n eX4_join_1 (by decide) rfl ?_
  refine q_iconst eX4_join_2 ?_
  refine q_istore eX4_join_3 (by decide) rfl ?_
  exact lp_join hK hX hn hps hp7 hn1 hn63 n 0 x A c (by omega) hx Off.rfl' hc rfl
set_option maxRecDepth 20000 in
theorem ev_part {j : Nat} {v : Int} {F : HF} {A : HA} {al : AL} (hK : KX al) (hX : XF F) (hj : j < 63) (hc : A 25 j = v) : QE 1 0 0 mX4_part [vA 24, vI j] F A al (PI v F A al) := by
  refine QE.mk (by decide +kernel) (Nat.le_of_ble_eq_true rfl) ?_
  refine q_aload_n eX4_part_0 rfl ?_
  refine q_getfield eX4_part_1 gf_X4_18 (hK _ (by decide) (by decide)) (by decide) (xf_24_2 hX) ?_
  refine q_iload_n eX4_part_4 rfl ?_
  refine q_callSP [vA 25, vI j] (M1 := mX7_at) eX4_part_5 mf_X7_at lk_X4_46 (ev_atN (hK _ (by decide) (by decide)) (show j < 63 by omega) (by decide)) (by decide) (by decide) (by decide) (Nat.le_of_ble_eq_true rfl) rfl ?_
  refine q_retI eX4_part_8 rfl (by decide) (by decide) ?_
  exact PI_ok (by rw [hc])
/-- the classes by l numbers: part of each, how many -/
def paE (p n : Nat) : Nat → (Nat → Int) × Nat
  | 0 => (fun _ => -1, 0)
  | l + 1 => if (paE p n l).1 l = -1 then (jnE p n (paE p n l).2 n l (paE p n l).1, (paE p n l).2 + 1) else paE p n l
theorem pa_le {p n : Nat} : ∀ l, (paE p n l).2 ≤ l
  | 0 => Nat.le_refl _
  | l + 1 => by
    have := pa_le (p := p) (n := n) l
    unfold paE
    split <;> simp <;> omega
theorem jn_range {p n : Nat} {v : Int} {B : Int} (hv : -1 ≤ v ∧ v ≤ B) : ∀ (k x : Nat) (c : Nat → Int), (∀ j, -1 ≤ c j ∧ c j ≤ B) → ∀ j, -1 ≤ jnE p n v k x c j ∧ jnE p n v k x c j ≤ B
  | 0, _, _, h, j => h j
  | k + 1, x, c, h, j => jn_range hv k _ (upc c x v) (fun i => by unfold upc; split; exact hv; exact h i) j
theorem pa_range {p n : Nat} : ∀ (l : Nat) (j : Nat), -1 ≤ (paE p n l).1 j ∧ (paE p n l).1 j ≤ (l : Int) - 1
  | 0, j => ⟨Int.le_refl _, by show (-1 : Int) ≤ _; omega⟩
  | l + 1, j => by
    have h1 := fun j => pa_range (p := p) (n := n) l j
    have h2 := pa_le (p := p) (n := n) l
    unfold paE
    split
    · exact jn_range ⟨by omega, by omega⟩ n l _ (fun j => ⟨(h1 j).1, by have := (h1 j).2; omega⟩) j
    · exact ⟨(h1 j).1, by have := (h1 j).2; omega⟩
def PTF (F : HF) (al : AL) (n ps : Nat) (Q : HA → Prop) : PO := fun o F' A' al' => o = .inl none ∧ F' = up2 (up2 F 24 0 (vI n)) 24 1 (vI ps) ∧ al' = al ∧ Q A'
set_option maxRecDepth 20000 in
theorem lp_partition {p n : Nat} {F : HF} {A0 : HA} {al : AL} (hK : KX al) (hX0 : XF F) (hp7 : p ≤ 7) (hn1 : 1 ≤ n) (hn63 : n ≤ 63) : ∀ (k l : Nat) (A : HA), l + k = n → Off [25] A0 A → (∀ j, j < 63 → A 25 j = (paE p n l).1 j) →
    QW mX4_become 2 0 0 (PTF F al n (paE p n n).2 (fun A2 => Off [25] A0 A2 ∧ ∀ j, j < 63 → A2 25 j = (paE p n n).1 j)) 0 0 20 [some (vA 24), some (vI n), some (vI p), some (vI l)] [] (up2 (up2 F 24 0 (vI n)) 24 1 (vI (paE p n l).2)) A al := by
  intro k
  induction k with
  | zero =>
    intro l A hl ho h1
    have el : l = n := by omega
    subst el
    refine q_iload_n eX4_become_20 rfl ?_
    refine q_aload_n eX4_become_21 rfl ?_
    refine q_getfield eX4_become_22 gf_X4_9 (hK _ (by decide) (by decide)) (by decide) (by first | assumption | exact up2_eq _ _ _ _ | exact Eq.trans (up2_ne (by decide)) (up2_eq _ _ _ _) | exact Eq.trans (up2_ne (by decide)) (Eq.trans (up2_ne (by decide)) (up2_eq _ _ _ _)) | exact Eq.trans (up2_ne (by decide)) (Eq.trans (up2_ne (by decide)) (Eq.trans (up2_ne (by decide)) (up2_eq _ _ _ _))) | exact Eq.trans (up2_ne (by decide)) (Eq.trans (up2_ne (by decide)) (Eq.trans (up2_ne (by decide)) (Eq.trans (up2_ne (by decide)) (up2_eq _ _ _ _)))) | exact Eq.trans (up2_ne (by decide)) (Eq.trans (up2_ne (by decide)) (Eq.trans (up2_ne (by decide)) (Eq.trans (up2_ne (by decide)) (Eq.trans (up2_ne (by decide)) (up2_eq _ _ _ _))))) | exact Eq.trans (up2_ne (by decide)) (Eq.trans (up2_ne (by decide)) (Eq.trans (up2_ne (by decide)) (Eq.trans (up2_ne (by decide)) (Eq.trans (up2_ne (by decide)) (Eq.trans (up2_ne (by decide)) (up2_eq _ _ _ _))))))) ?_
    refine q_icmp_ge (tgt := 59) eX4_become_25 (by decide) (by first | assumption | exact ⟨by omega, by omega⟩) (by first | assumption | exact ⟨by omega, by omega⟩) (fun c25 => ?_) (fun c25 => ?_)
    · refine q_retV eX4_become_59 rfl (by decide) (by decide) ?_
      exact ⟨rfl, rfl, rfl, ho, h1⟩
    · exact absurd c25 (by omega)
  | succ k ih =>
    intro l A hl ho h1
    have hX := (hX0.up (v := vI n) (show plainF xrefs 24 0 = true by decide)).up (v := vI (paE p n l).2) (show plainF xrefs 24 1 = true by decide)
    have f0 : up2 (up2 F 24 0 (vI n)) 24 1 (vI (paE p n l).2) 24 0 = vI n := (by first | assumption | exact up2_eq _ _ _ _ | exact Eq.trans (up2_ne (by decide)) (up2_eq _ _ _ _) | exact Eq.trans (up2_ne (by decide)) (Eq.trans (up2_ne (by decide)) (up2_eq _ _ _ _)) | exact Eq.trans (up2_ne (by decide)) (Eq.trans (up2_ne (by decide)) (Eq.trans (up2_ne (by decide)) (up2_eq _ _ _ _))) | exact Eq.trans (up2_ne (by decide)) (Eq.trans (up2_ne (by decide)) (Eq.trans (up2_ne (by decide)) (Eq.trans (up2_ne (by decide)) (up2_eq _ _ _ _)))) | exact Eq.trans (up2_ne (by decide)) (Eq.trans (up2_ne (by decide)) (Eq.trans (up2_ne (by decide)) (Eq.trans (up2_ne (by decide)) (Eq.trans (up2_ne (by decide)) (up2_eq _ _ _ _))))) | exact Eq.trans (up2_ne (by decide)) (Eq.trans (up2_ne (by decide)) (Eq.trans (up2_ne (by decide)) (Eq.trans (up2_ne (by decide)) (Eq.trans (up2_ne (by decide)) (Eq.trans (up2_ne (by decide)) (up2_eq _ _ _ _)))))))
    have f1 : up2 (up2 F 24 0 (vI n)) 24 1 (vI (paE p n l).2) 24 1 = vI (paE p n l).2 := (by first | assumption | exact up2_eq _ _ _ _ | exact Eq.trans (up2_ne (by decide)) (up2_eq _ _ _ _) | exact Eq.trans (up2_ne (by decide)) (Eq.trans (up2_ne (by decide)) (up2_eq _ _ _ _)) | exact Eq.trans (up2_ne (by decide)) (Eq.trans (up2_ne (by decide)) (Eq.trans (up2_ne (by decide)) (up2_eq _ _ _ _))) | exact Eq.trans (up2_ne (by decide)) (Eq.trans (up2_ne (by decide)) (Eq.trans (up2_ne (by decide)) (Eq.trans (up2_ne (by decide)) (up2_eq _ _ _ _)))) | exact Eq.trans (up2_ne (by decide)) (Eq.trans (up2_ne (by decide)) (Eq.trans (up2_ne (by decide)) (Eq.trans (up2_ne (by decide)) (Eq.trans (up2_ne (by decide)) (up2_eq _ _ _ _))))) | exact Eq.trans (up2_ne (by decide)) (Eq.trans (up2_ne (by decide)) (Eq.trans (up2_ne (by decide)) (Eq.trans (up2_ne (by decide)) (Eq.trans (up2_ne (by decide)) (Eq.trans (up2_ne (by decide)) (up2_eq _ _ _ _)))))))
    have hra := pa_range (p := p) (n := n) l l
    have hle := pa_le (p := p) (n := n) l
    have hst : paE p n (l + 1) = if (paE p n l).1 l = -1 then (jnE p n (paE p n l).2 n l (paE p n l).1, (paE p n l).2 + 1) else paE p n l := rfl
    refine q_iload_n eX4_become_20 rfl ?_
    refine q_aload_n eX4_become_21 rfl ?_
    refine q_getfield eX4_become_22 gf_X4_9 (hK _ (by decide) (by decide)) (by decide) (by assumption) ?_
    refine q_icmp_ge (tgt := 59) eX4_become_25 (by decide) (by first | assumption | exact ⟨by omega, by omega⟩) (by first | assumption | exact ⟨by omega, by omega⟩) (fun c25 => ?_) (fun c25 => ?_)
    · exact absurd c25 (by omega)
    · refine q_aload_n eX4_become_28 rfl ?_
      refine q_iload_n eX4_become_29 rfl ?_
      refine q_callVP [vI l] (M1 := mX4_part) eX4_become_30 mf_X4_part lk_X4_28 (hK _ (by decide) (by decide)) (ev_part hK hX (show l < 63 by omega) (h1 l (by omega))) (by decide) (by decide) (by decide) (Nat.le_of_ble_eq_true rfl) rfl ?_
      refine q_iconst eX4_become_33 ?_
      refine q_icmp_ne (tgt := 53) eX4_become_34 (by decide) (by first | assumption | exact ⟨by omega, by omega⟩) (by first | assumption | exact ⟨by omega, by omega⟩) (fun c34 => ?_) (fun c34 => ?_)
      · refine q_iinc eX4_become_53 rfl (by decide) rfl ?_
        refine q_goto (tgt := 20) eX4_become_56 (by decide) ?_
        first
        | (have ih1 := ih (l + 1) A (by omega) ho
           rw [hst, if_neg c34] at ih1
           exact ih1 h1)
        | (rw [up2_up2]
           have ih1 := ih (l + 1) A3 (by omega) (ho.trans o3)
           rw [hst, if_pos c34] at ih1
           exact ih1 v3)
      · refine q_aload_n eX4_become_37 rfl ?_
        refine q_iload_n eX4_become_38 rfl ?_
        refine q_iload_n eX4_become_39 rfl ?_
        refine q_callVV [vI l, vI p] (M1 := mX4_join) eX4_become_40 mf_X4_join lk_X4_32 (hK _ (by decide) (by decide)) (ev_join hK hX f0 f1 hp7 hn1 hn63 (by omega) h1) (by decide) (by decide) (by decide) (Nat.le_of_ble_eq_true rfl) rfl (fun A3 h3 => ?_)
        obtain ⟨o3, v3⟩ := h3
        refine q_aload_n eX4_become_43 rfl ?_
        refine q_dup eX4_become_44 rfl ?_
        refine q_getfield eX4_become_45 gf_X4_15 (hK _ (by decide) (by decide)) (by decide) (by assumption) ?_
        refine q_iconst eX4_become_48 ?_
        refine q_iadd eX4_become_49 ?_
        refine q_putfield eX4_become_50 pf_X4_15 (hK _ (by decide) (by decide)) (by decide) (FT_i rfl) ?_
        refine q_iinc eX4_become_53 rfl (by decide) rfl ?_
        refine q_goto (tgt := 20) eX4_become_56 (by decide) ?_
        first
        | (have ih1 := ih (l + 1) A (by omega) ho
           rw [hst, if_neg c34] at ih1
           exact ih1 h1)
        | (rw [up2_up2]
           have ih1 := ih (l + 1) A3 (by omega) (ho.trans o3)
           rw [hst, if_pos c34] at ih1
           exact ih1 v3)
set_option maxRecDepth 20000 in
theorem ev_partition {p n : Nat} {F : HF} {A : HA} {al : AL} (hK : KX al) (hX : XF F) (hp7 : p ≤ 7) (hn1 : 1 ≤ n) (hn63 : n ≤ 63) : QE 2 0 0 mX4_become [vA 24, vI n, vI p] F A al (PTF F al n (paE p n n).2 (fun A2 => Off [25] A A2 ∧ ∀ j, j < 63 → A2 25 j = (paE p n n).1 j)) := by
  refine QE.mk (by decide +kernel) (Nat.le_of_ble_eq_true rfl) ?_
  refine q_aload_n eX4_become_0 rfl ?_
  refine q_iload_n eX4_become_1 rfl ?_
  refine q_putfield eX4_become_2 pf_X4_9 (hK _ (by decide) (by decide)) (by decide) (FT_i rfl) ?_
  refine q_aload_n eX4_become_5 rfl ?_
  refine q_iconst eX4_become_6 ?_
  refine q_putfield eX4_become_7 pf_X4_15 (hK _ (by decide) (by decide)) (by decide) (FT_i rfl) ?_
  refine q_aload_n eX4_become_10 rfl ?_
  refine q_getfield eX4_become_11 gf_X4_18 (hK _ (by decide) (by decide)) (by decide) (xf_24_2 ((hX.up (show plainF xrefs 24 0 = true by decide)).up (show plainF xrefs 24 1 = true by decide))) ?_
  refine q_iconst eX4_become_14 ?_
  refine q_callSV [vA 25, vI (-1)] (M1 := mJ7_fill_53178) eX4_become_15 mf_J7_fill_53178 lk_X4_22 (ev_fill (hK _ (by decide) (by decide)) (by decide)) (by decide) (by decide) (by decide) (Nat.le_of_ble_eq_true rfl) rfl (fun A2 h2 => ?_)
  obtain ⟨o2, v2⟩ := h2
  refine q_iconst eX4_become_18 ?_
  refine q_istore_n eX4_become_19 (by decide) rfl ?_
  exact lp_partition (A0 := A) hK hX hp7 hn1 hn63 n 0 A2 (by omega) o2 (fun j hj => v2 j hj)
set_option maxRecDepth 20000 in
theorem lp_sizeOf {n : Nat} {v : Int} {c : Nat → Int} {F : HF} {A : HA} {al : AL} (hK : KX al) (hX : XF F) (hn : F 24 0 = vI n) (hn63 : n ≤ 63) (hc : ∀ j, j < n → A 25 j = c j ∧ InR (c j)) (hv : InR v) : ∀ (k i : Nat), i + k = n →
    QW mX4_sizeOf 2 0 0 (PI (ctn (fun j => decide (c j = v)) n : Nat) F A al) 0 0 4 [some (vA 24), some (vI v), some (vI (ctn (fun j => decide (c j = v)) i : Nat)), some (vI i)] [] F A al := by
  intro k
  induction k with
  | zero =>
    intro i hi
    have ei : i = n := by omega
    subst ei
    refine q_iload_n eX4_sizeOf_4 rfl ?_
    refine q_aload_n eX4_sizeOf_5 rfl ?_
    refine q_getfield eX4_sizeOf_6 gf_X4_9 (hK _ (by decide) (by decide)) (by decide) (by assumption) ?_
    refine q_icmp_ge (tgt := 35) eX4_sizeOf_9 (by decide) (by first | assumption | exact ⟨by omega, by omega⟩) (by first | assumption | exact ⟨by omega, by omega⟩) (fun c9 => ?_) (fun c9 => ?_)
    · refine q_iload_n eX4_sizeOf_35 rfl ?_
      refine q_retI eX4_sizeOf_36 rfl (by decide) (by decide) ?_
      exact PI_ok rfl
    · exact absurd c9 (by omega)
  | succ k ih =>
    intro i hi
    obtain ⟨hci, hcr⟩ := hc i (by omega)
    have ih1 := ih (i + 1) (by omega)
    refine q_iload_n eX4_sizeOf_4 rfl ?_
    refine q_aload_n eX4_sizeOf_5 rfl ?_
    refine q_getfield eX4_sizeOf_6 gf_X4_9 (hK _ (by decide) (by decide)) (by decide) (by assumption) ?_
    refine q_icmp_ge (tgt := 35) eX4_sizeOf_9 (by decide) (by first | assumption | exact ⟨by omega, by omega⟩) (by first | assumption | exact ⟨by omega, by omega⟩) (fun c9 => ?_) (fun c9 => ?_)
    · exact absurd c9 (by omega)
    · refine q_iload_n eX4_sizeOf_12 rfl ?_
      refine q_aload_n eX4_sizeOf_13 rfl ?_
      refine q_iload_n eX4_sizeOf_14 rfl ?_
      refine q_callVP [vI i] (M1 := mX4_part) eX4_sizeOf_15 mf_X4_part lk_X4_28 (hK _ (by decide) (by decide)) (ev_part hK hX (show i < 63 by omega) hci) (by decide) (by decide) (by decide) (Nat.le_of_ble_eq_true rfl) rfl ?_
      refine q_iload_n eX4_sizeOf_18 rfl ?_
      refine q_icmp_ne (tgt := 26) eX4_sizeOf_19 (by decide) (by first | assumption | exact ⟨by omega, by omega⟩) (by first | assumption | exact ⟨by omega, by omega⟩) (fun c19 => ?_) (fun c19 => ?_)
      · refine q_iconst eX4_sizeOf_26 ?_
        refine q_iadd eX4_sizeOf_27 ?_
        refine q_istore_n eX4_sizeOf_28 (by decide) rfl ?_
        refine q_iinc eX4_sizeOf_29 rfl (by decide) rfl ?_
        refine q_goto (tgt := 4) eX4_sizeOf_32 (by decide) ?_
        first
        | (rw [ctn_no (by rw [decide_eq_true_eq]; exact c19)] at ih1
           rw [Int.add_zero]
           exact ih1)
        | (rw [ctn_yes (by rw [decide_eq_true_eq]; exact c19)] at ih1
           exact ih1)
      · refine q_iconst eX4_sizeOf_22 ?_
        refine q_goto (tgt := 27) eX4_sizeOf_23 (by decide) ?_
        refine q_iadd eX4_sizeOf_27 ?_
        refine q_istore_n eX4_sizeOf_28 (by decide) rfl ?_
        refine q_iinc eX4_sizeOf_29 rfl (by decide) rfl ?_
        refine q_goto (tgt := 4) eX4_sizeOf_32 (by decide) ?_
        first
        | (rw [ctn_no (by rw [decide_eq_true_eq]; exact c19)] at ih1
           rw [Int.add_zero]
           exact ih1)
        | (rw [ctn_yes (by rw [decide_eq_true_eq]; exact c19)] at ih1
           exact ih1)
set_option maxRecDepth 20000 in
theorem ev_sizeOf {n : Nat} {v : Int} {c : Nat → Int} {F : HF} {A : HA} {al : AL} (hK : KX al) (hX : XF F) (hn : F 24 0 = vI n) (hn63 : n ≤ 63) (hc : ∀ j, j < n → A 25 j = c j ∧ InR (c j)) (hv : InR v) : QE 2 0 0 mX4_sizeOf [vA 24, vI v] F A al (PI (ctn (fun j => decide (c j = v)) n : Nat) F A al) := by
  refine QE.mk (by decide +kernel) (Nat.le_of_ble_eq_true rfl) ?_
  refine q_iconst eX4_sizeOf_0 ?_
  refine q_istore_n eX4_sizeOf_1 (by decide) rfl ?_
  refine q_iconst eX4_sizeOf_2 ?_
  refine q_istore_n eX4_sizeOf_3 (by decide) rfl ?_
  exact lp_sizeOf hK hX hn hn63 hc hv n 0 (by omega)
/-- the first number from i on (k to try) with P that has v before it -/
def nthE (P : Nat → Bool) (v : Nat) : Nat → Nat → Int
  | 0, _ => -1
  | k + 1, i => if P i = true ∧ ctn P i = v then i else nthE P v k (i + 1)
set_option maxRecDepth 20000 in
theorem lp_member {n t : Nat} {v : Int} {c : Nat → Int} {F : HF} {A : HA} {al : AL} (hK : KX al) (hX : XF F) (hn : F 24 0 = vI n) (hn63 : n ≤ 63) (hc : ∀ j, j < n → A 25 j = c j ∧ InR (c j)) (hv : InR v) (ht : t < 2147483648) : ∀ (k i : Nat), i + k = n →
    QW mX4_member 2 0 0 (PI (nthE (fun j => decide (c j = v)) t k i) F A al) 0 0 5 [some (vA 24), some (vI v), some (vI t), some (vI (ctn (fun j => decide (c j = v)) i : Nat)), some (vI i)] [] F A al := by
  intro k
  induction k with
  | zero =>
    intro i hi
    refine q_iload eX4_member_5 rfl ?_
    refine q_aload_n eX4_member_7 rfl ?_
    refine q_getfield eX4_member_8 gf_X4_9 (hK _ (by decide) (by decide)) (by decide) (by assumption) ?_
    refine q_icmp_ge (tgt := 41) eX4_member_11 (by decide) (by first | assumption | exact ⟨by omega, by omega⟩) (by first | assumption | exact ⟨by omega, by omega⟩) (fun c11 => ?_) (fun c11 => ?_)
    · refine q_iconst eX4_member_41 ?_
      refine q_retI eX4_member_42 rfl (by decide) (by decide) ?_
      exact PI_ok rfl
    · exact absurd c11 (by omega)
  | succ k ih =>
    intro i hi
    obtain ⟨hci, hcr⟩ := hc i (by omega)
    have hct := ctn_le (fun j => decide (c j = v)) i
    have ih1 := ih (i + 1) (by omega)
    have hst : nthE (fun j => decide (c j = v)) t (k + 1) i = if decide (c i = v) = true ∧ ctn (fun j => decide (c j = v)) i = t then (i : Int) else nthE (fun j => decide (c j = v)) t k (i + 1) := rfl
    rw [hst]
    refine q_iload eX4_member_5 rfl ?_
    refine q_aload_n eX4_member_7 rfl ?_
    refine q_getfield eX4_member_8 gf_X4_9 (hK _ (by decide) (by decide)) (by decide) (by assumption) ?_
    refine q_icmp_ge (tgt := 41) eX4_member_11 (by decide) (by first | assumption | exact ⟨by omega, by omega⟩) (by first | assumption | exact ⟨by omega, by omega⟩) (fun c11 => ?_) (fun c11 => ?_)
    · exact absurd c11 (by omega)
    · refine q_aload_n eX4_member_14 rfl ?_
      refine q_iload eX4_member_15 rfl ?_
      refine q_callVP [vI i] (M1 := mX4_part) eX4_member_17 mf_X4_part lk_X4_28 (hK _ (by decide) (by decide)) (ev_part hK hX (show i < 63 by omega) hci) (by decide) (by decide) (by decide) (Nat.le_of_ble_eq_true rfl) rfl ?_
      refine q_iload_n eX4_member_20 rfl ?_
      refine q_icmp_ne (tgt := 35) eX4_member_21 (by decide) (by first | assumption | exact ⟨by omega, by omega⟩) (by first | assumption | exact ⟨by omega, by omega⟩) (fun c21 => ?_) (fun c21 => ?_)
      · refine q_iinc eX4_member_35 rfl (by decide) rfl ?_
        refine q_goto (tgt := 5) eX4_member_38 (by decide) ?_
        first
        | (rw [ctn_no (by rw [decide_eq_true_eq]; exact c21)] at ih1
           rw [if_neg (fun h => c21 (by rw [decide_eq_true_eq] at h; exact h.1))]
           exact ih1)
        | (rw [ctn_yes (by rw [decide_eq_true_eq]; exact c21)] at ih1
           rw [if_neg (fun h => c26 (by rw [h.2]))]
           exact ih1)
      · refine q_iload_n eX4_member_24 rfl ?_
        refine q_iload_n eX4_member_25 rfl ?_
        refine q_icmp_ne (tgt := 32) eX4_member_26 (by decide) (by first | assumption | exact ⟨by omega, by omega⟩) (by first | assumption | exact ⟨by omega, by omega⟩) (fun c26 => ?_) (fun c26 => ?_)
        · refine q_iinc eX4_member_32 rfl (by decide) rfl ?_
          refine q_iinc eX4_member_35 rfl (by decide) rfl ?_
          refine q_goto (tgt := 5) eX4_member_38 (by decide) ?_
          first
          | (rw [ctn_no (by rw [decide_eq_true_eq]; exact c21)] at ih1
             rw [if_neg (fun h => c21 (by rw [decide_eq_true_eq] at h; exact h.1))]
             exact ih1)
          | (rw [ctn_yes (by rw [decide_eq_true_eq]; exact c21)] at ih1
             rw [if_neg (fun h => c26 (by rw [h.2]))]
             exact ih1)
        · refine q_iload eX4_member_29 rfl ?_
          refine q_retI eX4_member_31 rfl (by decide) (by decide) ?_
          exact PI_ok (if_pos ⟨by rw [decide_eq_true_eq]; exact c21, by omega⟩).symm
set_option maxRecDepth 20000 in
theorem ev_member {n t : Nat} {v : Int} {c : Nat → Int} {F : HF} {A : HA} {al : AL} (hK : KX al) (hX : XF F) (hn : F 24 0 = vI n) (hn63 : n ≤ 63) (hc : ∀ j, j < n → A 25 j = c j ∧ InR (c j)) (hv : InR v) (ht : t < 2147483648) : QE 2 0 0 mX4_member [vA 24, vI v, vI t] F A al (PI (nthE (fun j => decide (c j = v)) t n 0) F A al) := by
  refine QE.mk (by decide +kernel) (Nat.le_of_ble_eq_true rfl) ?_
  refine q_iconst eX4_member_0 ?_
  refine q_istore_n eX4_member_1 (by decide) rfl ?_
  refine q_iconst eX4_member_2 ?_
  refine q_istore eX4_member_3 (by decide) rfl ?_
  exact lp_member hK hX hn hn63 hc hv ht n 0 (by omega)
