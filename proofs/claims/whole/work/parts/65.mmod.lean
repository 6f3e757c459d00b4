/-! the model: the modulus lifted -/
def gjE (m : Int) (r : Nat) (f c : Nat → Int) (root : Int) (D : Nat) (i : Nat) : Int := mi m r (if i = 0 then 0 else c (i - 1)) (if D < i then 0 else tm m r f (c i) root)
theorem gj_el {m : Int} {r : Nat} {f c : Nat → Int} (hm : 0 < m) (root : Int) (D i : Nat) : El m r (gjE m r f c root D i) := mi_el hm _ _
set_option maxRecDepth 20000 in
theorem lp_joins {m : Int} {r : Nat} {f : Nat → Int} {c : Nat → Int} {root : Int} {a n D : Nat} {F : HF} {A0 : HA} {al : AL} (hK : KM al) (hX : MR F) (hG0 : GM m r f F A0) (hk : al.1 a = (0, n)) (hn : n < 2147483648) (ha : a ≠ 45 ∧ a ≠ 51 ∧ a ≠ 52 ∧ a ≠ 53) (hD : D + 1 < n) (hroot : El m r root) (hc : ∀ i, i ≤ D → El m r (c i)) : ∀ (i : Nat) (A : HA), i ≤ D + 2 → Off [a, 51, 52, 53] A0 A → (∀ j, j < i → j ≤ D → A a j = c j) → (∀ j, i ≤ j → j ≤ D + 1 → A a j = gjE m r f c root D j) → (∀ j, D + 1 < j → A a j = A0 a j) →
    QW mX12_joins 3 0 0 (PV F al (fun A2 => Off [a, 51, 52, 53] A0 A2 ∧ (∀ j, j ≤ D + 1 → A2 a j = gjE m r f c root D j) ∧ ∀ j, D + 1 < j → A2 a j = A0 a j)) 0 0 5 [some (vA 44), some (vA a), some (vI D), some (vI root), some (vI ((i : Int) - 1))] [] F A al := by
  obtain ⟨hm, hr, hf, hm2, hr1, hr6, hN4⟩ := id hG0
  have hm4 := hG0.m4
  obtain ⟨ha1, ha2, ha3, ha4⟩ := ha
  intro i
  induction i with
  | zero =>
    intro A hi ho h1 h2 h3
    refine q_iload eX12_joins_5 rfl ?_
    refine q_if_lt (tgt := 59) eX12_joins_7 (by decide) (by first | assumption | exact ⟨by omega, by omega⟩) (fun c7 => ?_) (fun c7 => ?_)
    · refine q_retV eX12_joins_59 rfl (by decide) (by decide) ?_
      exact ⟨rfl, rfl, rfl, ho, fun j hj => h2 j (by omega) hj, h3⟩
    · exact absurd c7 (by omega)
  | succ i ih =>
    intro A hi ho h1 h2 h3
    have e0 : ((i + 1 : Nat) : Int) - 1 = (i : Int) := by omega
    rw [e0]
    have hG1 : GM m r f F A := hG0.off ho (by simp; omega)
    -- the last step: what is told is stored
    have fin : ∀ (A1 A4 : HA) (v w : Int), Off [51, 52, 53] A A1 → El m r v → El m r w → gjE m r f c root D i = mi m r v w →
        QW mX12_joins 3 0 0 (PV F al (fun A2 => Off [a, 51, 52, 53] A0 A2 ∧ (∀ j, j ≤ D + 1 → A2 a j = gjE m r f c root D j) ∧ ∀ j, D + 1 < j → A2 a j = A0 a j)) 0 0 48 [some (vA 44), some (vA a), some (vI D), some (vI root), some (vI i)] [vI w, vI v, vA 44, vI i, vA a] F A1 al := by
      intro A1 _ v w ho1 hv hw hgj
      refine q_iconst eX12_joins_48 ?_
      refine q_callVQ [vI v, vI w, vI (-1)] (M1 := mX12_added) eX12_joins_49 mf_X12_added lk_X12_175 (hK _ (by decide) (by decide)) (mo_minus hK hX (hG1.off ho1 (by decide)) hv hw) (by decide) (by decide) (by decide) (Nat.le_of_ble_eq_true rfl) rfl (fun A4 h4 => ?_)
      refine q_iast eX12_joins_52 hk (by omega) (by omega) ?_
      refine q_iinc eX12_joins_53 rfl (by decide) rfl ?_
      refine q_goto (tgt := 5) eX12_joins_56 (by decide) ?_
      rw [← hgj]
      have oo : Off [51, 52, 53] A A4 := ho1.trans (h4.mono (by simp))
      have ea : A4 a = A a := oo a (by simp; omega)
      have h9 := ih (up2 A4 a i (gjE m r f c root D i)) (by omega) ((ho.trans (oo.mono (fun b hb => List.mem_cons_of_mem _ hb))).trans (Off.up (by simp))) (fun j hj hj2 => ?_) (fun j hj hj2 => ?_) (fun j hj => ?_)
      · rw [show (i : Int) + -1 = (i : Int) - 1 by omega]
        exact h9
      · rw [up2_at, if_neg (by omega), ea]
        exact h1 j (by omega) hj2
      · rw [up2_at]
        split
        · next he => rw [he]
        · next hne => rw [ea]; exact h2 j (by omega) hj2
      · rw [up2_at, if_neg (by omega), ea]
        exact h3 j hj
    -- the middle: the product, or 0
    have mid : ∀ (v : Int), El m r v → v = (if i = 0 then (0 : Int) else c (i - 1)) →
        QW mX12_joins 3 0 0 (PV F al (fun A2 => Off [a, 51, 52, 53] A0 A2 ∧ (∀ j, j ≤ D + 1 → A2 a j = gjE m r f c root D j) ∧ ∀ j, D + 1 < j → A2 a j = A0 a j)) 0 0 29 [some (vA 44), some (vA a), some (vI D), some (vI root), some (vI i)] [vI v, vA 44, vI i, vA a] F A al := by
      intro v hv hve
      refine q_iload eX12_joins_29 rfl ?_
      refine q_iload_n eX12_joins_31 rfl ?_
      refine q_icmp_le (tgt := 39) eX12_joins_32 (by decide) (by first | assumption | exact ⟨by omega, by omega⟩) (by first | assumption | exact ⟨by omega, by omega⟩) (fun c32 => ?_) (fun c32 => ?_)
      · refine q_aload_n eX12_joins_39 rfl ?_
        refine q_aload_n eX12_joins_40 rfl ?_
        refine q_iload eX12_joins_41 rfl ?_
        refine q_iald eX12_joins_43 hk (by omega) (by omega) ?_
        rw [show A a (i : Int).toNat = c i from h1 i (by omega) (by omega)]
        refine q_iload_n eX12_joins_44 rfl ?_
        refine q_callVQ [vI (c i), vI root] (M1 := mX12_times) eX12_joins_45 mf_X12_times lk_X12_132 (hK _ (by decide) (by decide)) (mo_times hK hX hG1 (hc i (by omega)) hroot) (by decide) (by decide) (by decide) (Nat.le_of_ble_eq_true rfl) rfl (fun A3 h3 => ?_)
        first
        | exact fin A A v 0 Off.rfl' hv (el_zero (by omega)) (by unfold gjE; rw [hve, if_pos (show D < i by omega)])
        | exact fin A3 A3 v _ h3 hv (tm_el (by omega) _ _) (by unfold gjE; rw [hve, if_neg (show ¬ D < i by omega)])
      · refine q_iconst eX12_joins_35 ?_
        refine q_goto (tgt := 48) eX12_joins_36 (by decide) ?_
        first
        | exact fin A A v 0 Off.rfl' hv (el_zero (by omega)) (by unfold gjE; rw [hve, if_pos (show D < i by omega)])
        | exact fin A3 A3 v _ h3 hv (tm_el (by omega) _ _) (by unfold gjE; rw [hve, if_neg (show ¬ D < i by omega)])
    refine q_iload eX12_joins_5 rfl ?_
    refine q_if_lt (tgt := 59) eX12_joins_7 (by decide) (by first | assumption | exact ⟨by omega, by omega⟩) (fun c7 => ?_) (fun c7 => ?_)
    · exact absurd c7 (by omega)
    · refine q_aload_n eX12_joins_10 rfl ?_
      refine q_iload eX12_joins_11 rfl ?_
      refine q_aload_n eX12_joins_13 rfl ?_
      refine q_iload eX12_joins_14 rfl ?_
      refine q_if_ne (tgt := 23) eX12_joins_16 (by decide) (by first | assumption | exact ⟨by omega, by omega⟩) (fun c16 => ?_) (fun c16 => ?_)
      · refine q_aload_n eX12_joins_23 rfl ?_
        refine q_iload eX12_joins_24 rfl ?_
        refine q_iconst eX12_joins_26 ?_
        refine q_isub eX12_joins_27 ?_
        refine q_iald eX12_joins_28 hk (by omega) (by omega) ?_
        first
        | exact mid 0 (el_zero (by omega)) (by rw [if_pos (by omega)])
        | (rw [show A a ((i : Int) - 1).toNat = c (i - 1) by rw [show ((i : Int) - 1).toNat = i - 1 by omega]; exact h1 (i - 1) (by omega) (by omega)]
           exact mid _ (hc (i - 1) (by omega)) (by rw [if_neg (by omega)]))
      · refine q_iconst eX12_joins_19 ?_
        refine q_goto (tgt := 29) eX12_joins_20 (by decide) ?_
        first
        | exact mid 0 (el_zero (by omega)) (by rw [if_pos (by omega)])
        | (rw [show A a ((i : Int) - 1).toNat = c (i - 1) by rw [show ((i : Int) - 1).toNat = i - 1 by omega]; exact h1 (i - 1) (by omega) (by omega)]
           exact mid _ (hc (i - 1) (by omega)) (by rw [if_neg (by omega)]))
set_option maxRecDepth 20000 in
theorem mo_joins {m : Int} {r : Nat} {f : Nat → Int} {c : Nat → Int} {root : Int} {a n D : Nat} {F : HF} {A : HA} {al : AL} (hK : KM al) (hX : MR F) (hG0 : GM m r f F A) (hk : al.1 a = (0, n)) (hn : n < 2147483648) (ha : a ≠ 45 ∧ a ≠ 51 ∧ a ≠ 52 ∧ a ≠ 53) (hD : D + 1 < n) (hroot : El m r root) (hc : ∀ i, i ≤ D → El m r (c i)) (hA : ∀ j, j ≤ D → A a j = c j) : QE 3 0 0 mX12_joins [vA 44, vA a, vI D, vI root] F A al (PV F al (fun A2 => Off [a, 51, 52, 53] A A2 ∧ (∀ j, j ≤ D + 1 → A2 a j = gjE m r f c root D j) ∧ ∀ j, D + 1 < j → A2 a j = A a j)) := by
  refine QE.mk (by decide +kernel) (Nat.le_of_ble_eq_true rfl) ?_
  refine q_iload_n eX12_joins_0 rfl ?_
  refine q_iconst eX12_joins_1 ?_
  refine q_iadd eX12_joins_2 ?_
  refine q_istore eX12_joins_3 (by decide) rfl ?_
  rw [show (D : Int) + 1 = ((D + 2 : Nat) : Int) - 1 by omega]
  exact lp_joins hK hX hG0 hk hn ha hD hroot hc (D + 2) A (Nat.le_refl _) Off.rfl' (fun j hj hj2 => hA j hj2) (fun j hj hj2 => by omega) (fun j hj => rfl)
def fL (p : Nat) (l : Nat) (i : Nat) : Int := dg p i l
def rpM (m : Int) (r q : Nat) (f0 : Nat → Int) : Nat → Int
  | 0 => m
  | k + 1 => pw m r f0 (rpM m r q f0 k) q
def rtM (m : Int) (r p : Nat) (f0 : Nat → Int) (x : Int) : Nat → Int
  | 0 => x
  | i + 1 => pw m r f0 (rtM m r p f0 x i) p
def grM (m : Int) (r p : Nat) (f0 : Nat → Int) (x : Int) : Nat → Nat → Int
  | 0, j => if j = 0 then 1 else 0
  | i + 1, j => if j ≤ i + 1 then gjE m r f0 (grM m r p f0 x i) (rtM m r p f0 x i) i j else 0
theorem rpM_el {m : Int} {r q : Nat} {f0 : Nat → Int} (hm : 2 ≤ m) (hr : 0 < r) (hx : El m r m) : ∀ k, El m r (rpM m r q f0 k)
  | 0 => hx
  | _ + 1 => pw_el hm hr _ _
theorem rtM_el {m : Int} {r p : Nat} {f0 : Nat → Int} {x : Int} (hm : 2 ≤ m) (hr : 0 < r) (hx : El m r x) : ∀ k, El m r (rtM m r p f0 x k)
  | 0 => hx
  | _ + 1 => pw_el hm hr _ _
theorem grM_el {m : Int} {r p : Nat} {f0 : Nat → Int} {x : Int} (hm : 2 ≤ m) (hr : 0 < r) : ∀ i j, El m r (grM m r p f0 x i j)
  | 0, j => by
    unfold grM
    split
    · exact el_one hm hr
    · exact el_zero (by omega)
  | i + 1, j => by
    unfold grM
    split
    · exact gj_el (by omega) _ _ _
    · exact el_zero (by omega)
/-- rows below n, but those of l, stay -/
def OffN (n : Nat) (l : List Nat) (A A2 : HA) : Prop := ∀ b, b < n → b ∉ l → A2 b = A b
theorem Off.n {n : Nat} {l l' : List Nat} {A A2 : HA} (h : Off l' A A2) (hl : ∀ b, b ∈ l' → b < n → b ∈ l) : OffN n l A A2 := fun b hb hbl => h b fun q => hbl (hl b q hb)
theorem OffN.trans {n : Nat} {l : List Nat} {A B C : HA} (h : OffN n l A B) (h2 : OffN n l B C) : OffN n l A C := fun b hb hbl => (h2 b hb hbl).trans (h b hb hbl)
def KE (n : Nat) (al al2 : AL) : Prop := n ≤ al2.2 ∧ ∀ k, k < n → al2.1 k = al.1 k
/-- the modulus, as it's lifted -/
def mdM (p e r q : Nat) (m : Int) (lo : Nat) (i : Nat) : Int := if i = r then 1 else if r = 1 then 0 else grM m r p (fL p lo) (rpM m r q (fL p lo) (e - 1)) r i
def PLM (p e r q : Nat) (m : Int) (lo : Nat) (F : HF) (A : HA) (al : AL) : PO := fun o F' A' al' => o = .inl none ∧ F' = F ∧ KE al.2 al al' ∧ OffN al.2 [45, 50, 51, 52, 53] A A' ∧ ∀ j, j ≤ r → A' 45 j = mdM p e r q m lo j
set_option maxRecDepth 20000 in
theorem lp_lm5 {p e r q lo : Nat} {m : Int} {F : HF} {A0 : HA} {K : Nat → Nat × Nat} {n : Nat} (hK : KM (K, n)) (hX : MR F) (hn : 67 ≤ n) (hp : F 44 1 = vI p) (he : F 44 2 = vI e) (hr : F 44 3 = vI r) (hm : F 44 4 = vI m) (hq : F 44 5 = vI q) (hp2 : 2 ≤ p) (hp7 : p ≤ 7) (he1 : 1 ≤ e) (he4 : e ≤ 4) (hr1 : 1 ≤ r) (hr6 : r ≤ 6) (hm2 : 2 ≤ m) (hpm : (p : Int) ≤ m) (hN4 : m ^ r ≤ 4096) (hq3 : q ≤ 4096) {x : Int} {l1 l2 l3 : Option LV} (hx : x = rpM m r q (fL p lo) (e - 1)) (hr2 : 2 ≤ r) : ∀ (k i : Nat) (A : HA), i + k = r → OffN n [45, 50, 51, 52, 53] A0 A → A 45 r = 1 → (∀ j, j ≤ r → A n j = grM m r p (fL p lo) x r j) → (∀ j, j < i → A 45 j = grM m r p (fL p lo) x r j) →
    QW mX12_laysModulus 4 1 7 (PLM p e r q m lo F A0 (K, n)) (0 + 1) (0 + (r + 1)) 183 [some (vA 44), l1, l2, l3, some (vA n), some (vI i)] [] F A (kU (K, n) (0, r + 1)) := by
  have hK2 : KM (kU (K, n) (0, r + 1)) := fun b h1 h2 => Eq.trans (if_neg (by show ¬ b = n; omega)) (hK b h1 h2)
  have hkn : (kU (K, n) (0, r + 1)).1 n = (0, r + 1) := if_pos rfl
  intro k
  induction k with
  | zero =>
    intro i A hi ho h1 h2 h3
    have ei : i = r := by omega
    subst ei
    refine q_iload eX12_laysModulus_183 rfl ?_
    refine q_aload_n eX12_laysModulus_185 rfl ?_
    refine q_getfield eX12_laysModulus_186 gf_X12_19 (hK2 _ (by decide) (by decide)) (by decide) (by first | assumption) ?_
    refine q_icmp_ge (tgt := 210) eX12_laysModulus_189 (by decide) (by first | assumption | exact ⟨by omega, by omega⟩) (by first | assumption | exact ⟨by omega, by omega⟩) (fun c189 => ?_) (fun c189 => ?_)
    · refine q_retV eX12_laysModulus_210 rfl (by omega) (by omega) ?_
      refine ⟨rfl, rfl, ⟨Nat.le_succ n, fun b hb => if_neg (Nat.ne_of_lt hb)⟩, ho, fun j hj => ?_⟩
      unfold mdM
      by_cases hj2 : j = i
      · rw [if_pos hj2, hj2]; exact h1
      · rw [if_neg hj2, if_neg (by omega), h3 j (by omega), hx]
    · exact absurd c189 (by omega)
  | succ k ih =>
    intro i A hi ho h1 h2 h3
    refine q_iload eX12_laysModulus_183 rfl ?_
    refine q_aload_n eX12_laysModulus_185 rfl ?_
    refine q_getfield eX12_laysModulus_186 gf_X12_19 (hK2 _ (by decide) (by decide)) (by decide) (by first | assumption) ?_
    refine q_icmp_ge (tgt := 210) eX12_laysModulus_189 (by decide) (by first | assumption | exact ⟨by omega, by omega⟩) (by first | assumption | exact ⟨by omega, by omega⟩) (fun c189 => ?_) (fun c189 => ?_)
    · exact absurd c189 (by omega)
    · refine q_aload_n eX12_laysModulus_192 rfl ?_
      refine q_getfield eX12_laysModulus_193 gf_X12_31 (hK2 _ (by decide) (by decide)) (by decide) (mr_44_7 hX) ?_
      refine q_iload eX12_laysModulus_196 rfl ?_
      refine q_aload eX12_laysModulus_198 rfl ?_
      refine q_iload eX12_laysModulus_200 rfl ?_
      refine q_iald eX12_laysModulus_202 hkn (by omega) (by omega) ?_
      refine q_iast eX12_laysModulus_203 (hK2 _ (by decide) (by decide)) (by omega) (by omega) ?_
      refine q_iinc eX12_laysModulus_204 rfl (by decide) rfl ?_
      refine q_goto (tgt := 183) eX12_laysModulus_207 (by decide) ?_
      refine ih (i + 1) _ (by omega) (ho.trans ((Off.up (l := [45]) (by simp)).n (by simp))) ?_ (fun j hj => ?_) (fun j hj => ?_)
      · rw [up2_at, if_neg (by show ¬ r = i; omega)]; exact h1
      · rw [up2_row (by omega)]; exact h2 j hj
      · rw [up2_at]
        split
        · next he => rw [show j = i from he]; exact h2 i (by omega)
        · next hne => exact h3 j (by have : j ≠ i := hne; omega)
set_option maxRecDepth 20000 in
theorem lp_lm4 {p e r q lo : Nat} {m : Int} {F : HF} {A0 : HA} {K : Nat → Nat × Nat} {n : Nat} (hK : KM (K, n)) (hX : MR F) (hn : 67 ≤ n) (hp : F 44 1 = vI p) (he : F 44 2 = vI e) (hr : F 44 3 = vI r) (hm : F 44 4 = vI m) (hq : F 44 5 = vI q) (hp2 : 2 ≤ p) (hp7 : p ≤ 7) (he1 : 1 ≤ e) (he4 : e ≤ 4) (hr1 : 1 ≤ r) (hr6 : r ≤ 6) (hm2 : 2 ≤ m) (hpm : (p : Int) ≤ m) (hN4 : m ^ r ≤ 4096) (hq3 : q ≤ 4096) {x : Int} {l1 : Option LV} {w2 : Int} (hx : x = rpM m r q (fL p lo) (e - 1)) (hxe : El m r x) (hr2 : 2 ≤ r) : ∀ (k i : Nat) (A : HA), i + k = r → OffN n [45, 50, 51, 52, 53] A0 A → A 45 r = 1 → GM m r (fL p lo) F A → (∀ j, j ≤ r → A n j = grM m r p (fL p lo) x i j) →
    QW mX12_laysModulus 4 1 7 (PLM p e r q m lo F A0 (K, n)) (0 + 1) (0 + (r + 1)) 145 [some (vA 44), l1, some (vI w2), some (vI (rtM m r p (fL p lo) x i)), some (vA n), some (vI i)] [] F A (kU (K, n) (0, r + 1)) := by
  have hK2 : KM (kU (K, n) (0, r + 1)) := fun b h1 h2 => Eq.trans (if_neg (by show ¬ b = n; omega)) (hK b h1 h2)
  have hkn : (kU (K, n) (0, r + 1)).1 n = (0, r + 1) := if_pos rfl
  intro k
  induction k with
  | zero =>
    intro i A hi ho h1 hG h2
    have ei : i = r := by omega
    subst ei
    refine q_iload eX12_laysModulus_145 rfl ?_
    refine q_aload_n eX12_laysModulus_147 rfl ?_
    refine q_getfield eX12_laysModulus_148 gf_X12_19 (hK2 _ (by decide) (by decide)) (by decide) (by first | assumption) ?_
    refine q_icmp_ge (tgt := 180) eX12_laysModulus_151 (by decide) (by first | assumption | exact ⟨by omega, by omega⟩) (by first | assumption | exact ⟨by omega, by omega⟩) (fun c151 => ?_) (fun c151 => ?_)
    · refine q_iconst eX12_laysModulus_180 ?_
      refine q_istore eX12_laysModulus_181 (by decide) rfl ?_
      exact lp_lm5 hK hX hn hp he hr hm hq hp2 hp7 he1 he4 hr1 hr6 hm2 hpm hN4 hq3 hx hr2 i 0 A (by omega) ho h1 h2 (fun j hj => by omega)
    · exact absurd c151 (by omega)
  | succ k ih =>
    intro i A hi ho h1 hG h2
    have hre := rtM_el (p := p) (f0 := fL p lo) hm2 (show 0 < r by omega) hxe i
    refine q_iload eX12_laysModulus_145 rfl ?_
    refine q_aload_n eX12_laysModulus_147 rfl ?_
    refine q_getfield eX12_laysModulus_148 gf_X12_19 (hK2 _ (by decide) (by decide)) (by decide) (by first | assumption) ?_
    refine q_icmp_ge (tgt := 180) eX12_laysModulus_151 (by decide) (by first | assumption | exact ⟨by omega, by omega⟩) (by first | assumption | exact ⟨by omega, by omega⟩) (fun c151 => ?_) (fun c151 => ?_)
    · exact absurd c151 (by omega)
    · refine q_aload_n eX12_laysModulus_154 rfl ?_
      refine q_aload eX12_laysModulus_155 rfl ?_
      refine q_iload eX12_laysModulus_157 rfl ?_
      refine q_iload_n eX12_laysModulus_159 rfl ?_
      refine q_callVV [vA n, vI i, vI (rtM m r p (fL p lo) x i)] (M1 := mX12_joins) eX12_laysModulus_160 mf_X12_joins lk_X12_171 (hK2 _ (by decide) (by decide)) (mo_joins (c := grM m r p (fL p lo) x i) hK2 hX hG hkn (by omega) ⟨by omega, by omega, by omega, by omega⟩ (by omega) hre (fun j hj => grM_el hm2 (by omega) i j) (fun j hj => h2 j (by omega))) (by decide) (by omega) (by omega) (Nat.le_of_ble_eq_true rfl) rfl (fun A3 h3 => ?_)
      obtain ⟨o3, v3, w3⟩ := h3
      have hG3 := hG.off o3 (by simp; omega)
      refine q_aload_n eX12_laysModulus_163 rfl ?_
      refine q_iload_n eX12_laysModulus_164 rfl ?_
      refine q_aload_n eX12_laysModulus_165 rfl ?_
      refine q_getfield eX12_laysModulus_166 gf_X12_13 (hK2 _ (by decide) (by decide)) (by decide) (by first | assumption) ?_
      refine q_i2l eX12_laysModulus_169 (by exact ⟨by omega, by omega⟩) ?_
      refine q_callVQ [vI (rtM m r p (fL p lo) x i), vJ p] (M1 := mX12_raised) eX12_laysModulus_170 mf_X12_raised lk_X12_147 (hK2 _ (by decide) (by decide)) (mo_raised hK2 hX hG3 hre (by omega)) (by decide) (by omega) (by omega) (Nat.le_of_ble_eq_true rfl) rfl (fun A4 h4 => ?_)
      refine q_istore_n eX12_laysModulus_173 (by decide) rfl ?_
      refine q_iinc eX12_laysModulus_174 rfl (by decide) rfl ?_
      refine q_goto (tgt := 145) eX12_laysModulus_177 (by decide) ?_
      refine ih (i + 1) A4 (by omega) ((ho.trans (o3.n (by intro b hb hbn; simp only [List.mem_cons, List.not_mem_nil, or_false] at hb ⊢; omega))).trans (h4.n (by simp))) ?_ (hG3.off h4 (by decide)) (fun j hj => ?_)
      · rw [h4 45 (by decide), o3 45 (by simp; omega)]; exact h1
      · rw [h4 n (by simp; omega)]
        show _ = if j ≤ i + 1 then _ else _
        by_cases hj2 : j ≤ i + 1
        · rw [if_pos hj2]; exact v3 j hj2
        · rw [if_neg hj2, w3 j (by omega), h2 j hj]
          cases i with
          | zero => exact if_neg (by omega)
          | succ i => exact if_neg (by omega)
set_option maxRecDepth 20000 in
theorem lp_lm3 {p e r q lo : Nat} {m : Int} {F : HF} {A0 : HA} {K : Nat → Nat × Nat} {n : Nat} (hK : KM (K, n)) (hX : MR F) (hn : 67 ≤ n) (hp : F 44 1 = vI p) (he : F 44 2 = vI e) (hr : F 44 3 = vI r) (hm : F 44 4 = vI m) (hq : F 44 5 = vI q) (hp2 : 2 ≤ p) (hp7 : p ≤ 7) (he1 : 1 ≤ e) (he4 : e ≤ 4) (hr1 : 1 ≤ r) (hr6 : r ≤ 6) (hm2 : 2 ≤ m) (hpm : (p : Int) ≤ m) (hN4 : m ^ r ≤ 4096) (hq3 : q ≤ 4096) {l1 : Option LV} {w2 : Int} (hme : El m r m) (hr2 : 2 ≤ r) : ∀ (k i : Nat) (A : HA) (l5 : Option LV), i + k = e → 1 ≤ i → OffN n [45, 50, 51, 52, 53] A0 A → A 45 r = 1 → GM m r (fL p lo) F A →
    QW mX12_laysModulus 4 1 7 (PLM p e r q m lo F A0 (K, n)) 0 0 101 [some (vA 44), l1, some (vI w2), some (vI (rpM m r q (fL p lo) (i - 1))), some (vI i), l5] [] F A (K, n) := by
  intro k
  induction k with
  | zero =>
    intro i A l5 hi hi1 ho h1 hG
    have ei : i = e := by omega
    subst ei
    have hxe := rpM_el (q := q) (f0 := fL p lo) hm2 (show 0 < r by omega) hme (i - 1)
    have hkn : (kU (K, n) (0, r + 1)).1 n = (0, r + 1) := if_pos rfl
    have hK2 : KM (kU (K, n) (0, r + 1)) := fun b h1 h2 => Eq.trans (if_neg (by show ¬ b = n; omega)) (hK b h1 h2)
    refine q_iload eX12_laysModulus_101 rfl ?_
    refine q_aload_n eX12_laysModulus_103 rfl ?_
    refine q_getfield eX12_laysModulus_104 gf_X12_16 (hK _ (by decide) (by decide)) (by decide) (by first | assumption) ?_
    refine q_icmp_ge (tgt := 127) eX12_laysModulus_107 (by decide) (by first | assumption | exact ⟨by omega, by omega⟩) (by first | assumption | exact ⟨by omega, by omega⟩) (fun c107 => ?_) (fun c107 => ?_)
    · refine q_aload_n eX12_laysModulus_127 rfl ?_
      refine q_getfield eX12_laysModulus_128 gf_X12_19 (hK _ (by decide) (by decide)) (by decide) (by first | assumption) ?_
      refine q_iconst eX12_laysModulus_131 ?_
      refine q_iadd eX12_laysModulus_132 ?_
      rw [show (r : Int) + 1 = ((r + 1 : Nat) : Int) by omega]
      refine q_newa_I (N := r + 1) eX12_laysModulus_133 (by omega) (by omega) (by omega) ?_
      refine q_astore eX12_laysModulus_135 (by decide) rfl ?_
      refine q_aload eX12_laysModulus_137 rfl ?_
      refine q_iconst eX12_laysModulus_139 ?_
      refine q_iconst eX12_laysModulus_140 ?_
      refine q_iast eX12_laysModulus_141 hkn (by omega) (by show (0 : Int) < ((r + 1 : Nat) : Int); omega) ?_
      refine q_iconst eX12_laysModulus_142 ?_
      refine q_istore eX12_laysModulus_143 (by decide) rfl ?_
      have hz : ∀ j, up2 (nA A n) n 0 1 n j = if j = 0 then 1 else 0 := fun j => by
        rw [up2_at]
        show (if j = 0 then 1 else (if n = n then (fun _ => (0 : Int)) else A n) j) = _
        rw [if_pos rfl]
      have hoN : OffN n [45, 50, 51, 52, 53] A (up2 (nA A n) n 0 1) := fun b hb _ => by
        rw [up2_row (by omega)]
        exact if_neg (by omega)
      have e45 : up2 (nA A n) n 0 1 45 = A 45 := by
        rw [up2_row (by omega)]
        exact if_neg (by omega)
      refine lp_lm4 hK hX hn hp he hr hm hq hp2 hp7 he1 he4 hr1 hr6 hm2 hpm hN4 hq3 (x := rpM m r q (fL p lo) (i - 1)) rfl hxe hr2 r 0 _ (by omega) (ho.trans hoN) ?_ ?_ (fun j hj => hz j)
      · show up2 (nA A n) n 0 1 45 r = 1
        rw [e45]; exact h1
      · refine ⟨hG.1, hG.2.1, fun i hi => ?_, hG.2.2.2⟩
        show up2 (nA A n) n 0 1 45 i = _ ∧ _
        rw [e45]; exact hG.2.2.1 i hi
    · exact absurd c107 (by omega)
  | succ k ih =>
    intro i A l5 hi hi1 ho h1 hG
    have hxe := rpM_el (q := q) (f0 := fL p lo) hm2 (show 0 < r by omega) hme (i - 1)
    have hs : rpM m r q (fL p lo) (i + 1 - 1) = pw m r (fL p lo) (rpM m r q (fL p lo) (i - 1)) q := by
      obtain ⟨z, rfl⟩ : ∃ z, i = z + 1 := ⟨i - 1, by omega⟩
      rfl
    refine q_iload eX12_laysModulus_101 rfl ?_
    refine q_aload_n eX12_laysModulus_103 rfl ?_
    refine q_getfield eX12_laysModulus_104 gf_X12_16 (hK _ (by decide) (by decide)) (by decide) (by first | assumption) ?_
    refine q_icmp_ge (tgt := 127) eX12_laysModulus_107 (by decide) (by first | assumption | exact ⟨by omega, by omega⟩) (by first | assumption | exact ⟨by omega, by omega⟩) (fun c107 => ?_) (fun c107 => ?_)
    · exact absurd c107 (by omega)
    · refine q_aload_n eX12_laysModulus_110 rfl ?_
      refine q_iload_n eX12_laysModulus_111 rfl ?_
      refine q_aload_n eX12_laysModulus_112 rfl ?_
      refine q_getfield eX12_laysModulus_113 gf_X12_25 (hK _ (by decide) (by decide)) (by decide) (by first | assumption) ?_
      refine q_i2l eX12_laysModulus_116 (by exact ⟨by omega, by omega⟩) ?_
      refine q_callVQ [vI (rpM m r q (fL p lo) (i - 1)), vJ q] (M1 := mX12_raised) eX12_laysModulus_117 mf_X12_raised lk_X12_147 (hK _ (by decide) (by decide)) (mo_raised hK hX hG hxe (by omega)) (by decide) (by omega) (by omega) (Nat.le_of_ble_eq_true rfl) rfl (fun A4 h4 => ?_)
      refine q_istore_n eX12_laysModulus_120 (by decide) rfl ?_
      refine q_iinc eX12_laysModulus_121 rfl (by decide) rfl ?_
      refine q_goto (tgt := 101) eX12_laysModulus_124 (by decide) ?_
      rw [← hs]
      exact ih (i + 1) A4 _ (by omega) (by omega) (ho.trans (h4.n (by simp))) (by rw [h4 45 (by decide)]; exact h1) (hG.off h4 (by decide))
set_option maxRecDepth 20000 in
theorem lp_lm2 {p e r q lo : Nat} {m : Int} {F : HF} {A0 : HA} {K : Nat → Nat × Nat} {n : Nat} (hK : KM (K, n)) (hX : MR F) (hn : 67 ≤ n) (hp : F 44 1 = vI p) (he : F 44 2 = vI e) (hr : F 44 3 = vI r) (hm : F 44 4 = vI m) (hq : F 44 5 = vI q) (hp2 : 2 ≤ p) (hp7 : p ≤ 7) (he1 : 1 ≤ e) (he4 : e ≤ 4) (hr1 : 1 ≤ r) (hr6 : r ≤ 6) (hm2 : 2 ≤ m) (hpm : (p : Int) ≤ m) (hN4 : m ^ r ≤ 4096) (hq3 : q ≤ 4096) (hlo : lo < 4096) (hr2 : 2 ≤ r) : ∀ (k i : Nat) (A : HA) (l4 l5 : Option LV), i + k = r → OffN n [45, 50, 51, 52, 53] A0 A → A 45 r = 1 → (∀ j, j < i → A 45 j = dg p j lo) →
    QW mX12_laysModulus 4 1 7 (PLM p e r q m lo F A0 (K, n)) 0 0 60 [some (vA 44), some (vI lo), some (vI (dv p i lo)), some (vI i), l4, l5] [] F A (K, n) := by
  intro k
  induction k with
  | zero =>
    intro i A l4 l5 hi ho h1 h2
    have ei : i = r := by omega
    subst ei
    have hme : El m i m := by
      refine ⟨by omega, ?_⟩
      have q1 : m ^ 2 ≤ m ^ i := ipow_mono (by omega) (by omega)
      have q2 : m * 2 ≤ m * m := Int.mul_le_mul_of_nonneg_left hm2 (by omega)
      rw [Int.pow_succ, Int.pow_succ, Int.pow_zero, Int.one_mul] at q1
      omega
    have hG : GM m i (fL p lo) F A := ⟨hm, hr, fun j hj => ⟨h2 j hj, by have := dg_range (m := (p : Int)) (by omega) j (lo : Int); unfold fL; omega⟩, hm2, hr1, hr6, hN4⟩
    refine q_iload_n eX12_laysModulus_60 rfl ?_
    refine q_aload_n eX12_laysModulus_61 rfl ?_
    refine q_getfield eX12_laysModulus_62 gf_X12_19 (hK _ (by decide) (by decide)) (by decide) (by first | assumption) ?_
    refine q_icmp_ge (tgt := 93) eX12_laysModulus_65 (by decide) (by first | assumption | exact ⟨by omega, by omega⟩) (by first | assumption | exact ⟨by omega, by omega⟩) (fun c65 => ?_) (fun c65 => ?_)
    · refine q_aload_n eX12_laysModulus_93 rfl ?_
      refine q_getfield eX12_laysModulus_94 gf_X12_22 (hK _ (by decide) (by decide)) (by decide) (by first | assumption) ?_
      refine q_istore_n eX12_laysModulus_97 (by decide) rfl ?_
      refine q_iconst eX12_laysModulus_98 ?_
      refine q_istore eX12_laysModulus_99 (by decide) rfl ?_
      exact lp_lm3 hK hX hn hp he hr hm hq hp2 hp7 he1 he4 hr1 hr6 hm2 hpm hN4 hq3 hme hr2 (e - 1) 1 A _ (by omega) (by decide) ho h1 hG
    · exact absurd c65 (by omega)
  | succ k ih =>
    intro i A l4 l5 hi ho h1 h2
    have hd := dv_range (m := (p : Int)) (x := (lo : Int)) (by omega) (by omega) i
    have hdd := dv_dg (m := (p : Int)) i (lo : Int)
    refine q_iload_n eX12_laysModulus_60 rfl ?_
    refine q_aload_n eX12_laysModulus_61 rfl ?_
    refine q_getfield eX12_laysModulus_62 gf_X12_19 (hK _ (by decide) (by decide)) (by decide) (by first | assumption) ?_
    refine q_icmp_ge (tgt := 93) eX12_laysModulus_65 (by decide) (by first | assumption | exact ⟨by omega, by omega⟩) (by first | assumption | exact ⟨by omega, by omega⟩) (fun c65 => ?_) (fun c65 => ?_)
    · exact absurd c65 (by omega)
    · refine q_aload_n eX12_laysModulus_68 rfl ?_
      refine q_getfield eX12_laysModulus_69 gf_X12_31 (hK _ (by decide) (by decide)) (by decide) (mr_44_7 hX) ?_
      refine q_iload_n eX12_laysModulus_72 rfl ?_
      refine q_iload_n eX12_laysModulus_73 rfl ?_
      refine q_aload_n eX12_laysModulus_74 rfl ?_
      refine q_getfield eX12_laysModulus_75 gf_X12_13 (hK _ (by decide) (by decide)) (by decide) (by first | assumption) ?_
      refine q_irem eX12_laysModulus_78 (by omega) (by omega) (by omega) (by omega) ?_
      refine q_iast eX12_laysModulus_79 (hK _ (by decide) (by decide)) (by omega) (by omega) ?_
      refine q_iload_n eX12_laysModulus_80 rfl ?_
      refine q_aload_n eX12_laysModulus_81 rfl ?_
      refine q_getfield eX12_laysModulus_82 gf_X12_13 (hK _ (by decide) (by decide)) (by decide) (by first | assumption) ?_
      refine q_idiv eX12_laysModulus_85 (by omega) (by omega) (by omega) (by omega) ?_
      refine q_istore_n eX12_laysModulus_86 (by decide) rfl ?_
      refine q_iinc eX12_laysModulus_87 rfl (by decide) rfl ?_
      refine q_goto (tgt := 60) eX12_laysModulus_90 (by decide) ?_
      refine ih (i + 1) _ _ _ (by omega) (ho.trans ((Off.up (l := [45]) (by simp)).n (by simp))) ?_ (fun j hj => ?_)
      · rw [up2_at, if_neg (by show ¬ r = i; omega)]; exact h1
      · rw [up2_at]
        split
        · next he => rw [show j = i from he]; exact hdd.1
        · next hne => exact h2 j (by have : j ≠ i := hne; omega)
set_option maxRecDepth 20000 in
theorem lp_lm1 {p e r q lo : Nat} {m : Int} {F : HF} {A0 : HA} {K : Nat → Nat × Nat} {n : Nat} (hK : KM (K, n)) (hX : MR F) (hn : 67 ≤ n) (hp : F 44 1 = vI p) (he : F 44 2 = vI e) (hr : F 44 3 = vI r) (hm : F 44 4 = vI m) (hq : F 44 5 = vI q) (hp2 : 2 ≤ p) (hp7 : p ≤ 7) (he1 : 1 ≤ e) (he4 : e ≤ 4) (hr1 : 1 ≤ r) (hr6 : r ≤ 6) (hm2 : 2 ≤ m) (hpm : (p : Int) ≤ m) (hN4 : m ^ r ≤ 4096) (hq3 : q ≤ 4096) (hlo : lo < 4096) (hr2 : 2 ≤ r) (hlo1 : ipMO p r lo r 1 = true) (hlo0 : ∀ l : Nat, l < lo → ¬ ipMO p r l r 1 = true) : ∀ (k i : Nat) (A : HA) (l2 l3 l4 l5 : Option LV), i + k = lo → OffN n [45, 50, 51, 52, 53] A0 A → A 45 r = 1 →
    QW mX12_laysModulus 4 1 7 (PLM p e r q m lo F A0 (K, n)) 0 0 42 [some (vA 44), some (vI i), l2, l3, l4, l5] [] F A (K, n) := by
  intro k
  induction k with
  | zero =>
    intro i A l2 l3 l4 l5 hi ho h1
    have ei : i = lo := by omega
    subst ei
    refine q_aload_n eX12_laysModulus_42 rfl ?_
    refine q_iload_n eX12_laysModulus_43 rfl ?_
    refine q_callVQ [vI i] (M1 := mX12_isPrime) eX12_laysModulus_44 mf_X12_isPrime lk_X12_167 (hK _ (by decide) (by decide)) (mo_isPrime hK hX hp hr hp2 hp7 hr1 hr6 (by omega) (by omega)) (by decide) (by decide) (by decide) (Nat.le_of_ble_eq_true rfl) rfl (fun A3 h3 => ?_)
    refine q_if_ne (tgt := 56) eX12_laysModulus_47 (by decide) ir_ite (fun c47 => ?_) (fun c47 => ?_)
    · refine q_iload_n eX12_laysModulus_56 rfl ?_
      refine q_istore_n eX12_laysModulus_57 (by decide) rfl ?_
      refine q_iconst eX12_laysModulus_58 ?_
      refine q_istore_n eX12_laysModulus_59 (by decide) rfl ?_
      exact lp_lm2 hK hX hn hp he hr hm hq hp2 hp7 he1 he4 hr1 hr6 hm2 hpm hN4 hq3 hlo hr2 r 0 A3 _ _ (by omega) (ho.trans (h3.n (by simp))) (by rw [h3 45 (by decide)]; exact h1) (fun j hj => by omega)
    · exact absurd hlo1 (i0 c47)
  | succ k ih =>
    intro i A l2 l3 l4 l5 hi ho h1
    refine q_aload_n eX12_laysModulus_42 rfl ?_
    refine q_iload_n eX12_laysModulus_43 rfl ?_
    refine q_callVQ [vI i] (M1 := mX12_isPrime) eX12_laysModulus_44 mf_X12_isPrime lk_X12_167 (hK _ (by decide) (by decide)) (mo_isPrime hK hX hp hr hp2 hp7 hr1 hr6 (by omega) (by omega)) (by decide) (by decide) (by decide) (Nat.le_of_ble_eq_true rfl) rfl (fun A3 h3 => ?_)
    refine q_if_ne (tgt := 56) eX12_laysModulus_47 (by decide) ir_ite (fun c47 => ?_) (fun c47 => ?_)
    · exact absurd (i1 c47) (hlo0 i (by omega))
    · refine q_iinc eX12_laysModulus_50 rfl (by decide) rfl ?_
      refine q_goto (tgt := 42) eX12_laysModulus_53 (by decide) ?_
      exact ih (i + 1) A3 _ _ _ _ (by omega) (ho.trans (h3.n (by simp))) (by rw [h3 45 (by decide)]; exact h1)
set_option maxRecDepth 20000 in
theorem lp_lm0 {p e r q lo : Nat} {m : Int} {F : HF} {A0 : HA} {K : Nat → Nat × Nat} {n : Nat} (hK : KM (K, n)) (hX : MR F) (hn : 67 ≤ n) (hp : F 44 1 = vI p) (he : F 44 2 = vI e) (hr : F 44 3 = vI r) (hm : F 44 4 = vI m) (hq : F 44 5 = vI q) (hp2 : 2 ≤ p) (hp7 : p ≤ 7) (he1 : 1 ≤ e) (he4 : e ≤ 4) (hr1 : 1 ≤ r) (hr6 : r ≤ 6) (hm2 : 2 ≤ m) (hpm : (p : Int) ≤ m) (hN4 : m ^ r ≤ 4096) (hq3 : q ≤ 4096) (hlo : lo < 4096) (hlo1 : 2 ≤ r → ipMO p r lo r 1 = true) (hlo0 : ∀ l : Nat, l < lo → ¬ ipMO p r l r 1 = true) : ∀ (k i : Nat) (A : HA) (l2 l3 l4 l5 : Option LV), i + k = 7 → OffN n [45, 50, 51, 52, 53] A0 A → (∀ j, j < i → A 45 j = 0) →
    QW mX12_laysModulus 4 1 7 (PLM p e r q m lo F A0 (K, n)) 0 0 2 [some (vA 44), some (vI i), l2, l3, l4, l5] [] F A (K, n) := by
  intro k
  induction k with
  | zero =>
    intro i A l2 l3 l4 l5 hi ho h1
    have ei : i = 7 := by omega
    subst ei
    have hoU : OffN n [45, 50, 51, 52, 53] A0 (up2 A 45 r 1) := ho.trans ((Off.up (l := [45]) (by simp)).n (by simp))
    refine q_iload_n eX12_laysModulus_2 rfl ?_
    refine q_bipush eX12_laysModulus_3 (by decide +kernel) ?_
    refine q_icmp_ge (tgt := 21) eX12_laysModulus_5 (by decide) (by first | assumption | exact ⟨by omega, by omega⟩) (by first | assumption | exact ⟨by omega, by omega⟩) (fun c5 => ?_) (fun c5 => ?_)
    · refine q_aload_n eX12_laysModulus_21 rfl ?_
      refine q_getfield eX12_laysModulus_22 gf_X12_31 (hK _ (by decide) (by decide)) (by decide) (mr_44_7 hX) ?_
      refine q_aload_n eX12_laysModulus_25 rfl ?_
      refine q_getfield eX12_laysModulus_26 gf_X12_19 (hK _ (by decide) (by decide)) (by decide) (by first | assumption) ?_
      refine q_iconst eX12_laysModulus_29 ?_
      refine q_iast eX12_laysModulus_30 (hK _ (by decide) (by decide)) (by omega) (by omega) ?_
      refine q_aload_n eX12_laysModulus_31 rfl ?_
      refine q_getfield eX12_laysModulus_32 gf_X12_19 (hK _ (by decide) (by decide)) (by decide) (by first | assumption) ?_
      refine q_iconst eX12_laysModulus_35 ?_
      refine q_icmp_ne (tgt := 40) eX12_laysModulus_36 (by decide) (by first | assumption | exact ⟨by omega, by omega⟩) (by first | assumption | exact ⟨by omega, by omega⟩) (fun c36 => ?_) (fun c36 => ?_)
      · refine q_iconst eX12_laysModulus_40 ?_
        refine q_istore_n eX12_laysModulus_41 (by decide) rfl ?_
        exact lp_lm1 hK hX hn hp he hr hm hq hp2 hp7 he1 he4 hr1 hr6 hm2 hpm hN4 hq3 hlo (by omega) (hlo1 (by omega)) hlo0 lo 0 _ _ _ _ _ (by omega) hoU (up2_eq _ _ _ _)
      · refine q_retV eX12_laysModulus_39 rfl (by decide) (by decide) ?_
        refine ⟨rfl, rfl, ⟨Nat.le_refl _, fun b hb => rfl⟩, hoU, fun j hj => ?_⟩
        show up2 A 45 r 1 45 j = _
        have er : r = 1 := by omega
        rw [up2_at]
        unfold mdM
        split
        · rfl
        · first
          | (rw [if_pos er]; exact h1 j (by omega))
          | exact h1 j (by omega)
    · exact absurd c5 (by omega)
  | succ k ih =>
    intro i A l2 l3 l4 l5 hi ho h1
    refine q_iload_n eX12_laysModulus_2 rfl ?_
    refine q_bipush eX12_laysModulus_3 (by decide +kernel) ?_
    refine q_icmp_ge (tgt := 21) eX12_laysModulus_5 (by decide) (by first | assumption | exact ⟨by omega, by omega⟩) (by first | assumption | exact ⟨by omega, by omega⟩) (fun c5 => ?_) (fun c5 => ?_)
    · exact absurd c5 (by omega)
    · refine q_aload_n eX12_laysModulus_8 rfl ?_
      refine q_getfield eX12_laysModulus_9 gf_X12_31 (hK _ (by decide) (by decide)) (by decide) (mr_44_7 hX) ?_
      refine q_iload_n eX12_laysModulus_12 rfl ?_
      refine q_iconst eX12_laysModulus_13 ?_
      refine q_iast eX12_laysModulus_14 (hK _ (by decide) (by decide)) (by omega) (by omega) ?_
      refine q_iinc eX12_laysModulus_15 rfl (by decide) rfl ?_
      refine q_goto (tgt := 2) eX12_laysModulus_18 (by decide) ?_
      refine ih (i + 1) _ _ _ _ _ (by omega) (ho.trans ((Off.up (l := [45]) (by simp)).n (by simp))) (fun j hj => ?_)
      rw [up2_at]
      split
      · rfl
      · next hne => exact h1 j (by have : j ≠ i := hne; omega)
set_option maxRecDepth 20000 in
theorem mo_laysModulus {p e r q lo : Nat} {m : Int} {F : HF} {A : HA} {K : Nat → Nat × Nat} {n : Nat} (hK : KM (K, n)) (hX : MR F) (hn : 67 ≤ n) (hp : F 44 1 = vI p) (he : F 44 2 = vI e) (hr : F 44 3 = vI r) (hm : F 44 4 = vI m) (hq : F 44 5 = vI q) (hp2 : 2 ≤ p) (hp7 : p ≤ 7) (he1 : 1 ≤ e) (he4 : e ≤ 4) (hr1 : 1 ≤ r) (hr6 : r ≤ 6) (hm2 : 2 ≤ m) (hpm : (p : Int) ≤ m) (hN4 : m ^ r ≤ 4096) (hq3 : q ≤ 4096) (hlo : lo < 4096) (hlo1 : 2 ≤ r → ipMO p r lo r 1 = true) (hlo0 : ∀ l : Nat, l < lo → ¬ ipMO p r l r 1 = true) : QE 4 1 7 mX12_laysModulus [vA 44] F A (K, n) (PLM p e r q m lo F A (K, n)) := by
  refine QE.mk (by decide +kernel) (Nat.le_of_ble_eq_true rfl) ?_
  refine q_iconst eX12_laysModulus_0 ?_
  refine q_istore_n eX12_laysModulus_1 (by decide) rfl ?_
  exact lp_lm0 hK hX hn hp he hr hm hq hp2 hp7 he1 he4 hr1 hr6 hm2 hpm hN4 hq3 hlo hlo1 hlo0 7 0 A _ _ _ _ (by omega) (fun b _ _ => rfl) (fun j hj => by omega)
