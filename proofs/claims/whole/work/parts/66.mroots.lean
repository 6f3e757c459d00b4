/-! the model: generators, the tables -/
def doM : Nat → Nat → Nat → Nat
  | 0, l, _ => l
  | k + 1, l, b => if l % b = 0 then doM k (l / b) b else l
theorem doM_spec {b : Nat} (hb : 2 ≤ b) : ∀ (k l : Nat), l ≤ k → 1 ≤ l → 1 ≤ doM k l b ∧ doM k l b ∣ l ∧ doM k l b % b ≠ 0
  | 0, l, h1, h2 => by omega
  | k + 1, l, h1, h2 => by
    unfold doM
    by_cases h : l % b = 0
    · rw [if_pos h]
      have hd : b ∣ l := Nat.dvd_of_mod_eq_zero h
      have h3 : l / b < l := Nat.div_lt_self (by omega) (by omega)
      have h4 : 1 ≤ l / b := Nat.div_pos (Nat.le_of_dvd (by omega) hd) (by omega)
      obtain ⟨g1, g2, g3⟩ := doM_spec hb k (l / b) (by omega) h4
      exact ⟨g1, Nat.dvd_trans g2 (Nat.div_dvd_of_dvd hd), g3⟩
    · rw [if_neg h]
      exact ⟨h2, Nat.dvd_refl _, h⟩
def igM (P : Nat → Bool) : Nat → Nat → Nat → Bool
  | 0, _, _ => true
  | k + 1, l, b => if l ≤ 1 then true else if l % b ≠ 0 then igM P k l (b + 1) else if P b = true then false else igM P k (doM l l b) (b + 1)
theorem igM_small {P : Nat → Bool} {l b : Nat} (h : l ≤ 1) : ∀ k, igM P k l b = true
  | 0 => rfl
  | k + 1 => if_pos h
def igP (m : Int) (r q : Nat) (f : Nat → Int) (x : Int) : Nat → Bool := fun c => decide (pw m r f x ((q - 1) / c) = 1)
def igE (m : Int) (r q : Nat) (f : Nat → Int) (x : Int) : Bool := igM (igP m r q f x) q (q - 1) 2
set_option maxRecDepth 20000 in
theorem lp_ig2 {m : Int} {r : Nat} {f : Nat → Int} {x : Int} {q : Nat} {F : HF} {A0 : HA} {al : AL} (hK : KM al) (hX : MR F) (hG0 : GM m r f F A0) (hx : El m r x) (hq : F 44 5 = vI q) (hq2 : 2 ≤ q) (hq4 : q ≤ 4096) {R : Bool} {b : Nat} {A : HA} (hb : 2 ≤ b) (hb4 : b ≤ 4096) {l2 : Nat} (out : QW mX12_isGenerator 4 0 0 (PQ (if R = true then 1 else 0) F al (fun A2 => Off [51, 52, 53] A0 A2)) 0 0 56 [some (vA 44), some (vI x), some (vI l2), some (vI b)] [] F A al) : ∀ (k l : Nat), l ≤ k → 1 ≤ l → l ≤ 4096 → doM k l b = l2 →
    QW mX12_isGenerator 4 0 0 (PQ (if R = true then 1 else 0) F al (fun A2 => Off [51, 52, 53] A0 A2)) 0 0 43 [some (vA 44), some (vI x), some (vI l), some (vI b)] [] F A al := by
  intro k
  induction k with
  | zero =>
    intro l h1 h2
    omega
  | succ k ih =>
    intro l h1 h2 h3 h4
    have em : (l : Int) % (b : Int) = ((l % b : Nat) : Int) := by simp
    have ed : (l : Int) / (b : Int) = ((l / b : Nat) : Int) := by simp
    have hml : l % b ≤ l := Nat.mod_le _ _
    unfold doM at h4
    refine q_iload_n eX12_isGenerator_43 rfl ?_
    refine q_iload_n eX12_isGenerator_44 rfl ?_
    refine q_irem eX12_isGenerator_45 (by omega) (by omega) (by omega) (by omega) ?_
    rw [em]
    refine q_if_ne (tgt := 56) eX12_isGenerator_46 (by decide) (by first | assumption | exact ⟨by omega, by omega⟩) (fun c46 => ?_) (fun c46 => ?_)
    · rw [if_neg (by omega)] at h4
      rw [h4]
      exact out
    · refine q_iload_n eX12_isGenerator_49 rfl ?_
      refine q_iload_n eX12_isGenerator_50 rfl ?_
      refine q_idiv eX12_isGenerator_51 (by omega) (by omega) (by omega) (by omega) ?_
      rw [ed]
      refine q_istore_n eX12_isGenerator_52 (by decide) rfl ?_
      refine q_goto (tgt := 43) eX12_isGenerator_53 (by decide) ?_
      have h5 : l % b = 0 := by omega
      rw [if_pos h5] at h4
      have hd : b ∣ l := Nat.dvd_of_mod_eq_zero h5
      have h6 : l / b < l := Nat.div_lt_self (by omega) (by omega)
      have h7 : 1 ≤ l / b := Nat.div_pos (Nat.le_of_dvd (by omega) hd) (by omega)
      exact ih (l / b) (by omega) h7 (by omega) h4
set_option maxRecDepth 20000 in
theorem lp_ig1 {m : Int} {r : Nat} {f : Nat → Int} {x : Int} {q : Nat} {F : HF} {A0 : HA} {al : AL} (hK : KM al) (hX : MR F) (hG0 : GM m r f F A0) (hx : El m r x) (hq : F 44 5 = vI q) (hq2 : 2 ≤ q) (hq4 : q ≤ 4096) {R : Bool} : ∀ (k l b : Nat) (A : HA), Off [51, 52, 53] A0 A → q ≤ b + k → 2 ≤ b → 1 ≤ l → l < q → (∀ c, 2 ≤ c → c < b → l % c ≠ 0) → igM (igP m r q f x) k l b = R →
    QW mX12_isGenerator 4 0 0 (PQ (if R = true then 1 else 0) F al (fun A2 => Off [51, 52, 53] A0 A2)) 0 0 9 [some (vA 44), some (vI x), some (vI l), some (vI b)] [] F A al := by
  obtain ⟨hm, hr, hf, hm2, hr1, hr6, hN4⟩ := id hG0
  have hm4 := hG0.m4
  intro k
  induction k with
  | zero =>
    intro l b A ho hk hb h1 h2 hc hR
    have hl1 : ¬ 1 < l := fun h => hc l h (by omega) (Nat.mod_self l)
    have hRt : R = true := hR.symm
    refine q_iload_n eX12_isGenerator_9 rfl ?_
    refine q_iconst eX12_isGenerator_10 ?_
    refine q_icmp_le (tgt := 62) eX12_isGenerator_11 (by decide) (by first | assumption | exact ⟨by omega, by omega⟩) (by first | assumption | exact ⟨by omega, by omega⟩) (fun c11 => ?_) (fun c11 => ?_)
    · refine q_iconst eX12_isGenerator_62 ?_
      refine q_retZ eX12_isGenerator_63 rfl (by first | exact Or.inl rfl | exact Or.inr rfl | assumption) (by decide) (by decide) ?_
      exact ⟨by rw [if_pos hRt], rfl, rfl, ho⟩
    · exact absurd c11 (by omega)
  | succ k ih =>
    intro l b A ho hk hb h1 h2 hc hR
    have em : (l : Int) % (b : Int) = ((l % b : Nat) : Int) := by simp
    have hml : l % b ≤ l := Nat.mod_le _ _
    have hbl : 1 < l → b ≤ l := fun h => by
      rcases Nat.lt_or_ge l b with h3 | h3
      · exact absurd (Nat.mod_self l) (hc l h h3)
      · exact h3
    have ed : ((q : Int) - 1) / (b : Int) = (((q - 1) / b : Nat) : Int) := by rw [show (q : Int) - 1 = ((q - 1 : Nat) : Int) by omega]; simp
    have hdq : (q - 1) / b ≤ q - 1 := Nat.div_le_self _ _
    have hdq0 : (0 : Int) ≤ (((q - 1) / b : Nat) : Int) := Int.natCast_nonneg _
    have hG1 := hG0.off ho (by decide)
    have hpe := pw_el (f := f) hm2 hr1 x ((q - 1) / b)
    have hpl := hpe.lt hN4
    have hstep : igM (igP m r q f x) (k + 1) l b = if l ≤ 1 then true else if l % b ≠ 0 then igM (igP m r q f x) k l (b + 1) else if igP m r q f x b = true then false else igM (igP m r q f x) k (doM l l b) (b + 1) := rfl
    rw [hstep] at hR
    refine q_iload_n eX12_isGenerator_9 rfl ?_
    refine q_iconst eX12_isGenerator_10 ?_
    refine q_icmp_le (tgt := 62) eX12_isGenerator_11 (by decide) (by first | assumption | exact ⟨by omega, by omega⟩) (by first | assumption | exact ⟨by omega, by omega⟩) (fun c11 => ?_) (fun c11 => ?_)
    · refine q_iconst eX12_isGenerator_62 ?_
      refine q_retZ eX12_isGenerator_63 rfl (by first | exact Or.inl rfl | exact Or.inr rfl | assumption) (by decide) (by decide) ?_
      exact ⟨by rw [if_pos (show R = true from by rw [← hR, if_pos (show l ≤ 1 by omega)])], rfl, rfl, ho⟩
    · refine q_iload_n eX12_isGenerator_14 rfl ?_
      refine q_iload_n eX12_isGenerator_15 rfl ?_
      refine q_irem eX12_isGenerator_16 (by omega) (by omega) (by omega) (by omega) ?_
      rw [em]
      refine q_if_eq (tgt := 23) eX12_isGenerator_17 (by decide) (by first | assumption | exact ⟨by omega, by omega⟩) (fun c17 => ?_) (fun c17 => ?_)
      · refine q_aload_n eX12_isGenerator_23 rfl ?_
        refine q_iload_n eX12_isGenerator_24 rfl ?_
        refine q_aload_n eX12_isGenerator_25 rfl ?_
        refine q_getfield eX12_isGenerator_26 gf_X12_25 (hK _ (by decide) (by decide)) (by decide) (by first | assumption) ?_
        refine q_iconst eX12_isGenerator_29 ?_
        refine q_isub eX12_isGenerator_30 ?_
        refine q_iload_n eX12_isGenerator_31 rfl ?_
        refine q_idiv eX12_isGenerator_32 (by omega) (by omega) (by omega) (by omega) ?_
        rw [ed]
        refine q_i2l eX12_isGenerator_33 (by first | assumption | exact ⟨by omega, by omega⟩) ?_
        refine q_callVQ [vI x, vJ ((q - 1) / b : Nat)] (M1 := mX12_raised) eX12_isGenerator_34 mf_X12_raised lk_X12_147 (hK _ (by decide) (by decide)) (mo_raised hK hX hG1 hx (by omega)) (by decide) (by decide) (by decide) (Nat.le_of_ble_eq_true rfl) rfl (fun A3 h3 => ?_)
        refine q_iconst eX12_isGenerator_37 ?_
        refine q_icmp_ne (tgt := 43) eX12_isGenerator_38 (by decide) (by first | assumption | exact ⟨by omega, by omega⟩) (by first | assumption | exact ⟨by omega, by omega⟩) (fun c38 => ?_) (fun c38 => ?_)
        · obtain ⟨g1, g2, g3⟩ := doM_spec hb l l (Nat.le_refl _) h1
          refine lp_ig2 hK hX hG0 hx hq hq2 hq4 (R := R) (l2 := doM l l b) hb (by have := hbl (by omega); omega) ?_ l l (Nat.le_refl _) h1 (by omega) rfl
          refine q_iinc eX12_isGenerator_56 rfl (by decide) rfl ?_
          refine q_goto (tgt := 9) eX12_isGenerator_59 (by decide) ?_
          refine ih (doM l l b) (b + 1) A3 (ho.trans h3) (by omega) (by omega) g1 (by have := Nat.le_of_dvd (by omega) g2; omega) (fun c hc1 hc2 hc3 => ?_) ?_
          · by_cases he : c = b
            · rw [he] at hc3; exact g3 hc3
            · exact hc c hc1 (by omega) (Nat.mod_eq_zero_of_dvd (Nat.dvd_trans (Nat.dvd_of_mod_eq_zero hc3) g2))
          · rw [if_neg (show ¬ l ≤ 1 by omega), if_neg (by omega), if_neg (show ¬ igP m r q f x b = true from fun h => c38 (of_decide_eq_true h))] at hR
            exact hR
        · refine q_iconst eX12_isGenerator_41 ?_
          refine q_retZ eX12_isGenerator_42 rfl (by first | exact Or.inl rfl | exact Or.inr rfl | assumption) (by decide) (by decide) ?_
          have hf : R = false := by rw [← hR, if_neg (show ¬ l ≤ 1 by omega), if_neg (by omega), if_pos (show igP m r q f x b = true from decide_eq_true c38)]
          exact ⟨by rw [hf]; rfl, rfl, rfl, ho.trans h3⟩
      · refine q_goto (tgt := 56) eX12_isGenerator_20 (by decide) ?_
        refine q_iinc eX12_isGenerator_56 rfl (by decide) rfl ?_
        refine q_goto (tgt := 9) eX12_isGenerator_59 (by decide) ?_
        refine ih l (b + 1) A ho (by omega) (by omega) h1 h2 (fun c hc1 hc2 => ?_) ?_
        · by_cases he : c = b
          · rw [he]; omega
          · exact hc c hc1 (by omega)
        · rw [if_neg (show ¬ l ≤ 1 by omega), if_pos (by omega)] at hR
          exact hR
set_option maxRecDepth 20000 in
theorem mo_isGen {m : Int} {r : Nat} {f : Nat → Int} {x : Int} {q : Nat} {F : HF} {A : HA} {al : AL} (hK : KM al) (hX : MR F) (hG0 : GM m r f F A) (hx : El m r x) (hq : F 44 5 = vI q) (hq2 : 2 ≤ q) (hq4 : q ≤ 4096)  : QE 4 0 0 mX12_isGenerator [vA 44, vI x] F A al ((PQ (if igE m r q f x = true then 1 else 0) F al (fun A2 => Off [51, 52, 53] A A2))) := by
  refine QE.mk (by decide +kernel) (Nat.le_of_ble_eq_true rfl) ?_
  refine q_aload_n eX12_isGenerator_0 rfl ?_
  refine q_getfield eX12_isGenerator_1 gf_X12_25 (hK _ (by decide) (by decide)) (by decide) (by first | assumption) ?_
  refine q_iconst eX12_isGenerator_4 ?_
  refine q_isub eX12_isGenerator_5 ?_
  refine q_istore_n eX12_isGenerator_6 (by decide) rfl ?_
  refine q_iconst eX12_isGenerator_7 ?_
  refine q_istore_n eX12_isGenerator_8 (by decide) rfl ?_
  rw [show (q : Int) - 1 = ((q - 1 : Nat) : Int) by omega]
  exact lp_ig1 hK hX hG0 hx hq hq2 hq4 q (q - 1) 2 A Off.rfl' (by omega) (by decide) (by omega) (by omega) (fun c h1 h2 => by omega) rfl
def rcM (m : Int) (r q : Nat) (f : Nat → Int) (x : Int) : Nat → Int
  | 0 => x
  | k + 1 => pw m r f (rcM m r q f x k) q
theorem rcM_el {m : Int} {r q : Nat} {f : Nat → Int} {x : Int} (hm : 2 ≤ m) (hr : 0 < r) (hx : El m r x) : ∀ k, El m r (rcM m r q f x k)
  | 0 => hx
  | _ + 1 => pw_el hm hr _ _
theorem rcM_pw {m : Int} {r q : Nat} {f : Nat → Int} {x : Int} (hm : 2 ≤ m) (hr : 0 < r) (hx : El m r x) : ∀ k, rcM m r q f x k = pw m r f x (q ^ k)
  | 0 => (pw_one hm hr hx).symm
  | k + 1 => by
    show pw m r f (rcM m r q f x k) q = _
    rw [rcM_pw hm hr hx k, Nat.pow_succ, pw_mul hm hr hx]
def gnM (p e r q : Nat) (m : Int) (f : Nat → Int) : Nat → Int
  | 0 => 4096
  | b + 1 => if tcE p e r q m f (b + 1) < gnM p e r q m f b ∧ igE m r q f (tcE p e r q m f (b + 1)) = true then tcE p e r q m f (b + 1) else gnM p e r q m f b
theorem li_el {p r : Nat} {m b : Int} (hm : 0 < m) : El m r (liE p r m b) := un_range hm _ _
theorem li_sum {p r : Nat} {m b : Int} (hp : 0 < p) (hpm : (p : Int) ≤ m) : liE p r m b = sm r (fun i => dg p i b * m ^ i) := by
  unfold liE
  rw [un_sm]
  apply sm_congr
  intro i _
  have h := dg_range (m := (p : Int)) (by omega) i b
  rw [Int.emod_eq_of_lt h.1 (by omega)]
set_option maxRecDepth 20000 in
theorem lp_lr3 {p e r q : Nat} {m : Int} {f : Nat → Int} {F : HF} {A0 : HA} {al : AL} (hK : KM al) (hX : MR F) (hG0 : GM m r f F A0) (hp : F 44 1 = vI p) (he : F 44 2 = vI e) (hq : F 44 5 = vI q) (hp2 : 2 ≤ p) (hp7 : p ≤ 7) (he1 : 1 ≤ e) (he4 : e ≤ 4) (hpm : (p : Int) ≤ m) (hq2 : 2 ≤ q) (hq4 : q ≤ 3125) (hqe : q = p ^ r) {g : Int} (hg : g = gnM p e r q m f (q - 1)) (hgE : El m r g) (hlg0 : lgE p r m f g (q - 1) 0 = -1) (hlg : ∀ j, 1 ≤ j → j < q → lgE p r m f g (q - 1) j ≠ -1) {l3 l4 l5 : Option LV} : ∀ (s k : Nat) (A : HA), k + s = q - 1 → Off [46, 47, 48, 51, 52, 53] A0 A → (∀ j, j < k → A 48 j = pw m r f g j) → (∀ j, j < q → lgE p r m f g k j ≠ -1 → A 47 j = lgE p r m f g k j) → (∀ j, j < q → A 46 j = tcE p e r q m f j) →
    QW mX12_laysRoots 5 0 0 (fun o F' A' al' => o = .inl none ∧ F' = up2 F 44 11 (vI g) ∧ al' = al ∧ Off [46, 47, 48, 51, 52, 53] A0 A' ∧ (∀ k, k + 1 < q → A' 48 k = pw m r f g k) ∧ (∀ j, j < q → A' 47 j = lgE p r m f g (q - 1) j) ∧ ∀ j, j < q → A' 46 j = tcE p e r q m f j) 0 0 168 [some (vA 44), some (vI (pw m r f g k)), some (vI k), l3, l4, l5] [] (up2 F 44 11 (vI g)) A al := by
  obtain ⟨hm, hr, hf, hm2, hr1, hr6, hN4⟩ := id hG0
  have hm4 := hG0.m4
  have hX1 : MR (up2 F 44 11 (vI g)) := hX.up (by decide)
  have hp' : up2 F 44 11 (vI g) 44 1 = vI p := (up2_ne (by decide)).trans hp
  have hq' : up2 F 44 11 (vI g) 44 5 = vI q := (up2_ne (by decide)).trans hq
  have hm' : up2 F 44 11 (vI g) 44 4 = vI m := (up2_ne (by decide)).trans hm
  have hr' : up2 F 44 11 (vI g) 44 3 = vI r := (up2_ne (by decide)).trans hr
  have hg' : up2 F 44 11 (vI g) 44 11 = vI g := up2_eq _ _ _ _
  intro s
  induction s with
  | zero =>
    intro k A hk ho h1 h2 h3
    have ek : k = q - 1 := by omega
    subst ek
    refine q_iload_n eX12_laysRoots_168 rfl ?_
    refine q_aload_n eX12_laysRoots_169 rfl ?_
    refine q_getfield eX12_laysRoots_170 gf_X12_25 (hK _ (by decide) (by decide)) (by decide) (by first | assumption) ?_
    refine q_iconst eX12_laysRoots_173 ?_
    refine q_isub eX12_laysRoots_174 ?_
    refine q_icmp_ge (tgt := 212) eX12_laysRoots_175 (by decide) (by first | assumption | exact ⟨by omega, by omega⟩) (by first | assumption | exact ⟨by omega, by omega⟩) (fun c175 => ?_) (fun c175 => ?_)
    · refine q_aload_n eX12_laysRoots_212 rfl ?_
      refine q_getfield eX12_laysRoots_213 gf_X12_38 (hK _ (by decide) (by decide)) (by decide) (mr_44_9 hX1) ?_
      refine q_iconst eX12_laysRoots_216 ?_
      refine q_iconst eX12_laysRoots_217 ?_
      refine q_iast eX12_laysRoots_218 (hK _ (by decide) (by decide)) (by omega) (by omega) ?_
      refine q_retV eX12_laysRoots_219 rfl (by decide) (by decide) ?_
      refine ⟨rfl, rfl, rfl, ho.trans (Off.up (by simp)), fun j hj => ?_, fun j hj => ?_, fun j hj => ?_⟩
      · rw [up2_row (by decide)]; exact h1 j (by omega)
      · show up2 A 47 0 (-1) 47 j = _
        rw [up2_at]
        split
        · next h0 => rw [h0]; exact hlg0.symm
        · next h0 => exact h2 j hj (hlg j (by omega) hj)
      · rw [up2_row (by decide)]; exact h3 j hj
    · exact absurd c175 (by omega)
  | succ s ih =>
    intro k A hk ho h1 h2 h3
    have hpe := pw_el (f := f) hm2 hr1 g k
    have hpl := hpe.lt hN4
    have hlt : low p r m (pw m r f g k) < q := by rw [hqe]; exact low_lt (show 0 < p by omega)
    have hG1 : GM m r f (up2 F 44 11 (vI g)) A := (hG0.off ho (by decide)).row (up2_ne (by decide)) (up2_ne (by decide))
    have hG2 := (hG1.off (Off.up (l := [48]) (a := 48) (i := k) (v := pw m r f g k) (by simp)) (by decide)).off (Off.up (l := [47]) (a := 47) (i := low p r m (pw m r f g k)) (v := (k : Int)) (by simp)) (by decide)
    refine q_iload_n eX12_laysRoots_168 rfl ?_
    refine q_aload_n eX12_laysRoots_169 rfl ?_
    refine q_getfield eX12_laysRoots_170 gf_X12_25 (hK _ (by decide) (by decide)) (by decide) (by first | assumption) ?_
    refine q_iconst eX12_laysRoots_173 ?_
    refine q_isub eX12_laysRoots_174 ?_
    refine q_icmp_ge (tgt := 212) eX12_laysRoots_175 (by decide) (by first | assumption | exact ⟨by omega, by omega⟩) (by first | assumption | exact ⟨by omega, by omega⟩) (fun c175 => ?_) (fun c175 => ?_)
    · exact absurd c175 (by omega)
    · refine q_aload_n eX12_laysRoots_178 rfl ?_
      refine q_getfield eX12_laysRoots_179 gf_X12_41 (hK _ (by decide) (by decide)) (by decide) (mr_44_10 hX1) ?_
      refine q_iload_n eX12_laysRoots_182 rfl ?_
      refine q_iload_n eX12_laysRoots_183 rfl ?_
      refine q_iast eX12_laysRoots_184 (hK _ (by decide) (by decide)) (by omega) (by omega) ?_
      refine q_aload_n eX12_laysRoots_185 rfl ?_
      refine q_getfield eX12_laysRoots_186 gf_X12_38 (hK _ (by decide) (by decide)) (by decide) (mr_44_9 hX1) ?_
      refine q_aload_n eX12_laysRoots_189 rfl ?_
      refine q_iload_n eX12_laysRoots_190 rfl ?_
      refine q_callVP [vI (pw m r f g k)] (M1 := mX12_lowOf) eX12_laysRoots_191 mf_X12_lowOf lk_X12_139 (hK _ (by decide) (by decide)) (mo_lowOf hK hm' hr' hp' hp2 hp7 hm2 (by omega) hpe.1 (by omega) hr6) (by decide) (by decide) (by decide) (Nat.le_of_ble_eq_true rfl) rfl ?_
      refine q_iload_n eX12_laysRoots_194 rfl ?_
      refine q_iast eX12_laysRoots_195 (hK _ (by decide) (by decide)) (by omega) (by omega) ?_
      refine q_aload_n eX12_laysRoots_196 rfl ?_
      refine q_iload_n eX12_laysRoots_197 rfl ?_
      refine q_aload_n eX12_laysRoots_198 rfl ?_
      refine q_getfield eX12_laysRoots_199 gf_X12_179 (hK _ (by decide) (by decide)) (by decide) (by first | assumption) ?_
      refine q_callVQ [vI (pw m r f g k), vI g] (M1 := mX12_times) eX12_laysRoots_202 mf_X12_times lk_X12_132 (hK _ (by decide) (by decide)) (mo_times hK hX1 hG2 hpe hgE) (by decide) (by decide) (by decide) (Nat.le_of_ble_eq_true rfl) rfl (fun A3 h3_ => ?_)
      refine q_istore_n eX12_laysRoots_205 (by decide) rfl ?_
      refine q_iinc eX12_laysRoots_206 rfl (by decide) rfl ?_
      refine q_goto (tgt := 168) eX12_laysRoots_209 (by decide) ?_
      refine ih (k + 1) A3 (by omega) (((ho.trans (Off.up (by simp))).trans (Off.up (by simp))).trans (h3_.mono (by simp))) (fun j hj => ?_) (fun j hj hne => ?_) (fun j hj => ?_)
      · rw [h3_ 48 (by decide), up2_row (by decide), up2_at]
        split
        · next he => rw [show j = k from he]
        · next hne => exact h1 j (by have : j ≠ k := hne; omega)
      · rw [h3_ 47 (by decide), up2_at]
        unfold lgE at hne ⊢
        by_cases he : j = low p r m (pw m r f g k)
        · rw [if_pos he, if_pos he]
        · rw [if_neg he] at hne ⊢
          rw [if_neg he, up2_row (by decide)]
          exact h2 j hj hne
      · rw [h3_ 46 (by decide), up2_row (by decide), up2_row (by decide)]
        exact h3 j hj
theorem gnM_range {p e r q : Nat} {m : Int} {f : Nat → Int} (hm : 2 ≤ m) (hr : 1 ≤ r) (hN : m ^ r ≤ 4096) : ∀ b, 0 ≤ gnM p e r q m f b ∧ gnM p e r q m f b ≤ 4096
  | 0 => ⟨by show (0 : Int) ≤ 4096; decide, by show (4096 : Int) ≤ 4096; decide⟩
  | b + 1 => by
    have h := gnM_range (p := p) (e := e) (q := q) (f := f) hm hr hN b
    have h2 := (tc_el (p := p) (e := e) (q := q) (f := f) hm hr (b + 1)).lt hN
    unfold gnM
    split
    · omega
    · exact h
set_option maxRecDepth 20000 in
theorem lp_lr2 {p e r q : Nat} {m : Int} {f : Nat → Int} {F : HF} {A0 : HA} {al : AL} (hK : KM al) (hX : MR F) (hG0 : GM m r f F A0) (hp : F 44 1 = vI p) (he : F 44 2 = vI e) (hq : F 44 5 = vI q) (hp2 : 2 ≤ p) (hp7 : p ≤ 7) (he1 : 1 ≤ e) (he4 : e ≤ 4) (hpm : (p : Int) ≤ m) (hq2 : 2 ≤ q) (hq4 : q ≤ 3125) (hqe : q = p ^ r) {g : Int} (hg : g = gnM p e r q m f (q - 1)) (hgE : El m r g) (hlg0 : lgE p r m f g (q - 1) 0 = -1) (hlg : ∀ j, 1 ≤ j → j < q → lgE p r m f g (q - 1) j ≠ -1) {l2 l3 l4 l5 : Option LV} : ∀ (s b : Nat) (A : HA), b + s = q → 1 ≤ b → Off [46, 47, 48, 51, 52, 53] A0 A → (∀ j, j < q → A 46 j = tcE p e r q m f j) →
    QW mX12_laysRoots 5 0 0 (fun o F' A' al' => o = .inl none ∧ F' = up2 F 44 11 (vI g) ∧ al' = al ∧ Off [46, 47, 48, 51, 52, 53] A0 A' ∧ (∀ k, k + 1 < q → A' 48 k = pw m r f g k) ∧ (∀ j, j < q → A' 47 j = lgE p r m f g (q - 1) j) ∧ ∀ j, j < q → A' 46 j = tcE p e r q m f j) 0 0 114 [some (vA 44), some (vI b), l2, l3, l4, l5] [] (up2 F 44 11 (vI (gnM p e r q m f (b - 1)))) A al := by
  obtain ⟨hm, hr, hf, hm2, hr1, hr6, hN4⟩ := id hG0
  have hm4 := hG0.m4
  intro s
  induction s with
  | zero =>
    intro b A hb hb1 ho h3
    have eb : b = q := by omega
    subst eb
    rw [← hg]
    have hX1 : MR (up2 F 44 11 (vI g)) := hX.up (by decide)
    have hq' : up2 F 44 11 (vI g) 44 5 = vI b := (up2_ne (by decide)).trans hq
    refine q_iload_n eX12_laysRoots_114 rfl ?_
    refine q_aload_n eX12_laysRoots_115 rfl ?_
    refine q_getfield eX12_laysRoots_116 gf_X12_25 (hK _ (by decide) (by decide)) (by decide) (by first | assumption) ?_
    refine q_icmp_ge (tgt := 164) eX12_laysRoots_119 (by decide) (by first | assumption | exact ⟨by omega, by omega⟩) (by first | assumption | exact ⟨by omega, by omega⟩) (fun c119 => ?_) (fun c119 => ?_)
    · refine q_iconst eX12_laysRoots_164 ?_
      refine q_istore_n eX12_laysRoots_165 (by decide) rfl ?_
      refine q_iconst eX12_laysRoots_166 ?_
      refine q_istore_n eX12_laysRoots_167 (by decide) rfl ?_
      exact lp_lr3 hK hX hG0 hp he hq hp2 hp7 he1 he4 hpm hq2 hq4 hqe hg hgE hlg0 hlg (b - 1) 0 A (by omega) ho (fun j hj => by omega) (fun j hj h => absurd rfl h) h3
    · exact absurd c119 (by omega)
  | succ s ih =>
    intro b A hb hb1 ho h3
    obtain ⟨c, rfl⟩ : ∃ c, b = c + 1 := ⟨b - 1, by omega⟩
    have e1 : c + 1 - 1 = c := rfl
    rw [e1]
    generalize hgc : gnM p e r q m f c = gc
    have hgcr : 0 ≤ gc ∧ gc ≤ 4096 := by rw [← hgc]; exact gnM_range hm2 hr1 hN4 c
    have hX1 : MR (up2 F 44 11 (vI gc)) := hX.up (by decide)
    have hq' : up2 F 44 11 (vI gc) 44 5 = vI q := (up2_ne (by decide)).trans hq
    have hg' : up2 F 44 11 (vI gc) 44 11 = vI gc := up2_eq _ _ _ _
    have hte := tc_el (p := p) (e := e) (q := q) (f := f) hm2 hr1 (c + 1)
    have htl := hte.lt hN4
    have hA46 : A 46 (c + 1) = tcE p e r q m f (c + 1) := h3 _ (by omega)
    have hG1 : GM m r f (up2 F 44 11 (vI gc)) A := (hG0.off ho (by decide)).row (up2_ne (by decide)) (up2_ne (by decide))
    have hs : gnM p e r q m f (c + 1) = if tcE p e r q m f (c + 1) < gc ∧ igE m r q f (tcE p e r q m f (c + 1)) = true then tcE p e r q m f (c + 1) else gc := by rw [← hgc]; rfl
    have hbn := ih (c + 1 + 1)
    refine q_iload_n eX12_laysRoots_114 rfl ?_
    refine q_aload_n eX12_laysRoots_115 rfl ?_
    refine q_getfield eX12_laysRoots_116 gf_X12_25 (hK _ (by decide) (by decide)) (by decide) (by first | assumption) ?_
    refine q_icmp_ge (tgt := 164) eX12_laysRoots_119 (by decide) (by first | assumption | exact ⟨by omega, by omega⟩) (by first | assumption | exact ⟨by omega, by omega⟩) (fun c119 => ?_) (fun c119 => ?_)
    · exact absurd c119 (by omega)
    · refine q_aload_n eX12_laysRoots_122 rfl ?_
      refine q_getfield eX12_laysRoots_123 gf_X12_35 (hK _ (by decide) (by decide)) (by decide) (mr_44_8 hX1) ?_
      refine q_iload_n eX12_laysRoots_126 rfl ?_
      refine q_iald eX12_laysRoots_127 (hK _ (by decide) (by decide)) (by omega) (by omega) ?_
      rw [show A 46 ((c + 1 : Nat) : Int).toNat = tcE p e r q m f (c + 1) from hA46]
      refine q_aload_n eX12_laysRoots_128 rfl ?_
      refine q_getfield eX12_laysRoots_129 gf_X12_179 (hK _ (by decide) (by decide)) (by decide) (by first | assumption) ?_
      refine q_icmp_ge (tgt := 158) eX12_laysRoots_132 (by decide) (by first | assumption | exact ⟨by omega, by omega⟩) (by first | assumption | exact ⟨by omega, by omega⟩) (fun c132 => ?_) (fun c132 => ?_)
      · refine q_iinc eX12_laysRoots_158 rfl (by decide) rfl ?_
        refine q_goto (tgt := 114) eX12_laysRoots_161 (by decide) ?_
        first
        | (rw [show c + 1 + 1 - 1 = c + 1 from rfl, hs, if_neg (by omega)] at hbn
           exact hbn A (by omega) (by omega) ho h3)
        | (rw [show c + 1 + 1 - 1 = c + 1 from rfl, hs, if_neg (fun hc => i0 c145 hc.2)] at hbn
           exact hbn A3 (by omega) (by omega) (ho.trans (h3_.mono (by simp))) (fun j hj => by rw [h3_ 46 (by decide)]; exact h3 j hj))
        | (rw [up2_up2]
           rw [show c + 1 + 1 - 1 = c + 1 from rfl, hs, if_pos ⟨by omega, i1 c145⟩] at hbn
           exact hbn A3 (by omega) (by omega) (ho.trans (h3_.mono (by simp))) (fun j hj => by rw [h3_ 46 (by decide)]; exact h3 j hj))
      · refine q_aload_n eX12_laysRoots_135 rfl ?_
        refine q_aload_n eX12_laysRoots_136 rfl ?_
        refine q_getfield eX12_laysRoots_137 gf_X12_35 (hK _ (by decide) (by decide)) (by decide) (mr_44_8 hX1) ?_
        refine q_iload_n eX12_laysRoots_140 rfl ?_
        refine q_iald eX12_laysRoots_141 (hK _ (by decide) (by decide)) (by omega) (by omega) ?_
        rw [show A 46 ((c + 1 : Nat) : Int).toNat = tcE p e r q m f (c + 1) from hA46]
        refine q_callVQ [vI (tcE p e r q m f (c + 1))] (M1 := mX12_isGenerator) eX12_laysRoots_142 mf_X12_isGenerator lk_X12_182 (hK _ (by decide) (by decide)) (mo_isGen hK hX1 hG1 hte hq' hq2 (by omega)) (by decide) (by decide) (by decide) (Nat.le_of_ble_eq_true rfl) rfl (fun A3 h3_ => ?_)
        refine q_if_eq (tgt := 158) eX12_laysRoots_145 (by decide) ir_ite (fun c145 => ?_) (fun c145 => ?_)
        · refine q_iinc eX12_laysRoots_158 rfl (by decide) rfl ?_
          refine q_goto (tgt := 114) eX12_laysRoots_161 (by decide) ?_
          first
          | (rw [show c + 1 + 1 - 1 = c + 1 from rfl, hs, if_neg (by omega)] at hbn
             exact hbn A (by omega) (by omega) ho h3)
          | (rw [show c + 1 + 1 - 1 = c + 1 from rfl, hs, if_neg (fun hc => i0 c145 hc.2)] at hbn
             exact hbn A3 (by omega) (by omega) (ho.trans (h3_.mono (by simp))) (fun j hj => by rw [h3_ 46 (by decide)]; exact h3 j hj))
          | (rw [up2_up2]
             rw [show c + 1 + 1 - 1 = c + 1 from rfl, hs, if_pos ⟨by omega, i1 c145⟩] at hbn
             exact hbn A3 (by omega) (by omega) (ho.trans (h3_.mono (by simp))) (fun j hj => by rw [h3_ 46 (by decide)]; exact h3 j hj))
        · refine q_aload_n eX12_laysRoots_148 rfl ?_
          refine q_aload_n eX12_laysRoots_149 rfl ?_
          refine q_getfield eX12_laysRoots_150 gf_X12_35 (hK _ (by decide) (by decide)) (by decide) (mr_44_8 hX1) ?_
          refine q_iload_n eX12_laysRoots_153 rfl ?_
          refine q_iald eX12_laysRoots_154 (hK _ (by decide) (by decide)) (by omega) (by omega) ?_
          rw [show A3 46 ((c + 1 : Nat) : Int).toNat = tcE p e r q m f (c + 1) from (congrFun (h3_ 46 (by decide)) (c + 1)).trans hA46]
          refine q_putfield eX12_laysRoots_155 pf_X12_179 (hK _ (by decide) (by decide)) (by decide) (FT_i rfl) ?_
          refine q_iinc eX12_laysRoots_158 rfl (by decide) rfl ?_
          refine q_goto (tgt := 114) eX12_laysRoots_161 (by decide) ?_
          first
          | (rw [show c + 1 + 1 - 1 = c + 1 from rfl, hs, if_neg (by omega)] at hbn
             exact hbn A (by omega) (by omega) ho h3)
          | (rw [show c + 1 + 1 - 1 = c + 1 from rfl, hs, if_neg (fun hc => i0 c145 hc.2)] at hbn
             exact hbn A3 (by omega) (by omega) (ho.trans (h3_.mono (by simp))) (fun j hj => by rw [h3_ 46 (by decide)]; exact h3 j hj))
          | (rw [up2_up2]
             rw [show c + 1 + 1 - 1 = c + 1 from rfl, hs, if_pos ⟨by omega, i1 c145⟩] at hbn
             exact hbn A3 (by omega) (by omega) (ho.trans (h3_.mono (by simp))) (fun j hj => by rw [h3_ 46 (by decide)]; exact h3 j hj))
set_option maxRecDepth 20000 in
theorem lp_lr1c {p e r q : Nat} {m : Int} {f : Nat → Int} {F : HF} {A0 : HA} {al : AL} (hK : KM al) (hX : MR F) (hG0 : GM m r f F A0) (hp : F 44 1 = vI p) (he : F 44 2 = vI e) (hq : F 44 5 = vI q) (hp2 : 2 ≤ p) (hp7 : p ≤ 7) (he1 : 1 ≤ e) (he4 : e ≤ 4) (hpm : (p : Int) ≤ m) (hq2 : 2 ≤ q) (hq4 : q ≤ 3125) (hqe : q = p ^ r) {g : Int} (hg : g = gnM p e r q m f (q - 1)) (hgE : El m r g) (hlg0 : lgE p r m f g (q - 1) 0 = -1) (hlg : ∀ j, 1 ≤ j → j < q → lgE p r m f g (q - 1) j ≠ -1) {b : Nat} {l3 : Option LV} {w4 : Int} (hb : b < q) (out : ∀ (A : HA) (l2 l3 l4 l5 : Option LV), Off [46, 47, 48, 51, 52, 53] A0 A → (∀ j, j < b + 1 → A 46 j = tcE p e r q m f j) → QW mX12_laysRoots 5 0 0 (fun o F' A' al' => o = .inl none ∧ F' = up2 F 44 11 (vI g) ∧ al' = al ∧ Off [46, 47, 48, 51, 52, 53] A0 A' ∧ (∀ k, k + 1 < q → A' 48 k = pw m r f g k) ∧ (∀ j, j < q → A' 47 j = lgE p r m f g (q - 1) j) ∧ ∀ j, j < q → A' 46 j = tcE p e r q m f j) 0 0 2 [some (vA 44), some (vI ((b : Int) + 1)), l2, l3, l4, l5] [] F A al) : ∀ (s k : Nat) (A : HA), k + s = e → 1 ≤ k → Off [46, 47, 48, 51, 52, 53] A0 A → (∀ j, j < b → A 46 j = tcE p e r q m f j) →
    QW mX12_laysRoots 5 0 0 (fun o F' A' al' => o = .inl none ∧ F' = up2 F 44 11 (vI g) ∧ al' = al ∧ Off [46, 47, 48, 51, 52, 53] A0 A' ∧ (∀ k, k + 1 < q → A' 48 k = pw m r f g k) ∧ (∀ j, j < q → A' 47 j = lgE p r m f g (q - 1) j) ∧ ∀ j, j < q → A' 46 j = tcE p e r q m f j) 0 0 66 [some (vA 44), some (vI b), some (vI (rcM m r q f (liE p r m b) (k - 1))), l3, some (vI w4), some (vI k)] [] F A al := by
  obtain ⟨hm, hr, hf, hm2, hr1, hr6, hN4⟩ := id hG0
  have hm4 := hG0.m4
  have hli := li_el (p := p) (r := r) (b := (b : Int)) (show 0 < m by omega)
  intro s
  induction s with
  | zero =>
    intro k A hk hk1 ho h3
    have ek : k = e := by omega
    subst ek
    have hrc : rcM m r q f (liE p r m b) (k - 1) = tcE p k r q m f b := rcM_pw hm2 hr1 hli _
    refine q_iload eX12_laysRoots_66 rfl ?_
    refine q_aload_n eX12_laysRoots_68 rfl ?_
    refine q_getfield eX12_laysRoots_69 gf_X12_16 (hK _ (by decide) (by decide)) (by decide) (by first | assumption) ?_
    refine q_icmp_ge (tgt := 92) eX12_laysRoots_72 (by decide) (by first | assumption | exact ⟨by omega, by omega⟩) (by first | assumption | exact ⟨by omega, by omega⟩) (fun c72 => ?_) (fun c72 => ?_)
    · refine q_aload_n eX12_laysRoots_92 rfl ?_
      refine q_getfield eX12_laysRoots_93 gf_X12_35 (hK _ (by decide) (by decide)) (by decide) (mr_44_8 hX) ?_
      refine q_iload_n eX12_laysRoots_96 rfl ?_
      refine q_iload_n eX12_laysRoots_97 rfl ?_
      refine q_iast eX12_laysRoots_98 (hK _ (by decide) (by decide)) (by omega) (by omega) ?_
      refine q_iinc eX12_laysRoots_99 rfl (by decide) rfl ?_
      refine q_goto (tgt := 2) eX12_laysRoots_102 (by decide) ?_
      refine out _ _ _ _ _ (ho.trans (Off.up (by simp))) (fun j hj => ?_)
      rw [up2_at]
      split
      · next he => rw [show j = b from he]; exact hrc
      · next hne => exact h3 j (by have : j ≠ b := hne; omega)
    · exact absurd c72 (by omega)
  | succ s ih =>
    intro k A hk hk1 ho h3
    have hre := rcM_el (q := q) (f := f) hm2 hr1 hli (k - 1)
    have hs : rcM m r q f (liE p r m b) (k + 1 - 1) = pw m r f (rcM m r q f (liE p r m b) (k - 1)) q := by
      obtain ⟨z, rfl⟩ : ∃ z, k = z + 1 := ⟨k - 1, by omega⟩
      rfl
    refine q_iload eX12_laysRoots_66 rfl ?_
    refine q_aload_n eX12_laysRoots_68 rfl ?_
    refine q_getfield eX12_laysRoots_69 gf_X12_16 (hK _ (by decide) (by decide)) (by decide) (by first | assumption) ?_
    refine q_icmp_ge (tgt := 92) eX12_laysRoots_72 (by decide) (by first | assumption | exact ⟨by omega, by omega⟩) (by first | assumption | exact ⟨by omega, by omega⟩) (fun c72 => ?_) (fun c72 => ?_)
    · exact absurd c72 (by omega)
    · refine q_aload_n eX12_laysRoots_75 rfl ?_
      refine q_iload_n eX12_laysRoots_76 rfl ?_
      refine q_aload_n eX12_laysRoots_77 rfl ?_
      refine q_getfield eX12_laysRoots_78 gf_X12_25 (hK _ (by decide) (by decide)) (by decide) (by first | assumption) ?_
      refine q_i2l eX12_laysRoots_81 (by exact ⟨by omega, by omega⟩) ?_
      refine q_callVQ [vI (rcM m r q f (liE p r m b) (k - 1)), vJ q] (M1 := mX12_raised) eX12_laysRoots_82 mf_X12_raised lk_X12_147 (hK _ (by decide) (by decide)) (mo_raised hK hX (hG0.off ho (by decide)) hre (by omega)) (by decide) (by decide) (by decide) (Nat.le_of_ble_eq_true rfl) rfl (fun A4 h4 => ?_)
      refine q_istore_n eX12_laysRoots_85 (by decide) rfl ?_
      refine q_iinc eX12_laysRoots_86 rfl (by decide) rfl ?_
      refine q_goto (tgt := 66) eX12_laysRoots_89 (by decide) ?_
      rw [← hs]
      exact ih (k + 1) A4 (by omega) (by omega) (ho.trans (h4.mono (by simp))) (fun j hj => by rw [h4 46 (by decide)]; exact h3 j hj)
set_option maxRecDepth 20000 in
theorem lp_lr1b {p e r q : Nat} {m : Int} {f : Nat → Int} {F : HF} {A0 : HA} {al : AL} (hK : KM al) (hX : MR F) (hG0 : GM m r f F A0) (hp : F 44 1 = vI p) (he : F 44 2 = vI e) (hq : F 44 5 = vI q) (hp2 : 2 ≤ p) (hp7 : p ≤ 7) (he1 : 1 ≤ e) (he4 : e ≤ 4) (hpm : (p : Int) ≤ m) (hq2 : 2 ≤ q) (hq4 : q ≤ 3125) (hqe : q = p ^ r) {g : Int} (hg : g = gnM p e r q m f (q - 1)) (hgE : El m r g) (hlg0 : lgE p r m f g (q - 1) 0 = -1) (hlg : ∀ j, 1 ≤ j → j < q → lgE p r m f g (q - 1) j ≠ -1) {b : Nat} (hb : b < q) {A : HA} (out : ∀ (l3 : Option LV) (w4 : Int), QW mX12_laysRoots 5 0 0 (fun o F' A' al' => o = .inl none ∧ F' = up2 F 44 11 (vI g) ∧ al' = al ∧ Off [46, 47, 48, 51, 52, 53] A0 A' ∧ (∀ k, k + 1 < q → A' 48 k = pw m r f g k) ∧ (∀ j, j < q → A' 47 j = lgE p r m f g (q - 1) j) ∧ ∀ j, j < q → A' 46 j = tcE p e r q m f j) 0 0 66 [some (vA 44), some (vI b), some (vI (liE p r m b)), l3, some (vI w4), some (vI 1)] [] F A al) : ∀ (s k : Nat) (v2 v3 v4 : Int), v2 = sm k (fun i => dg p i b * m ^ i) → v3 = dv p k b → v4 = m ^ k → k + s = r →
    QW mX12_laysRoots 5 0 0 (fun o F' A' al' => o = .inl none ∧ F' = up2 F 44 11 (vI g) ∧ al' = al ∧ Off [46, 47, 48, 51, 52, 53] A0 A' ∧ (∀ k, k + 1 < q → A' 48 k = pw m r f g k) ∧ (∀ j, j < q → A' 47 j = lgE p r m f g (q - 1) j) ∧ ∀ j, j < q → A' 46 j = tcE p e r q m f j) 0 0 20 [some (vA 44), some (vI b), some (vI v2), some (vI v3), some (vI v4), some (vI k)] [] F A al := by
  obtain ⟨hm, hr, hf, hm2, hr1, hr6, hN4⟩ := id hG0
  have hm4 := hG0.m4
  intro s
  induction s with
  | zero =>
    intro k v2 v3 v4 e2 e3 e4 hk
    subst e2 e3 e4
    have ek : k = r := by omega
    subst ek
    have hls := li_sum (r := k) (b := (b : Int)) (show 0 < p by omega) hpm
    refine q_iload eX12_laysRoots_20 rfl ?_
    refine q_aload_n eX12_laysRoots_22 rfl ?_
    refine q_getfield eX12_laysRoots_23 gf_X12_19 (hK _ (by decide) (by decide)) (by decide) (by first | assumption) ?_
    refine q_icmp_ge (tgt := 63) eX12_laysRoots_26 (by decide) (by first | assumption | exact ⟨by omega, by omega⟩) (by first | assumption | exact ⟨by omega, by omega⟩) (fun c26 => ?_) (fun c26 => ?_)
    · refine q_iconst eX12_laysRoots_63 ?_
      refine q_istore eX12_laysRoots_64 (by decide) rfl ?_
      rw [← hls]
      exact out _ _
    · exact absurd c26 (by omega)
  | succ s ih =>
    intro k v2 v3 v4 e2 e3 e4 hk
    subst e2 e3 e4
    have hd := dv_range (m := (p : Int)) (x := (b : Int)) (by omega) (by omega) k
    have hdd := dv_dg (m := (p : Int)) k (b : Int)
    refine q_iload eX12_laysRoots_20 rfl ?_
    refine q_aload_n eX12_laysRoots_22 rfl ?_
    refine q_getfield eX12_laysRoots_23 gf_X12_19 (hK _ (by decide) (by decide)) (by decide) (by first | assumption) ?_
    refine q_icmp_ge (tgt := 63) eX12_laysRoots_26 (by decide) (by first | assumption | exact ⟨by omega, by omega⟩) (by first | assumption | exact ⟨by omega, by omega⟩) (fun c26 => ?_) (fun c26 => ?_)
    · exact absurd c26 (by omega)
    · refine q_iload_n eX12_laysRoots_29 rfl ?_
      refine q_iload eX12_laysRoots_30 rfl ?_
      refine q_iload_n eX12_laysRoots_32 rfl ?_
      refine q_aload_n eX12_laysRoots_33 rfl ?_
      refine q_getfield eX12_laysRoots_34 gf_X12_13 (hK _ (by decide) (by decide)) (by decide) (by first | assumption) ?_
      refine q_irem eX12_laysRoots_37 (by omega) (by omega) (by omega) (by omega) ?_
      rw [hdd.1]
      refine q_imul eX12_laysRoots_38 ?_
      refine q_iadd eX12_laysRoots_39 ?_
      refine q_istore_n eX12_laysRoots_40 (by decide) rfl ?_
      refine q_iload eX12_laysRoots_41 rfl ?_
      refine q_aload_n eX12_laysRoots_43 rfl ?_
      refine q_getfield eX12_laysRoots_44 gf_X12_22 (hK _ (by decide) (by decide)) (by decide) (by first | assumption) ?_
      refine q_imul eX12_laysRoots_47 ?_
      refine q_istore eX12_laysRoots_48 (by decide) rfl ?_
      refine q_iload_n eX12_laysRoots_50 rfl ?_
      refine q_aload_n eX12_laysRoots_51 rfl ?_
      refine q_getfield eX12_laysRoots_52 gf_X12_13 (hK _ (by decide) (by decide)) (by decide) (by first | assumption) ?_
      refine q_idiv eX12_laysRoots_55 (by omega) (by omega) (by omega) (by omega) ?_
      refine q_istore_n eX12_laysRoots_56 (by decide) rfl ?_
      refine q_iinc eX12_laysRoots_57 rfl (by decide) rfl ?_
      refine q_goto (tgt := 20) eX12_laysRoots_60 (by decide) ?_
      exact ih (k + 1) _ _ _ (by rw [Int.mul_comm (m ^ k)]; rfl) rfl (Int.pow_succ m k).symm (by omega)
set_option maxRecDepth 20000 in
theorem lp_lr1a {p e r q : Nat} {m : Int} {f : Nat → Int} {F : HF} {A0 : HA} {al : AL} (hK : KM al) (hX : MR F) (hG0 : GM m r f F A0) (hp : F 44 1 = vI p) (he : F 44 2 = vI e) (hq : F 44 5 = vI q) (hp2 : 2 ≤ p) (hp7 : p ≤ 7) (he1 : 1 ≤ e) (he4 : e ≤ 4) (hpm : (p : Int) ≤ m) (hq2 : 2 ≤ q) (hq4 : q ≤ 3125) (hqe : q = p ^ r) {g : Int} (hg : g = gnM p e r q m f (q - 1)) (hgE : El m r g) (hlg0 : lgE p r m f g (q - 1) 0 = -1) (hlg : ∀ j, 1 ≤ j → j < q → lgE p r m f g (q - 1) j ≠ -1) : ∀ (s b : Nat) (A : HA) (l2 l3 l4 l5 : Option LV), b + s = q → Off [46, 47, 48, 51, 52, 53] A0 A → (∀ j, j < b → A 46 j = tcE p e r q m f j) →
    QW mX12_laysRoots 5 0 0 (fun o F' A' al' => o = .inl none ∧ F' = up2 F 44 11 (vI g) ∧ al' = al ∧ Off [46, 47, 48, 51, 52, 53] A0 A' ∧ (∀ k, k + 1 < q → A' 48 k = pw m r f g k) ∧ (∀ j, j < q → A' 47 j = lgE p r m f g (q - 1) j) ∧ ∀ j, j < q → A' 46 j = tcE p e r q m f j) 0 0 2 [some (vA 44), some (vI b), l2, l3, l4, l5] [] F A al := by
  obtain ⟨hm, hr, hf, hm2, hr1, hr6, hN4⟩ := id hG0
  have hm4 := hG0.m4
  intro s
  induction s with
  | zero =>
    intro b A l2 l3 l4 l5 hb ho h3
    have eb : b = q := by omega
    subst eb
    refine q_iload_n eX12_laysRoots_2 rfl ?_
    refine q_aload_n eX12_laysRoots_3 rfl ?_
    refine q_getfield eX12_laysRoots_4 gf_X12_25 (hK _ (by decide) (by decide)) (by decide) (by first | assumption) ?_
    refine q_icmp_ge (tgt := 105) eX12_laysRoots_7 (by decide) (by first | assumption | exact ⟨by omega, by omega⟩) (by first | assumption | exact ⟨by omega, by omega⟩) (fun c7 => ?_) (fun c7 => ?_)
    · refine q_aload_n eX12_laysRoots_105 rfl ?_
      refine q_sipush eX12_laysRoots_106 (by decide +kernel) ?_
      refine q_putfield eX12_laysRoots_109 pf_X12_179 (hK _ (by decide) (by decide)) (by decide) (FT_i rfl) ?_
      refine q_iconst eX12_laysRoots_112 ?_
      refine q_istore_n eX12_laysRoots_113 (by decide) rfl ?_
      exact lp_lr2 hK hX hG0 hp he hq hp2 hp7 he1 he4 hpm hq2 hq4 hqe hg hgE hlg0 hlg (b - 1) 1 A (by omega) (by decide) ho h3
    · exact absurd c7 (by omega)
  | succ s ih =>
    intro b A l2 l3 l4 l5 hb ho h3
    refine q_iload_n eX12_laysRoots_2 rfl ?_
    refine q_aload_n eX12_laysRoots_3 rfl ?_
    refine q_getfield eX12_laysRoots_4 gf_X12_25 (hK _ (by decide) (by decide)) (by decide) (by first | assumption) ?_
    refine q_icmp_ge (tgt := 105) eX12_laysRoots_7 (by decide) (by first | assumption | exact ⟨by omega, by omega⟩) (by first | assumption | exact ⟨by omega, by omega⟩) (fun c7 => ?_) (fun c7 => ?_)
    · exact absurd c7 (by omega)
    · refine q_iconst eX12_laysRoots_10 ?_
      refine q_istore_n eX12_laysRoots_11 (by decide) rfl ?_
      refine q_iload_n eX12_laysRoots_12 rfl ?_
      refine q_istore_n eX12_laysRoots_13 (by decide) rfl ?_
      refine q_iconst eX12_laysRoots_14 ?_
      refine q_istore eX12_laysRoots_15 (by decide) rfl ?_
      refine q_iconst eX12_laysRoots_17 ?_
      refine q_istore eX12_laysRoots_18 (by decide) rfl ?_
      refine lp_lr1b hK hX hG0 hp he hq hp2 hp7 he1 he4 hpm hq2 hq4 hqe hg hgE hlg0 hlg (show b < q by omega) (fun l3' w4 => ?_) r 0 0 b 1 rfl rfl (Int.pow_zero m).symm (by omega)
      exact lp_lr1c hK hX hG0 hp he hq hp2 hp7 he1 he4 hpm hq2 hq4 hqe hg hgE hlg0 hlg (show b < q by omega) (fun A1 l2 l3 l4 l5 ho1 h31 => ih (b + 1) A1 l2 l3 l4 l5 (by omega) ho1 h31) (e - 1) 1 A (by omega) (by decide) ho h3
set_option maxRecDepth 20000 in
theorem mo_laysRoots {p e r q : Nat} {m : Int} {f : Nat → Int} {F : HF} {A : HA} {al : AL} (hK : KM al) (hX : MR F) (hG0 : GM m r f F A) (hp : F 44 1 = vI p) (he : F 44 2 = vI e) (hq : F 44 5 = vI q) (hp2 : 2 ≤ p) (hp7 : p ≤ 7) (he1 : 1 ≤ e) (he4 : e ≤ 4) (hpm : (p : Int) ≤ m) (hq2 : 2 ≤ q) (hq4 : q ≤ 3125) (hqe : q = p ^ r) {g : Int} (hg : g = gnM p e r q m f (q - 1)) (hgE : El m r g) (hlg0 : lgE p r m f g (q - 1) 0 = -1) (hlg : ∀ j, 1 ≤ j → j < q → lgE p r m f g (q - 1) j ≠ -1) : QE 5 0 0 mX12_laysRoots [vA 44] F A al (fun o F' A' al' => o = .inl none ∧ F' = up2 F 44 11 (vI g) ∧ al' = al ∧ Off [46, 47, 48, 51, 52, 53] A A' ∧ (∀ k, k + 1 < q → A' 48 k = pw m r f g k) ∧ (∀ j, j < q → A' 47 j = lgE p r m f g (q - 1) j) ∧ ∀ j, j < q → A' 46 j = tcE p e r q m f j) := by
  refine QE.mk (by decide +kernel) (Nat.le_of_ble_eq_true rfl) ?_
  refine q_iconst eX12_laysRoots_0 ?_
  refine q_istore_n eX12_laysRoots_1 (by decide) rfl ?_
  exact lp_lr1a hK hX hG0 hp he hq hp2 hp7 he1 he4 hpm hq2 hq4 hqe hg hgE hlg0 hlg q 0 A _ _ _ _ (by omega) Off.rfl' (fun j hj => by omega)
