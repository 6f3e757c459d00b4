/-! the model: prime polynomials below -/
def idIn (p c b : Int) (k0 : Nat) : Nat → (Nat → Int) → (Nat → Int)
  | 0, P => P
  | t + 1, P => upc (idIn p c b k0 t P) (k0 + t) ((idIn p c b k0 t P (k0 + t) - c * dg p t b) % p)
def idOut (p b : Int) (d : Nat) : Nat → (Nat → Int) → (Nat → Int)
  | 0, P => P
  | s + 1, P => idOut p b d s (upc (idIn p (P (d + s)) b s d P) (d + s) 0)
def idP0 (p : Int) (r : Nat) (l : Int) : Nat → Int := fun j => if j = r then 1 else dg p j l
def idB (p : Int) (r : Nat) (l : Int) (d : Nat) (b : Int) : Bool := decide (∀ j, j < d → idOut p b d (r - d + 1) (idP0 p r l) j = 0)
theorem upc_at {c : Nat → Int} {x : Nat} {v : Int} (j : Nat) : upc c x v j = if j = x then v else c j := rfl
theorem up_eq {A : HA} {a i : Nat} {v : Int} {P : Nat → Int} {n : Nat} (h : ∀ j, j < n → A a j = P j) : ∀ j, j < n → up2 A a i v a j = upc P i v j := fun j hj => by
  rw [up2_at, upc_at]
  split
  · rfl
  · exact h j hj
theorem idIn_range {p c b : Int} {k0 : Nat} (hp : 0 < p) {P : Nat → Int} (h : ∀ j, 0 ≤ P j ∧ P j < p) : ∀ t j, 0 ≤ idIn p c b k0 t P j ∧ idIn p c b k0 t P j < p
  | 0, j => h j
  | t + 1, j => by
    show 0 ≤ upc _ _ _ j ∧ upc _ _ _ j < p
    rw [upc_at]
    split
    · exact ⟨Int.emod_nonneg _ (by omega), Int.emod_lt_of_pos _ hp⟩
    · exact idIn_range hp h t j
theorem idOut_range {p b : Int} {d : Nat} (hp : 0 < p) : ∀ s (P : Nat → Int), (∀ j, 0 ≤ P j ∧ P j < p) → ∀ j, 0 ≤ idOut p b d s P j ∧ idOut p b d s P j < p
  | 0, P, h, j => h j
  | s + 1, P, h, j => by
    refine idOut_range hp s _ (fun i => ?_) j
    rw [upc_at]
    split
    · exact ⟨Int.le_refl _, hp⟩
    · exact idIn_range hp h d i
theorem idP0_range {p : Int} {r : Nat} {l : Int} (hp : 2 ≤ p) (j : Nat) : 0 ≤ idP0 p r l j ∧ idP0 p r l j < p := by
  unfold idP0
  split
  · omega
  · exact dg_range (by omega) j l
set_option maxRecDepth 20000 in
theorem lp_id4 {l b : Int} {p r d : Nat} {F : HF} {A0 : HA} {al : AL} (hK : KM al) (hX : MR F) (hp : F 44 1 = vI p) (hr : F 44 3 = vI r) (hp2 : 2 ≤ p) (hp7 : p ≤ 7) (hr1 : 1 ≤ r) (hr6 : r ≤ 6) (hd1 : 1 ≤ d) (hdr : d ≤ r) (hb : 0 ≤ b) (hb2 : b < 2147483648) (hl : 0 ≤ l) (hl2 : l < 2147483648) {A : HA} {Q : Nat → Int} (ho : Off [50] A0 A) (hQ : ∀ j, j < r + 1 → A 50 j = Q j) (hQr : ∀ j, 0 ≤ Q j ∧ Q j < p) (hQe : Q = idOut p b d (r - d + 1) (idP0 p r l)) {w4 : Int} {l6 l7 l8 : Option LV} : ∀ (k i : Nat), i + k = d → (∀ j, j < i → Q j = 0) →
    QW mX12_isDivided 1 0 0 (PQ (if idB p r l d b = true then 1 else 0) F al (fun A2 => Off [50] A0 A2)) 0 0 161 [some (vA 44), some (vI l), some (vI d), some (vI b), some (vI w4), some (vI i), l6, l7, l8] [] F A al := by
  intro k
  induction k with
  | zero =>
    intro i hi hz
    have ei : i = d := by omega
    subst ei
    refine q_iload eX12_isDivided_161 rfl ?_
    refine q_iload_n eX12_isDivided_163 rfl ?_
    refine q_icmp_ge (tgt := 185) eX12_isDivided_164 (by decide) (by first | assumption | exact ⟨by omega, by omega⟩) (by first | assumption | exact ⟨by omega, by omega⟩) (fun c164 => ?_) (fun c164 => ?_)
    · refine q_iconst eX12_isDivided_185 ?_
      refine q_retZ eX12_isDivided_186 rfl (by first | exact Or.inl rfl | exact Or.inr rfl | assumption) (by decide) (by decide) ?_
      exact ⟨by rw [if_pos (show idB p r l i b = true from decide_eq_true (fun j hj => by rw [← hQe]; exact hz j hj))], rfl, rfl, ho⟩
    · exact absurd c164 (by omega)
  | succ k ih =>
    intro i hi hz
    have hq := hQr i
    refine q_iload eX12_isDivided_161 rfl ?_
    refine q_iload_n eX12_isDivided_163 rfl ?_
    refine q_icmp_ge (tgt := 185) eX12_isDivided_164 (by decide) (by first | assumption | exact ⟨by omega, by omega⟩) (by first | assumption | exact ⟨by omega, by omega⟩) (fun c164 => ?_) (fun c164 => ?_)
    · exact absurd c164 (by omega)
    · refine q_aload_n eX12_isDivided_167 rfl ?_
      refine q_getfield eX12_isDivided_168 gf_X12_47 (hK _ (by decide) (by decide)) (by decide) (mr_44_13 hX) ?_
      refine q_iload eX12_isDivided_171 rfl ?_
      refine q_iald eX12_isDivided_173 (hK _ (by decide) (by decide)) (by omega) (by omega) ?_
      rw [show A 50 (i : Int).toNat = Q i from hQ i (by omega)]
      refine q_if_eq (tgt := 179) eX12_isDivided_174 (by decide) (by first | assumption | exact ⟨by omega, by omega⟩) (fun c174 => ?_) (fun c174 => ?_)
      · refine q_iinc eX12_isDivided_179 rfl (by decide) rfl ?_
        refine q_goto (tgt := 161) eX12_isDivided_182 (by decide) ?_
        exact ih (i + 1) (by omega) (fun j hj => by
          by_cases he : j = i
          · rw [he]; exact c174
          · exact hz j (by omega))
      · refine q_iconst eX12_isDivided_177 ?_
        refine q_retZ eX12_isDivided_178 rfl (by first | exact Or.inl rfl | exact Or.inr rfl | assumption) (by decide) (by decide) ?_
        exact ⟨by rw [if_neg (show ¬ idB p r l d b = true by unfold idB; rw [decide_eq_true_eq, ← hQe]; exact fun q => c174 (q i (by omega)))], rfl, rfl, ho⟩
set_option maxRecDepth 20000 in
theorem lp_id3 {l b : Int} {p r d : Nat} {F : HF} {A0 : HA} {al : AL} (hK : KM al) (hX : MR F) (hp : F 44 1 = vI p) (hr : F 44 3 = vI r) (hp2 : 2 ≤ p) (hp7 : p ≤ 7) (hr1 : 1 ≤ r) (hr6 : r ≤ 6) (hd1 : 1 ≤ d) (hdr : d ≤ r) (hb : 0 ≤ b) (hb2 : b < 2147483648) (hl : 0 ≤ l) (hl2 : l < 2147483648) {c : Int} {s : Nat} (hs : s ≤ r - d) (hc0 : 0 ≤ c) (hc1 : c < p) {P : Nat → Int} (hPr : ∀ j, 0 ≤ P j ∧ P j < p) {w4 : Int}
    (out : ∀ (A : HA) (l7 : Option LV), Off [50] A0 A → (∀ j, j < r + 1 → A 50 j = idIn p c b s d P j) → QW mX12_isDivided 1 0 0 (PQ (if idB p r l d b = true then 1 else 0) F al (fun A2 => Off [50] A0 A2)) 0 0 144 [some (vA 44), some (vI l), some (vI d), some (vI b), some (vI w4), some (vI (d + s : Nat)), some (vI c), l7, some (vI d)] [] F A al) : ∀ (k t : Nat) (A : HA), t + k = d → Off [50] A0 A → (∀ j, j < r + 1 → A 50 j = idIn p c b s t P j) →
    QW mX12_isDivided 1 0 0 (PQ (if idB p r l d b = true then 1 else 0) F al (fun A2 => Off [50] A0 A2)) 0 0 81 [some (vA 44), some (vI l), some (vI d), some (vI b), some (vI w4), some (vI (d + s : Nat)), some (vI c), some (vI (dv p t b)), some (vI t)] [] F A al := by
  intro k
  induction k with
  | zero =>
    intro t A ht ho hA
    have et : t = d := by omega
    subst et
    refine q_iload eX12_isDivided_81 rfl ?_
    refine q_iload_n eX12_isDivided_83 rfl ?_
    refine q_icmp_ge (tgt := 144) eX12_isDivided_84 (by decide) (by first | assumption | exact ⟨by omega, by omega⟩) (by first | assumption | exact ⟨by omega, by omega⟩) (fun c84 => ?_) (fun c84 => ?_)
    · exact out A _ ho hA
    · exact absurd c84 (by omega)
  | succ k ih =>
    intro t A ht ho hA
    have hd := dv_range (m := (p : Int)) (by omega) hb t
    have hdd := dv_dg (m := (p : Int)) t b
    have hg := dg_range (m := (p : Int)) (by omega) t b
    have e1 : ((d + s : Nat) : Int) - d + t = ((s + t : Nat) : Int) := by omega
    have hq := idIn_range (c := c) (b := b) (k0 := s) (show (0 : Int) < p by omega) hPr t (s + t)
    have hm0 : 0 ≤ c * dg p t b := Int.mul_nonneg hc0 hg.1
    have hm1 : c * dg p t b ≤ 7 * 7 := Int.mul_le_mul (by omega) (by omega) hg.1 (by omega)
    have hv : A 50 (s + t) = idIn p c b s t P (s + t) := hA _ (by omega)
    refine q_iload eX12_isDivided_81 rfl ?_
    refine q_iload_n eX12_isDivided_83 rfl ?_
    refine q_icmp_ge (tgt := 144) eX12_isDivided_84 (by decide) (by first | assumption | exact ⟨by omega, by omega⟩) (by first | assumption | exact ⟨by omega, by omega⟩) (fun c84 => ?_) (fun c84 => ?_)
    · exact absurd c84 (by omega)
    · refine q_aload_n eX12_isDivided_87 rfl ?_
      refine q_getfield eX12_isDivided_88 gf_X12_47 (hK _ (by decide) (by decide)) (by decide) (mr_44_13 hX) ?_
      refine q_iload eX12_isDivided_91 rfl ?_
      refine q_iload_n eX12_isDivided_93 rfl ?_
      refine q_isub eX12_isDivided_94 ?_
      refine q_iload eX12_isDivided_95 rfl ?_
      refine q_iadd eX12_isDivided_97 ?_
      rw [e1]
      refine q_aload_n eX12_isDivided_98 rfl ?_
      refine q_getfield eX12_isDivided_99 gf_X12_47 (hK _ (by decide) (by decide)) (by decide) (mr_44_13 hX) ?_
      refine q_iload eX12_isDivided_102 rfl ?_
      refine q_iload_n eX12_isDivided_104 rfl ?_
      refine q_isub eX12_isDivided_105 ?_
      refine q_iload eX12_isDivided_106 rfl ?_
      refine q_iadd eX12_isDivided_108 ?_
      rw [e1]
      refine q_iald eX12_isDivided_109 (hK _ (by decide) (by decide)) (by omega) (by omega) ?_
      rw [show A 50 ((s + t : Nat) : Int).toNat = idIn p c b s t P (s + t) from hv]
      refine q_iload eX12_isDivided_110 rfl ?_
      refine q_iload eX12_isDivided_112 rfl ?_
      refine q_aload_n eX12_isDivided_114 rfl ?_
      refine q_getfield eX12_isDivided_115 gf_X12_13 (hK _ (by decide) (by decide)) (by decide) (by first | assumption) ?_
      refine q_irem eX12_isDivided_118 (by omega) (by omega) (by omega) (by omega) ?_
      rw [hdd.1]
      refine q_imul eX12_isDivided_119 ?_
      refine q_isub eX12_isDivided_120 ?_
      refine q_aload_n eX12_isDivided_121 rfl ?_
      refine q_getfield eX12_isDivided_122 gf_X12_13 (hK _ (by decide) (by decide)) (by decide) (by first | assumption) ?_
      refine q_callSP [vI (idIn p c b s t P (s + t) - c * dg p t b), vI p] (M1 := mJ9_floorMod_7cf53) eX12_isDivided_125 mf_J9_floorMod_7cf53 lk_X12_109 (ev_floorMod (by exact ⟨by omega, by omega⟩) (by omega) (by omega)) (by decide) (by decide) (by decide) (Nat.le_of_ble_eq_true rfl) rfl ?_
      refine q_iast eX12_isDivided_128 (hK _ (by decide) (by decide)) (by omega) (by omega) ?_
      refine q_iload eX12_isDivided_129 rfl ?_
      refine q_aload_n eX12_isDivided_131 rfl ?_
      refine q_getfield eX12_isDivided_132 gf_X12_13 (hK _ (by decide) (by decide)) (by decide) (by first | assumption) ?_
      refine q_idiv eX12_isDivided_135 (by omega) (by omega) (by omega) (by omega) ?_
      refine q_istore eX12_isDivided_136 (by decide) rfl ?_
      refine q_iinc eX12_isDivided_138 rfl (by decide) rfl ?_
      refine q_goto (tgt := 81) eX12_isDivided_141 (by decide) ?_
      exact ih (t + 1) _ (by omega) (ho.trans (Off.up (by simp))) (up_eq hA)
set_option maxRecDepth 20000 in
theorem lp_id2 {l b : Int} {p r d : Nat} {F : HF} {A0 : HA} {al : AL} (hK : KM al) (hX : MR F) (hp : F 44 1 = vI p) (hr : F 44 3 = vI r) (hp2 : 2 ≤ p) (hp7 : p ≤ 7) (hr1 : 1 ≤ r) (hr6 : r ≤ 6) (hd1 : 1 ≤ d) (hdr : d ≤ r) (hb : 0 ≤ b) (hb2 : b < 2147483648) (hl : 0 ≤ l) (hl2 : l < 2147483648) : ∀ (s : Nat) (P : Nat → Int) (A : HA) (w4 v : Int) (l6 l7 l8 : Option LV), v = ((d + s : Nat) : Int) - 1 → d + s ≤ r + 1 → (∀ j, 0 ≤ P j ∧ P j < p) → Off [50] A0 A → (∀ j, j < r + 1 → A 50 j = P j) → idOut p b d s P = idOut p b d (r - d + 1) (idP0 p r l) →
    QW mX12_isDivided 1 0 0 (PQ (if idB p r l d b = true then 1 else 0) F al (fun A2 => Off [50] A0 A2)) 0 0 60 [some (vA 44), some (vI l), some (vI d), some (vI b), some (vI w4), some (vI v), l6, l7, l8] [] F A al := by
  intro s
  induction s with
  | zero =>
    intro P A w4 v l6 l7 l8 hv0 hs hPr ho hA hF
    subst hv0
    refine q_iload eX12_isDivided_60 rfl ?_
    refine q_iload_n eX12_isDivided_62 rfl ?_
    refine q_icmp_lt (tgt := 158) eX12_isDivided_63 (by decide) (by first | assumption | exact ⟨by omega, by omega⟩) (by first | assumption | exact ⟨by omega, by omega⟩) (fun c63 => ?_) (fun c63 => ?_)
    · refine q_iconst eX12_isDivided_158 ?_
      refine q_istore eX12_isDivided_159 (by decide) rfl ?_
      exact lp_id4 hK hX hp hr hp2 hp7 hr1 hr6 hd1 hdr hb hb2 hl hl2 ho hA hPr hF d 0 (by omega) (fun j hj => by omega)
    · exact absurd c63 (by omega)
  | succ s ih =>
    intro P A w4 v l6 l7 l8 hv0 hs hPr ho hA hF
    subst hv0
    have e0 : ((d + (s + 1) : Nat) : Int) - 1 = ((d + s : Nat) : Int) := by omega
    rw [e0]
    have hq := hPr (d + s)
    have hv : A 50 (d + s) = P (d + s) := hA _ (by omega)
    refine q_iload eX12_isDivided_60 rfl ?_
    refine q_iload_n eX12_isDivided_62 rfl ?_
    refine q_icmp_lt (tgt := 158) eX12_isDivided_63 (by decide) (by first | assumption | exact ⟨by omega, by omega⟩) (by first | assumption | exact ⟨by omega, by omega⟩) (fun c63 => ?_) (fun c63 => ?_)
    · exact absurd c63 (by omega)
    · refine q_aload_n eX12_isDivided_66 rfl ?_
      refine q_getfield eX12_isDivided_67 gf_X12_47 (hK _ (by decide) (by decide)) (by decide) (mr_44_13 hX) ?_
      refine q_iload eX12_isDivided_70 rfl ?_
      refine q_iald eX12_isDivided_72 (hK _ (by decide) (by decide)) (by omega) (by omega) ?_
      rw [show A 50 ((d + s : Nat) : Int).toNat = P (d + s) from hv]
      refine q_istore eX12_isDivided_73 (by decide) rfl ?_
      refine q_iload_n eX12_isDivided_75 rfl ?_
      refine q_istore eX12_isDivided_76 (by decide) rfl ?_
      refine q_iconst eX12_isDivided_78 ?_
      refine q_istore eX12_isDivided_79 (by decide) rfl ?_
      refine lp_id3 (c := P (d + s)) (s := s) (P := P) hK hX hp hr hp2 hp7 hr1 hr6 hd1 hdr hb hb2 hl hl2 (by omega) hq.1 hq.2 hPr (fun A1 l7' ho1 hA1 => ?_) d 0 A (by omega) ho hA
      refine q_aload_n eX12_isDivided_144 rfl ?_
      refine q_getfield eX12_isDivided_145 gf_X12_47 (hK _ (by decide) (by decide)) (by decide) (mr_44_13 hX) ?_
      refine q_iload eX12_isDivided_148 rfl ?_
      refine q_iconst eX12_isDivided_150 ?_
      refine q_iast eX12_isDivided_151 (hK _ (by decide) (by decide)) (by omega) (by omega) ?_
      refine q_iinc eX12_isDivided_152 rfl (by decide) rfl ?_
      refine q_goto (tgt := 60) eX12_isDivided_155 (by decide) ?_
      refine ih (upc (idIn p (P (d + s)) b s d P) (d + s) 0) _ w4 _ _ _ _ (by omega) (by omega) (fun j => ?_) (ho1.trans (Off.up (i := d + s) (v := 0) (by simp))) (up_eq hA1) hF
      rw [upc_at]
      split
      · exact ⟨Int.le_refl _, by omega⟩
      · exact idIn_range (show (0 : Int) < p by omega) hPr d j
set_option maxRecDepth 20000 in
theorem lp_id1 {l b : Int} {p r d : Nat} {F : HF} {A0 : HA} {al : AL} (hK : KM al) (hX : MR F) (hp : F 44 1 = vI p) (hr : F 44 3 = vI r) (hp2 : 2 ≤ p) (hp7 : p ≤ 7) (hr1 : 1 ≤ r) (hr6 : r ≤ 6) (hd1 : 1 ≤ d) (hdr : d ≤ r) (hb : 0 ≤ b) (hb2 : b < 2147483648) (hl : 0 ≤ l) (hl2 : l < 2147483648) : ∀ (k i : Nat) (A : HA) (l6 l7 l8 : Option LV), i + k = r → Off [50] A0 A → (∀ j, j < i → A 50 j = dg p j l) →
    QW mX12_isDivided 1 0 0 (PQ (if idB p r l d b = true then 1 else 0) F al (fun A2 => Off [50] A0 A2)) 0 0 6 [some (vA 44), some (vI l), some (vI d), some (vI b), some (vI (dv p i l)), some (vI i), l6, l7, l8] [] F A al := by
  intro k
  induction k with
  | zero =>
    intro i A l6 l7 l8 hi ho h1
    have ei : i = r := by omega
    subst ei
    refine q_iload eX12_isDivided_6 rfl ?_
    refine q_aload_n eX12_isDivided_8 rfl ?_
    refine q_getfield eX12_isDivided_9 gf_X12_19 (hK _ (by decide) (by decide)) (by decide) (by first | assumption) ?_
    refine q_icmp_ge (tgt := 44) eX12_isDivided_12 (by decide) (by first | assumption | exact ⟨by omega, by omega⟩) (by first | assumption | exact ⟨by omega, by omega⟩) (fun c12 => ?_) (fun c12 => ?_)
    · refine q_aload_n eX12_isDivided_44 rfl ?_
      refine q_getfield eX12_isDivided_45 gf_X12_47 (hK _ (by decide) (by decide)) (by decide) (mr_44_13 hX) ?_
      refine q_aload_n eX12_isDivided_48 rfl ?_
      refine q_getfield eX12_isDivided_49 gf_X12_19 (hK _ (by decide) (by decide)) (by decide) (by first | assumption) ?_
      refine q_iconst eX12_isDivided_52 ?_
      refine q_iast eX12_isDivided_53 (hK _ (by decide) (by decide)) (by omega) (by omega) ?_
      refine q_aload_n eX12_isDivided_54 rfl ?_
      refine q_getfield eX12_isDivided_55 gf_X12_19 (hK _ (by decide) (by decide)) (by decide) (by first | assumption) ?_
      refine q_istore eX12_isDivided_58 (by decide) rfl ?_
      have h8 : ∀ j, j ≤ i → up2 A 50 i 1 50 j = idP0 p i l j := fun j hj => by
        rw [up2_at]
        unfold idP0
        split
        · rfl
        · exact h1 j (by omega)
      exact lp_id2 hK hX hp hr hp2 hp7 hr1 hr6 hd1 hdr hb hb2 hl hl2 (i - d + 1) (idP0 p i l) (up2 A 50 i 1) _ _ l6 l7 l8 (by omega) (by omega) (idP0_range (by omega)) (ho.trans (Off.up (by simp))) (fun j hj => h8 j (by omega)) rfl
    · exact absurd c12 (by omega)
  | succ k ih =>
    intro i A l6 l7 l8 hi ho h1
    have hd := dv_range (m := (p : Int)) (by omega) hl i
    have hdd := dv_dg (m := (p : Int)) i l
    refine q_iload eX12_isDivided_6 rfl ?_
    refine q_aload_n eX12_isDivided_8 rfl ?_
    refine q_getfield eX12_isDivided_9 gf_X12_19 (hK _ (by decide) (by decide)) (by decide) (by first | assumption) ?_
    refine q_icmp_ge (tgt := 44) eX12_isDivided_12 (by decide) (by first | assumption | exact ⟨by omega, by omega⟩) (by first | assumption | exact ⟨by omega, by omega⟩) (fun c12 => ?_) (fun c12 => ?_)
    · exact absurd c12 (by omega)
    · refine q_aload_n eX12_isDivided_15 rfl ?_
      refine q_getfield eX12_isDivided_16 gf_X12_47 (hK _ (by decide) (by decide)) (by decide) (mr_44_13 hX) ?_
      refine q_iload eX12_isDivided_19 rfl ?_
      refine q_iload eX12_isDivided_21 rfl ?_
      refine q_aload_n eX12_isDivided_23 rfl ?_
      refine q_getfield eX12_isDivided_24 gf_X12_13 (hK _ (by decide) (by decide)) (by decide) (by first | assumption) ?_
      refine q_irem eX12_isDivided_27 (by omega) (by omega) (by omega) (by omega) ?_
      refine q_iast eX12_isDivided_28 (hK _ (by decide) (by decide)) (by omega) (by omega) ?_
      refine q_iload eX12_isDivided_29 rfl ?_
      refine q_aload_n eX12_isDivided_31 rfl ?_
      refine q_getfield eX12_isDivided_32 gf_X12_13 (hK _ (by decide) (by decide)) (by decide) (by first | assumption) ?_
      refine q_idiv eX12_isDivided_35 (by omega) (by omega) (by omega) (by omega) ?_
      refine q_istore eX12_isDivided_36 (by decide) rfl ?_
      refine q_iinc eX12_isDivided_38 rfl (by decide) rfl ?_
      refine q_goto (tgt := 6) eX12_isDivided_41 (by decide) ?_
      refine ih (i + 1) _ _ _ _ (by omega) (ho.trans (Off.up (by simp))) (fun j hj => ?_)
      rw [up2_at]
      split
      · next he => rw [show j = i from he]; exact hdd.1
      · next hne => exact h1 j (by have : j ≠ i := hne; omega)
set_option maxRecDepth 20000 in
theorem mo_isDivided {l b : Int} {p r d : Nat} {F : HF} {A : HA} {al : AL} (hK : KM al) (hX : MR F) (hp : F 44 1 = vI p) (hr : F 44 3 = vI r) (hp2 : 2 ≤ p) (hp7 : p ≤ 7) (hr1 : 1 ≤ r) (hr6 : r ≤ 6) (hd1 : 1 ≤ d) (hdr : d ≤ r) (hb : 0 ≤ b) (hb2 : b < 2147483648) (hl : 0 ≤ l) (hl2 : l < 2147483648) : QE 1 0 0 mX12_isDivided [vA 44, vI l, vI d, vI b] F A al (PQ (if idB p r l d b = true then 1 else 0) F al (fun A2 => Off [50] A A2)) := by
  refine QE.mk (by decide +kernel) (Nat.le_of_ble_eq_true rfl) ?_
  refine q_iload_n eX12_isDivided_0 rfl ?_
  refine q_istore eX12_isDivided_1 (by decide) rfl ?_
  refine q_iconst eX12_isDivided_3 ?_
  refine q_istore eX12_isDivided_4 (by decide) rfl ?_
  exact lp_id1 hK hX hp hr hp2 hp7 hr1 hr6 hd1 hdr hb hb2 hl hl2 r 0 A _ _ _ (by omega) Off.rfl' (fun j hj => by omega)
/-- none of the numbers from b on (k to try) divides, of degree d -/
def ipMI (p : Int) (r : Nat) (l : Int) (d : Nat) : Nat → Int → Bool
  | 0, _ => true
  | k + 1, b => if idB p r l d b = true then false else ipMI p r l d k (b + 1)
def ipMO (p : Nat) (r : Nat) (l : Int) : Nat → Nat → Bool
  | 0, _ => true
  | k + 1, d => if 2 * d ≤ r then (if ipMI p r l d (p ^ d) 0 = true then ipMO p r l k (d + 1) else false) else true
theorem pd_le {p d : Nat} (hp2 : 2 ≤ p) (hp7 : p ≤ 7) (hd : d ≤ 3) : p ^ d ≤ 343 := by
  have h1 : p ^ d ≤ 7 ^ d := Nat.pow_le_pow_left hp7 d
  have h2 : 7 ^ d ≤ 7 ^ 3 := Nat.pow_le_pow_right (by decide) hd
  exact Nat.le_trans h1 h2
set_option maxRecDepth 20000 in
theorem lp_mprI {l : Int} {p r : Nat} {F : HF} {A0 : HA} {al : AL} (hK : KM al) (hX : MR F) (hp : F 44 1 = vI p) (hr : F 44 3 = vI r) (hp2 : 2 ≤ p) (hp7 : p ≤ 7) (hr1 : 1 ≤ r) (hr6 : r ≤ 6) (hl : 0 ≤ l) (hl2 : l < 2147483648) {d : Nat} {R : Bool} (hd1 : 1 ≤ d) (hdr : 2 * d ≤ r) (out : ∀ (A : HA) (l3 : Option LV), Off [50] A0 A → ipMI p r l d (p ^ d) 0 = true → QW mX12_isPrime 2 0 0 (PQ (if R = true then 1 else 0) F al (fun A2 => Off [50] A0 A2)) 0 0 44 [some (vA 44), some (vI l), some (vI d), l3] [] F A al) (hR : ¬ ipMI p r l d (p ^ d) 0 = true → R = false) : ∀ (k b : Nat) (A : HA), b + k = p ^ d → Off [50] A0 A → ipMI p r l d k b = ipMI p r l d (p ^ d) 0 →
    QW mX12_isPrime 2 0 0 (PQ (if R = true then 1 else 0) F al (fun A2 => Off [50] A0 A2)) 0 0 14 [some (vA 44), some (vI l), some (vI d), some (vI b)] [] F A al := by
  have hpd := pd_le (d := d) hp2 hp7 (by omega)
  have hpc : (p : Int) ^ d = ((p ^ d : Nat) : Int) := by simp
  intro k
  induction k with
  | zero =>
    intro b A hb ho hI
    refine q_iload_n eX12_isPrime_14 rfl ?_
    refine q_aload_n eX12_isPrime_15 rfl ?_
    refine q_getfield eX12_isPrime_16 gf_X12_13 (hK _ (by decide) (by decide)) (by decide) (by first | assumption) ?_
    refine q_iload_n eX12_isPrime_19 rfl ?_
    refine q_callSP [vI p, vI d] (M1 := mX12_power) eX12_isPrime_20 mf_X12_power lk_X12_115 (mo_power (by omega)) (by decide) (by decide) (by decide) (Nat.le_of_ble_eq_true rfl) rfl ?_
    rw [hpc]
    refine q_icmp_ge (tgt := 44) eX12_isPrime_23 (by decide) (by first | assumption | exact ⟨by omega, by omega⟩) (by first | assumption | exact ⟨by omega, by omega⟩) (fun c23 => ?_) (fun c23 => ?_)
    · exact out A _ ho hI.symm
    · exact absurd c23 (by omega)
  | succ k ih =>
    intro b A hb ho hI
    have hs : ipMI p r l d (k + 1) b = if idB p r l d b = true then false else ipMI p r l d k ((b : Int) + 1) := rfl
    refine q_iload_n eX12_isPrime_14 rfl ?_
    refine q_aload_n eX12_isPrime_15 rfl ?_
    refine q_getfield eX12_isPrime_16 gf_X12_13 (hK _ (by decide) (by decide)) (by decide) (by first | assumption) ?_
    refine q_iload_n eX12_isPrime_19 rfl ?_
    refine q_callSP [vI p, vI d] (M1 := mX12_power) eX12_isPrime_20 mf_X12_power lk_X12_115 (mo_power (by omega)) (by decide) (by decide) (by decide) (Nat.le_of_ble_eq_true rfl) rfl ?_
    rw [hpc]
    refine q_icmp_ge (tgt := 44) eX12_isPrime_23 (by decide) (by first | assumption | exact ⟨by omega, by omega⟩) (by first | assumption | exact ⟨by omega, by omega⟩) (fun c23 => ?_) (fun c23 => ?_)
    · exact absurd c23 (by omega)
    · refine q_aload_n eX12_isPrime_26 rfl ?_
      refine q_iload_n eX12_isPrime_27 rfl ?_
      refine q_iload_n eX12_isPrime_28 rfl ?_
      refine q_iload_n eX12_isPrime_29 rfl ?_
      refine q_callVQ [vI l, vI d, vI b] (M1 := mX12_isDivided) eX12_isPrime_30 mf_X12_isDivided lk_X12_118 (hK _ (by decide) (by decide)) (mo_isDivided hK hX hp hr hp2 hp7 hr1 hr6 hd1 (by omega) (by omega) (by omega) hl hl2) (by decide) (by decide) (by decide) (Nat.le_of_ble_eq_true rfl) rfl (fun A3 h3 => ?_)
      refine q_if_eq (tgt := 38) eX12_isPrime_33 (by decide) ir_ite (fun c33 => ?_) (fun c33 => ?_)
      · refine q_iinc eX12_isPrime_38 rfl (by decide) rfl ?_
        refine q_goto (tgt := 14) eX12_isPrime_41 (by decide) ?_
        refine ih (b + 1) A3 (by omega) (ho.trans h3) ?_
        rw [← hI, hs, if_neg (i0 c33)]
        rfl
      · refine q_iconst eX12_isPrime_36 ?_
        refine q_retZ eX12_isPrime_37 rfl (by first | exact Or.inl rfl | exact Or.inr rfl | assumption) (by decide) (by decide) ?_
        have hf : ¬ ipMI p r l d (p ^ d) 0 = true := by
          rw [← hI, hs, if_pos (i1 c33)]
          decide
        exact ⟨by rw [hR hf]; rfl, rfl, rfl, ho.trans h3⟩
set_option maxRecDepth 20000 in
theorem lp_mprO {l : Int} {p r : Nat} {F : HF} {A0 : HA} {al : AL} (hK : KM al) (hX : MR F) (hp : F 44 1 = vI p) (hr : F 44 3 = vI r) (hp2 : 2 ≤ p) (hp7 : p ≤ 7) (hr1 : 1 ≤ r) (hr6 : r ≤ 6) (hl : 0 ≤ l) (hl2 : l < 2147483648) : ∀ (k d : Nat) (A : HA) (l3 : Option LV), d + k = r + 1 → 1 ≤ d → Off [50] A0 A →
    QW mX12_isPrime 2 0 0 (PQ (if ipMO p r l k d = true then 1 else 0) F al (fun A2 => Off [50] A0 A2)) 0 0 2 [some (vA 44), some (vI l), some (vI d), l3] [] F A al := by
  intro k
  induction k with
  | zero =>
    intro d A l3 hd hd1 ho
    refine q_iconst eX12_isPrime_2 ?_
    refine q_iload_n eX12_isPrime_3 rfl ?_
    refine q_imul eX12_isPrime_4 ?_
    refine q_aload_n eX12_isPrime_5 rfl ?_
    refine q_getfield eX12_isPrime_6 gf_X12_19 (hK _ (by decide) (by decide)) (by decide) (by first | assumption) ?_
    refine q_icmp_gt (tgt := 50) eX12_isPrime_9 (by decide) (by first | assumption | exact ⟨by omega, by omega⟩) (by first | assumption | exact ⟨by omega, by omega⟩) (fun c9 => ?_) (fun c9 => ?_)
    · refine q_iconst eX12_isPrime_50 ?_
      refine q_retZ eX12_isPrime_51 rfl (by first | exact Or.inl rfl | exact Or.inr rfl | assumption) (by decide) (by decide) ?_
      exact ⟨rfl, rfl, rfl, ho⟩
    · exact absurd c9 (by omega)
  | succ k ih =>
    intro d A l3 hd hd1 ho
    refine q_iconst eX12_isPrime_2 ?_
    refine q_iload_n eX12_isPrime_3 rfl ?_
    refine q_imul eX12_isPrime_4 ?_
    refine q_aload_n eX12_isPrime_5 rfl ?_
    refine q_getfield eX12_isPrime_6 gf_X12_19 (hK _ (by decide) (by decide)) (by decide) (by first | assumption) ?_
    refine q_icmp_gt (tgt := 50) eX12_isPrime_9 (by decide) (by first | assumption | exact ⟨by omega, by omega⟩) (by first | assumption | exact ⟨by omega, by omega⟩) (fun c9 => ?_) (fun c9 => ?_)
    · refine q_iconst eX12_isPrime_50 ?_
      refine q_retZ eX12_isPrime_51 rfl (by first | exact Or.inl rfl | exact Or.inr rfl | assumption) (by decide) (by decide) ?_
      exact ⟨by rw [show ipMO p r l (k + 1) d = true from if_neg (by omega)]; rfl, rfl, rfl, ho⟩
    · refine q_iconst eX12_isPrime_12 ?_
      refine q_istore_n eX12_isPrime_13 (by decide) rfl ?_
      refine lp_mprI (d := d) (R := ipMO p r l (k + 1) d) hK hX hp hr hp2 hp7 hr1 hr6 hl hl2 hd1 (by omega) (fun A1 l3' ho1 hI => ?_) (fun hI => ?_) (p ^ d) 0 A (by omega) ho rfl
      refine q_iinc eX12_isPrime_44 rfl (by decide) rfl ?_
      refine q_goto (tgt := 2) eX12_isPrime_47 (by decide) ?_
      have h := ih (d + 1) A1 l3' (by omega) (by omega) ho1
      rw [show ipMO p r l (k + 1) d = ipMO p r l k (d + 1) by rw [ipMO, if_pos (by omega), if_pos hI]]
      exact h
      rw [ipMO, if_pos (by omega), if_neg hI]
set_option maxRecDepth 20000 in
theorem mo_isPrime {l : Int} {p r : Nat} {F : HF} {A : HA} {al : AL} (hK : KM al) (hX : MR F) (hp : F 44 1 = vI p) (hr : F 44 3 = vI r) (hp2 : 2 ≤ p) (hp7 : p ≤ 7) (hr1 : 1 ≤ r) (hr6 : r ≤ 6) (hl : 0 ≤ l) (hl2 : l < 2147483648) : QE 2 0 0 mX12_isPrime [vA 44, vI l] F A al (PQ (if ipMO p r l r 1 = true then 1 else 0) F al (fun A2 => Off [50] A A2)) := by
  refine QE.mk (by decide +kernel) (Nat.le_of_ble_eq_true rfl) ?_
  refine q_iconst eX12_isPrime_0 ?_
  refine q_istore_n eX12_isPrime_1 (by decide) rfl ?_
  exact lp_mprO hK hX hp hr hp2 hp7 hr1 hr6 hl hl2 r 1 A _ (by omega) (by decide) Off.rfl'
