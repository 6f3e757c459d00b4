/-! the model: what holds between calls -/
def SCF : List (Nat × Nat) := [(44, 0), (44, 30), (44, 31), (44, 32), (44, 41), (44, 43), (44, 47), (44, 48), (44, 49)]
def SCA : List Nat := [50, 51, 52, 53, 54, 58, 59, 60, 61, 63, 64, 66]
def sb (v : Int) : Int := if v < 128 then v else v - 256
/-- the first k from s on (t to try) with x to the k 1 -/
def odF (m : Int) (r : Nat) (f : Nat → Int) (x : Int) : Nat → Nat → Nat
  | 0, s => s
  | t + 1, s => if pw m r f x s = 1 then s else odF m r f x t (s + 1)
def odM (m : Int) (r : Nat) (f : Nat → Int) (N : Nat) (x : Int) : Nat := odF m r f x N 1
def MH (p e r q N : Nat) (m : Int) (f : Nat → Int) : Prop := 1 ≤ umE N q ∧ (∀ n, 1 ≤ n → n ≤ 63 → (q - 1) % n = 0 → OrbOK p n) ∧
  ∃ L : Nat, 1 ≤ L ∧ L ≤ 4096 ∧ ∀ x, El m r x → low p r m x ≠ 0 → 1 ≤ odM m r f N x ∧ pw m r f x (odM m r f N x) = 1 ∧ (∀ j, 1 ≤ j → j < odM m r f N x → pw m r f x j ≠ 1) ∧ odM m r f N x ∣ L
def M1 (p e r q N : Nat) (m : Int) (f : Nat → Int) (g : Int) (rt lg : Nat → Int) (F : HF) (A : HA) : Prop := MR F ∧ GY p e r q N m f g rt lg F A ∧ A 45 r = 1 ∧ MH p e r q N m f
def M2 (m : Int) (r : Nat) (pl_ : Nat → Int) (A : HA) : Prop := ∀ j, j < 8 → A 49 j = pl_ j ∧ El m r (pl_ j)
def M3 (len : Nat) (tp : Nat → Int) (F : HF) (A : HA) : Prop := F 44 19 = vI len ∧ len ≤ 200 ∧ ∀ j, j < 200 → A 55 j = sb (tp j) ∧ 0 ≤ tp j ∧ tp j < 256
def M4 (fp : Int) (F : HF) : Prop := F 44 27 = vI fp ∧ ∃ v : Nat → Int, (∀ k, 20 ≤ k → k ≤ 29 → F 44 k = vI (v k)) ∧ 0 ≤ v 24 ∧ v 24 ≤ 1000000
def M5 (q n : Nat) (set : Int) (dg : Nat) (mk ck : Nat → Int) (F : HF) (A : HA) : Prop :=
  (F 44 33 = vI n ∧ F 44 34 = vI set ∧ F 44 35 = vI dg) ∧ (∀ j, j < 64 → A 56 j = mk j) ∧ (∀ j, j < 64 → A 57 j = ck j) ∧ (1 ≤ n ∧ n ≤ 63 ∧ (q - 1) % n = 0 ∧ 0 ≤ set ∧ set < 2147483648) ∧ dg ≤ n
def M7 (m : Int) (n : Nat) (w : Option (Nat → Int)) (F : HF) (A : HA) : Prop := match w with
  | none => F 44 45 = vI 0
  | some bt => F 44 45 = vI 1 ∧ ∀ j, j < n → A 62 j = bt j ∧ 0 ≤ bt j ∧ bt j < m
def M8 (S : List Int) (F : HF) (A : HA) : Prop := (F 44 52 = vI S.length ∧ ∀ j, j < S.length → A 65 j = S.getD j 0) ∧ S.length ≤ 128
def MI (p e r q N : Nat) (m : Int) (f : Nat → Int) (g : Int) (rt lg pl_ : Nat → Int) (len : Nat) (tp : Nat → Int) (fp : Int) (n : Nat) (set : Int) (dg : Nat) (mk ck : Nat → Int) (w : Option (Nat → Int)) (S : List Int) (F : HF) (A : HA) : Prop :=
  M1 p e r q N m f g rt lg F A ∧ M2 m r pl_ A ∧ M3 len tp F A ∧ M4 fp F ∧ M5 q n set dg mk ck F A ∧ M7 m n w F A ∧ M8 S F A
section MIs
variable {p e r q N : Nat} {m : Int} {f : Nat → Int} {g : Int} {rt lg pl_ tp mk ck : Nat → Int} {len n dg : Nat} {fp set : Int} {w : Option (Nat → Int)} {S : List Int} {F F' : HF} {A A' : HA} {al : AL}
theorem M1.pres (h : M1 p e r q N m f g rt lg F A) (hX : MR F') (hF : FE [(44, 1), (44, 2), (44, 3), (44, 4), (44, 5), (44, 6), (44, 11)] F F') (hA : AE [45, 46, 47, 48] A A') : M1 p e r q N m f g rt lg F' A' := by
  obtain ⟨-, ⟨⟨a1, a2, a3, a4⟩, b1, b2, b3, b4, b5, b6, b7, b8, b9⟩, h3, h4⟩ := h
  have e5 : A' 45 = A 45 := hA.at (by decide)
  have e6 : A' 46 = A 46 := hA.at (by decide)
  have e7 : A' 47 = A 47 := hA.at (by decide)
  have e8 : A' 48 = A 48 := hA.at (by decide)
  refine ⟨hX, ⟨⟨(hF.at (by decide)).trans a1, (hF.at (by decide)).trans a2, by rw [e5]; exact a3, a4⟩, (hF.at (by decide)).trans b1, (hF.at (by decide)).trans b2, (hF.at (by decide)).trans b3, (hF.at (by decide)).trans b4, (hF.at (by decide)).trans b5, b6, by rw [e8]; exact b7, by rw [e7]; exact b8, by rw [e6]; exact b9⟩, by rw [e5]; exact h3, h4⟩
theorem M2.pres (h : M2 m r pl_ A) (hA : AE [49] A A') : M2 m r pl_ A' := fun j hj => by rw [hA.at (by decide)]; exact h j hj
theorem M3.pres (h : M3 len tp F A) (hF : FE [(44, 19)] F F') (hA : AE [55] A A') : M3 len tp F' A' := ⟨(hF.at (by decide)).trans h.1, h.2.1, fun j hj => by rw [hA.at (by decide)]; exact h.2.2 j hj⟩
theorem M4.pres (h : M4 fp F) (hF : FE [(44, 20), (44, 21), (44, 22), (44, 23), (44, 24), (44, 25), (44, 26), (44, 27), (44, 28), (44, 29)] F F') : M4 fp F' := by
  obtain ⟨h1, v, h2, h3⟩ := h
  refine ⟨(hF.at (by decide)).trans h1, v, fun k k1 k2 => ?_, h3⟩
  rw [← h2 k k1 k2]
  have hk : k = 20 ∨ k = 21 ∨ k = 22 ∨ k = 23 ∨ k = 24 ∨ k = 25 ∨ k = 26 ∨ k = 27 ∨ k = 28 ∨ k = 29 := by omega
  rcases hk with rfl | rfl | rfl | rfl | rfl | rfl | rfl | rfl | rfl | rfl <;> exact hF.at (by decide)
theorem M5.pres (h : M5 q n set dg mk ck F A) (hF : FE [(44, 33), (44, 34), (44, 35)] F F') (hA : AE [56, 57] A A') : M5 q n set dg mk ck F' A' := by
  obtain ⟨⟨a1, a2, a3⟩, h2, h3, h4⟩ := h
  have e6 : A' 56 = A 56 := hA.at (by decide)
  have e7 : A' 57 = A 57 := hA.at (by decide)
  exact ⟨⟨(hF.at (by decide)).trans a1, (hF.at (by decide)).trans a2, (hF.at (by decide)).trans a3⟩, by rw [e6]; exact h2, by rw [e7]; exact h3, h4⟩
theorem M7.pres (h : M7 m n w F A) (hF : FE [(44, 45)] F F') (hA : AE [62] A A') : M7 m n w F' A' := by
  have e0 : F' 44 45 = F 44 45 := hF.at (by decide)
  have e6 : A' 62 = A 62 := hA.at (by decide)
  unfold M7 at h ⊢
  rw [e0, e6]
  exact h
theorem M8.pres (h : M8 S F A) (hF : FE [(44, 52)] F F') (hA : AE [65] A A') : M8 S F' A' := by
  have e6 : A' 65 = A 65 := hA.at (by decide)
  exact ⟨⟨(hF.at (by decide)).trans h.1.1, by rw [e6]; exact h.1.2⟩, h.2⟩
theorem MR.foff {l : List (Nat × Nat)} {F F2 : HF} (h : MR F) (ho : FOff l F F2) (hl : (l.all fun b => plainF mrefs b.1 b.2) = true) : MR F2 := by
  intro q hq
  rw [ho q.1 q.2.1]
  · exact h q hq
  · intro hm
    have h1 := List.all_eq_true.mp hl _ hm
    have h2 := List.all_eq_true.mp h1 q hq
    simp at h2
theorem MI.off {lF : List (Nat × Nat)} {lA : List Nat} (h : MI p e r q N m f g rt lg pl_ len tp fp n set dg mk ck w S F A) (hF : FOff lF F F') (hA : Off lA A A') (h0 : (lF.all fun b => plainF mrefs b.1 b.2) = true) (h1 : ([(44, 1), (44, 2), (44, 3), (44, 4), (44, 5), (44, 6), (44, 11), (44, 19), (44, 20), (44, 21), (44, 22), (44, 23), (44, 24), (44, 25), (44, 26), (44, 27), (44, 28), (44, 29), (44, 33), (44, 34), (44, 35), (44, 45), (44, 52)].all fun q => !(lF.contains q)) = true) (h2 : ([45, 46, 47, 48, 49, 55, 56, 57, 62, 65].all fun q => !(lA.contains q)) = true) :
    MI p e r q N m f g rt lg pl_ len tp fp n set dg mk ck w S F' A' := by
  have gF : FE [(44, 1), (44, 2), (44, 3), (44, 4), (44, 5), (44, 6), (44, 11), (44, 19), (44, 20), (44, 21), (44, 22), (44, 23), (44, 24), (44, 25), (44, 26), (44, 27), (44, 28), (44, 29), (44, 33), (44, 34), (44, 35), (44, 45), (44, 52)] F F' := hF.fe h1
  have gA : AE [45, 46, 47, 48, 49, 55, 56, 57, 62, 65] A A' := hA.ae h2
  obtain ⟨a1, a2, a3, a4, a5, a7, a8⟩ := h
  have sF : ∀ l : List (Nat × Nat), (l.all fun q => [(44, 1), (44, 2), (44, 3), (44, 4), (44, 5), (44, 6), (44, 11), (44, 19), (44, 20), (44, 21), (44, 22), (44, 23), (44, 24), (44, 25), (44, 26), (44, 27), (44, 28), (44, 29), (44, 33), (44, 34), (44, 35), (44, 45), (44, 52)].contains q) = true → FE l F F' := fun l hl q hq => gF q (by have := List.all_eq_true.mp hl q hq; simpa using this)
  have sA : ∀ l : List Nat, (l.all fun q => [45, 46, 47, 48, 49, 55, 56, 57, 62, 65].contains q) = true → AE l A A' := fun l hl q hq => gA q (by have := List.all_eq_true.mp hl q hq; simpa using this)
  exact ⟨a1.pres (a1.1.foff hF h0) (sF _ (by decide)) (sA _ (by decide)), a2.pres (sA _ (by decide)), a3.pres (sF _ (by decide)) (sA _ (by decide)), a4.pres (sF _ (by decide)), a5.pres (sF _ (by decide)) (sA _ (by decide)), a7.pres (sF _ (by decide)) (sA _ (by decide)), a8.pres (sF _ (by decide)) (sA _ (by decide))⟩
theorem MI.t0 (h : MI p e r q N m f g rt lg pl_ len tp fp n set dg mk ck w S F A) : MI p e r q N m f g rt lg pl_ len tp fp n set dg mk ck w S (up2 F 44 0 (vI 0)) A := h.off (FOff.up (l := SCF) (by decide)) (Off.rfl' (l := SCA)) (by decide) (by decide) (by decide)
end MIs
def thE (R : Option Int) : Int := if R = none then 1 else 0
def PMP (R : Option Int) (F : HF) (A : HA) (al : AL) : PO := fun o F' A' al' => o = .inl (some (R.getD 0)) ∧ F' 44 0 = vI (thE R) ∧ al' = al ∧ FOff SCF F F' ∧ Off SCA A A'
theorem PMP_r {R : Option Int} {a : Int} {F F' : HF} {A A' : HA} {al : AL} (h : R = some a) (h0 : F' 44 0 = vI 0) (hF : FOff SCF F F') (ho : Off SCA A A') : PMP R F A al (.inl (some a)) F' A' al := ⟨by rw [h]; rfl, by rw [h]; exact h0, rfl, hF, ho⟩
theorem PMP_t {R : Option Int} {F F' : HF} {A A' : HA} {al : AL} (h : R = none) (hF : FOff SCF F F') (ho : Off SCA A A') : PMP R F A al (.inl (some 0)) (up2 F' 44 0 (vI 1)) A' al := ⟨by rw [h]; rfl, by rw [h]; exact up2_eq _ _ _ _, rfl, hF.trans (FOff.up (by decide)), ho⟩
section Right
variable {M : MT} {d mc ms nc ns pc idx : Nat} {Post : PO} {L : List (Option LV)} {st : List LV} {F : HF} {A : HA} {al : AL}
theorem q_right {b w : Int} (hd : decode M.2.1 pc = .ok (.invokevirtual idx, 3)) (hw : CV M.1.cls idx mX12_right 10) (hk : al.1 44 = (20, 54)) (ht : F 44 0 = vI 0) (hd1 : 1 < d) (hm1 : nc ≤ mc) (hm2 : ns ≤ ms) (hr : catS st ≤ 8) (hK : KM al) (hb : InR b) (hww : InR w) (hw0 : w ≠ 0)
    (k0 : b = 0 → QW M d mc ms Post nc ns (pc + 3) L (vI 0 :: st) (up2 F 44 0 (vI w)) A al) (k1 : b ≠ 0 → QW M d mc ms Post nc ns (pc + 3) L (vI 1 :: st) F A al) : QW M d mc ms Post nc ns pc L (vI w :: vI b :: vA 44 :: st) F A al := by
  by_cases h : b = 0
  · subst h
    exact q_callV [vI 0, vI w] hd mf_X12_right hw hk (mo_right0 hK ht hww hw0) nt_PF1 hd1 hm1 hm2 hr rfl (fun v F' A' al' h => by obtain ⟨e, rfl, rfl, rfl⟩ := h; cases e; exact k0 rfl)
  · exact q_callVP [vI b, vI w] hd mf_X12_right hw hk (mo_right1 hK ht hb h) hd1 hm1 hm2 hr rfl (k1 h)
end Right
section Right2
variable {M : MT} {d mc ms nc ns pc idx : Nat} {Post : PO} {L : List (Option LV)} {st : List LV} {F : HF} {A : HA} {al : AL}
theorem q_right1 (hd : decode M.2.1 pc = .ok (.invokevirtual idx, 3)) (hw : CV M.1.cls idx mX12_right 10) (hK : KM al) (ht : F 44 0 = vI 0) (hd1 : 1 < d) (hm1 : nc ≤ mc) (hm2 : ns ≤ ms) (hr : catS st ≤ 8)
    (k1 : QW M d mc ms Post nc ns (pc + 3) L (vI 1 :: st) F A al) : QW M d mc ms Post nc ns pc L (vI 1 :: vI 1 :: vA 44 :: st) F A al :=
  q_right hd hw (hK 44 (by decide) (by decide)) ht hd1 hm1 hm2 hr hK ⟨by decide, by decide⟩ ⟨by decide, by decide⟩ (by decide) (fun h => absurd h (by decide)) (fun _ => k1)
theorem q_right0 (hd : decode M.2.1 pc = .ok (.invokevirtual idx, 3)) (hw : CV M.1.cls idx mX12_right 10) (hK : KM al) (ht : F 44 0 = vI 0) (hd1 : 1 < d) (hm1 : nc ≤ mc) (hm2 : ns ≤ ms) (hr : catS st ≤ 8)
    (k0 : QW M d mc ms Post nc ns (pc + 3) L (vI 0 :: st) (up2 F 44 0 (vI 1)) A al) : QW M d mc ms Post nc ns pc L (vI 1 :: vI 0 :: vA 44 :: st) F A al :=
  q_right hd hw (hK 44 (by decide) (by decide)) ht hd1 hm1 hm2 hr hK ⟨by decide, by decide⟩ ⟨by decide, by decide⟩ (by decide) (fun _ => k0) (fun h => absurd rfl h)
theorem q_rightX {b : Int} (hd : decode M.2.1 pc = .ok (.invokevirtual idx, 3)) (hw : CV M.1.cls idx mX12_right 10) (hK : KM al) (ht : F 44 0 = vI 0) (hd1 : 1 < d) (hm1 : nc ≤ mc) (hm2 : ns ≤ ms) (hr : catS st ≤ 8) (hb : InR b)
    (k0 : b = 0 → QW M d mc ms Post nc ns (pc + 3) L (vI 0 :: st) (up2 F 44 0 (vI 1)) A al) (k1 : b ≠ 0 → QW M d mc ms Post nc ns (pc + 3) L (vI 1 :: st) F A al) : QW M d mc ms Post nc ns pc L (vI 1 :: vI b :: vA 44 :: st) F A al :=
  q_right hd hw (hK 44 (by decide) (by decide)) ht hd1 hm1 hm2 hr hK hb ⟨by decide, by decide⟩ (by decide) k0 k1
end Right2
set_option maxRecDepth 20000 in
theorem mo_isElement {N : Nat} {x : Int} {F : HF} {A : HA} {al : AL} (hK : KM al) (hN : F 44 6 = vI N) (hN1 : 1 ≤ N) (hN4 : N ≤ 4096) (hx : InR x) : QE 2 0 0 mX12_isElement [vA 44, vI x] F A al (PI (if 0 ≤ x ∧ x ≤ (N : Int) - 1 then 1 else 0) F A al) := by
  refine QE.mk (by decide +kernel) (Nat.le_of_ble_eq_true rfl) ?_
  have hx1 := hx.1
  have hx2 := hx.2
  refine q_iload_n eX12_isElement_0 rfl ?_
  refine q_i2l eX12_isElement_1 (by first | assumption | exact ⟨by omega, by omega⟩) ?_
  refine q_lconst (v := 0) eX12_isElement_2 (by decide +kernel) ?_
  refine q_aload_n eX12_isElement_3 rfl ?_
  refine q_getfield eX12_isElement_4 gf_X12_28 (hK _ (by decide) (by decide)) (by decide) (by first | assumption) ?_
  refine q_iconst eX12_isElement_7 ?_
  refine q_isub eX12_isElement_8 ?_
  refine q_i2l eX12_isElement_9 (by first | assumption | exact ⟨by omega, by omega⟩) ?_
  refine q_callSP [vJ (x), vJ (0), vJ ((N : Int) - 1)] (M1 := mX12_isIn) eX12_isElement_10 mf_X12_isIn lk_X12_206 (mo_isIn (by exact ⟨by omega, by omega⟩) (by exact ⟨by omega, by omega⟩) (by exact ⟨by omega, by omega⟩)) (by decide) (by decide) (by decide) (Nat.le_of_ble_eq_true rfl) rfl ?_
  refine q_retZ eX12_isElement_13 rfl (by split; exact Or.inr rfl; exact Or.inl rfl) (by decide) (by decide) ?_
  exact PI_ok rfl
set_option maxRecDepth 20000 in
theorem lp_mdivisors {r : Nat} {F : HF} {A : HA} {al : AL} (hK : KM al) (hr : F 44 3 = vI r) (hr6 : r ≤ 6) : ∀ (k i : Nat), i + k = r →
    QW mX12_divisors 1 0 0 (PI (dvE r : Nat) F A al) 0 0 4 [some (vA 44), some (vI (ctn (fun i => decide (r % (i + 1) = 0)) i : Nat)), some (vI ((i : Int) + 1))] [] F A al := by
  intro k
  induction k with
  | zero =>
    intro i hi
    have ei : i = r := by omega
    subst ei
    have hc := ctn_le (fun j => decide (i % (j + 1) = 0)) i
    refine q_iload_n eX12_divisors_4 rfl ?_
    refine q_aload_n eX12_divisors_5 rfl ?_
    refine q_getfield eX12_divisors_6 gf_X12_19 (hK _ (by decide) (by decide)) (by decide) (by first | assumption) ?_
    refine q_icmp_gt (tgt := 35) eX12_divisors_9 (by decide) (by first | assumption | exact ⟨by omega, by omega⟩) (by first | assumption | exact ⟨by omega, by omega⟩) (fun c9 => ?_) (fun c9 => ?_)
    · refine q_iload_n eX12_divisors_35 rfl ?_
      refine q_retI eX12_divisors_36 rfl (by decide) (by decide) ?_
      exact PI_ok rfl
    · exact absurd c9 (by omega)
  | succ k ih =>
    intro i hi
    have hc := ctn_le (fun j => decide (r % (j + 1) = 0)) i
    have hb := ih (i + 1) (by omega)
    have em : ((r : Int) % ((i : Int) + 1)) = ((r % (i + 1) : Nat) : Int) := by simp
    have hmr : r % (i + 1) ≤ r := Nat.mod_le _ _
    refine q_iload_n eX12_divisors_4 rfl ?_
    refine q_aload_n eX12_divisors_5 rfl ?_
    refine q_getfield eX12_divisors_6 gf_X12_19 (hK _ (by decide) (by decide)) (by decide) (by first | assumption) ?_
    refine q_icmp_gt (tgt := 35) eX12_divisors_9 (by decide) (by first | assumption | exact ⟨by omega, by omega⟩) (by first | assumption | exact ⟨by omega, by omega⟩) (fun c9 => ?_) (fun c9 => ?_)
    · exact absurd c9 (by omega)
    · refine q_iload_n eX12_divisors_12 rfl ?_
      refine q_aload_n eX12_divisors_13 rfl ?_
      refine q_getfield eX12_divisors_14 gf_X12_19 (hK _ (by decide) (by decide)) (by decide) (by first | assumption) ?_
      refine q_iload_n eX12_divisors_17 rfl ?_
      refine q_irem eX12_divisors_18 (by omega) (by omega) (by omega) (by omega) ?_
      rw [em]
      refine q_if_ne (tgt := 26) eX12_divisors_19 (by decide) (by first | assumption | exact ⟨by omega, by omega⟩) (fun c19 => ?_) (fun c19 => ?_)
      · refine q_iconst eX12_divisors_26 ?_
        refine q_iadd eX12_divisors_27 ?_
        refine q_istore_n eX12_divisors_28 (by decide) rfl ?_
        refine q_iinc eX12_divisors_29 rfl (by decide) rfl ?_
        refine q_goto (tgt := 4) eX12_divisors_32 (by decide) ?_
        first
        | (rw [ctn_yes (by rw [decide_eq_true_eq]; omega)] at hb
           exact hb)
        | (rw [ctn_no (by rw [decide_eq_true_eq]; omega)] at hb
           rw [show ((ctn (fun i => decide (r % (i + 1) = 0)) i : Nat) : Int) + 0 = ((ctn (fun i => decide (r % (i + 1) = 0)) i : Nat) : Int) by omega]
           exact hb)
      · refine q_iconst eX12_divisors_22 ?_
        refine q_goto (tgt := 27) eX12_divisors_23 (by decide) ?_
        refine q_iadd eX12_divisors_27 ?_
        refine q_istore_n eX12_divisors_28 (by decide) rfl ?_
        refine q_iinc eX12_divisors_29 rfl (by decide) rfl ?_
        refine q_goto (tgt := 4) eX12_divisors_32 (by decide) ?_
        first
        | (rw [ctn_yes (by rw [decide_eq_true_eq]; omega)] at hb
           exact hb)
        | (rw [ctn_no (by rw [decide_eq_true_eq]; omega)] at hb
           rw [show ((ctn (fun i => decide (r % (i + 1) = 0)) i : Nat) : Int) + 0 = ((ctn (fun i => decide (r % (i + 1) = 0)) i : Nat) : Int) by omega]
           exact hb)
set_option maxRecDepth 20000 in
theorem mo_divisors {r : Nat} {F : HF} {A : HA} {al : AL} (hK : KM al) (hr : F 44 3 = vI r) (hr6 : r ≤ 6) : QE 1 0 0 mX12_divisors [vA 44] F A al (PI (dvE r : Nat) F A al) := by
  refine QE.mk (by decide +kernel) (Nat.le_of_ble_eq_true rfl) ?_
  refine q_iconst eX12_divisors_0 ?_
  refine q_istore_n eX12_divisors_1 (by decide) rfl ?_
  refine q_iconst eX12_divisors_2 ?_
  refine q_istore_n eX12_divisors_3 (by decide) rfl ?_
  exact lp_mdivisors hK hr hr6 r 0 (by omega)
set_option maxRecDepth 20000 in
theorem lp_mcommon {T : Nat} {F : HF} {A : HA} {al : AL} : ∀ (k a b : Nat) (l0 w1 : Int) (l4 : Option LV), b ≤ k → a < 2147483648 → b < 2147483648 → Nat.gcd a b = T →
    QW mX12_common 0 0 0 (PI (T : Nat) F A al) 0 0 4 [some (vI l0), some (vI w1), some (vI a), some (vI b), l4] [] F A al := by
  intro k
  induction k with
  | zero =>
    intro a b l0 w1 l4 hb ha hb2 hT
    have eb : b = 0 := by omega
    subst eb
    rw [Nat.gcd_zero_right] at hT
    refine q_iload_n eX12_common_4 rfl ?_
    refine q_if_eq (tgt := 21) eX12_common_5 (by decide) (by first | assumption | exact ⟨by omega, by omega⟩) (fun c5 => ?_) (fun c5 => ?_)
    · refine q_iload_n eX12_common_21 rfl ?_
      refine q_retI eX12_common_22 rfl (by decide) (by decide) ?_
      exact PI_ok (by rw [hT])
    · exact absurd rfl c5
  | succ k ih =>
    intro a b l0 w1 l4 hb ha hb2 hT
    have em : (a : Int) % (b : Int) = ((a % b : Nat) : Int) := by simp
    refine q_iload_n eX12_common_4 rfl ?_
    refine q_if_eq (tgt := 21) eX12_common_5 (by decide) (by first | assumption | exact ⟨by omega, by omega⟩) (fun c5 => ?_) (fun c5 => ?_)
    · refine q_iload_n eX12_common_21 rfl ?_
      refine q_retI eX12_common_22 rfl (by decide) (by decide) ?_
      exact PI_ok (by rw [← hT, show b = 0 by omega, Nat.gcd_zero_right])
    · refine q_iload_n eX12_common_8 rfl ?_
      refine q_iload_n eX12_common_9 rfl ?_
      refine q_irem eX12_common_10 (by omega) (by omega) (by omega) (by omega) ?_
      rw [em]
      refine q_istore eX12_common_11 (by decide) rfl ?_
      refine q_iload_n eX12_common_13 rfl ?_
      refine q_istore_n eX12_common_14 (by decide) rfl ?_
      refine q_iload eX12_common_15 rfl ?_
      refine q_istore_n eX12_common_17 (by decide) rfl ?_
      refine q_goto (tgt := 4) eX12_common_18 (by decide) ?_
      have hlt : a % b < b := Nat.mod_lt _ (by omega)
      exact ih b (a % b) _ _ _ (by omega) hb2 (by omega) (by rw [← hT, Nat.gcd_comm b (a % b), ← Nat.gcd_rec, Nat.gcd_comm])
set_option maxRecDepth 20000 in
theorem mo_common {a b : Nat} {F : HF} {A : HA} {al : AL} (ha : a < 2147483648) (hb : b < 2147483648) : QE 0 0 0 mX12_common [vI a, vI b] F A al (PI (Nat.gcd a b : Nat) F A al) := by
  refine QE.mk (by decide +kernel) (Nat.le_of_ble_eq_true rfl) ?_
  refine q_iload_n eX12_common_0 rfl ?_
  refine q_istore_n eX12_common_1 (by decide) rfl ?_
  refine q_iload_n eX12_common_2 rfl ?_
  refine q_istore_n eX12_common_3 (by decide) rfl ?_
  exact lp_mcommon b a b _ _ _ (Nat.le_refl _) ha hb rfl
