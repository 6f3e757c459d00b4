/-! the model: what holds between calls -/
def sb (v : Int) : Int := if v < 128 then v else v - 256
/-- the first k from s on (t to try) with x to the k 1 -/
def odF (m : Int) (r : Nat) (f : Nat → Int) (x : Int) : Nat → Nat → Nat
  | 0, s => s
  | t + 1, s => if pw m r f x s = 1 then s else odF m r f x t (s + 1)
def odM (m : Int) (r : Nat) (f : Nat → Int) (N : Nat) (x : Int) : Nat := odF m r f x N 1
def MH (p e r q N : Nat) (m : Int) (f : Nat → Int) : Prop := 1 ≤ umE N q ∧ (∀ n, 1 ≤ n → n ≤ 63 → (q - 1) % n = 0 → OrbOK p n) ∧
  ∃ L : Nat, 1 ≤ L ∧ L ≤ 4096 ∧ ∀ x, El m r x → low p r m x ≠ 0 → 1 ≤ odM m r f N x ∧ pw m r f x (odM m r f N x) = 1 ∧ (∀ j, 1 ≤ j → j < odM m r f N x → pw m r f x j ≠ 1) ∧ odM m r f N x ∣ L
def M1 (p e r q N : Nat) (m : Int) (f : Nat → Int) (g : Int) (rt lg : Nat → Int) (F : HF) (A : HA) : Prop := MR F ∧ GY p e r q N m f g rt lg F A ∧ A 45 r = 1 ∧ MH p e r q N m f
def M2 (m : Int) (r : Nat) (pl_ : Nat → Int) (A : HA) : Prop := ∀ j, j < 8 → A 49 j = pl_ j ∧ El m r (pl_ j)
def M3 (len : Nat) (tp : Nat → Int) (F : HF) (A : HA) : Prop := F 44 19 = vI len ∧ len ≤ 200 ∧ ∀ j, j < 200 → A 55 j = sb (tp j) ∧ 0 ≤ tp j ∧ tp j < 256
def M4 (fp : Int) (F : HF) : Prop := F 44 27 = vI fp ∧ ∃ v : Nat → Int, (∀ k, 20 ≤ k → k ≤ 29 → F 44 k = vI (v k)) ∧ 0 ≤ v 24 ∧ v 24 ≤ 1000000
def M5 (q n : Nat) (set : Int) (dg : Nat) (mk ck : Nat → Int) (F : HF) (A : HA) : Prop :=
  (F 44 33 = vI n ∧ F 44 34 = vI set ∧ F 44 35 = vI dg) ∧ (∀ j, j < 64 → A 56 j = mk j) ∧ (∀ j, j < 64 → A 57 j = ck j) ∧ (1 ≤ n ∧ n ≤ 63 ∧ (q - 1) % n = 0 ∧ 0 ≤ set ∧ set < 2147483648) ∧ dg ≤ n
def M7 (m : Int) (n : Nat) (w : Option (Nat → Int)) (F : HF) (A : HA) : Prop := match w with
  | none => F 44 45 = vI 0
  | some bt => F 44 45 = vI 1 ∧ ∀ j, j < n → A 62 j = bt j ∧ 0 ≤ bt j ∧ bt j < m
def M8 (S : List Int) (F : HF) (A : HA) : Prop := (F 44 52 = vI S.length ∧ ∀ j, j < S.length → A 65 j = S.getD j 0) ∧ S.length ≤ 128
def MI (p e r q N : Nat) (m : Int) (f : Nat → Int) (g : Int) (rt lg pl_ : Nat → Int) (len : Nat) (tp : Nat → Int) (fp : Int) (n : Nat) (set : Int) (dg : Nat) (mk ck : Nat → Int) (w : Option (Nat → Int)) (S : List Int) (F : HF) (A : HA) : Prop :=
  M1 p e r q N m f g rt lg F A ∧ M2 m r pl_ A ∧ M3 len tp F A ∧ M4 fp F ∧ M5 q n set dg mk ck F A ∧ M7 m n w F A ∧ M8 S F A
section MIs
variable {p e r q N : Nat} {m : Int} {f : Nat → Int} {g : Int} {rt lg pl_ tp mk ck : Nat → Int} {len n dg : Nat} {fp set : Int} {w : Option (Nat → Int)} {S : List Int} {F F' : HF} {A A' : HA} {al : AL}
theorem M1.pres (h : M1 p e r q N m f g rt lg F A) (hX : MR F') (hF : FE [(44, 1), (44, 2), (44, 3), (44, 4), (44, 5), (44, 6), (44, 11)] F F') (hA : AE [45, 46, 47, 48] A A') : M1 p e r q N m f g rt lg F' A' := by
  obtain ⟨-, ⟨⟨a1, a2, a3, a4⟩, b1, b2, b3, b4, b5, b6, b7, b8, b9⟩, h3, h4⟩ := h
  have e5 : A' 45 = A 45 := hA.at (by decide)
  have e6 : A' 46 = A 46 := hA.at (by decide)
  have e7 : A' 47 = A 47 := hA.at (by decide)
  have e8 : A' 48 = A 48 := hA.at (by decide)
  refine ⟨hX, ⟨⟨(hF.at (by decide)).trans a1, (hF.at (by decide)).trans a2, by rw [e5]; exact a3, a4⟩, (hF.at (by decide)).trans b1, (hF.at (by decide)).trans b2, (hF.at (by decide)).trans b3, (hF.at (by decide)).trans b4, (hF.at (by decide)).trans b5, b6, by rw [e8]; exact b7, by rw [e7]; exact b8, by rw [e6]; exact b9⟩, by rw [e5]; exact h3, h4⟩
theorem M2.pres (h : M2 m r pl_ A) (hA : AE [49] A A') : M2 m r pl_ A' := fun j hj => by rw [hA.at (by decide)]; exact h j hj
theorem M3.pres (h : M3 len tp F A) (hF : FE [(44, 19)] F F') (hA : AE [55] A A') : M3 len tp F' A' := ⟨(hF.at (by decide)).trans h.1, h.2.1, fun j hj => by rw [hA.at (by decide)]; exact h.2.2 j hj⟩
theorem M4.pres (h : M4 fp F) (hF : FE [(44, 20), (44, 21), (44, 22), (44, 23), (44, 24), (44, 25), (44, 26), (44, 27), (44, 28), (44, 29)] F F') : M4 fp F' := by
  obtain ⟨h1, v, h2, h3⟩ := h
  refine ⟨(hF.at (by decide)).trans h1, v, fun k k1 k2 => ?_, h3⟩
  rw [← h2 k k1 k2]
  have hk : k = 20 ∨ k = 21 ∨ k = 22 ∨ k = 23 ∨ k = 24 ∨ k = 25 ∨ k = 26 ∨ k = 27 ∨ k = 28 ∨ k = 29 := by omega
  rcases hk with rfl | rfl | rfl | rfl | rfl | rfl | rfl | rfl | rfl | rfl <;> exact hF.at (by decide)
theorem M5.pres (h : M5 q n set dg mk ck F A) (hF : FE [(44, 33), (44, 34), (44, 35)] F F') (hA : AE [56, 57] A A') : M5 q n set dg mk ck F' A' := by
  obtain ⟨⟨a1, a2, a3⟩, h2, h3, h4⟩ := h
  have e6 : A' 56 = A 56 := hA.at (by decide)
  have e7 : A' 57 = A 57 := hA.at (by decide)
  exact ⟨⟨(hF.at (by decide)).trans a1, (hF.at (by decide)).trans a2, (hF.at (by decide)).trans a3⟩, by rw [e6]; exact h2, by rw [e7]; exact h3, h4⟩
theorem M7.pres (h : M7 m n w F A) (hF : FE [(44, 45)] F F') (hA : AE [62] A A') : M7 m n w F' A' := by
  have e0 : F' 44 45 = F 44 45 := hF.at (by decide)
  have e6 : A' 62 = A 62 := hA.at (by decide)
  unfold M7 at h ⊢
  rw [e0, e6]
  exact h
theorem M8.pres (h : M8 S F A) (hF : FE [(44, 52)] F F') (hA : AE [65] A A') : M8 S F' A' := by
  have e6 : A' 65 = A 65 := hA.at (by decide)
  exact ⟨⟨(hF.at (by decide)).trans h.1.1, by rw [e6]; exact h.1.2⟩, h.2⟩
theorem MR.foff {l : List (Nat × Nat)} {F F2 : HF} (h : MR F) (ho : FOff l F F2) (hl : (l.all fun b => plainF mrefs b.1 b.2) = true) : MR F2 := by
  intro q hq
  rw [ho q.1 q.2.1]
  · exact h q hq
  · intro hm
    have h1 := List.all_eq_true.mp hl _ hm
    have h2 := List.all_eq_true.mp h1 q hq
    simp at h2
theorem MI.off {lF : List (Nat × Nat)} {lA : List Nat} (h : MI p e r q N m f g rt lg pl_ len tp fp n set dg mk ck w S F A) (hF : FOff lF F F') (hA : Off lA A A') (h0 : (lF.all fun b => plainF mrefs b.1 b.2) = true) (h1 : ([(44, 1), (44, 2), (44, 3), (44, 4), (44, 5), (44, 6), (44, 11), (44, 19), (44, 20), (44, 21), (44, 22), (44, 23), (44, 24), (44, 25), (44, 26), (44, 27), (44, 28), (44, 29), (44, 33), (44, 34), (44, 35), (44, 45), (44, 52)].all fun q => !(lF.contains q)) = true) (h2 : ([45, 46, 47, 48, 49, 55, 56, 57, 62, 65].all fun q => !(lA.contains q)) = true) :
    MI p e r q N m f g rt lg pl_ len tp fp n set dg mk ck w S F' A' := by
  have gF : FE [(44, 1), (44, 2), (44, 3), (44, 4), (44, 5), (44, 6), (44, 11), (44, 19), (44, 20), (44, 21), (44, 22), (44, 23), (44, 24), (44, 25), (44, 26), (44, 27), (44, 28), (44, 29), (44, 33), (44, 34), (44, 35), (44, 45), (44, 52)] F F' := hF.fe h1
  have gA : AE [45, 46, 47, 48, 49, 55, 56, 57, 62, 65] A A' := hA.ae h2
  obtain ⟨a1, a2, a3, a4, a5, a7, a8⟩ := h
  have sF : ∀ l : List (Nat × Nat), (l.all fun q => [(44, 1), (44, 2), (44, 3), (44, 4), (44, 5), (44, 6), (44, 11), (44, 19), (44, 20), (44, 21), (44, 22), (44, 23), (44, 24), (44, 25), (44, 26), (44, 27), (44, 28), (44, 29), (44, 33), (44, 34), (44, 35), (44, 45), (44, 52)].contains q) = true → FE l F F' := fun l hl q hq => gF q (by have := List.all_eq_true.mp hl q hq; simpa using this)
  have sA : ∀ l : List Nat, (l.all fun q => [45, 46, 47, 48, 49, 55, 56, 57, 62, 65].contains q) = true → AE l A A' := fun l hl q hq => gA q (by have := List.all_eq_true.mp hl q hq; simpa using this)
  exact ⟨a1.pres (a1.1.foff hF h0) (sF _ (by decide)) (sA _ (by decide)), a2.pres (sA _ (by decide)), a3.pres (sF _ (by decide)) (sA _ (by decide)), a4.pres (sF _ (by decide)), a5.pres (sF _ (by decide)) (sA _ (by decide)), a7.pres (sF _ (by decide)) (sA _ (by decide)), a8.pres (sF _ (by decide)) (sA _ (by decide))⟩
end MIs
