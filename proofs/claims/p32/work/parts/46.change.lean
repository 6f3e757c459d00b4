/-! RootedRing: calls that change what stands -/
/-- a call that changes: the answer, what stays outside of the class, what holds behind it -/
def PXR (E : String) (R : Option Int) (F : HF) (A : HA) (al : AL) (Q : HF → HA → Prop) : PO := fun o F' A' al' => o = lo E R ∧ al' = al ∧ (∀ b k, 44 ≤ b → F' b k = F b k) ∧ (∀ b, b = 0 ∨ 44 ≤ b → A' b = A b) ∧ Q F' A'
theorem FOff.hi {l : List (Nat × Nat)} {F F' : HF} (h : FOff l F F') (hl : (l.all fun q => decide (q.1 < 44)) = true) : ∀ b k, 44 ≤ b → F' b k = F b k := by
  intro b k hb
  refine h b k (fun hm => ?_)
  have := List.all_eq_true.mp hl _ hm
  rw [decide_eq_true_eq] at this
  have h2 : b < 44 := this
  omega
theorem Off.hi {l : List Nat} {A A' : HA} (h : Off l A A') (hl : (l.all fun q => decide (q < 44 ∧ q ≠ 0)) = true) : ∀ b, b = 0 ∨ 44 ≤ b → A' b = A b := by
  intro b hb
  refine h b (fun hm => ?_)
  have := List.all_eq_true.mp hl _ hm
  rw [decide_eq_true_eq] at this
  omega
theorem PXR_r {E : String} {R : Option Int} {a : Int} {lF : List (Nat × Nat)} {lA : List Nat} {F F' : HF} {A A' : HA} {al : AL} {Q : HF → HA → Prop} (h : R = some a) (hF : FOff lF F F') (hA : Off lA A A') (h1 : (lF.all fun q => decide (q.1 < 44)) = true) (h2 : (lA.all fun q => decide (q < 44 ∧ q ≠ 0)) = true) (hQ : Q F' A') : PXR E R F A al Q (.inl (some a)) F' A' al := ⟨by rw [h]; rfl, rfl, hF.hi h1, hA.hi h2, hQ⟩
theorem PXR_t {E : String} {R : Option Int} {lF : List (Nat × Nat)} {lA : List Nat} {F F' : HF} {A A' : HA} {al : AL} {Q : HF → HA → Prop} (h : R = none) (hF : FOff lF F F') (hA : Off lA A A') (h1 : (lF.all fun q => decide (q.1 < 44)) = true) (h2 : (lA.all fun q => decide (q < 44 ∧ q ≠ 0)) = true) (hQ : Q F' A') : PXR E R F A al Q (.inr E) F' A' al := ⟨by rw [h]; rfl, rfl, hF.hi h1, hA.hi h2, hQ⟩
theorem XI.off {p e r q N : Nat} {m : Int} {f : Nat → Int} {g : Int} {lg pl_ : Nat → Int} {len : Nat} {tp : Nat → Int} {fp : Int} {n : Nat} {set : Int} {dg : Nat} {mk ck : Nat → Int} {w : Option (Nat → Int)} {S : List Int} {F F' : HF} {A A' : HA} {lF : List (Nat × Nat)} {lA : List Nat}
    (h : XI p e r q N m f g lg pl_ len tp fp n set dg mk ck w S F A) (hX : XF F') (hF : FOff lF F F') (hA : Off lA A A') (h1 : ((L1F ++ L4F ++ L5F ++ L7F ++ [(19, 0), (30, 0), (21, 0)]).all fun q => !(lF.contains q)) = true) (h2 : ((L1A ++ [17, 20, 28, 29, 31, 32, 37, 38, 39, 22]).all fun q => !(lA.contains q)) = true) :
    XI p e r q N m f g lg pl_ len tp fp n set dg mk ck w S F' A' := by
  have gF : FE (L1F ++ L4F ++ L5F ++ L7F ++ [(19, 0), (30, 0), (21, 0)]) F F' := hF.fe h1
  have gA : AE (L1A ++ [17, 20, 28, 29, 31, 32, 37, 38, 39, 22]) A A' := hA.ae h2
  obtain ⟨a1, a2, a3, a4, a5, a6, a7, a8⟩ := h
  exact ⟨a1.pres hX (fun q hq => gF q (by simp [hq])) (fun q hq => gA q (by simp [hq])), a2.pres (fun q hq => gA q (by simp at hq; simp [hq])), a3.pres (fun q hq => gF q (by simp at hq; simp [hq])) (fun q hq => gA q (by simp at hq; simp [hq])), a4.pres (fun q hq => gF q (by simp [hq])),
    a5.pres (fun q hq => gF q (by simp [hq])) (fun q hq => gA q (by simp at hq; rcases hq with rfl | rfl <;> simp)), a6.pres (fun q hq => gF q (by simp at hq; simp [hq])) (fun q hq => gA q (by simp at hq; rcases hq with rfl | rfl <;> simp)), a7.pres (fun q hq => gF q (by simp [hq])) (fun q hq => gA q (by simp at hq; rcases hq with rfl | rfl | rfl <;> simp)), a8.pres (fun q hq => gF q (by simp at hq; simp [hq])) (fun q hq => gA q (by simp at hq; simp [hq]))⟩
