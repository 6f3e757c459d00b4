/-! the law: methods with a handler, calls of them; what stays beside a call -/
/-! what a call leaves beside it -/
theorem FE.lo {l : List (Nat × Nat)} {F F' : HF} (h : ∀ b k, b < 44 → F' b k = F b k) (hl : (l.all fun q => decide (q.1 < 44)) = true) : FE l F F' := fun q hq => h q.1 q.2 (by have := List.all_eq_true.mp hl q hq; exact of_decide_eq_true this)
theorem AE.lo {l : List Nat} {A A' : HA} (h : ∀ b, b < 44 → A' b = A b) (hl : (l.all fun q => decide (q < 44)) = true) : AE l A A' := fun q hq => h q (by have := List.all_eq_true.mp hl q hq; exact of_decide_eq_true this)
section Beside
variable {p e r q N : Nat} {m : Int} {f : Nat → Int} {g : Int} {rt lg pl_ tp mk ck : Nat → Int} {len n dg : Nat} {fp set : Int} {w : Option (Nat → Int)} {S : List Int} {F F' : HF} {A A' : HA} {al : AL}
theorem XF.lo (h : XF F) (hF : ∀ b k, b < 44 → F' b k = F b k) : XF F' := fun z hz => by
  rw [hF z.1 z.2.1 ?_]
  · exact h z hz
  · have h1 := List.all_eq_true.mp (show (xrefs.all fun z => decide (z.1 < 44)) = true by decide) z hz
    exact of_decide_eq_true h1
theorem XI.lo (h : XI p e r q N m f g lg pl_ len tp fp n set dg mk ck w S F A) (hF : ∀ b k, b < 44 → F' b k = F b k) (hA : ∀ b, b < 44 → A' b = A b) : XI p e r q N m f g lg pl_ len tp fp n set dg mk ck w S F' A' := by
  obtain ⟨a1, a2, a3, a4, a5, a6, a7, a8⟩ := h
  exact ⟨a1.pres (a1.1.lo hF) (FE.lo hF (by decide)) (AE.lo hA (by decide)), a2.pres (AE.lo hA (by decide)), a3.pres (FE.lo hF (by decide)) (AE.lo hA (by decide)), a4.pres (FE.lo hF (by decide)), a5.pres (FE.lo hF (by decide)) (AE.lo hA (by decide)), a6.pres (FE.lo hF (by decide)) (AE.lo hA (by decide)), a7.pres (FE.lo hF (by decide)) (AE.lo hA (by decide)), a8.pres (FE.lo hF (by decide)) (AE.lo hA (by decide))⟩
/-- a call of the class that changes nothing, told as one that may -/
theorem px_r {d mc ms : Nat} {M : MT} {as : List LV} {E : String} {R : Option Int} (h : XI p e r q N m f g lg pl_ len tp fp n set dg mk ck w S F A) (ev : QE d mc ms M as F A al (PXP E R F A al)) :
    QE d mc ms M as F A al (PXR E R F A al (fun F2 A2 => XI p e r q N m f g lg pl_ len tp fp n set dg mk ck w S F2 A2)) := ev.post (fun o F' A' al' hp => by
  obtain ⟨h1, h2, rfl, h4⟩ := hp
  exact ⟨h1, h2, fun _ _ _ => rfl, h4.hi (by decide), h.s4 h4⟩)
end Beside
