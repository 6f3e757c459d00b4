/-! the readings, side by side: factors, terms, sums -/
def Rs (n : Nat) (c : Int) (l : Nat) (m : Int) (r : Nat) (a b : Nat → Int) (x y : Int × (Nat → Int)) : Prop := (St n c l x.2 y.2 ∧ mu n y.2 ≤ mu n b ∧ (x.2 2 = 0 → a 2 = 0) ∧ (c ≠ 0 → x.2 2 = 0 → x.1 = y.1 ∧ El m r x.1)) ∨ Fa x.2 y.2
def SPr (n : Nat) (c : Int) (l : Nat) (m : Int) (r : Nat) (E M : (Nat → Int) → Int × (Nat → Int)) : Prop := ∀ a b, St n c l a b → Rs n c l m r a b (E a) (M b)
theorem Fa.e {x y : Nat → Int} (h : Fa x y) : x 0 ≠ 0 := by have := h.1; omega
theorem Fa.m {x y : Nat → Int} (h : Fa x y) : y 26 ≠ 0 := by have h1 := h.1; have h2 := h.2.1; omega
section Sim
variable {n l r : Nat} {c m : Int} {f tp a b : Nat → Int} {E M : (Nat → Int) → Int × (Nat → Int)}
theorem fac_sim (htp : ∀ j, j < 200 → 0 ≤ tp j ∧ tp j < 256) (hn : n ≤ 200) (hm : 2 ≤ m) (hr : 0 < r) (hT : SPr n c l m r E M) : SPr n c l m r (facE n tp m r f E) (faM n tp m r f M) := by
  intro a b h
  have hE := hT a b h
  unfold facE faM
  generalize E a = x at hE ⊢
  generalize M b = y at hE ⊢
  rcases hE with ⟨hs, hmu, h2, hv⟩ | hF
  · have hk := hs.1.is
    by_cases c1 : y.2 23 = 94
    · rw [if_pos ⟨hs.2.1.1, (hk.2.2 94 (by decide)).mpr c1⟩, if_pos ⟨hs.2.1.2.1, c1⟩]
      have x1 := hs.nx (tp := tp) htp hn (by omega)
      rcases fig_sim (most := 9999) htp hn x1.1 (by decide) with ⟨y1, y2, y3, y4, y5, y6⟩ | yF
      · refine Or.inl ⟨y1, ?_, fun q => h2 ?_, fun hc q => ?_⟩
        · show mu n (fiM n tp 9999 (gxM n tp y.2)).2 ≤ _
          omega
        · rw [← x1.2.2, ← y3]; exact q
        · have q2 : x.2 2 = 0 := by rw [← x1.2.2, ← y3]; exact q
          have hv2 := hv hc q2
          refine ⟨?_, pw_el hm hr _ _⟩
          show _ = (if _ ∧ _ then _ else _)
          rw [if_pos ⟨y1.2.1.2.1, by rw [y1.2.2.2.1]; exact hc⟩, hv2.1, y4]
      · exact Or.inr yF
    · rw [if_neg (fun q => c1 ((hk.2.2 94 (by decide)).mp q.2)), if_neg (fun q => c1 q.2)]
      exact Or.inl ⟨hs, hmu, h2, hv⟩
  · rw [if_neg (fun q => hF.e q.1), if_neg (fun q => hF.m q.1)]
    exact Or.inr hF
theorem fcL_stop {T : (Nat → Int) → Int × (Nat → Int)} {s : Int × (Nat → Int)} (h : ¬ (s.2 0 = 0 ∧ s.2 7 = 42)) : ∀ k, fcL n tp m r f T k s = s
  | 0 => rfl
  | _ + 1 => if_neg h
theorem teL_stop {T : (Nat → Int) → Int × (Nat → Int)} {s : Int × (Nat → Int)} (h : ¬ (s.2 26 = 0 ∧ s.2 23 = 42)) : ∀ k, teL n tp m r f T k s = s
  | 0 => rfl
  | _ + 1 => if_neg h
theorem tmL_stop {T : (Nat → Int) → Int × (Nat → Int)} {s : Int × (Nat → Int)} (h : ¬ (s.2 0 = 0 ∧ (s.2 7 = 43 ∨ s.2 7 = 45))) : ∀ k, tmL n tp m r f T k s = s
  | 0 => rfl
  | _ + 1 => if_neg h
theorem xpL_stop {T : (Nat → Int) → Int × (Nat → Int)} {s : Int × (Nat → Int)} (h : ¬ (s.2 26 = 0 ∧ (s.2 23 = 43 ∨ s.2 23 = 45))) : ∀ k, xpL n tp m r f T k s = s
  | 0 => rfl
  | _ + 1 => if_neg h
theorem mu_pos {y : Nat → Int} (h : y 23 ≠ 1002) : 1 ≤ mu n y := by
  unfold mu
  rw [if_neg h]
  omega
theorem fcL_sim (htp : ∀ j, j < 200 → 0 ≤ tp j ∧ tp j < 256) (hn : n ≤ 200) (hm : 2 ≤ m) (hr : 0 < r) (hT : SPr n c l m r E M) : ∀ (k k' : Nat) (s t : Int × (Nat → Int)), Rs n c l m r a b s t → (t.2 26 = 0 → mu n t.2 ≤ k ∧ mu n t.2 ≤ k') → Rs n c l m r a b (fcL n tp m r f E k s) (teL n tp m r f M k' t) := by
  intro k
  induction k with
  | zero =>
    intro k' s t h hk
    rcases h with ⟨hs, h⟩ | hF
    · have h0 := (hk hs.2.1.2.1).1
      have h1 : t.2 23 = 1002 := Classical.byContradiction fun q => by have := mu_pos (n := n) q; omega
      rw [teL_stop (fun q => by omega)]
      exact Or.inl ⟨hs, h⟩
    · rw [teL_stop (fun q => hF.m q.1)]
      exact Or.inr hF
  | succ k ih =>
    intro k' s t h hk
    rcases h with ⟨hs, hmu, h2, hv⟩ | hF
    · have hkk := hs.1.is
      by_cases c1 : t.2 23 = 42
      · have h0 := hk hs.2.1.2.1
        have h1 := mu_pos (n := n) (y := t.2) (by omega)
        obtain ⟨k2, rfl⟩ : ∃ k2, k' = k2 + 1 := ⟨k' - 1, by omega⟩
        have x1 := hs.nx (tp := tp) htp hn (by omega)
        have x2 := fac_sim (f := f) htp hn hm hr hT _ _ x1.1
        have e1 : fcL n tp m r f E (k + 1) s = fcL n tp m r f E k (tm m r f s.1 (facE n tp m r f E (nxE n tp s.2)).1, (facE n tp m r f E (nxE n tp s.2)).2) := if_pos ⟨hs.2.1.1, (hkk.2.2 42 (by decide)).mpr c1⟩
        have e2 : teL n tp m r f M (k2 + 1) t = teL n tp m r f M k2 (if (faM n tp m r f M (gxM n tp t.2)).2 26 = 0 ∧ (faM n tp m r f M (gxM n tp t.2)).2 28 ≠ 0 then tm m r f t.1 (faM n tp m r f M (gxM n tp t.2)).1 else 0, (faM n tp m r f M (gxM n tp t.2)).2) := if_pos ⟨hs.2.1.2.1, c1⟩
        rw [e1, e2]
        generalize facE n tp m r f E (nxE n tp s.2) = X at x2 ⊢
        generalize faM n tp m r f M (gxM n tp t.2) = Y at x2 ⊢
        rcases x2 with ⟨z1, z2, z3, z4⟩ | zF
        · refine ih k2 _ _ (Or.inl ⟨z1, by show mu n Y.2 ≤ _; omega, fun q => h2 (by rw [← x1.2.2]; exact z3 q), fun hc q => ?_⟩) (fun _ => by show mu n Y.2 ≤ k ∧ mu n Y.2 ≤ k2; omega)
          have q2 : s.2 2 = 0 := by rw [← x1.2.2]; exact z3 q
          have v1 := hv hc q2
          have v2 := z4 hc q
          refine ⟨?_, tm_el (by omega) _ _⟩
          show tm m r f s.1 X.1 = (if Y.2 26 = 0 ∧ Y.2 28 ≠ 0 then tm m r f t.1 Y.1 else 0)
          rw [if_pos ⟨z1.2.1.2.1, by rw [z1.2.2.2.1]; exact hc⟩, v1.1, v2.1]
        · exact ih k2 _ _ (Or.inr zF) (fun q => absurd q zF.m)
      · rw [fcL_stop (fun q => c1 ((hkk.2.2 42 (by decide)).mp q.2)), teL_stop (fun q => c1 q.2)]
        exact Or.inl ⟨hs, hmu, h2, hv⟩
    · rw [fcL_stop (fun q => hF.e q.1), teL_stop (fun q => hF.m q.1)]
      exact Or.inr hF
theorem facs_sim (htp : ∀ j, j < 200 → 0 ≤ tp j ∧ tp j < 256) (hn : n ≤ 200) (hm : 2 ≤ m) (hr : 0 < r) (hT : SPr n c l m r E M) : SPr n c l m r (facsE n tp m r f E) (teM n tp m r f M) := by
  intro a b h
  have h1 := fac_sim (f := f) htp hn hm hr hT a b h
  refine fcL_sim htp hn hm hr hT n (n + 1) _ _ h1 (fun q => ?_)
  rcases h1 with ⟨hs, -⟩ | hF
  · have := hs.mu_le; omega
  · exact absurd q hF.m
theorem tmL_sim (htp : ∀ j, j < 200 → 0 ≤ tp j ∧ tp j < 256) (hn : n ≤ 200) (hm : 2 ≤ m) (hr : 0 < r) (hT : SPr n c l m r E M) : ∀ (k k' : Nat) (s t : Int × (Nat → Int)), Rs n c l m r a b s t → (t.2 26 = 0 → mu n t.2 ≤ k ∧ mu n t.2 ≤ k') → Rs n c l m r a b (tmL n tp m r f E k s) (xpL n tp m r f M k' t) := by
  intro k
  induction k with
  | zero =>
    intro k' s t h hk
    rcases h with ⟨hs, h⟩ | hF
    · have h0 := (hk hs.2.1.2.1).1
      have h1 : t.2 23 = 1002 := Classical.byContradiction fun q => by have := mu_pos (n := n) q; omega
      rw [xpL_stop (fun q => by omega)]
      exact Or.inl ⟨hs, h⟩
    · rw [xpL_stop (fun q => hF.m q.1)]
      exact Or.inr hF
  | succ k ih =>
    intro k' s t h hk
    rcases h with ⟨hs, hmu, h2, hv⟩ | hF
    · have hkk := hs.1.is
      have k43 := hkk.2.2 43 (by decide)
      have k45 := hkk.2.2 45 (by decide)
      by_cases c1 : t.2 23 = 43 ∨ t.2 23 = 45
      · have h0 := hk hs.2.1.2.1
        have h1 := mu_pos (n := n) (y := t.2) (by omega)
        obtain ⟨k2, rfl⟩ : ∃ k2, k' = k2 + 1 := ⟨k' - 1, by omega⟩
        have x1 := hs.nx (tp := tp) htp hn (by omega)
        have x2 := facs_sim (f := f) htp hn hm hr hT _ _ x1.1
        have e1 : tmL n tp m r f E (k + 1) s = tmL n tp m r f E k ((if s.2 7 = 45 then mi m r s.1 (facsE n tp m r f E (nxE n tp s.2)).1 else pl m r s.1 (facsE n tp m r f E (nxE n tp s.2)).1), (facsE n tp m r f E (nxE n tp s.2)).2) := if_pos ⟨hs.2.1.1, by omega⟩
        have e2 : xpL n tp m r f M (k2 + 1) t = xpL n tp m r f M k2 (if (teM n tp m r f M (gxM n tp t.2)).2 26 = 0 ∧ (teM n tp m r f M (gxM n tp t.2)).2 28 ≠ 0 then (if t.2 23 = 43 then pl m r t.1 (teM n tp m r f M (gxM n tp t.2)).1 else mi m r t.1 (teM n tp m r f M (gxM n tp t.2)).1) else 0, (teM n tp m r f M (gxM n tp t.2)).2) := if_pos ⟨hs.2.1.2.1, c1⟩
        rw [e1, e2]
        generalize facsE n tp m r f E (nxE n tp s.2) = X at x2 ⊢
        generalize teM n tp m r f M (gxM n tp t.2) = Y at x2 ⊢
        rcases x2 with ⟨z1, z2, z3, z4⟩ | zF
        · refine ih k2 _ _ (Or.inl ⟨z1, by show mu n Y.2 ≤ _; omega, fun q => h2 (by rw [← x1.2.2]; exact z3 q), fun hc q => ?_⟩) (fun _ => by show mu n Y.2 ≤ k ∧ mu n Y.2 ≤ k2; omega)
          have q2 : s.2 2 = 0 := by rw [← x1.2.2]; exact z3 q
          have v1 := hv hc q2
          have v2 := z4 hc q
          show (if s.2 7 = 45 then mi m r s.1 X.1 else pl m r s.1 X.1) = (if Y.2 26 = 0 ∧ Y.2 28 ≠ 0 then (if t.2 23 = 43 then pl m r t.1 Y.1 else mi m r t.1 Y.1) else 0) ∧ El m r (if s.2 7 = 45 then mi m r s.1 X.1 else pl m r s.1 X.1)
          rw [if_pos (show Y.2 26 = 0 ∧ Y.2 28 ≠ 0 from ⟨z1.2.1.2.1, by rw [z1.2.2.2.1]; exact hc⟩), v1.1, v2.1]
          by_cases c2 : t.2 23 = 43
          · rw [if_neg (show ¬ s.2 7 = 45 by omega), if_pos c2]
            exact ⟨rfl, pl_el (by omega) _ _⟩
          · rw [if_pos (show s.2 7 = 45 by omega), if_neg c2]
            exact ⟨rfl, mi_el (by omega) _ _⟩
        · exact ih k2 _ _ (Or.inr zF) (fun q => absurd q zF.m)
      · rw [tmL_stop (fun q => c1 (by omega)), xpL_stop (fun q => c1 q.2)]
        exact Or.inl ⟨hs, hmu, h2, hv⟩
    · rw [tmL_stop (fun q => hF.e q.1), xpL_stop (fun q => hF.m q.1)]
      exact Or.inr hF
theorem tms_sim (htp : ∀ j, j < 200 → 0 ≤ tp j ∧ tp j < 256) (hn : n ≤ 200) (hm : 2 ≤ m) (hr : 0 < r) (hT : SPr n c l m r E M) : SPr n c l m r (tmsE n tp m r f E) (xpM n tp m r f M) := by
  intro a b h
  have h1 := facs_sim (f := f) htp hn hm hr hT a b h
  refine tmL_sim htp hn hm hr hT n (n + 1) _ _ h1 (fun q => ?_)
  rcases h1 with ⟨hs, -⟩ | hF
  · have := hs.mu_le; omega
  · exact absurd q hF.m
end Sim
