/-! the readings, side by side: tokens -/
abbrev isS (x : Int) : Prop := x = 35 ∨ x = 40 ∨ x = 41 ∨ x = 42 ∨ x = 43 ∨ x = 45 ∨ x = 94 ∨ x = 103 ∨ x = 105 ∨ x = 109 ∨ x = 112 ∨ x = 114 ∨ x = 116
theorem sg_yes {x : Int} (h : isS x) : sgM x = 1 := if_pos h
theorem sg_no {x : Int} (h : ¬ isS x) : sgM x = 0 := if_neg h
def TKr (n : Nat) (a b : Nat → Int) : Prop := a 8 = b 22 ∧ 0 ≤ b 21 ∧ b 21 ≤ n ∧ ((b 23 = 1002 ∧ a 7 = 257 ∧ b 21 = n) ∨ ((b 23 = 1000 ∧ a 7 = 256 ∧ a 9 = min (b 24) 10000 ∧ 0 ≤ b 24 ∨ b 23 = a 7 ∧ isS (a 7) ∨ b 23 = 1001 ∧ ¬ isS (a 7) ∧ 0 ≤ a 7 ∧ a 7 < 256) ∧ a 10 = b 21 ∧ 1 ≤ b 21))
theorem bAM {n : Nat} {tp : Nat → Int} (i : Nat) : (i < n ∧ bA n tp i = tp i ∧ bM n tp i = tp i) ∨ (n ≤ i ∧ bA n tp i = 257 ∧ bM n tp i = 0) := by
  unfold bA bM
  by_cases h : i < n
  · exact Or.inl ⟨h, if_pos h, if_pos h⟩
  · exact Or.inr ⟨by omega, if_neg h, if_neg h⟩
theorem sk_sk {n : Nat} {tp : Nat → Int} : ∀ k i, sks n tp k i = skM n tp k i
  | 0, _ => rfl
  | k + 1, i => by
    have h := bAM (n := n) (tp := tp) i
    unfold sks skM
    by_cases c : bA n tp i = 32 ∨ bA n tp i = 10
    · rw [if_pos c, if_pos (by omega), sk_sk k]
    · rw [if_neg c, if_neg (by omega)]
theorem fg_fg {n : Nat} {tp : Nat → Int} : ∀ (k i : Nat) (w v : Int), w = min v 10000 → 0 ≤ v → (fgs n tp k i w).1 = (fgM n tp k i v).1 ∧ (fgs n tp k i w).2 = min (fgM n tp k i v).2 10000 ∧ 0 ≤ (fgM n tp k i v).2
  | 0, _, w, v, h, h0 => ⟨rfl, h, h0⟩
  | k + 1, i, w, v, h, h0 => by
    have hb := bAM (n := n) (tp := tp) i
    unfold fgs fgM
    by_cases c : 48 ≤ bA n tp i ∧ bA n tp i ≤ 57
    · have e : bA n tp i = bM n tp i := by omega
      rw [if_pos c, if_pos (by omega)]
      exact fg_fg k (i + 1) _ _ (by rw [e]; omega) (by omega)
    · rw [if_neg c, if_neg (by omega)]
      exact ⟨rfl, h, h0⟩
theorem nx_core {n : Nat} {tp a b : Nat → Int} (htp : ∀ j, j < 200 → 0 ≤ tp j ∧ tp j < 256) (hn : n ≤ 200) (h10 : a 10 = b 21) (h0 : 0 ≤ b 21) (h1 : b 21 ≤ n) : TKr n (nxE n tp a) (gxM n tp b) ∧ (nxE n tp a 0 = a 0 ∧ nxE n tp a 1 = a 1 ∧ nxE n tp a 2 = a 2) ∧ (gxM n tp b 25 = b 25 ∧ gxM n tp b 26 = b 26 ∧ gxM n tp b 27 = b 27 ∧ gxM n tp b 28 = b 28 ∧ gxM n tp b 29 = b 29) ∧ mu n (gxM n tp b) < (n - (b 21).toNat) + 1 := by
  have hs := skM_le (n := n) (tp := tp) (n - (b 21).toNat) (b 21).toNat (by omega)
  have e1 : nxE n tp a = n8E n tp a (skM n tp (n - (b 21).toNat) (b 21).toNat) := by
    unfold nxE
    rw [h10, sk_sk]
  rw [e1]
  unfold gxM
  generalize skM n tp (n - (b 21).toNat) (b 21).toNat = f at hs ⊢
  have hb := bAM (n := n) (tp := tp) f
  by_cases hf : f = n
  · have e2 : n8E n tp a f = upc (upc (upc a 8 f) 7 (bA n tp f)) 10 (f + 1 : Nat) := if_neg (by omega)
    have e3 : g8M n tp b f = upc (upc (upc b 21 f) 22 f) 23 1002 := if_pos hf
    rw [e2, e3]
    refine ⟨⟨rfl, by show (0 : Int) ≤ f; omega, by show (f : Int) ≤ n; omega, Or.inl ⟨rfl, by show bA n tp f = 257; omega, by show (f : Int) = n; omega⟩⟩, ⟨rfl, rfl, rfl⟩, ⟨rfl, rfl, rfl, rfl, rfl⟩, ?_⟩
    show (n - (f : Int).toNat) + (if (1002 : Int) = 1002 then 0 else 1) < _
    rw [if_pos rfl]
    omega
  · have hlt : f < n := by omega
    have ht := htp f (by omega)
    have hbb : bA n tp f = tp f ∧ bM n tp f = tp f := by omega
    by_cases hd : 48 ≤ bA n tp f ∧ bA n tp f ≤ 57
    · have e2 : n8E n tp a f = tkE n tp (upc (upc (upc a 8 f) 7 (bA n tp f)) 10 (f + 1 : Nat)) f := if_pos hd
      have e3 : g8M n tp b f = upc (upc (upc (upc b 22 f) 23 1000) 24 (fgM n tp (n - f) f 0).2) 21 (fgM n tp (n - f) f 0).1 := (if_neg hf).trans (if_pos (by omega))
      have hfg := fg_fg (n := n) (tp := tp) (n - f) f 0 0 (by decide) (by decide)
      have hpos : f + 1 ≤ (fgM n tp (n - f) f 0).1 ∧ (fgM n tp (n - f) f 0).1 ≤ n := by
        obtain ⟨k, hk⟩ : ∃ k, n - f = k + 1 := ⟨n - f - 1, by omega⟩
        rw [hk]
        have e9 : fgM n tp (k + 1) f 0 = fgM n tp k (f + 1) (min 1000000 (10 * 0 + bM n tp f - 48)) := if_pos (by omega)
        have h9 := fgM_range (n := n) (tp := tp) k (f + 1) (min 1000000 (10 * 0 + bM n tp f - 48)) (by omega) (by omega) (by omega)
        rw [e9]
        exact ⟨h9.1, h9.2.1⟩
      rw [e2, e3]
      unfold tkE
      generalize fgs n tp (n - f) f 0 = X at hfg ⊢
      generalize fgM n tp (n - f) f 0 = Y at hfg hpos ⊢
      refine ⟨⟨rfl, by show (0 : Int) ≤ Y.1; omega, by show (Y.1 : Int) ≤ n; omega, Or.inr ⟨Or.inl ⟨rfl, rfl, hfg.2.1, hfg.2.2⟩, by show (X.1 : Int) = Y.1; omega, by show (1 : Int) ≤ Y.1; omega⟩⟩, ⟨rfl, rfl, rfl⟩, ⟨rfl, rfl, rfl, rfl, rfl⟩, ?_⟩
      show (n - (Y.1 : Int).toNat) + (if (1000 : Int) = 1002 then 0 else 1) < _
      rw [if_neg (by decide)]
      omega
    · have e2 : n8E n tp a f = upc (upc (upc a 8 f) 7 (bA n tp f)) 10 (f + 1 : Nat) := if_neg hd
      have e3 : g8M n tp b f = upc (upc (upc b 22 f) 23 (if sgM (bM n tp f) = 1 then bM n tp f else 1001)) 21 (f + 1 : Nat) := (if_neg hf).trans (if_neg (by omega))
      rw [e2, e3]
      have hT : (if sgM (bM n tp f) = 1 then bM n tp f else 1001) = tp f ∧ isS (tp f) ∨ (if sgM (bM n tp f) = 1 then bM n tp f else 1001) = 1001 ∧ ¬ isS (tp f) := by
        rw [hbb.2]
        by_cases hS : isS (tp f)
        · exact Or.inl ⟨if_pos (sg_yes hS), hS⟩
        · exact Or.inr ⟨if_neg (by rw [sg_no hS]; decide), hS⟩
      generalize (if sgM (bM n tp f) = 1 then bM n tp f else 1001) = u at hT ⊢
      refine ⟨⟨rfl, by show (0 : Int) ≤ (f + 1 : Nat); omega, by show ((f + 1 : Nat) : Int) ≤ n; omega, Or.inr ⟨Or.inr ?_, rfl, by show (1 : Int) ≤ (f + 1 : Nat); omega⟩⟩, ⟨rfl, rfl, rfl⟩, ⟨rfl, rfl, rfl, rfl, rfl⟩, ?_⟩
      · show u = bA n tp f ∧ isS (bA n tp f) ∨ u = 1001 ∧ ¬ isS (bA n tp f) ∧ 0 ≤ bA n tp f ∧ bA n tp f < 256
        rw [hbb.1]
        rcases hT with hT | hT
        · exact Or.inl hT
        · exact Or.inr ⟨hT.1, hT.2, ht⟩
      · show (n - ((f + 1 : Nat) : Int).toNat) + (if u = 1002 then 0 else 1) < _
        split <;> omega
/-- no fault so far; l deeper may be gone; c is 1 in the second reading -/
def St (n : Nat) (c : Int) (l : Nat) (a b : Nat → Int) : Prop := TKr n a b ∧ (a 0 = 0 ∧ b 26 = 0 ∧ a 1 = -1 ∧ b 27 = -1) ∧ b 25 + l = 8 ∧ b 28 = c ∧ (c ≠ 0 → a 2 = b 29) ∧ (a 2 = 0 ∨ a 2 = 1)
def Fa (x y : Nat → Int) : Prop := 0 < x 0 ∧ x 0 = y 26 ∧ x 1 = y 27
theorem TKr.is {n : Nat} {a b : Nat → Int} (h : TKr n a b) : (a 7 = 257 ↔ b 23 = 1002) ∧ (a 7 = 256 ↔ b 23 = 1000) ∧ ∀ k, isS k → (a 7 = k ↔ b 23 = k) := by
  obtain ⟨-, -, -, h⟩ := h
  refine ⟨by omega, by omega, fun k hk => by omega⟩
theorem St.mu_le {n : Nat} {c : Int} {l : Nat} {a b : Nat → Int} (h : St n c l a b) : mu n b ≤ n := by
  obtain ⟨⟨-, h1, h2, h3⟩, -⟩ := h
  unfold mu
  split
  · omega
  · omega
theorem St.nx {n : Nat} {c : Int} {l : Nat} {tp a b : Nat → Int} (htp : ∀ j, j < 200 → 0 ≤ tp j ∧ tp j < 256) (hn : n ≤ 200) (h : St n c l a b) (h7 : b 23 ≠ 1002) : St n c l (nxE n tp a) (gxM n tp b) ∧ mu n (gxM n tp b) < mu n b ∧ nxE n tp a 2 = a 2 := by
  obtain ⟨⟨h1, h2, h3, h4⟩, ⟨h5, h6, h8, h9⟩, h10, h11, h12, h14⟩ := h
  have h13 : a 10 = b 21 := by
    rcases h4 with h4 | h4
    · exact absurd h4.1 h7
    · exact h4.2.1
  obtain ⟨t1, ⟨t2, t3, t4⟩, ⟨t5, t6, t7, t8, t9⟩, t10⟩ := nx_core (a := a) (b := b) htp hn h13 h2 h3
  refine ⟨⟨t1, ⟨t2.trans h5, t6.trans h6, t3.trans h8, t7.trans h9⟩, by rw [t5]; exact h10, t8.trans h11, fun q => by rw [t4, t9]; exact h12 q, by rw [t4]; exact h14⟩, ?_, t4⟩
  have e : mu n b = (n - (b 21).toNat) + 1 := by unfold mu; rw [if_neg h7]
  omega
theorem St.fail {n : Nat} {c w : Int} {l : Nat} {a b : Nat → Int} (h : St n c l a b) (hw : 0 < w) : Fa (failE a w) (chM 0 w b) := by
  obtain ⟨⟨h1, -⟩, ⟨h5, h6, -⟩, -⟩ := h
  unfold failE chM
  rw [if_pos h5, if_pos ⟨h6, rfl⟩]
  exact ⟨hw, rfl, h1⟩
theorem chm_id {b : Nat → Int} {v w : Int} (h : v ≠ 0) : chM v w b = b := if_neg fun q => h q.2
theorem chm_f {b : Nat → Int} {v w : Int} (h : b 26 ≠ 0) : chM v w b = b := if_neg fun q => h q.1
theorem ch0_26 {b : Nat → Int} {w : Int} (h : b 26 = 0) : chM 0 w b 26 = w := by
  unfold chM
  rw [if_pos ⟨h, rfl⟩]
  rfl
/-- a number, both ways -/
theorem fig_sim {n : Nat} {c most : Int} {l : Nat} {tp a b : Nat → Int} (htp : ∀ j, j < 200 → 0 ≤ tp j ∧ tp j < 256) (hn : n ≤ 200) (h : St n c l a b) (hm : most ≤ 9999) : (St n c l (figE n tp most a).2 (fiM n tp most b).2 ∧ mu n (fiM n tp most b).2 < mu n b ∧ (figE n tp most a).2 2 = a 2 ∧ (figE n tp most a).1 = (fiM n tp most b).1 ∧ 0 ≤ (figE n tp most a).1 ∧ (figE n tp most a).1 ≤ most) ∨ Fa (figE n tp most a).2 (fiM n tp most b).2 := by
  have hk := h.1.is
  have h26 := h.2.1.2.1
  unfold figE fiM
  by_cases c1 : b 23 = 1000
  · have e1 : chM (if b 23 = 1000 then 1 else 0) 1 b = b := by rw [if_pos c1]; exact chm_id (by decide)
    have h9 : a 9 = min (b 24) 10000 ∧ 0 ≤ b 24 := by
      obtain ⟨⟨-, -, -, h4⟩, -⟩ := h
      omega
    rw [e1, if_pos (hk.2.1.mpr c1), if_pos h26]
    by_cases c2 : b 24 ≤ most
    · have e2 : chM (if b 24 ≤ most then 1 else 0) 2 b = b := by rw [if_pos c2]; exact chm_id (by decide)
      rw [e2, if_neg (show ¬ most < a 9 by omega), if_pos h26]
      have hx := h.nx htp hn (by omega)
      refine Or.inl ⟨hx.1, hx.2.1, hx.2.2, ?_, ?_, ?_⟩
      · show a 9 = b 24; omega
      · show 0 ≤ a 9; omega
      · show a 9 ≤ most; omega
    · have e2 : chM (if b 24 ≤ most then 1 else 0) 2 b = chM 0 2 b := by rw [if_neg c2]
      rw [e2, if_pos (show most < a 9 by omega), if_neg (by rw [ch0_26 h26]; decide)]
      exact Or.inr (h.fail (by decide))
  · have e1 : chM (if b 23 = 1000 then 1 else 0) 1 b = chM 0 1 b := by rw [if_neg c1]
    rw [e1, if_neg (fun q => c1 (hk.2.1.mp q)), if_neg (by rw [ch0_26 h26]; decide)]
    exact Or.inr (h.fail (by decide))
