/-! classes: the partition told by both, for all that may be asked -/
def chP (p n : Nat) : Bool := decide ((paE p n n).2 = cmM p n) && decide (∀ i, i < n → (paE p n n).1 i = (coM p n i : Nat))
def chO (p n : Nat) : Bool := decide (∀ i, i < n → 1 ≤ orK p n i ∧ orb p n i (orK p n i) = i ∧ (∀ j, j < orK p n i → 1 ≤ j → orb p n i j ≠ i) ∧ lsM p n i ≤ i ∧ lsM p n (lsM p n i) = lsM p n i ∧ lsM p n (i * p % n) = lsM p n i)
def prL : List (Nat × Nat) := [(2, 1), (2, 3), (2, 5), (2, 7), (2, 9), (2, 15), (2, 21), (2, 31), (2, 63), (3, 1), (3, 2), (3, 4), (3, 5), (3, 7), (3, 8), (3, 10), (3, 11), (3, 13), (3, 14), (3, 16), (3, 20), (3, 22), (3, 26), (3, 28), (3, 40), (3, 52), (3, 56), (5, 1), (5, 2), (5, 3), (5, 4), (5, 6), (5, 8), (5, 11), (5, 12), (5, 13), (5, 16), (5, 22), (5, 24), (5, 26), (5, 31), (5, 39), (5, 44), (5, 48), (5, 52), (5, 62), (7, 1), (7, 2), (7, 3), (7, 4), (7, 5), (7, 6), (7, 8), (7, 9), (7, 10), (7, 12), (7, 15), (7, 16), (7, 18), (7, 19), (7, 20), (7, 24), (7, 25), (7, 30), (7, 32), (7, 38), (7, 40), (7, 48), (7, 50), (7, 57), (7, 60)]
def prC : Bool := [2, 3, 5, 7].all fun p => (List.range 7).all fun r => (List.range 64).all fun n => if 1 ≤ r ∧ p ^ r ≤ 4096 ∧ 1 ≤ n ∧ (p ^ r - 1) % n = 0 then prL.contains (p, n) else true
set_option maxRecDepth 100000 in
theorem prC_ok : prC = true := by decide +kernel
set_option maxRecDepth 100000 in
theorem prP_ok : (prL.all fun q => chP q.1 q.2) = true := by decide +kernel
set_option maxRecDepth 100000 in
theorem prO_ok : (prL.all fun q => chO q.1 q.2) = true := by decide +kernel
theorem pr_mem {p r n : Nat} (hp : p = 2 ∨ p = 3 ∨ p = 5 ∨ p = 7) (hr : 1 ≤ r) (hr6 : r ≤ 6) (hq : p ^ r ≤ 4096) (hn : 1 ≤ n) (hn63 : n ≤ 63) (h : (p ^ r - 1) % n = 0) : (p, n) ∈ prL := by
  have h1 := List.all_eq_true.mp prC_ok p (by simpa using hp)
  have h2 := List.all_eq_true.mp h1 r (List.mem_range.mpr (by omega))
  have h3 := List.all_eq_true.mp h2 n (List.mem_range.mpr (by omega))
  rw [if_pos ⟨hr, hq, hn, h⟩] at h3
  simpa using h3
theorem pr_P {p n : Nat} (h : (p, n) ∈ prL) : (paE p n n).2 = cmM p n ∧ ∀ i, i < n → (paE p n n).1 i = (coM p n i : Nat) := by
  have h1 := List.all_eq_true.mp prP_ok (p, n) h
  unfold chP at h1
  rw [Bool.and_eq_true] at h1
  exact ⟨of_decide_eq_true h1.1, of_decide_eq_true h1.2⟩
theorem pr_O {p n : Nat} (h : (p, n) ∈ prL) : ∀ i, i < n → 1 ≤ orK p n i ∧ orb p n i (orK p n i) = i ∧ (∀ j, j < orK p n i → 1 ≤ j → orb p n i j ≠ i) ∧ lsM p n i ≤ i ∧ lsM p n (lsM p n i) = lsM p n i ∧ lsM p n (i * p % n) = lsM p n i :=
  of_decide_eq_true (List.all_eq_true.mp prO_ok (p, n) h)
theorem orbOK_of {p n : Nat} (h : (p, n) ∈ prL) : OrbOK p n := fun i hi => by
  obtain ⟨a, b, c, d, -⟩ := pr_O h i hi
  exact ⟨a, b, fun j h1 h2 => c j h2 h1, d⟩
/-! the j-th of those with a property, both ways to tell it -/
theorem nthE_spec {P : Nat → Bool} {v : Nat} : ∀ (k i : Nat), (∃ y, i ≤ y ∧ y < i + k ∧ P y = true ∧ ctn P y = v ∧ nthE P v k i = y) ∨ (nthE P v k i = -1 ∧ ∀ y, i ≤ y → y < i + k → ¬ (P y = true ∧ ctn P y = v))
  | 0, i => Or.inr ⟨rfl, fun y a b => by omega⟩
  | k + 1, i => by
    have e1 : nthE P v (k + 1) i = if P i = true ∧ ctn P i = v then (i : Int) else nthE P v k (i + 1) := rfl
    by_cases hc : P i = true ∧ ctn P i = v
    · exact Or.inl ⟨i, Nat.le_refl _, by omega, hc.1, hc.2, by rw [e1, if_pos hc]⟩
    · rw [e1, if_neg hc]
      rcases nthE_spec (P := P) (v := v) k (i + 1) with ⟨y, a, b, c, d, e⟩ | ⟨a, b⟩
      · exact Or.inl ⟨y, by omega, by omega, c, d, e⟩
      · refine Or.inr ⟨a, fun y h1 h2 => ?_⟩
        rcases Nat.lt_or_ge i y with q | q
        · exact b y q (by omega)
        · obtain rfl : y = i := by omega
          exact hc
theorem nth_spec {P : Nat → Bool} {v : Nat} : ∀ n, (∃ y, y < n ∧ P y = true ∧ ctn P y = v ∧ nth P n v = y) ∨ (nth P n v = -1 ∧ ∀ y, y < n → ¬ (P y = true ∧ ctn P y = v))
  | 0 => Or.inr ⟨rfl, fun y a => by omega⟩
  | n + 1 => by
    have e1 : nth P (n + 1) v = if P n = true ∧ ctn P n = v then (n : Int) else nth P n v := rfl
    by_cases hc : P n = true ∧ ctn P n = v
    · exact Or.inl ⟨n, by omega, hc.1, hc.2, by rw [e1, if_pos hc]⟩
    · rw [e1, if_neg hc]
      rcases nth_spec (P := P) (v := v) n with ⟨y, a, b, c, d⟩ | ⟨a, b⟩
      · exact Or.inl ⟨y, by omega, b, c, d⟩
      · refine Or.inr ⟨a, fun y h1 => ?_⟩
        rcases Nat.lt_or_ge y n with q | q
        · exact b y q
        · obtain rfl : y = n := by omega
          exact hc
theorem ctn_mono {P : Nat → Bool} {a : Nat} : ∀ b, a ≤ b → ctn P a ≤ ctn P b
  | 0, h => by
    obtain rfl : a = 0 := by omega
    exact Nat.le_refl _
  | b + 1, h => by
    rcases Nat.lt_or_ge a (b + 1) with q | q
    · have ih := ctn_mono (P := P) b (show a ≤ b by omega)
      have : ctn P b ≤ ctn P (b + 1) := by
        show ctn P b ≤ if P b = true then ctn P b + 1 else ctn P b
        split <;> omega
      omega
    · obtain rfl : a = b + 1 := by omega
      exact Nat.le_refl _
theorem ctn_uniq {P : Nat → Bool} {x y : Nat} (hx : P x = true) (hy : P y = true) (h : ctn P x = ctn P y) : x = y := by
  rcases Nat.lt_trichotomy x y with q | q | q
  · have h1 := ctn_mono (P := P) y (show x + 1 ≤ y from q)
    rw [ctn_yes hx] at h1
    omega
  · exact q
  · have h1 := ctn_mono (P := P) x (show y + 1 ≤ x from q)
    rw [ctn_yes hy] at h1
    omega
theorem nth_nthE {P : Nat → Bool} {v n : Nat} : nthE P v n 0 = nth P n v := by
  rcases nthE_spec (P := P) (v := v) n 0 with ⟨y, a, b, c, d, e⟩ | ⟨a, b⟩
  · rcases nth_spec (P := P) (v := v) n with ⟨z, a', c', d', e'⟩ | ⟨a', b'⟩
    · rw [e, e', ctn_uniq c c' (d.trans d'.symm)]
    · exact absurd ⟨c, d⟩ (b' y (by omega))
  · rcases nth_spec (P := P) (v := v) n with ⟨z, a', c', d', e'⟩ | ⟨a', b'⟩
    · exact absurd ⟨c', d'⟩ (b z (by omega) (by omega))
    · rw [a, a']
theorem nthE_at {P : Nat → Bool} {y n : Nat} (hy : y < n) (hp : P y = true) : nthE P (ctn P y) n 0 = y := by
  rcases nthE_spec (P := P) (v := ctn P y) n 0 with ⟨z, a, b, c, d, e⟩ | ⟨a, b⟩
  · rw [e, ctn_uniq c hp d]
  · exact absurd ⟨hp, rfl⟩ (b y (by omega) (by omega))
theorem cls_eq {p n : Nat} (hL : (p, n) ∈ prL) (i k : Int) : clsE p n i k = clsM p n i k := by
  obtain ⟨h1, h2⟩ := pr_P hL
  unfold clsE clsM
  rw [h1]
  by_cases hi1 : i = -1
  · rw [if_pos hi1, if_pos hi1]
  rw [if_neg hi1, if_neg hi1]
  by_cases hi : 0 ≤ i ∧ i < (cmM p n : Int)
  · rw [if_pos hi, if_pos hi]
    have hc : ∀ j, j < n → decide ((paE p n n).1 j = i) = decide ((lsM p n j : Int) = nthE (fun k => decide (lsM p n k = k)) i.toNat n 0) := fun j hj => by
      obtain ⟨a, b, c, d, e, f⟩ := pr_O hL j hj
      have hP : decide (lsM p n (lsM p n j) = lsM p n j) = true := decide_eq_true e
      have hco : (paE p n n).1 j = ((ctn (fun k => decide (lsM p n k = k)) (lsM p n j) : Nat) : Int) := h2 j hj
      have hat := nthE_at (P := fun k => decide (lsM p n k = k)) (y := lsM p n j) (n := n) (by omega) hP
      rw [hco]
      by_cases hq : ctn (fun k => decide (lsM p n k = k)) (lsM p n j) = i.toNat
      · rw [decide_eq_true (show ((ctn (fun k => decide (lsM p n k = k)) (lsM p n j) : Nat) : Int) = i by omega), ← hq, hat, decide_eq_true rfl]
      · rw [decide_eq_false (show ¬ ((ctn (fun k => decide (lsM p n k = k)) (lsM p n j) : Nat) : Int) = i by omega)]
        symm
        refine decide_eq_false fun he => hq ?_
        rcases nthE_spec (P := fun k => decide (lsM p n k = k)) (v := i.toNat) n 0 with ⟨y, z1, z2, z3, z4, z5⟩ | ⟨z1, z2⟩
        · rw [z5] at he
          have : lsM p n j = y := by omega
          rw [this]; exact z4
        · rw [z1] at he; omega
    have hcn := nth_congr (P := fun j => decide ((paE p n n).1 j = i)) (Q := fun j => decide ((lsM p n j : Int) = nthE (fun k => decide (lsM p n k = k)) i.toNat n 0)) n hc
    rw [← hcn.1, ← hcn.2]
    unfold mo1
    by_cases hk1 : k = -1
    · rw [if_pos hk1, if_pos (show -1 ≤ k by omega), if_pos hk1]
    · rw [if_neg hk1, if_neg hk1]
      by_cases hk : 0 ≤ k ∧ k < ((ctn (fun j => decide ((paE p n n).1 j = i)) n : Nat) : Int)
      · rw [if_pos hk, if_pos (show -1 ≤ k by omega), if_pos hk, nth_nthE]
      · rw [if_neg hk, if_neg hk]
        split <;> rfl
  · rw [if_neg hi, if_neg hi]
