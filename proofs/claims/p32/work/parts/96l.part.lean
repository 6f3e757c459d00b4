/-! classes: the partition told by both, for all that may be asked -/
def chP (p n : Nat) : Bool := decide ((paE p n n).2 = cmM p n) && decide (∀ i, i < n → (paE p n n).1 i = (coM p n i : Nat))
def chO (p n : Nat) : Bool := decide (∀ i, i < n → 1 ≤ orK p n i ∧ orb p n i (orK p n i) = i ∧ (∀ j, j < orK p n i → 1 ≤ j → orb p n i j ≠ i) ∧ lsM p n i ≤ i ∧ lsM p n (lsM p n i) = lsM p n i ∧ lsM p n (i * p % n) = lsM p n i)
def prL : List (Nat × Nat) := [(2, 1), (2, 3), (2, 5), (2, 7), (2, 9), (2, 15), (2, 21), (2, 31), (2, 63), (3, 1), (3, 2), (3, 4), (3, 5), (3, 7), (3, 8), (3, 10), (3, 11), (3, 13), (3, 14), (3, 16), (3, 20), (3, 22), (3, 26), (3, 28), (3, 40), (3, 52), (3, 56), (5, 1), (5, 2), (5, 3), (5, 4), (5, 6), (5, 8), (5, 11), (5, 12), (5, 13), (5, 16), (5, 22), (5, 24), (5, 26), (5, 31), (5, 39), (5, 44), (5, 48), (5, 52), (5, 62), (7, 1), (7, 2), (7, 3), (7, 4), (7, 5), (7, 6), (7, 8), (7, 9), (7, 10), (7, 12), (7, 15), (7, 16), (7, 18), (7, 19), (7, 20), (7, 24), (7, 25), (7, 30), (7, 32), (7, 38), (7, 40), (7, 48), (7, 50), (7, 57), (7, 60)]
def prC : Bool := [2, 3, 5, 7].all fun p => (List.range 7).all fun r => (List.range 64).all fun n => if 1 ≤ r ∧ p ^ r ≤ 4096 ∧ 1 ≤ n ∧ (p ^ r - 1) % n = 0 then prL.contains (p, n) else true
set_option maxRecDepth 100000 in
theorem prC_ok : prC = true := by decide +kernel
set_option maxRecDepth 100000 in
theorem prP_ok : (prL.all fun q => chP q.1 q.2) = true := by decide +kernel
set_option maxRecDepth 100000 in
theorem prO_ok : (prL.all fun q => chO q.1 q.2) = true := by decide +kernel
theorem pr_mem {p r n : Nat} (hp : p = 2 ∨ p = 3 ∨ p = 5 ∨ p = 7) (hr : 1 ≤ r) (hr6 : r ≤ 6) (hq : p ^ r ≤ 4096) (hn : 1 ≤ n) (hn63 : n ≤ 63) (h : (p ^ r - 1) % n = 0) : (p, n) ∈ prL := by
  have h1 := List.all_eq_true.mp prC_ok p (by simpa using hp)
  have h2 := List.all_eq_true.mp h1 r (List.mem_range.mpr (by omega))
  have h3 := List.all_eq_true.mp h2 n (List.mem_range.mpr (by omega))
  rw [if_pos ⟨hr, hq, hn, h⟩] at h3
  simpa using h3
theorem pr_P {p n : Nat} (h : (p, n) ∈ prL) : (paE p n n).2 = cmM p n ∧ ∀ i, i < n → (paE p n n).1 i = (coM p n i : Nat) := by
  have h1 := List.all_eq_true.mp prP_ok (p, n) h
  unfold chP at h1
  rw [Bool.and_eq_true] at h1
  exact ⟨of_decide_eq_true h1.1, of_decide_eq_true h1.2⟩
theorem pr_O {p n : Nat} (h : (p, n) ∈ prL) : ∀ i, i < n → 1 ≤ orK p n i ∧ orb p n i (orK p n i) = i ∧ (∀ j, j < orK p n i → 1 ≤ j → orb p n i j ≠ i) ∧ lsM p n i ≤ i ∧ lsM p n (lsM p n i) = lsM p n i ∧ lsM p n (i * p % n) = lsM p n i :=
  of_decide_eq_true (List.all_eq_true.mp prO_ok (p, n) h)
/-! the j-th of those with a property, both ways to tell it -/
