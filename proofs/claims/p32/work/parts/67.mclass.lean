/-! the model: classes, codes -/
def orb (p n i : Nat) : Nat → Nat
  | 0 => i
  | k + 1 => orb p n i k * p % n
/-- the first k from s on (t to try) that is back at i -/
def orF (p n i : Nat) : Nat → Nat → Nat
  | 0, s => s
  | t + 1, s => if orb p n i s = i then s else orF p n i t (s + 1)
def orK (p n i : Nat) : Nat := orF p n i n 1
def mnO (p n i : Nat) : Nat → Nat
  | 0 => i
  | k + 1 => min (mnO p n i k) (orb p n i (k + 1))
def lsM (p n i : Nat) : Nat := mnO p n i (orK p n i - 1)
def OrbOK (p n : Nat) : Prop := ∀ i, i < n → 1 ≤ orK p n i ∧ orb p n i (orK p n i) = i ∧ (∀ j, 1 ≤ j → j < orK p n i → orb p n i j ≠ i) ∧ lsM p n i ≤ i
def coM (p n i : Nat) : Nat := ctn (fun k => decide (lsM p n k = k)) (lsM p n i)
