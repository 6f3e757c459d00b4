/-! Weights -/
theorem XF.foff {l : List (Nat × Nat)} {F F2 : HF} (h : XF F) (ho : FOff l F F2) (hl : (l.all fun b => plainF xrefs b.1 b.2) = true) : XF F2 := by
  intro q hq
  rw [ho q.1 q.2.1]
  · exact h q hq
  · intro hm
    have h1 := List.all_eq_true.mp hl _ hm
    have h2 := List.all_eq_true.mp h1 q hq
    simp at h2
theorem FOff.row {l : List (Nat × Nat)} {F F2 : HF} (ho : FOff l F F2) (a : Nat) (h : (l.all fun b => b.1 != a) = true) : F2 a = F a := by
  funext k
  refine ho a k fun hm => ?_
  have h1 := List.all_eq_true.mp h _ hm
  simp at h1
def wtE (nu : Nat → Int) (k : Nat) : Nat := ctn (fun i => decide (0 < nu i)) k
def leE (m : Int) (nu : Nat → Int) : Nat → Int
  | 0 => 0
  | k + 1 => leE m nu k + (if 0 < nu k then (if nu k < m - nu k then nu k else m - nu k) else 0)
