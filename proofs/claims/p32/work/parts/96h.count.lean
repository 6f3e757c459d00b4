/-! counting -/
def imB_ (h : Nat → Nat) : Nat → Nat → Bool
  | 0, _ => false
  | K + 1, x => imB_ h K x || decide (h K = x)
theorem im_iff {h : Nat → Nat} : ∀ (K x : Nat), imB_ h K x = true ↔ ∃ t, t < K ∧ h t = x
  | 0, x => ⟨fun q => absurd q (by simp [imB_]), fun ⟨t, a, _⟩ => absurd a (by omega)⟩
  | K + 1, x => by
    show (imB_ h K x || decide (h K = x)) = true ↔ _
    rw [Bool.or_eq_true, im_iff K x, decide_eq_true_eq]
    constructor
    · rintro (⟨t, a, b⟩ | b)
      · exact ⟨t, by omega, b⟩
      · exact ⟨K, by omega, b⟩
    · rintro ⟨t, a, b⟩
      rcases Nat.lt_or_ge t K with q | q
      · exact Or.inl ⟨t, q, b⟩
      · obtain rfl : t = K := by omega
        exact Or.inr b
theorem ctn_congr {P Q : Nat → Bool} {n : Nat} (h : ∀ y, y < n → P y = Q y) : ctn P n = ctn Q n := (nth_congr n h).1
theorem ctn_none {P : Nat → Bool} : ∀ {n : Nat}, (∀ y, y < n → P y = false) → ctn P n = 0
  | 0, _ => rfl
  | n + 1, h => by
    rw [ctn_no (by rw [h n (by omega)]; decide)]
    exact ctn_none fun y hy => h y (by omega)
theorem ctn_one {Q : Nat → Bool} {a : Nat} (hQ : Q a = false) : ∀ {n : Nat}, a < n → ctn (fun x => Q x || decide (a = x)) n = ctn Q n + 1
  | 0, h => absurd h (by omega)
  | n + 1, h => by
    by_cases he : a = n
    · subst he
      rw [ctn_yes (by simp), ctn_no (P := Q) (by rw [hQ]; decide)]
      rw [ctn_congr (Q := Q) (fun y hy => by simp; intro q; omega)]
    · have ih := ctn_one hQ (n := n) (by omega)
      by_cases hn : Q n = true
      · rw [ctn_yes (by simp [hn]), ctn_yes hn, ih]
      · rw [ctn_no (by simp [hn, he]), ctn_no hn, ih]
theorem ctn_img {h : Nat → Nat} {n : Nat} : ∀ K, (∀ t, t < K → h t < n) → (∀ s t, s < K → t < K → h s = h t → s = t) → ctn (imB_ h K) n = K
  | 0, _, _ => ctn_none fun _ _ => rfl
  | K + 1, h1, h2 => by
    have ih := ctn_img K (fun t ht => h1 t (by omega)) (fun s t hs ht => h2 s t (by omega) (by omega))
    have hQ : imB_ h K (h K) = false := by
      rw [Bool.eq_false_iff]
      intro q
      obtain ⟨t, a, b⟩ := (im_iff K _).mp q
      have := h2 t K (by omega) (by omega) b
      omega
    have h3 := ctn_one hQ (h1 K (by omega))
    rw [ih] at h3
    exact h3
theorem ctn_bij {P : Nat → Bool} {h : Nat → Nat} {n K : Nat} (h1 : ∀ t, t < K → h t < n ∧ P (h t) = true) (h2 : ∀ s t, s < K → t < K → h s = h t → s = t) (h3 : ∀ x, x < n → P x = true → ∃ t, t < K ∧ h t = x) : ctn P n = K := by
  rw [← ctn_img K (fun t ht => (h1 t ht).1) h2]
  refine ctn_congr fun y hy => ?_
  by_cases hp : P y = true
  · rw [hp, (im_iff K y).mpr (h3 y hy hp)]
  · rw [Bool.eq_false_iff.mpr hp]
    symm
    rw [Bool.eq_false_iff]
    intro q
    obtain ⟨t, a, b⟩ := (im_iff K y).mp q
    exact hp (by rw [← b]; exact (h1 t a).2)
theorem ctn_all {P : Nat → Bool} : ∀ {n : Nat}, (∀ y, y < n → P y = true) → ctn P n = n
  | 0, _ => rfl
  | n + 1, h => by rw [ctn_yes (h n (by omega)), ctn_all fun y hy => h y (by omega)]
theorem ctn_ge {P : Nat → Bool} {a : Nat} (h : ∀ y, y < a → P y = true) : ∀ n, a ≤ n → a ≤ ctn P n
  | 0, h1 => by omega
  | n + 1, h1 => by
    rcases Nat.lt_or_ge n a with q | q
    · obtain rfl : a = n + 1 := by omega
      rw [ctn_all h]; omega
    · have ih := ctn_ge h n q
      have : ctn P n ≤ ctn P (n + 1) := by
        show ctn P n ≤ if P n = true then ctn P n + 1 else ctn P n
        split <;> omega
      omega
theorem ctn_gt {P : Nat → Bool} {a x : Nat} (h : ∀ y, y < a → P y = true) (hx : a ≤ x) (hp : P x = true) : ∀ n, x < n → a < ctn P n
  | 0, h1 => by omega
  | n + 1, h1 => by
    by_cases he : x = n
    · subst he
      rw [ctn_yes hp]
      have := ctn_ge h x hx
      omega
    · have ih := ctn_gt h hx hp n (by omega)
      have : ctn P n ≤ ctn P (n + 1) := by
        show ctn P n ≤ if P n = true then ctn P n + 1 else ctn P n
        split <;> omega
      omega
