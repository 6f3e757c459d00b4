/-! counting -/
def imB_ (h : Nat → Nat) : Nat → Nat → Bool
  | 0, _ => false
  | K + 1, x => imB_ h K x || decide (h K = x)
theorem im_iff {h : Nat → Nat} : ∀ (K x : Nat), imB_ h K x = true ↔ ∃ t, t < K ∧ h t = x
  | 0, x => ⟨fun q => absurd q (by simp [imB_]), fun ⟨t, a, _⟩ => absurd a (by omega)⟩
  | K + 1, x => by
    show (imB_ h K x || decide (h K = x)) = true ↔ _
    rw [Bool.or_eq_true, im_iff K x, decide_eq_true_eq]
    constructor
    · rintro (⟨t, a, b⟩ | b)
      · exact ⟨t, by omega, b⟩
      · exact ⟨K, by omega, b⟩
    · rintro ⟨t, a, b⟩
      rcases Nat.lt_or_ge t K with q | q
      · exact Or.inl ⟨t, q, b⟩
      · obtain rfl : t = K := by omega
        exact Or.inr b
theorem ctn_congr {P Q : Nat → Bool} {n : Nat} (h : ∀ y, y < n → P y = Q y) : ctn P n = ctn Q n := (nth_congr n h).1
theorem ctn_none {P : Nat → Bool} : ∀ {n : Nat}, (∀ y, y < n → P y = false) → ctn P n = 0
  | 0, _ => rfl
  | n + 1, h => by
    rw [ctn_no (by rw [h n (by omega)]; decide)]
    exact ctn_none fun y hy => h y (by omega)
theorem ctn_one {Q : Nat → Bool} {a : Nat} (hQ : Q a = false) : ∀ {n : Nat}, a < n → ctn (fun x => Q x || decide (a = x)) n = ctn Q n + 1
  | 0, h => absurd h (by omega)
  | n + 1, h => by
    by_cases he : a = n
    · subst he
      rw [ctn_yes (by simp), ctn_no (P := Q) (by rw [hQ]; decide)]
      rw [ctn_congr (Q := Q) (fun y hy => by simp; intro q; omega)]
    · have ih := ctn_one hQ (n := n) (by omega)
      by_cases hn : Q n = true
      · rw [ctn_yes (by simp [hn]), ctn_yes hn, ih]
      · rw [ctn_no (by simp [hn, he]), ctn_no hn, ih]
theorem ctn_img {h : Nat → Nat} {n : Nat} : ∀ K, (∀ t, t < K → h t < n) → (∀ s t, s < K → t < K → h s = h t → s = t) → ctn (imB_ h K) n = K
  | 0, _, _ => ctn_none fun _ _ => rfl
  | K + 1, h1, h2 => by
    have ih := ctn_img K (fun t ht => h1 t (by omega)) (fun s t hs ht => h2 s t (by omega) (by omega))
    have hQ : imB_ h K (h K) = false := by
      rw [Bool.eq_false_iff]
      intro q
      obtain ⟨t, a, b⟩ := (im_iff K _).mp q
      have := h2 t K (by omega) (by omega) b
      omega
    have h3 := ctn_one hQ (h1 K (by omega))
    rw [ih] at h3
    exact h3
theorem ctn_bij {P : Nat → Bool} {h : Nat → Nat} {n K : Nat} (h1 : ∀ t, t < K → h t < n ∧ P (h t) = true) (h2 : ∀ s t, s < K → t < K → h s = h t → s = t) (h3 : ∀ x, x < n → P x = true → ∃ t, t < K ∧ h t = x) : ctn P n = K := by
  rw [← ctn_img K (fun t ht => (h1 t ht).1) h2]
  refine ctn_congr fun y hy => ?_
  by_cases hp : P y = true
  · rw [hp, (im_iff K y).mpr (h3 y hy hp)]
  · rw [Bool.eq_false_iff.mpr hp]
    symm
    rw [Bool.eq_false_iff]
    intro q
    obtain ⟨t, a, b⟩ := (im_iff K y).mp q
    exact hp (by rw [← b]; exact (h1 t a).2)
theorem enum (P : Nat → Bool) : ∀ n, ∃ u : Nat → Nat, (∀ j, j < ctn P n → u j < n ∧ P (u j) = true) ∧ (∀ i j, i < ctn P n → j < ctn P n → u i = u j → i = j) ∧ ∀ x, x < n → P x = true → ∃ j, j < ctn P n ∧ u j = x
  | 0 => ⟨fun _ => 0, fun j hj => absurd hj (by show ¬ j < 0; omega), fun i j hi => absurd hi (by show ¬ i < 0; omega), fun x hx => absurd hx (by omega)⟩
  | n + 1 => by
    obtain ⟨u, h1, h2, h3⟩ := enum P n
    by_cases hp : P n = true
    · rw [ctn_yes hp]
      refine ⟨fun j => if j = ctn P n then n else u j, fun j hj => ?_, fun i j hi hj he => ?_, fun x hx hpx => ?_⟩
      · show (if j = ctn P n then n else u j) < n + 1 ∧ P (if j = ctn P n then n else u j) = true
        by_cases hc : j = ctn P n
        · rw [if_pos hc]; exact ⟨by omega, hp⟩
        · rw [if_neg hc]
          have := h1 j (by omega)
          exact ⟨by omega, this.2⟩
      · have he : (if i = ctn P n then n else u i) = if j = ctn P n then n else u j := he
        by_cases hc : i = ctn P n
        · by_cases hd : j = ctn P n
          · omega
          · rw [if_pos hc, if_neg hd] at he
            have := h1 j (by omega)
            omega
        · by_cases hd : j = ctn P n
          · rw [if_neg hc, if_pos hd] at he
            have := h1 i (by omega)
            omega
          · rw [if_neg hc, if_neg hd] at he
            exact h2 i j (by omega) (by omega) he
      · rcases Nat.lt_or_ge x n with q | q
        · obtain ⟨j, a, b⟩ := h3 x q hpx
          exact ⟨j, by omega, by show (if j = ctn P n then n else u j) = x; rw [if_neg (by omega)]; exact b⟩
        · obtain rfl : x = n := by omega
          exact ⟨ctn P x, by omega, if_pos rfl⟩
    · rw [ctn_no hp]
      refine ⟨u, fun j hj => ?_, h2, fun x hx hpx => ?_⟩
      · have := h1 j hj; exact ⟨by omega, this.2⟩
      · rcases Nat.lt_or_ge x n with q | q
        · exact h3 x q hpx
        · obtain rfl : x = n := by omega
          exact absurd hpx hp
theorem ctn_shift {Q : Nat → Bool} : ∀ n, ctn Q (n + 1) = (if Q 0 = true then 1 else 0) + ctn (fun x => Q (x + 1)) n
  | 0 => by
    show (if Q 0 = true then 0 + 1 else 0) = _
    split <;> rfl
  | n + 1 => by
    have ih := ctn_shift (Q := Q) n
    by_cases h : Q (n + 1) = true
    · rw [ctn_yes h, ctn_yes (P := fun x => Q (x + 1)) h, ih]; omega
    · rw [ctn_no h, ctn_no (P := fun x => Q (x + 1)) h, ih]
theorem ctn_split {P A B : Nat → Bool} : ∀ n, (∀ y, y < n → A y = true → (P y = true ∧ B y = false) ∨ (P y = false ∧ B y = true)) → (∀ y, y < n → A y = false → P y = false ∧ B y = false) → ctn P n + ctn B n = ctn A n
  | 0, _, _ => rfl
  | n + 1, h1, h2 => by
    have ih := ctn_split n (fun y hy => h1 y (by omega)) (fun y hy => h2 y (by omega))
    by_cases hA : A n = true
    · rw [ctn_yes hA]
      rcases h1 n (by omega) hA with ⟨a, b⟩ | ⟨a, b⟩
      · rw [ctn_yes a, ctn_no (P := B) (by rw [b]; decide)]; omega
      · rw [ctn_yes b, ctn_no (P := P) (by rw [a]; decide)]; omega
    · obtain ⟨a, b⟩ := h2 n (by omega) (Bool.eq_false_iff.mpr hA)
      rw [ctn_no hA, ctn_no (P := P) (by rw [a]; decide), ctn_no (P := B) (by rw [b]; decide), ih]
theorem ctn_all {P : Nat → Bool} : ∀ {n : Nat}, (∀ y, y < n → P y = true) → ctn P n = n
  | 0, _ => rfl
  | n + 1, h => by rw [ctn_yes (h n (by omega)), ctn_all fun y hy => h y (by omega)]
theorem ctn_ge {P : Nat → Bool} {a : Nat} (h : ∀ y, y < a → P y = true) : ∀ n, a ≤ n → a ≤ ctn P n
  | 0, h1 => by omega
  | n + 1, h1 => by
    rcases Nat.lt_or_ge n a with q | q
    · obtain rfl : a = n + 1 := by omega
      rw [ctn_all h]; omega
    · have ih := ctn_ge h n q
      have : ctn P n ≤ ctn P (n + 1) := by
        show ctn P n ≤ if P n = true then ctn P n + 1 else ctn P n
        split <;> omega
      omega
theorem ctn_gt {P : Nat → Bool} {a x : Nat} (h : ∀ y, y < a → P y = true) (hx : a ≤ x) (hp : P x = true) : ∀ n, x < n → a < ctn P n
  | 0, h1 => by omega
  | n + 1, h1 => by
    by_cases he : x = n
    · subst he
      rw [ctn_yes hp]
      have := ctn_ge h x hx
      omega
    · have ih := ctn_gt h hx hp n (by omega)
      have : ctn P n ≤ ctn P (n + 1) := by
        show ctn P n ≤ if P n = true then ctn P n + 1 else ctn P n
        split <;> omega
      omega
/-- as many in each of the classes 0 .. v - 1 -/
theorem ctn_sum {c : Nat → Nat} {n : Nat} : ∀ v, (∀ y, y < n → c y < v) → ∀ (k : Nat), (∀ j, j < v → ctn (fun y => decide (c y = j)) n = k) → n = v * k := by
  have key : ∀ v, ctn (fun y => decide (c y < v)) n = (List.range v).foldl (fun s j => s + ctn (fun y => decide (c y = j)) n) 0 := by
    intro v
    induction v with
    | zero => exact ctn_none fun y _ => by simp
    | succ v ih =>
      rw [List.range_succ, List.foldl_append, ← ih]
      have h := ctn_split (P := fun y => decide (c y < v)) (B := fun y => decide (c y = v)) (A := fun y => decide (c y < v + 1)) n (fun y _ hA => by
        have hA := of_decide_eq_true hA
        rcases Nat.lt_or_ge (c y) v with q | q
        · exact Or.inl ⟨decide_eq_true q, decide_eq_false (by omega)⟩
        · exact Or.inr ⟨decide_eq_false (by omega), decide_eq_true (by omega)⟩) (fun y _ hA => by
        have hA := of_decide_eq_false hA
        exact ⟨decide_eq_false (by omega), decide_eq_false (by omega)⟩)
      exact h.symm
  intro v hv k hk
  have h1 := key v
  rw [ctn_all (fun y hy => decide_eq_true (hv y hy))] at h1
  have h2 : ∀ w, w ≤ v → (List.range w).foldl (fun s j => s + ctn (fun y => decide (c y = j)) n) 0 = w * k := by
    intro w
    induction w with
    | zero => intro _; simp
    | succ w ih =>
      intro hw
      rw [List.range_succ, List.foldl_append, ih (by omega)]
      show w * k + ctn (fun y => decide (c y = w)) n = (w + 1) * k
      rw [hk w (by omega), Nat.add_mul, Nat.one_mul]
  rw [h2 v (Nat.le_refl _)] at h1
  exact h1
