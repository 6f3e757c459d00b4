/-! the rings there are: told by the kernel -/
def pwB (m : Int) (r : Nat) (f : Nat → Int) (x : Int) : Nat → Nat → Int
  | 0, _ => 1
  | k + 1, n => if n = 0 then 1 else if n % 2 = 1 then tm m r f (tm m r f (pwB m r f x k (n / 2)) (pwB m r f x k (n / 2))) x else tm m r f (pwB m r f x k (n / 2)) (pwB m r f x k (n / 2))
theorem pwB_eq {m : Int} {r : Nat} {f : Nat → Int} {x : Int} (hm : 2 ≤ m) (hr : 0 < r) (hx : El m r x) : ∀ k n, n < 2 ^ k → pwB m r f x k n = pw m r f x n
  | 0, n, h => by
    have : n = 0 := by rw [Nat.pow_zero] at h; omega
    subst this
    rfl
  | k + 1, n, h => by
    rw [Nat.pow_succ] at h
    have ih := pwB_eq (f := f) hm hr hx k (n / 2) (by omega)
    unfold pwB
    rw [ih]
    by_cases h0 : n = 0
    · subst h0; rfl
    · rw [if_neg h0, ← pw_add hm hr hx]
      split
      · next h1 =>
        have e : n = (n / 2 + n / 2) + 1 := by omega
        have e2 : pw m r f x n = pw m r f x ((n / 2 + n / 2) + 1) := by rw [← e]
        rw [e2]
        rfl
      · rw [show n / 2 + n / 2 = n by omega]
def fOf (fl : List Int) : Nat → Int := fun i => fl.getD i 0
def ckE (m : Int) (r : Nat) (x : Int) : Bool := decide (0 ≤ x ∧ x < m ^ r)
def ck1 (p e r q : Nat) (m : Int) (lo : Nat) (fl : List Int) : Bool :=
  decide (m = (p : Int) ^ e) && decide (q = p ^ r) && decide (fl.length = r + 1) && decide (∀ j, j < r + 1 → grE p e r q m r j = fOf fl j) && decide (∀ j, j < r → 0 ≤ fOf fl j ∧ fOf fl j < m) && decide (fOf fl r = 1) && decide (∀ j, j < r → mdM p e r q m lo j = fOf fl j)
def ck2 (p r lo : Nat) : Bool := decide (lo < 4096) && decide (2 ≤ r → ipMO p r lo r 1 = true) && decide (∀ l, l < lo → ¬ ipMO p r l r 1 = true)
def ck3 (p r q : Nat) (m : Int) (fl : List Int) (g0 y0 : Int) : Bool :=
  ckE m r g0 && decide (pwB m r (fOf fl) g0 13 (q - 1) = 1) && igM (fun c => decide (pwB m r (fOf fl) g0 13 ((q - 1) / c) = 1)) q (q - 1) 2 && decide (∀ i, i < r → (dg m i (pw m r (fOf fl) (pw m r (fOf fl) (tE m r) p) r) + sm r (fun j => fOf fl j * dg m i (pw m r (fOf fl) (pw m r (fOf fl) (tE m r) p) j))) % m = 0) && decide (mv p r m (fOf fl) g0 = pw m r (fOf fl) g0 p) && ckE m r y0 && decide (trE p r m (fOf fl) y0 r = 1)
def Cer (p e r : Nat) : Prop := ∃ (f : Nat → Int) (lo : Nat) (g0 y0 : Int), rF p e r = f ∧ (∀ i, i < r → 0 ≤ f i ∧ f i < (p : Int) ^ e) ∧ f r = 1 ∧
  (lo < 4096 ∧ (2 ≤ r → ipMO p r lo r 1 = true) ∧ (∀ l : Nat, l < lo → ¬ ipMO p r l r 1 = true) ∧ ∀ i, i < r → mdM p e r (p ^ r) ((p : Int) ^ e) lo i = f i) ∧
  RK p e r ((p : Int) ^ e) (p ^ r) f g0 ∧ El ((p : Int) ^ e) r y0 ∧ trE p r ((p : Int) ^ e) f y0 r = 1
theorem and8 {a b : Bool} (h : (a && b) = true) : a = true ∧ b = true := by
  cases a
  · exact absurd h (by cases b <;> decide)
  · exact ⟨rfl, h⟩
theorem cer_of {p e r q : Nat} {m : Int} {lo : Nat} {fl : List Int} {g0 y0 : Int} (hp : 2 ≤ p) (he : 1 ≤ e) (hr : 1 ≤ r) (hm : 2 ≤ m) (hq : 2 ≤ q) (hq2 : q ≤ 4096) (h1 : ck1 p e r q m lo fl = true) (h2 : ck2 p r lo = true) (h3 : ck3 p r q m fl g0 y0 = true) : Cer p e r := by
  obtain ⟨h1, a7⟩ := and8 h1
  obtain ⟨h1, a6⟩ := and8 h1
  obtain ⟨h1, a5⟩ := and8 h1
  obtain ⟨h1, a4⟩ := and8 h1
  obtain ⟨h1, a3⟩ := and8 h1
  obtain ⟨a1, a2⟩ := and8 h1
  obtain ⟨h2, b3⟩ := and8 h2
  obtain ⟨b1, b2⟩ := and8 h2
  obtain ⟨h3, c7⟩ := and8 h3
  obtain ⟨h3, c6⟩ := and8 h3
  obtain ⟨h3, c5⟩ := and8 h3
  obtain ⟨h3, c4⟩ := and8 h3
  obtain ⟨h3, c3⟩ := and8 h3
  obtain ⟨c1, c2⟩ := and8 h3
  have a1 := of_decide_eq_true a1
  have a2 := of_decide_eq_true a2
  have a3 := of_decide_eq_true a3
  have a4 := of_decide_eq_true a4
  have a5 := of_decide_eq_true a5
  have a6 := of_decide_eq_true a6
  have a7 := of_decide_eq_true a7
  have b1 := of_decide_eq_true b1
  have b2 := of_decide_eq_true b2
  have b3 := of_decide_eq_true b3
  have c1 : El m r g0 := of_decide_eq_true (p := 0 ≤ g0 ∧ g0 < m ^ r) c1
  have c2 := of_decide_eq_true c2
  have c4 := of_decide_eq_true c4
  have c5 := of_decide_eq_true c5
  have c6 : El m r y0 := of_decide_eq_true (p := 0 ≤ y0 ∧ y0 < m ^ r) c6
  have c7 := of_decide_eq_true c7
  rw [pwB_eq hm hr c1 13 _ (by have : (2 : Nat) ^ 13 = 8192 := rfl; omega)] at c2
  have c3' : igE m r q (fOf fl) g0 = true := by
    unfold igE
    have e3 : igP m r q (fOf fl) g0 = fun c => decide (pwB m r (fOf fl) g0 13 ((q - 1) / c) = 1) := funext fun c => by
      unfold igP
      have : (q - 1) / c ≤ q - 1 := Nat.div_le_self _ _
      rw [pwB_eq hm hr c1 13 _ (by have : (2 : Nat) ^ 13 = 8192 := rfl; omega)]
    rw [e3]
    exact c3
  have hma := (ig_iff hm hr hq c1 c2).mp c3'
  subst a1
  subst a2
  refine ⟨fOf fl, lo, g0, y0, funext fun j => ?_, a5, a6, ⟨b1, b2, b3, a7⟩, ⟨hp, he, hr, rfl, rfl, c1, c2, hma, c4, c5⟩, c6, c7⟩
  by_cases hj : j < r + 1
  · exact a4 j hj
  · obtain ⟨s, rfl⟩ : ∃ s, r = s + 1 := ⟨r - 1, by omega⟩
    show grE p e (s + 1) (p ^ (s + 1)) ((p : Int) ^ e) (s + 1) j = fl.getD j 0
    have e1 : grE p e (s + 1) (p ^ (s + 1)) ((p : Int) ^ e) (s + 1) j = 0 := if_neg (show ¬ j ≤ s + 1 by omega)
    rw [e1, List.getD_eq_getElem?_getD, List.getElem?_eq_none (by omega)]
    rfl
theorem ck2_2_1 : ck2 2 1 0 = true := by decide +kernel
theorem cer_2_1_1 : Cer 2 1 1 := cer_of (q := 2) (m := 2) (lo := 0) (fl := [0, 1]) (g0 := 1) (y0 := 1) (by decide) (by decide) (by decide) (by decide) (by decide) (by decide) (by decide +kernel) ck2_2_1 (by decide +kernel)
theorem ck2_2_2 : ck2 2 2 3 = true := by decide +kernel
theorem ck2_2_3 : ck2 2 3 3 = true := by decide +kernel
theorem ck2_2_4 : ck2 2 4 3 = true := by decide +kernel
theorem cer_2_1_4 : Cer 2 1 4 := cer_of (q := 16) (m := 2) (lo := 3) (fl := [1, 1, 0, 0, 1]) (g0 := 2) (y0 := 8) (by decide) (by decide) (by decide) (by decide) (by decide) (by decide) (by decide +kernel) ck2_2_4 (by decide +kernel)
theorem ck2_2_6 : ck2 2 6 3 = true := by decide +kernel
theorem cer_2_1_6 : Cer 2 1 6 := cer_of (q := 64) (m := 2) (lo := 3) (fl := [1, 1, 0, 0, 0, 0, 1]) (g0 := 2) (y0 := 32) (by decide) (by decide) (by decide) (by decide) (by decide) (by decide) (by decide +kernel) ck2_2_6 (by decide +kernel)
theorem cer_2_2_2 : Cer 2 2 2 := cer_of (q := 4) (m := 4) (lo := 3) (fl := [1, 1, 1]) (g0 := 4) (y0 := 12) (by decide) (by decide) (by decide) (by decide) (by decide) (by decide) (by decide +kernel) ck2_2_2 (by decide +kernel)
theorem cer_2_2_3 : Cer 2 2 3 := cer_of (q := 8) (m := 4) (lo := 3) (fl := [3, 1, 2, 1]) (g0 := 4) (y0 := 3) (by decide) (by decide) (by decide) (by decide) (by decide) (by decide) (by decide +kernel) ck2_2_3 (by decide +kernel)
theorem cer_2_3_2 : Cer 2 3 2 := cer_of (q := 4) (m := 8) (lo := 3) (fl := [1, 1, 1]) (g0 := 8) (y0 := 56) (by decide) (by decide) (by decide) (by decide) (by decide) (by decide) (by decide +kernel) ck2_2_2 (by decide +kernel)
theorem cer_2_4_1 : Cer 2 4 1 := cer_of (q := 2) (m := 16) (lo := 0) (fl := [0, 1]) (g0 := 1) (y0 := 1) (by decide) (by decide) (by decide) (by decide) (by decide) (by decide) (by decide +kernel) ck2_2_1 (by decide +kernel)
theorem ck2_3_1 : ck2 3 1 0 = true := by decide +kernel
theorem ck2_3_2 : ck2 3 2 1 = true := by decide +kernel
theorem ck2_3_3 : ck2 3 3 7 = true := by decide +kernel
theorem cer_3_1_3 : Cer 3 1 3 := cer_of (q := 27) (m := 3) (lo := 7) (fl := [1, 2, 0, 1]) (g0 := 3) (y0 := 18) (by decide) (by decide) (by decide) (by decide) (by decide) (by decide) (by decide +kernel) ck2_3_3 (by decide +kernel)
theorem cer_3_2_2 : Cer 3 2 2 := cer_of (q := 9) (m := 9) (lo := 1) (fl := [1, 0, 1]) (g0 := 70) (y0 := 5) (by decide) (by decide) (by decide) (by decide) (by decide) (by decide) (by decide +kernel) ck2_3_2 (by decide +kernel)
theorem cer_3_3_1 : Cer 3 3 1 := cer_of (q := 3) (m := 27) (lo := 0) (fl := [0, 1]) (g0 := 26) (y0 := 1) (by decide) (by decide) (by decide) (by decide) (by decide) (by decide) (by decide +kernel) ck2_3_1 (by decide +kernel)
theorem ck2_5_1 : ck2 5 1 0 = true := by decide +kernel
theorem ck2_5_2 : ck2 5 2 2 = true := by decide +kernel
theorem cer_5_1_2 : Cer 5 1 2 := cer_of (q := 25) (m := 5) (lo := 2) (fl := [2, 0, 1]) (g0 := 6) (y0 := 3) (by decide) (by decide) (by decide) (by decide) (by decide) (by decide) (by decide +kernel) ck2_5_2 (by decide +kernel)
theorem cer_5_2_1 : Cer 5 2 1 := cer_of (q := 5) (m := 25) (lo := 0) (fl := [0, 1]) (g0 := 7) (y0 := 1) (by decide) (by decide) (by decide) (by decide) (by decide) (by decide) (by decide +kernel) ck2_5_1 (by decide +kernel)
theorem ck2_7_2 : ck2 7 2 1 = true := by decide +kernel
theorem cer_7_1_2 : Cer 7 1 2 := cer_of (q := 49) (m := 7) (lo := 1) (fl := [1, 0, 1]) (g0 := 9) (y0 := 4) (by decide) (by decide) (by decide) (by decide) (by decide) (by decide) (by decide +kernel) ck2_7_2 (by decide +kernel)
