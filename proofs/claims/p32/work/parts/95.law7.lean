/-! what is to be shown of the numbers, and the law out of it -/
abbrev RV (p e r : Nat) : Prop := exO p e r ∧ (p : Int) ^ (e * r) ≤ 4096
def Q_wh (p e r : Nat) : Prop := ∀ d0 d1 d2 d3 : Int, (if (d0 = -1 ∨ 0 < (e : Int) ∧ 0 ≤ d0 ∧ d0 ≤ ((p ^ r : Nat) : Int) - 2) ∧ (d1 = -1 ∨ 1 < (e : Int) ∧ 0 ≤ d1 ∧ d1 ≤ ((p ^ r : Nat) : Int) - 2) ∧ (d2 = -1 ∨ 2 < (e : Int) ∧ 0 ≤ d2 ∧ d2 ≤ ((p ^ r : Nat) : Int) - 2) ∧ (d3 = -1 ∨ 3 < (e : Int) ∧ 0 ≤ d3 ∧ d3 ≤ ((p ^ r : Nat) : Int) - 2) then some (whE p r ((p : Int) ^ e) (rF p e r) (rG p e r) d0 d1 d2 d3) else none) = if whB e (p ^ r) (whD d0 d1 d2 d3) 4 = true then some (jnM p r (p ^ r) ((p : Int) ^ e) (rF p e r) (rG p e r) (whD d0 d1 d2 d3) 1 e) else none
theorem px_c {d mc ms : Nat} {M : MT} {as : List LV} {E : String} {R R' : Option Int} {Q Q' : HF → HA → Prop} {F : HF} {A : HA} {al : AL} (e : R' = R) (hQ : ∀ F2 A2, Q' F2 A2 → Q F2 A2) (ev : QE d mc ms M as F A al (PXR E R' F A al Q')) : QE d mc ms M as F A al (PXR E R F A al Q) := ev.post (fun o F' A' al' hp => by
  obtain ⟨h1, h2, h3, h4, h5⟩ := hp
  rw [e] at h1
  exact ⟨h1, h2, h3, h4, hQ _ _ h5⟩)
theorem RV.N {p e r : Nat} (h : RV p e r) : ((p ^ (e * r) : Nat) : Int) = ((p : Int) ^ e) ^ r := by rw [← Int.pow_mul]; simp
theorem XI.cd {p e r q N : Nat} {m : Int} {f : Nat → Int} {g : Int} {lg pl_ : Nat → Int} {len : Nat} {tp : Nat → Int} {fp : Int} {n : Nat} {set : Int} {dg : Nat} {mk ck : Nat → Int} {w : Option (Nat → Int)} {S : List Int} {F : HF} {A : HA} (h : XI p e r q N m f g lg pl_ len tp fp n set dg mk ck w S F A) : ((1 ≤ n ∧ n ≤ 63 ∧ (q - 1) % n = 0 ∧ 0 ≤ set ∧ set < 2147483648) ∧ cyE m r q n f g (paE p n n).1 set n = (dg, mk, ck)) ∧ (∀ i, i ≤ dg → 0 ≤ mk i ∧ mk i < m) ∧ dg ≤ n ∧ (∀ bt, w = some bt → ∀ j, j < n → 0 ≤ bt j ∧ bt j < m) := by
  obtain ⟨a1, a2, a3, a4, ⟨b1, b2, b3, b4, b5⟩, a6, ⟨-, a7⟩, a8⟩ := h
  refine ⟨⟨b4, b5⟩, ?_, ?_, ?_⟩
  · have h1 := a1.2.2.2 n set b4.1 b4.2.1 b4.2.2.1 b4.2.2.2.1 b4.2.2.2.2
    rw [b5] at h1
    exact h1
  · have h1 := cy_le (m := m) (r := r) (q := q) (n := n) (f := f) (g := g) (c := (paE p n n).1) (set := set) n
    rw [b5] at h1
    exact h1
  · intro bt hw
    subst hw
    exact a7.2.1
theorem QE.args {d mc ms : Nat} {M : MT} {as as2 : List LV} {F : HF} {A : HA} {al : AL} {Post : PO} (h : QE d mc ms M as F A al Post) (e : as2 = as) : QE d mc ms M as2 F A al Post := by subst e; exact h
theorem nth_congr {P Q : Nat → Bool} : ∀ n, (∀ y, y < n → P y = Q y) → ctn P n = ctn Q n ∧ nth P n = nth Q n
  | 0, _ => ⟨rfl, rfl⟩
  | n + 1, h => by
    obtain ⟨h1, h2⟩ := nth_congr n (fun y hy => h y (by omega))
    have h3 := h n (by omega)
    constructor
    · show (if P n = true then ctn P n + 1 else ctn P n) = if Q n = true then ctn Q n + 1 else ctn Q n
      rw [h1, h3]
    · funext j
      show (if P n = true ∧ ctn P n = j then (n : Int) else nth P n j) = if Q n = true ∧ ctn Q n = j then (n : Int) else nth Q n j
      rw [h1, h2, h3]
