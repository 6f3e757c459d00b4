/-! what is to be shown of the numbers, and the law out of it -/
abbrev RV (p e r : Nat) : Prop := exO p e r ∧ (p : Int) ^ (e * r) ≤ 4096
abbrev CD (p e r n : Nat) (set : Int) (dg : Nat) (mk ck : Nat → Int) : Prop := (1 ≤ n ∧ n ≤ 63 ∧ ((p ^ r) - 1) % n = 0 ∧ 0 ≤ set ∧ set < 2147483648) ∧ cyE ((p : Int) ^ e) r (p ^ r) n (rF p e r) (rG p e r) (paE p n n).1 set n = (dg, mk, ck)
def Q_cnt (p e r : Nat) : Prop := ∀ (len n dg : Nat) (what : Int), dg ≤ n → cntE p e r (p ^ r) (p ^ (e * r)) ((p : Int) ^ e) (rF p e r) (rG p e r) (rL p e r) len n dg what = cntM p e r (p ^ r) (p ^ (e * r)) ((p : Int) ^ e) (rF p e r) (rG p e r) len n dg what
def Q_elm (p e r : Nat) : Prop := ∀ how x y : Int, elmE p e r (p ^ r) (p ^ (e * r)) ((p : Int) ^ e) (rF p e r) (rL p e r) how x y = elmM p r (p ^ r) (p ^ (e * r)) ((p : Int) ^ e) (rF p e r) how x y
def Q_of (p e r : Nat) : Prop := ∀ x what : Int, ofR p e r (p ^ r) (p ^ (e * r)) ((p : Int) ^ e) (rF p e r) (rG p e r) (rL p e r) x what = ofM p e r (p ^ r) (p ^ (e * r)) ((p : Int) ^ e) (rF p e r) (rG p e r) (fun j => tcE p e r (p ^ r) ((p : Int) ^ e) (rF p e r) j) (rL p e r) x what
def Q_dig (p e r : Nat) : Prop := ∀ (x : Int) (i : Nat), El ((p : Int) ^ e) r x → i < e → rl p r ((p : Int) ^ e) (rL p e r) (dlE p r ((p : Int) ^ e) (rF p e r) (rG p e r) (rL p e r) x i) = ddM p r ((p : Int) ^ e) (fun j => tcE p e r (p ^ r) ((p : Int) ^ e) (rF p e r) j) (rL p e r) x i
def Q_wh (p e r : Nat) : Prop := ∀ d0 d1 d2 d3 : Int, (if (d0 = -1 ∨ 0 < (e : Int) ∧ 0 ≤ d0 ∧ d0 ≤ ((p ^ r : Nat) : Int) - 2) ∧ (d1 = -1 ∨ 1 < (e : Int) ∧ 0 ≤ d1 ∧ d1 ≤ ((p ^ r : Nat) : Int) - 2) ∧ (d2 = -1 ∨ 2 < (e : Int) ∧ 0 ≤ d2 ∧ d2 ≤ ((p ^ r : Nat) : Int) - 2) ∧ (d3 = -1 ∨ 3 < (e : Int) ∧ 0 ≤ d3 ∧ d3 ≤ ((p ^ r : Nat) : Int) - 2) then some (whE p r ((p : Int) ^ e) (rF p e r) (rG p e r) d0 d1 d2 d3) else none) = if whB e (p ^ r) (whD d0 d1 d2 d3) 4 = true then some (jnM p r (p ^ r) ((p : Int) ^ e) (rF p e r) (rG p e r) (whD d0 d1 d2 d3) 1 e) else none
def Q_rts (p e r : Nat) : Prop := ∀ (x : Int) (k : Nat), El ((p : Int) ^ e) r x → 1 ≤ k → ∀ y : Nat, y < (p ^ (e * r)) → (decide (mrE p r (p ^ r) ((p : Int) ^ e) (rL p e r) y k x = 1) && decide (pw ((p : Int) ^ e) r (rF p e r) y k = x)) = decide (pw ((p : Int) ^ e) r (rF p e r) y k = x)
def Q_wi (p e r : Nat) : Prop := ∀ k : Nat, 1 ≤ k → r % k = 0 → ∀ y : Nat, y < (p ^ (e * r)) → decide (mvn p r ((p : Int) ^ e) (rF p e r) y k = y) = decide (mvMn p e r (p ^ r) ((p : Int) ^ e) (rF p e r) (rG p e r) (fun j => tcE p e r (p ^ r) ((p : Int) ^ e) (rF p e r) j) (rL p e r) y (k % r) = y)
def Q_un (p e r : Nat) : Prop := ∀ k : Nat, 1 ≤ k → k ≤ 9999 → ((ctn (fun x => decide (rl p r ((p : Int) ^ e) (rL p e r) x = 0) && decide (pw ((p : Int) ^ e) r (rF p e r) x k = 1)) (p ^ (e * r)) : Nat) : Int) * (Nat.gcd k ((p ^ r) - 1) : Nat) = (ctn (fun x => decide (low p r ((p : Int) ^ e) ((x : Int) + 1) ≠ 0) && decide (pw ((p : Int) ^ e) r (rF p e r) ((x : Int) + 1) k = 1)) ((p ^ (e * r)) - 1) : Nat)
def Q_mny (p e r : Nat) : Prop := ∀ (what : Int) (v : Nat), mnyE p e r (p ^ r) (p ^ (e * r)) ((p : Int) ^ e) (rF p e r) what v = if 0 ≤ what ∧ what ≤ 3 then some ((ctn (mnP p e r (p ^ r) ((p : Int) ^ e) (rF p e r) (rG p e r) (fun j => tcE p e r (p ^ r) ((p : Int) ^ e) (rF p e r) j) (rL p e r) what v) (p ^ (e * r)) : Nat) : Int) else none
def Q_cls (p e r : Nat) : Prop := ∀ (n : Nat) (i k : Int), 1 ≤ n → n ≤ 63 → ((p ^ r) - 1) % n = 0 → clsE p n i k = clsM p n i k
def Q_cod (p e r : Nat) : Prop := ∀ (n : Nat) (set : Int), 1 ≤ n → n ≤ 63 → ((p ^ r) - 1) % n = 0 → 0 ≤ set → set < 2147483648 → cyE ((p : Int) ^ e) r (p ^ r) n (rF p e r) (rG p e r) (paE p n n).1 set n = cyM ((p : Int) ^ e) r (rF p e r) (coM p n) set (pw ((p : Int) ^ e) r (rF p e r) (rG p e r) (((p ^ r) - 1) / n)) n
def Q_par (p e r : Nat) : Prop := ∀ n : Nat, 1 ≤ n → n ≤ 63 → ((p ^ r) - 1) % n = 0 → (paE p n n).2 = cmM p n
def Q_wgh (p e r : Nat) : Prop := ∀ (n : Nat) (set : Int) (dg : Nat) (mk ck : Nat → Int), CD p e r n set dg mk ck → ∀ lee v : Int, (if swE ((p : Int) ^ e) (n - dg) = 0 ∨ v < 0 then -1 else if lee ≠ 0 then (if v < 7201 then clE_ ((p : Int) ^ e) n dg mk v.toNat else 0) else (if v < 64 then cwE ((p : Int) ^ e) n dg mk v.toNat else 0)) = wgM ((p : Int) ^ e) n dg mk lee v
def Q_lgt (p e r : Nat) : Prop := ∀ (n : Nat) (set : Int) (dg : Nat) (mk ck : Nat → Int), CD p e r n set dg mk ck → ∀ lee : Int, (if swE ((p : Int) ^ e) (n - dg) = 0 then -1 else if lee ≠ 0 then lsE (clE_ ((p : Int) ^ e) n dg mk) 7200 1 else lsE (cwE ((p : Int) ^ e) n dg mk) 63 1) = ltR ((p : Int) ^ e) n dg mk lee
def Q_mnd (p e r : Nat) : Prop := ∀ (n : Nat) (set : Int) (dg : Nat) (mk ck : Nat → Int), CD p e r n set dg mk ck → ∀ bt : Nat → Int, (∀ j, j < n → 0 ≤ bt j ∧ bt j < ((p : Int) ^ e)) → mdsE ((p : Int) ^ e) dg n mk (lfE ((p : Int) ^ e) n dg mk bt) = mndM ((p : Int) ^ e) n dg mk bt
def Q_nr (p e r : Nat) : Prop := ∀ (n : Nat) (set : Int) (dg : Nat) (mk ck : Nat → Int), CD p e r n set dg mk ck → ((p : Int) ^ e) ^ (n - dg) ≤ 65536 → ∀ bt : Nat → Int, (∀ j, j < n → 0 ≤ bt j ∧ bt j < ((p : Int) ^ e)) → (skE ((p : Int) ^ e) dg (n - dg) mk (nbE n bt) (fun _ => 0) (ws_ ((p : Int) ^ e) n dg)).1 = (lkT ((p : Int) ^ e) n dg mk bt).1 ∧ ∀ i, i < n → (skE ((p : Int) ^ e) dg (n - dg) mk (nbE n bt) (fun _ => 0) (ws_ ((p : Int) ^ e) n dg)).2 i = (lkT ((p : Int) ^ e) n dg mk bt).2 i
def Q_tel (p e r : Nat) : Prop := ∀ (z : Nat) (tp pl_ rs : Nat → Int) (wo : Int), z ≤ 200 → (∀ j, j < 200 → 0 ≤ tp j ∧ tp j < 256) → (∀ j, j < 8 → El ((p : Int) ^ e) r (pl_ j)) → 0 ≤ rs 9 → rs 9 ≤ 10000 → 0 ≤ wo → wo ≤ 1000000 → ∀ (s t1 t2 : Int × (Nat → Int)), rdE p e r (p ^ r) z ((p : Int) ^ e) (rF p e r) (rG p e r) (rL p e r) tp pl_ rs = s → rdM p e r (p ^ r) (p ^ (e * r)) z ((p : Int) ^ e) (rF p e r) (rG p e r) (fun j => tcE p e r (p ^ r) ((p : Int) ^ e) (rF p e r) j) (rL p e r) tp pl_ 0 wo = t1 → rdM p e r (p ^ r) (p ^ (e * r)) z ((p : Int) ^ e) (rF p e r) (rG p e r) (fun j => tcE p e r (p ^ r) ((p : Int) ^ e) (rF p e r) j) (rL p e r) tp pl_ 1 (t1.2 24) = t2 →
  tlA s = (if t1.2 26 ≠ 0 then -10 - t1.2 26 else if t2.2 29 ≠ 0 then -2 else t2.1) ∧ (∀ i, tlP s i pl_ = (if t1.2 26 ≠ 0 then pl_ else if t2.2 29 ≠ 0 then pl_ else upc pl_ i t2.1)) ∧ s.2 1 = (if t1.2 26 ≠ 0 then t1.2 27 else t2.2 27)
def EQ (p e r : Nat) : Prop := RH p e r ∧ RM p e r (rF p e r) (rG p e r) ∧ Q_cnt p e r ∧ Q_elm p e r ∧ Q_of p e r ∧ Q_dig p e r ∧ Q_wh p e r ∧ Q_rts p e r ∧ Q_wi p e r ∧ Q_un p e r ∧ Q_mny p e r ∧ Q_cls p e r ∧ Q_cod p e r ∧ Q_par p e r ∧ Q_wgh p e r ∧ Q_lgt p e r ∧ Q_mnd p e r ∧ Q_nr p e r ∧ Q_tel p e r
def EQs : Prop := ∀ p e r : Nat, RV p e r → EQ p e r
abbrev XJ (p e r : Nat) (pl_ : Nat → Int) (len : Nat) (tp : Nat → Int) (fp : Int) (n : Nat) (set : Int) (dg : Nat) (mk ck : Nat → Int) (w : Option (Nat → Int)) (S : List Int) (F : HF) (A : HA) : Prop := XI p e r (p ^ r) (p ^ (e * r)) ((p : Int) ^ e) (rF p e r) (rG p e r) (rL p e r) pl_ len tp fp n set dg mk ck w S F A
abbrev MJ (p e r : Nat) (pl_ : Nat → Int) (len : Nat) (tp : Nat → Int) (fp : Int) (n : Nat) (set : Int) (dg : Nat) (mk ck : Nat → Int) (w : Option (Nat → Int)) (S : List Int) (F : HF) (A : HA) : Prop := MI p e r (p ^ r) (p ^ (e * r)) ((p : Int) ^ e) (rF p e r) (rG p e r) (fun j => tcE p e r (p ^ r) ((p : Int) ^ e) (rF p e r) j) (rL p e r) pl_ len tp fp n set dg mk ck w S F A
def JI (F : HF) (A : HA) : Prop := ∃ (p e r : Nat) (pl_ : Nat → Int) (len : Nat) (tp : Nat → Int) (fp : Int) (n : Nat) (set : Int) (dg : Nat) (mk ck : Nat → Int) (w : Option (Nat → Int)) (S : List Int), RV p e r ∧ XJ p e r pl_ len tp fp n set dg mk ck w S F A ∧ MJ p e r pl_ len tp fp n set dg mk ck w S F A
theorem pm_c {d mc ms : Nat} {M : MT} {as : List LV} {R R' : Option Int} {Q Q' : HF → HA → Prop} {F : HF} {A : HA} {al : AL} (e : R' = R) (hQ : ∀ F2 A2, Q' F2 A2 → Q F2 A2) (ev : QE d mc ms M as F A al (PMR R' F A al Q')) : QE d mc ms M as F A al (PMR R F A al Q) := ev.post (fun o F' A' al' hp => by
  obtain ⟨h1, h2, h3, h4, h5, h6⟩ := hp
  rw [e] at h1 h2
  exact ⟨h1, h2, h3, h4, h5, hQ _ _ h6⟩)
theorem px_c {d mc ms : Nat} {M : MT} {as : List LV} {E : String} {R R' : Option Int} {Q Q' : HF → HA → Prop} {F : HF} {A : HA} {al : AL} (e : R' = R) (hQ : ∀ F2 A2, Q' F2 A2 → Q F2 A2) (ev : QE d mc ms M as F A al (PXR E R' F A al Q')) : QE d mc ms M as F A al (PXR E R F A al Q) := ev.post (fun o F' A' al' hp => by
  obtain ⟨h1, h2, h3, h4, h5⟩ := hp
  rw [e] at h1
  exact ⟨h1, h2, h3, h4, hQ _ _ h5⟩)
theorem RV.N {p e r : Nat} (h : RV p e r) : ((p ^ (e * r) : Nat) : Int) = ((p : Int) ^ e) ^ r := by rw [← Int.pow_mul]; simp
theorem XI.cd {p e r q N : Nat} {m : Int} {f : Nat → Int} {g : Int} {lg pl_ : Nat → Int} {len : Nat} {tp : Nat → Int} {fp : Int} {n : Nat} {set : Int} {dg : Nat} {mk ck : Nat → Int} {w : Option (Nat → Int)} {S : List Int} {F : HF} {A : HA} (h : XI p e r q N m f g lg pl_ len tp fp n set dg mk ck w S F A) : ((1 ≤ n ∧ n ≤ 63 ∧ (q - 1) % n = 0 ∧ 0 ≤ set ∧ set < 2147483648) ∧ cyE m r q n f g (paE p n n).1 set n = (dg, mk, ck)) ∧ (∀ i, i ≤ dg → 0 ≤ mk i ∧ mk i < m) ∧ dg ≤ n ∧ (∀ bt, w = some bt → ∀ j, j < n → 0 ≤ bt j ∧ bt j < m) := by
  obtain ⟨a1, a2, a3, a4, ⟨b1, b2, b3, b4, b5⟩, a6, ⟨-, a7⟩, a8⟩ := h
  refine ⟨⟨b4, b5⟩, ?_, ?_, ?_⟩
  · have h1 := a1.2.2.2 n set b4.1 b4.2.1 b4.2.2.1 b4.2.2.2.1 b4.2.2.2.2
    rw [b5] at h1
    exact h1
  · have h1 := cy_le (m := m) (r := r) (q := q) (n := n) (f := f) (g := g) (c := (paE p n n).1) (set := set) n
    rw [b5] at h1
    exact h1
  · intro bt hw
    subst hw
    exact a7.2.1
theorem MI.wo {p e r q N : Nat} {m : Int} {f : Nat → Int} {g : Int} {rt lg pl_ : Nat → Int} {len : Nat} {tp : Nat → Int} {fp : Int} {n : Nat} {set : Int} {dg : Nat} {mk ck : Nat → Int} {w : Option (Nat → Int)} {S : List Int} {F : HF} {A : HA} (h : MI p e r q N m f g rt lg pl_ len tp fp n set dg mk ck w S F A) : ∃ wo, F 44 24 = vI wo ∧ 0 ≤ wo ∧ wo ≤ 1000000 := by
  obtain ⟨-, -, -, ⟨-, v, h1, h2, h3⟩, -⟩ := h
  exact ⟨v 24, h1 24 (by decide) (by decide), h2, h3⟩
theorem QE.args {d mc ms : Nat} {M : MT} {as as2 : List LV} {F : HF} {A : HA} {al : AL} {Post : PO} (h : QE d mc ms M as F A al Post) (e : as2 = as) : QE d mc ms M as2 F A al Post := by subst e; exact h
theorem exE_01 (a b c : Int) : exE a b c = 0 ∨ exE a b c = 1 := by
  unfold exE
  split
  · split
    · exact Or.inr rfl
    · exact Or.inl rfl
  · exact Or.inl rfl
theorem exE_yes {a b c : Int} (h : exE a b c = 1) : ∃ p e r : Nat, (p : Int) = a ∧ (e : Int) = b ∧ (r : Int) = c ∧ RV p e r := by
  unfold exE at h
  split at h
  · next h1 =>
    split at h
    · next h2 =>
      refine ⟨a.toNat, b.toNat, c.toNat, ?_, ?_, ?_, ?_, ?_⟩
      · obtain ⟨q1, -⟩ := id h1; omega
      · obtain ⟨-, q2, -⟩ := id h1; omega
      · obtain ⟨-, -, -, q2, -⟩ := id h1; omega
      · rw [show ((a.toNat : Nat) : Int) = a by obtain ⟨q1, -⟩ := id h1; omega, show ((b.toNat : Nat) : Int) = b by obtain ⟨-, q2, -⟩ := id h1; omega, show ((c.toNat : Nat) : Int) = c by obtain ⟨-, -, -, q2, -⟩ := id h1; omega]
        exact h1
      · rw [show ((a.toNat : Nat) : Int) = a by obtain ⟨q1, -⟩ := id h1; omega]
        exact h2
    · exact absurd h (by decide)
  · exact absurd h (by decide)
theorem RV.q1 {p e r : Nat} (h : RV p e r) : 1 ≤ p ^ r := Nat.pow_pos (by obtain ⟨⟨q1, -⟩, -⟩ := h; omega)
theorem q_mod {p e r : Nat} (hv : RV p e r) {a : Int} (h1 : 1 ≤ a) (h : (((p ^ r : Nat) : Int) - 1) % a = 0) : (p ^ r - 1) % a.toNat = 0 := by
  have h2 := hv.q1
  obtain ⟨t, rfl⟩ : ∃ t : Nat, a = t := ⟨a.toNat, by omega⟩
  have e1 : ((p ^ r : Nat) : Int) - 1 = ((p ^ r - 1 : Nat) : Int) := by omega
  rw [e1] at h
  show (p ^ r - 1) % t = 0
  omega
theorem cod_iff {p e r : Nat} (hv : RV p e r) (hq : Q_par p e r) {a s : Int} : codOk p (p ^ r) a s ↔ codM p (p ^ r) a s := by
  constructor
  · rintro ⟨h1, h2, h3⟩
    have h4 := hq a.toNat (by omega) (by omega) (q_mod hv h1.1 h1.2.2)
    rw [h4] at h3
    exact ⟨h1, h2, h3⟩
  · rintro ⟨h1, h2, h3⟩
    have h4 := hq a.toNat (by omega) (by omega) (q_mod hv h1.1 h1.2.2)
    refine ⟨h1, h2, ?_⟩
    rw [h4]
    exact h3
theorem cod_size {m : Int} {r q n : Nat} {f : Nat → Int} {g : Int} {c : Nat → Int} {set : Int} {a : Int} (h1 : 1 ≤ a) : a - ((cyE m r q n f g c set a.toNat).1 : Nat) = ((a.toNat - (cyE m r q n f g c set a.toNat).1 : Nat) : Int) := by
  have := cy_le (m := m) (r := r) (q := q) (n := n) (f := f) (g := g) (c := c) (set := set) a.toNat
  omega
theorem nth_congr {P Q : Nat → Bool} : ∀ n, (∀ y, y < n → P y = Q y) → ctn P n = ctn Q n ∧ nth P n = nth Q n
  | 0, _ => ⟨rfl, rfl⟩
  | n + 1, h => by
    obtain ⟨h1, h2⟩ := nth_congr n (fun y hy => h y (by omega))
    have h3 := h n (by omega)
    constructor
    · show (if P n = true then ctn P n + 1 else ctn P n) = if Q n = true then ctn Q n + 1 else ctn Q n
      rw [h1, h3]
    · funext j
      show (if P n = true ∧ ctn P n = j then (n : Int) else nth P n j) = if Q n = true ∧ ctn Q n = j then (n : Int) else nth Q n j
      rw [h1, h2, h3]
theorem mo1_neg {c : Nat} {v : Nat → Int} {i : Int} (h : ¬ -1 ≤ i) : mo1 c v i = none := by
  unfold mo1
  rw [if_neg (by omega), if_neg (by omega)]
theorem eq_dig {p e r : Nat} (hq : Q_dig p e r) (hN : ((p ^ (e * r) : Nat) : Int) = ((p : Int) ^ e) ^ r) {x i : Int} : (if (0 ≤ x ∧ x ≤ ((p ^ (e * r) : Nat) : Int) - 1) ∧ 0 ≤ i ∧ i ≤ (e : Int) - 1 then some (ddM p r ((p : Int) ^ e) (fun j => tcE p e r (p ^ r) ((p : Int) ^ e) (rF p e r) j) (rL p e r) x i.toNat) else none) = if (0 ≤ x ∧ x < ((p ^ (e * r) : Nat) : Int)) ∧ 0 ≤ i ∧ i < (e : Int) then some (rl p r ((p : Int) ^ e) (rL p e r) (dlE p r ((p : Int) ^ e) (rF p e r) (rG p e r) (rL p e r) x i.toNat)) else none := by
  by_cases h : (0 ≤ x ∧ x < ((p ^ (e * r) : Nat) : Int)) ∧ 0 ≤ i ∧ i < (e : Int)
  · rw [if_pos h, if_pos ⟨⟨h.1.1, by omega⟩, h.2.1, by omega⟩, hq x i.toNat ⟨h.1.1, by omega⟩ (by omega)]
  · rw [if_neg h, if_neg (fun k => h ⟨⟨k.1.1, by omega⟩, k.2.1, by omega⟩)]
theorem eq_sum {p e r : Nat} (hv : RV p e r) (hq : Q_dig p e r) {k i : Int} : (if (0 ≤ k ∧ k ≤ ((p ^ r : Nat) : Int) - 2) ∧ 0 ≤ i ∧ i ≤ (e : Int) - 1 then some (ddM p r ((p : Int) ^ e) (fun j => tcE p e r (p ^ r) ((p : Int) ^ e) (rF p e r) j) (rL p e r) (pl ((p : Int) ^ e) r 1 (pw ((p : Int) ^ e) r (rF p e r) (rG p e r) k.toNat)) i.toNat) else none) = if (0 ≤ k ∧ k ≤ ((p ^ r : Nat) : Int) - 2) ∧ 0 ≤ i ∧ i < (e : Int) then some (rl p r ((p : Int) ^ e) (rL p e r) (dlE p r ((p : Int) ^ e) (rF p e r) (rG p e r) (rL p e r) (pl ((p : Int) ^ e) r 1 (pw ((p : Int) ^ e) r (rF p e r) (rG p e r) k.toNat)) i.toNat)) else none := by
  by_cases h : (0 ≤ k ∧ k ≤ ((p ^ r : Nat) : Int) - 2) ∧ 0 ≤ i ∧ i < (e : Int)
  · rw [if_pos h, if_pos ⟨h.1, h.2.1, by omega⟩, hq _ i.toNat (pl_el (Int.pow_pos (by obtain ⟨⟨q1, -⟩, -⟩ := id hv; omega)) _ _) (by omega)]
  · rw [if_neg h, if_neg (fun k9 => h ⟨k9.1, k9.2.1, by omega⟩)]
theorem eq_roots {p e r : Nat} (hq : Q_rts p e r) (hN : ((p ^ (e * r) : Nat) : Int) = ((p : Int) ^ e) ^ r) {x k i : Int} : (if (0 ≤ x ∧ x ≤ ((p ^ (e * r) : Nat) : Int) - 1) ∧ (1 ≤ k ∧ k ≤ 30) ∧ -1 ≤ i then mo1 (ctn (fun y => decide (pw ((p : Int) ^ e) r (rF p e r) y k.toNat = x)) (p ^ (e * r))) (nth (fun y => decide (pw ((p : Int) ^ e) r (rF p e r) y k.toNat = x)) (p ^ (e * r))) i else none) = if (0 ≤ x ∧ x < ((p ^ (e * r) : Nat) : Int)) ∧ 1 ≤ k ∧ k ≤ 30 then mo1 (ctn (fun y => decide (mrE p r (p ^ r) ((p : Int) ^ e) (rL p e r) y k.toNat x = 1) && decide (pw ((p : Int) ^ e) r (rF p e r) y k.toNat = x)) (p ^ (e * r))) (nth (fun y => decide (mrE p r (p ^ r) ((p : Int) ^ e) (rL p e r) y k.toNat x = 1) && decide (pw ((p : Int) ^ e) r (rF p e r) y k.toNat = x)) (p ^ (e * r))) i else none := by
  by_cases h : (0 ≤ x ∧ x < ((p ^ (e * r) : Nat) : Int)) ∧ 1 ≤ k ∧ k ≤ 30
  · have hc := nth_congr (P := fun y => decide (mrE p r (p ^ r) ((p : Int) ^ e) (rL p e r) y k.toNat x = 1) && decide (pw ((p : Int) ^ e) r (rF p e r) y k.toNat = x)) (Q := fun y => decide (pw ((p : Int) ^ e) r (rF p e r) y k.toNat = x)) (p ^ (e * r)) (fun y hy => hq x k.toNat ⟨h.1.1, by omega⟩ (by omega) y hy)
    rw [if_pos h]
    have e9 : ((k.toNat : Nat) : Int) = k := by omega
    rw [hc.1, hc.2]
    by_cases hi : -1 ≤ i
    · rw [if_pos ⟨⟨h.1.1, by omega⟩, h.2, hi⟩]
    · rw [if_neg (fun k9 => hi k9.2.2), mo1_neg hi]
  · rw [if_neg h, if_neg (fun k9 => h ⟨⟨k9.1.1, by omega⟩, k9.2.1⟩)]
theorem eq_zeros {N : Nat} {P : Nat → Bool} {k i : Int} : (if (0 ≤ k ∧ k ≤ 7) ∧ -1 ≤ i then mo1 (ctn P N) (nth P N) i else none) = if 0 ≤ k ∧ k < 8 then mo1 (ctn P N) (nth P N) i else none := by
  by_cases h : 0 ≤ k ∧ k < 8
  · rw [if_pos h]
    by_cases hi : -1 ≤ i
    · rw [if_pos ⟨⟨h.1, by omega⟩, hi⟩]
    · rw [if_neg (fun k9 => hi k9.2), mo1_neg hi]
  · rw [if_neg h, if_neg (fun k9 => h ⟨k9.1.1, by omega⟩)]
theorem eq_within {p e r : Nat} (hv : exO p e r) (hq : Q_wi p e r) {k i : Int} : (if 1 ≤ k ∧ (r : Int) % k = 0 ∧ -1 ≤ i then mo1 (ctn (fun y => decide (mvMn p e r (p ^ r) ((p : Int) ^ e) (rF p e r) (rG p e r) (fun j => tcE p e r (p ^ r) ((p : Int) ^ e) (rF p e r) j) (rL p e r) y (k.toNat % r) = y)) (p ^ (e * r))) (nth (fun y => decide (mvMn p e r (p ^ r) ((p : Int) ^ e) (rF p e r) (rG p e r) (fun j => tcE p e r (p ^ r) ((p : Int) ^ e) (rF p e r) j) (rL p e r) y (k.toNat % r) = y)) (p ^ (e * r))) i else none) = if (1 ≤ k ∧ k ≤ (r : Int)) ∧ (r : Int) % k = 0 then mo1 (ctn (fun y => decide (mvn p r ((p : Int) ^ e) (rF p e r) y k.toNat = y)) (p ^ (e * r))) (nth (fun y => decide (mvn p r ((p : Int) ^ e) (rF p e r) y k.toNat = y)) (p ^ (e * r))) i else none := by
  have hr : 1 ≤ r := by have := hv.2.2.2.1; omega
  by_cases h : 1 ≤ k ∧ (r : Int) % k = 0
  · obtain ⟨t, rfl⟩ : ∃ t : Nat, k = t := ⟨k.toNat, by omega⟩
    have h2 : r % t = 0 := by have := h.2; omega
    have h3 : t ≤ r := Nat.le_of_dvd (by omega) (Nat.dvd_of_mod_eq_zero h2)
    have hc := nth_congr (P := fun y => decide (mvn p r ((p : Int) ^ e) (rF p e r) y t = y)) (Q := fun y => decide (mvMn p e r (p ^ r) ((p : Int) ^ e) (rF p e r) (rG p e r) (fun j => tcE p e r (p ^ r) ((p : Int) ^ e) (rF p e r) j) (rL p e r) y (t % r) = y)) (p ^ (e * r)) (fun y hy => hq t (by omega) h2 y hy)
    have hc2 : (1 ≤ (t : Int) ∧ (t : Int) ≤ (r : Int)) ∧ (r : Int) % (t : Int) = 0 := ⟨⟨h.1, by omega⟩, h.2⟩
    rw [if_pos hc2]
    show _ = mo1 (ctn (fun y => decide (mvn p r ((p : Int) ^ e) (rF p e r) y t = y)) (p ^ (e * r))) (nth (fun y => decide (mvn p r ((p : Int) ^ e) (rF p e r) y t = y)) (p ^ (e * r))) i
    rw [hc.1, hc.2]
    by_cases hi : -1 ≤ i
    · rw [if_pos ⟨h.1, h.2, hi⟩]; rfl
    · rw [if_neg (fun k9 => hi k9.2.2), mo1_neg hi]
  · rw [if_neg (fun k9 => h ⟨k9.1, k9.2.1⟩), if_neg (fun k9 => h ⟨k9.1.1, k9.2⟩)]
theorem eq_units {p e r : Nat} (hq : Q_un p e r) {k : Int} : (if 1 ≤ k ∧ k ≤ 9999 then some ((ctn (fun x => decide (low p r ((p : Int) ^ e) ((x : Int) + 1) ≠ 0) && decide (pw ((p : Int) ^ e) r (rF p e r) ((x : Int) + 1) k.toNat = 1)) ((p ^ (e * r)) - 1) : Nat) : Int) else none) = if 1 ≤ k ∧ k ≤ 9999 then some (((ctn (fun x => decide (rl p r ((p : Int) ^ e) (rL p e r) x = 0) && decide (pw ((p : Int) ^ e) r (rF p e r) x k.toNat = 1)) (p ^ (e * r)) : Nat) : Int) * (Nat.gcd k.toNat ((p ^ r) - 1) : Nat)) else none := by
  by_cases h : 1 ≤ k ∧ k ≤ 9999
  · rw [if_pos h, if_pos h, hq k.toNat (by omega) (by omega)]
  · rw [if_neg h, if_neg h]
theorem eq_many {p e r : Nat} (hq : Q_mny p e r) {what v : Int} : (if (0 ≤ what ∧ what ≤ 3) ∧ 0 ≤ v then some ((ctn (mnP p e r (p ^ r) ((p : Int) ^ e) (rF p e r) (rG p e r) (fun j => tcE p e r (p ^ r) ((p : Int) ^ e) (rF p e r) j) (rL p e r) what v.toNat) (p ^ (e * r)) : Nat) : Int) else none) = if 0 ≤ v then mnyE p e r (p ^ r) (p ^ (e * r)) ((p : Int) ^ e) (rF p e r) what v.toNat else none := by
  by_cases h : 0 ≤ v
  · rw [if_pos h, hq what v.toNat]
    by_cases h2 : 0 ≤ what ∧ what ≤ 3
    · rw [if_pos h2, if_pos ⟨h2, h⟩]
    · rw [if_neg h2, if_neg (fun k => h2 k.1)]
  · rw [if_neg h, if_neg (fun k => h k.2)]
theorem eq_classes {p e r : Nat} (hv : RV p e r) (hq : Q_cls p e r) {a i k : Int} : (if 1 ≤ a ∧ a ≤ 63 ∧ (((p ^ r : Nat) : Int) - 1) % a = 0 then clsM p a.toNat i k else none) = if (1 ≤ a ∧ a ≤ 63 ∧ (((p ^ r : Nat) : Int) - 1) % a = 0) then clsE p a.toNat i k else none := by
  by_cases h : 1 ≤ a ∧ a ≤ 63 ∧ (((p ^ r : Nat) : Int) - 1) % a = 0
  · rw [if_pos h, if_pos h, hq a.toNat i k (by omega) (by omega) (q_mod hv h.1 h.2.2)]
  · rw [if_neg h, if_neg h]
theorem eq_coef {n dg : Nat} {mk ck : Nat → Int} {which i : Int} (hdn : dg ≤ n) : (if 0 ≤ which ∧ which ≤ 1 then (if which = 0 then (if -1 ≤ i ∧ i ≤ (dg : Int) then some (if i = -1 then (dg : Int) else mk i.toNat) else none) else (if -1 ≤ i ∧ i ≤ (n : Int) - dg then some (if i = -1 then (n : Int) - dg else ck i.toNat) else none)) else none) = coeE n dg mk ck which i := by
  unfold coeE
  by_cases h0 : which = 0
  · have a0 : 0 ≤ which ∧ which ≤ 1 := by omega
    rw [if_pos a0, if_pos h0, if_pos h0]
    by_cases h1 : i = -1
    · have a1 : -1 ≤ i ∧ i ≤ (dg : Int) := by omega
      rw [if_pos a1, if_pos h1, if_pos h1]
    · by_cases h2 : 0 ≤ i ∧ i ≤ (dg : Int)
      · have a1 : -1 ≤ i ∧ i ≤ (dg : Int) := by omega
        rw [if_pos a1, if_neg h1, if_neg h1, if_pos h2]
      · have a1 : ¬ (-1 ≤ i ∧ i ≤ (dg : Int)) := by omega
        rw [if_neg a1, if_neg h1, if_neg h2]
  · by_cases h9 : which = 1
    · have a0 : 0 ≤ which ∧ which ≤ 1 := by omega
      rw [if_pos a0, if_neg h0, if_neg h0, if_pos h9]
      by_cases h1 : i = -1
      · have a1 : -1 ≤ i ∧ i ≤ (n : Int) - dg := by omega
        rw [if_pos a1, if_pos h1, if_pos h1]
      · by_cases h2 : 0 ≤ i ∧ i ≤ (n : Int) - dg
        · have a1 : -1 ≤ i ∧ i ≤ (n : Int) - dg := by omega
          rw [if_pos a1, if_neg h1, if_neg h1, if_pos h2]
        · have a1 : ¬ (-1 ≤ i ∧ i ≤ (n : Int) - dg) := by omega
          rw [if_neg a1, if_neg h1, if_neg h2]
    · have a0 : ¬ (0 ≤ which ∧ which ≤ 1) := by omega
      rw [if_neg a0, if_neg h0, if_neg h9]
theorem eq_num {n : Nat} {w : Option (Nat → Int)} {i : Int} : numM n w i = numE n w i := by
  cases w with
  | none => rfl
  | some bt =>
    unfold numM numE
    simp only
    congr 1
    exact propext ⟨fun h => ⟨h.1, by omega⟩, fun h => ⟨h.1, by omega⟩⟩
theorem eq_rest {m : Int} {n dg : Nat} {mk : Nat → Int} {w : Option (Nat → Int)} {i : Int} : rstM m n dg mk w i = rstE m n dg mk w i := by
  cases w with
  | none => rfl
  | some bt =>
    unfold rstM rstE
    simp only
    congr 1
    exact propext ⟨fun h => ⟨h.1, by omega⟩, fun h => ⟨h.1, by omega⟩⟩
theorem eq_mend {m : Int} {n dg : Nat} {mk : Nat → Int} {w : Option (Nat → Int)} {i : Int} (hq : ∀ bt, w = some bt → mdsE m dg n mk (lfE m n dg mk bt) = mndM m n dg mk bt) : mndR m n dg mk w i = mndE m n dg mk w i := by
  cases w with
  | none => rfl
  | some bt =>
    unfold mndR mndE
    simp only
    rw [hq bt rfl]
    by_cases h : 0 ≤ i ∧ i ≤ 2
    · rw [if_pos h]
      by_cases h0 : i = 0
      · rw [if_pos h0, if_pos h0]
      · rw [if_neg h0, if_neg h0]
        by_cases h1 : i = 1
        · rw [if_pos h1, if_pos h1]
        · rw [if_neg h1, if_neg h1, if_pos (by omega)]
    · rw [if_neg h, if_neg (by omega), if_neg (by omega), if_neg (by omega)]
theorem eq_near {m : Int} {n dg : Nat} {mk : Nat → Int} {w : Option (Nat → Int)} {i : Int} (hq : m ^ (n - dg) ≤ 65536 → ∀ bt, w = some bt → (skE m dg (n - dg) mk (nbE n bt) (fun _ => 0) (ws_ m n dg)).1 = (lkT m n dg mk bt).1 ∧ ∀ i, i < n → (skE m dg (n - dg) mk (nbE n bt) (fun _ => 0) (ws_ m n dg)).2 i = (lkT m n dg mk bt).2 i) (hm : 0 < m) : nrM m n dg mk w i = nrE m n dg mk w i := by
  cases w with
  | none => rfl
  | some bt =>
    unfold nrM nrE
    simp only
    by_cases h : -1 ≤ i ∧ i < (n : Int)
    · rw [if_pos h, if_pos ⟨h.1, by omega⟩, sw_def]
      by_cases hs : m ^ (n - dg) ≤ 65536
      · obtain ⟨h1, h2⟩ := hq hs bt rfl
        have hne : ¬ m ^ (n - dg) = 0 := by have : 0 < m ^ (n - dg) := Int.pow_pos hm; omega
        rw [if_pos hs, if_pos hs]
        by_cases h3 : i = -1
        · rw [if_pos h3, if_neg hne, if_pos h3, h1]
        · rw [if_neg h3, if_neg hne, if_neg h3, h2 i.toNat (by omega)]
      · rw [if_neg hs, if_neg hs, if_pos rfl]
    · rw [if_neg h, if_neg (fun k => h ⟨k.1, by omega⟩)]
set_option maxRecDepth 20000 in
theorem op_fault (hEQ : EQs) {S0 : Nat → Int} {n0 i oo nc ns D mc ms : Nat} {l5 l6 : Option LV} {F : HF} {A : HA} {al : AL} {Post : PO} (hJ : JI F A) (hK : KX al) (hM : KM al) (hs : al.1 0 = (4, n0)) (hoo : al.1 oo = (2, 1)) (h67 : 67 ≤ oo) (hot : oo < al.2) (hA0 : A 0 = S0) (hi : i + 6 ≤ n0) (hn0 : n0 ≤ 3072) (hR : ∀ j, InR (S0 j)) (hD : 60 ≤ D) (hmc : nc + 4 ≤ mc) (hms : ns + 32 ≤ ms)
    (kk : ∀ (F2 : HF) (A2 : HA) (al2 : AL) (nc2 ns2 : Nat) (l5 l6 : Option LV), KE al.2 al al2 → JI F2 A2 → A2 0 = S0 → nc2 ≤ nc + 4 → ns2 ≤ ns + 32 → QW mL_law D mc ms Post nc2 ns2 1899 [some (vA 0), some (vA 1), some (vA 44), some (vA oo), some (vI (i : Nat)), l5, l6] [] F2 A2 al2) :
    QW mL_law D mc ms Post nc ns 362 [some (vA 0), some (vA 1), some (vA 44), some (vA oo), some (vI (i : Nat)), l5, l6] [] F A al := by
  obtain ⟨p, e, r, pl_, len, tp, fp, n, set, dg, mk, ck, w, S, hv, hX, hY⟩ := id hJ
  obtain ⟨q_rh, q_rm, q_cnt, q_elm, q_of, q_dig, q_wh, q_rts, q_wi, q_un, q_mny, q_cls, q_cod, q_par, q_wgh, q_lgt, q_mnd, q_nr, q_tel⟩ := hEQ p e r hv
  obtain ⟨hcd, hmk, hdn, hbt⟩ := hX.cd
  have hN := hv.N
  refine st_fault (v0 := fp) (QX := fun F2 A2 => XJ p e r pl_ len tp fp n set dg mk ck w S F2 A2) (QM := fun F2 A2 => MJ p e r pl_ len tp fp n set dg mk ck w S F2 A2) hK hM hs hoo h67 hot hA0 hi hn0 hD (by decide) (by decide) (by omega) (by omega) (fun F1 A1 F2 A2 h z1 z2 => ?_) (px_r hX (ev_fault hK hX)) (fun F1 A1 z1 z2 => pm_c (rfl) (fun _ _ h => h) (pm_r (MI.mid hY (z1 44 · (by decide)) z2) (mo_fault hM (MI.mid hY (z1 44 · (by decide)) z2)))) (fun F2 A2 al2 l5 l6 ke hx hm h0 => kk F2 A2 al2 _ _ l5 l6 ke ?_ h0 (by omega) (by omega))
  · exact XI.lo h z1 z2
  · exact ⟨p, e, r, pl_, len, tp, fp, n, set, dg, mk, ck, w, S, hv, hx, hm⟩
set_option maxRecDepth 20000 in
theorem op_said (hEQ : EQs) {S0 : Nat → Int} {n0 i oo nc ns D mc ms : Nat} {l5 l6 : Option LV} {F : HF} {A : HA} {al : AL} {Post : PO} (hJ : JI F A) (hK : KX al) (hM : KM al) (hs : al.1 0 = (4, n0)) (hoo : al.1 oo = (2, 1)) (h67 : 67 ≤ oo) (hot : oo < al.2) (hA0 : A 0 = S0) (hi : i + 6 ≤ n0) (hn0 : n0 ≤ 3072) (hR : ∀ j, InR (S0 j)) (hD : 60 ≤ D) (hmc : nc + 4 ≤ mc) (hms : ns + 32 ≤ ms)
    (kk : ∀ (F2 : HF) (A2 : HA) (al2 : AL) (nc2 ns2 : Nat) (l5 l6 : Option LV), KE al.2 al al2 → JI F2 A2 → A2 0 = S0 → nc2 ≤ nc + 4 → ns2 ≤ ns + 32 → QW mL_law D mc ms Post nc2 ns2 1899 [some (vA 0), some (vA 1), some (vA 44), some (vA oo), some (vI (i : Nat)), l5, l6] [] F2 A2 al2) :
    QW mL_law D mc ms Post nc ns 1874 [some (vA 0), some (vA 1), some (vA 44), some (vA oo), some (vI (i : Nat)), l5, l6] [] F A al := by
  obtain ⟨p, e, r, pl_, len, tp, fp, n, set, dg, mk, ck, w, S, hv, hX, hY⟩ := id hJ
  obtain ⟨q_rh, q_rm, q_cnt, q_elm, q_of, q_dig, q_wh, q_rts, q_wi, q_un, q_mny, q_cls, q_cod, q_par, q_wgh, q_lgt, q_mnd, q_nr, q_tel⟩ := hEQ p e r hv
  obtain ⟨hcd, hmk, hdn, hbt⟩ := hX.cd
  have hN := hv.N
  refine st_said (v0 := (sdE S (S0 ((i : Int) + 1).toNat))) (QX := fun F2 A2 => XJ p e r pl_ len tp fp n set dg mk ck w S F2 A2) (QM := fun F2 A2 => MJ p e r pl_ len tp fp n set dg mk ck w S F2 A2) hK hM hs hoo h67 hot hA0 hi hn0 hD (by decide) (by decide) (by omega) (by omega) (fun F1 A1 F2 A2 h z1 z2 => ?_) (px_r hX (ev_said hK hX (hR ((i : Int) + 1).toNat))) (fun F1 A1 z1 z2 => pm_c (congrArg some (by unfold sdE; congr 1; exact propext ⟨fun h => ⟨h.1, by omega⟩, fun h => ⟨h.1, by omega⟩⟩)) (fun _ _ h => h) (pm_r (MI.mid hY (z1 44 · (by decide)) z2) (mo_said hM (MI.mid hY (z1 44 · (by decide)) z2) (hR ((i : Int) + 1).toNat)))) (fun F2 A2 al2 l5 l6 ke hx hm h0 => kk F2 A2 al2 _ _ l5 l6 ke ?_ h0 (by omega) (by omega))
  · exact XI.lo h z1 z2
  · exact ⟨p, e, r, pl_, len, tp, fp, n, set, dg, mk, ck, w, S, hv, hx, hm⟩
set_option maxRecDepth 20000 in
theorem op_count (hEQ : EQs) {S0 : Nat → Int} {n0 i oo nc ns D mc ms : Nat} {l5 l6 : Option LV} {F : HF} {A : HA} {al : AL} {Post : PO} (hJ : JI F A) (hK : KX al) (hM : KM al) (hs : al.1 0 = (4, n0)) (hoo : al.1 oo = (2, 1)) (h67 : 67 ≤ oo) (hot : oo < al.2) (hA0 : A 0 = S0) (hi : i + 6 ≤ n0) (hn0 : n0 ≤ 3072) (hR : ∀ j, InR (S0 j)) (hD : 60 ≤ D) (hmc : nc + 4 ≤ mc) (hms : ns + 32 ≤ ms)
    (kk : ∀ (F2 : HF) (A2 : HA) (al2 : AL) (nc2 ns2 : Nat) (l5 l6 : Option LV), KE al.2 al al2 → JI F2 A2 → A2 0 = S0 → nc2 ≤ nc + 4 → ns2 ≤ ns + 32 → QW mL_law D mc ms Post nc2 ns2 1899 [some (vA 0), some (vA 1), some (vA 44), some (vA oo), some (vI (i : Nat)), l5, l6] [] F2 A2 al2) :
    QW mL_law D mc ms Post nc ns 443 [some (vA 0), some (vA 1), some (vA 44), some (vA oo), some (vI (i : Nat)), l5, l6] [] F A al := by
  obtain ⟨p, e, r, pl_, len, tp, fp, n, set, dg, mk, ck, w, S, hv, hX, hY⟩ := id hJ
  obtain ⟨q_rh, q_rm, q_cnt, q_elm, q_of, q_dig, q_wh, q_rts, q_wi, q_un, q_mny, q_cls, q_cod, q_par, q_wgh, q_lgt, q_mnd, q_nr, q_tel⟩ := hEQ p e r hv
  obtain ⟨hcd, hmk, hdn, hbt⟩ := hX.cd
  have hN := hv.N
  refine st_count (R := _) (QX := fun F2 A2 => XJ p e r pl_ len tp fp n set dg mk ck w S F2 A2) (QM := fun F2 A2 => MJ p e r pl_ len tp fp n set dg mk ck w S F2 A2) hK hM hs hoo h67 hot hA0 hi hn0 hD (by decide) (by decide) (by omega) (by omega) (fun F1 A1 F2 A2 h z1 z2 => ?_) (px_r hX (ev_cnt hK hX (hR ((i : Int) + 1).toNat))) (fun F1 A1 z1 z2 => pm_c ((q_cnt len n dg (S0 ((i : Int) + 1).toNat) hdn).symm) (fun _ _ h => h) (pm_r (MI.mid hY (z1 44 · (by decide)) z2) (mo_cnt hM (MI.mid hY (z1 44 · (by decide)) z2) (hR ((i : Int) + 1).toNat)))) (fun F2 A2 al2 l5 l6 ke hx hm h0 => kk F2 A2 al2 _ _ l5 l6 ke ?_ h0 (by omega) (by omega))
  · exact XI.lo h z1 z2
  · exact ⟨p, e, r, pl_, len, tp, fp, n, set, dg, mk, ck, w, S, hv, hx, hm⟩
set_option maxRecDepth 20000 in
theorem op_modulus (hEQ : EQs) {S0 : Nat → Int} {n0 i oo nc ns D mc ms : Nat} {l5 l6 : Option LV} {F : HF} {A : HA} {al : AL} {Post : PO} (hJ : JI F A) (hK : KX al) (hM : KM al) (hs : al.1 0 = (4, n0)) (hoo : al.1 oo = (2, 1)) (h67 : 67 ≤ oo) (hot : oo < al.2) (hA0 : A 0 = S0) (hi : i + 6 ≤ n0) (hn0 : n0 ≤ 3072) (hR : ∀ j, InR (S0 j)) (hD : 60 ≤ D) (hmc : nc + 4 ≤ mc) (hms : ns + 32 ≤ ms)
    (kk : ∀ (F2 : HF) (A2 : HA) (al2 : AL) (nc2 ns2 : Nat) (l5 l6 : Option LV), KE al.2 al al2 → JI F2 A2 → A2 0 = S0 → nc2 ≤ nc + 4 → ns2 ≤ ns + 32 → QW mL_law D mc ms Post nc2 ns2 1899 [some (vA 0), some (vA 1), some (vA 44), some (vA oo), some (vI (i : Nat)), l5, l6] [] F2 A2 al2) :
    QW mL_law D mc ms Post nc ns 499 [some (vA 0), some (vA 1), some (vA 44), some (vA oo), some (vI (i : Nat)), l5, l6] [] F A al := by
  obtain ⟨p, e, r, pl_, len, tp, fp, n, set, dg, mk, ck, w, S, hv, hX, hY⟩ := id hJ
  obtain ⟨q_rh, q_rm, q_cnt, q_elm, q_of, q_dig, q_wh, q_rts, q_wi, q_un, q_mny, q_cls, q_cod, q_par, q_wgh, q_lgt, q_mnd, q_nr, q_tel⟩ := hEQ p e r hv
  obtain ⟨hcd, hmk, hdn, hbt⟩ := hX.cd
  have hN := hv.N
  refine st_modulus (R := _) (QX := fun F2 A2 => XJ p e r pl_ len tp fp n set dg mk ck w S F2 A2) (QM := fun F2 A2 => MJ p e r pl_ len tp fp n set dg mk ck w S F2 A2) hK hM hs hoo h67 hot hA0 hi hn0 hD (by decide) (by decide) (by omega) (by omega) (fun F1 A1 F2 A2 h z1 z2 => ?_) (px_r hX (ev_modulus hK hX (hR ((i : Int) + 1).toNat))) (fun F1 A1 z1 z2 => pm_c (rfl) (fun _ _ h => h) (pm_r (MI.mid hY (z1 44 · (by decide)) z2) (mo_modulus hM (MI.mid hY (z1 44 · (by decide)) z2) (hR ((i : Int) + 1).toNat)))) (fun F2 A2 al2 l5 l6 ke hx hm h0 => kk F2 A2 al2 _ _ l5 l6 ke ?_ h0 (by omega) (by omega))
  · exact XI.lo h z1 z2
  · exact ⟨p, e, r, pl_, len, tp, fp, n, set, dg, mk, ck, w, S, hv, hx, hm⟩
set_option maxRecDepth 20000 in
theorem op_element (hEQ : EQs) {S0 : Nat → Int} {n0 i oo nc ns D mc ms : Nat} {l5 l6 : Option LV} {F : HF} {A : HA} {al : AL} {Post : PO} (hJ : JI F A) (hK : KX al) (hM : KM al) (hs : al.1 0 = (4, n0)) (hoo : al.1 oo = (2, 1)) (h67 : 67 ≤ oo) (hot : oo < al.2) (hA0 : A 0 = S0) (hi : i + 6 ≤ n0) (hn0 : n0 ≤ 3072) (hR : ∀ j, InR (S0 j)) (hD : 60 ≤ D) (hmc : nc + 4 ≤ mc) (hms : ns + 32 ≤ ms)
    (kk : ∀ (F2 : HF) (A2 : HA) (al2 : AL) (nc2 ns2 : Nat) (l5 l6 : Option LV), KE al.2 al al2 → JI F2 A2 → A2 0 = S0 → nc2 ≤ nc + 4 → ns2 ≤ ns + 32 → QW mL_law D mc ms Post nc2 ns2 1899 [some (vA 0), some (vA 1), some (vA 44), some (vA oo), some (vI (i : Nat)), l5, l6] [] F2 A2 al2) :
    QW mL_law D mc ms Post nc ns 555 [some (vA 0), some (vA 1), some (vA 44), some (vA oo), some (vI (i : Nat)), l5, l6] [] F A al := by
  obtain ⟨p, e, r, pl_, len, tp, fp, n, set, dg, mk, ck, w, S, hv, hX, hY⟩ := id hJ
  obtain ⟨q_rh, q_rm, q_cnt, q_elm, q_of, q_dig, q_wh, q_rts, q_wi, q_un, q_mny, q_cls, q_cod, q_par, q_wgh, q_lgt, q_mnd, q_nr, q_tel⟩ := hEQ p e r hv
  obtain ⟨hcd, hmk, hdn, hbt⟩ := hX.cd
  have hN := hv.N
  refine st_element (R := _) (QX := fun F2 A2 => XJ p e r pl_ len tp fp n set dg mk ck w S F2 A2) (QM := fun F2 A2 => MJ p e r pl_ len tp fp n set dg mk ck w S F2 A2) hK hM hs hoo h67 hot hA0 hi hn0 hD (by decide) (by decide) (by omega) (by omega) (fun F1 A1 F2 A2 h z1 z2 => ?_) (px_r hX (ev_element hK hX (hR ((i : Int) + 1).toNat) (hR ((i : Int) + 2).toNat) (hR ((i : Int) + 3).toNat))) (fun F1 A1 z1 z2 => pm_c ((q_elm (S0 ((i : Int) + 1).toNat) (S0 ((i : Int) + 2).toNat) (S0 ((i : Int) + 3).toNat)).symm) (fun _ _ h => h) (pm_r (MI.mid hY (z1 44 · (by decide)) z2) (mo_element hM (MI.mid hY (z1 44 · (by decide)) z2) (hR ((i : Int) + 1).toNat) (hR ((i : Int) + 2).toNat) (hR ((i : Int) + 3).toNat)))) (fun F2 A2 al2 l5 l6 ke hx hm h0 => kk F2 A2 al2 _ _ l5 l6 ke ?_ h0 (by omega) (by omega))
  · exact XI.lo h z1 z2
  · exact ⟨p, e, r, pl_, len, tp, fp, n, set, dg, mk, ck, w, S, hv, hx, hm⟩
set_option maxRecDepth 20000 in
theorem op_of (hEQ : EQs) {S0 : Nat → Int} {n0 i oo nc ns D mc ms : Nat} {l5 l6 : Option LV} {F : HF} {A : HA} {al : AL} {Post : PO} (hJ : JI F A) (hK : KX al) (hM : KM al) (hs : al.1 0 = (4, n0)) (hoo : al.1 oo = (2, 1)) (h67 : 67 ≤ oo) (hot : oo < al.2) (hA0 : A 0 = S0) (hi : i + 6 ≤ n0) (hn0 : n0 ≤ 3072) (hR : ∀ j, InR (S0 j)) (hD : 60 ≤ D) (hmc : nc + 4 ≤ mc) (hms : ns + 32 ≤ ms)
    (kk : ∀ (F2 : HF) (A2 : HA) (al2 : AL) (nc2 ns2 : Nat) (l5 l6 : Option LV), KE al.2 al al2 → JI F2 A2 → A2 0 = S0 → nc2 ≤ nc + 4 → ns2 ≤ ns + 32 → QW mL_law D mc ms Post nc2 ns2 1899 [some (vA 0), some (vA 1), some (vA 44), some (vA oo), some (vI (i : Nat)), l5, l6] [] F2 A2 al2) :
    QW mL_law D mc ms Post nc ns 635 [some (vA 0), some (vA 1), some (vA 44), some (vA oo), some (vI (i : Nat)), l5, l6] [] F A al := by
  obtain ⟨p, e, r, pl_, len, tp, fp, n, set, dg, mk, ck, w, S, hv, hX, hY⟩ := id hJ
  obtain ⟨q_rh, q_rm, q_cnt, q_elm, q_of, q_dig, q_wh, q_rts, q_wi, q_un, q_mny, q_cls, q_cod, q_par, q_wgh, q_lgt, q_mnd, q_nr, q_tel⟩ := hEQ p e r hv
  obtain ⟨hcd, hmk, hdn, hbt⟩ := hX.cd
  have hN := hv.N
  refine st_of (R := _) (QX := fun F2 A2 => XJ p e r pl_ len tp fp n set dg mk ck w S F2 A2) (QM := fun F2 A2 => MJ p e r pl_ len tp fp n set dg mk ck w S F2 A2) hK hM hs hoo h67 hot hA0 hi hn0 hD (by decide) (by decide) (by omega) (by omega) (fun F1 A1 F2 A2 h z1 z2 => ?_) (px_r hX (ev_of hK hX (hR ((i : Int) + 1).toNat) (hR ((i : Int) + 2).toNat))) (fun F1 A1 z1 z2 => pm_c ((q_of (S0 ((i : Int) + 1).toNat) (S0 ((i : Int) + 2).toNat)).symm) (fun _ _ h => h) (pm_r (MI.mid hY (z1 44 · (by decide)) z2) (mo_of hM (MI.mid hY (z1 44 · (by decide)) z2) (hR ((i : Int) + 1).toNat) (hR ((i : Int) + 2).toNat)))) (fun F2 A2 al2 l5 l6 ke hx hm h0 => kk F2 A2 al2 _ _ l5 l6 ke ?_ h0 (by omega) (by omega))
  · exact XI.lo h z1 z2
  · exact ⟨p, e, r, pl_, len, tp, fp, n, set, dg, mk, ck, w, S, hv, hx, hm⟩
set_option maxRecDepth 20000 in
theorem op_digit (hEQ : EQs) {S0 : Nat → Int} {n0 i oo nc ns D mc ms : Nat} {l5 l6 : Option LV} {F : HF} {A : HA} {al : AL} {Post : PO} (hJ : JI F A) (hK : KX al) (hM : KM al) (hs : al.1 0 = (4, n0)) (hoo : al.1 oo = (2, 1)) (h67 : 67 ≤ oo) (hot : oo < al.2) (hA0 : A 0 = S0) (hi : i + 6 ≤ n0) (hn0 : n0 ≤ 3072) (hR : ∀ j, InR (S0 j)) (hD : 60 ≤ D) (hmc : nc + 4 ≤ mc) (hms : ns + 32 ≤ ms)
    (kk : ∀ (F2 : HF) (A2 : HA) (al2 : AL) (nc2 ns2 : Nat) (l5 l6 : Option LV), KE al.2 al al2 → JI F2 A2 → A2 0 = S0 → nc2 ≤ nc + 4 → ns2 ≤ ns + 32 → QW mL_law D mc ms Post nc2 ns2 1899 [some (vA 0), some (vA 1), some (vA 44), some (vA oo), some (vI (i : Nat)), l5, l6] [] F2 A2 al2) :
    QW mL_law D mc ms Post nc ns 703 [some (vA 0), some (vA 1), some (vA 44), some (vA oo), some (vI (i : Nat)), l5, l6] [] F A al := by
  obtain ⟨p, e, r, pl_, len, tp, fp, n, set, dg, mk, ck, w, S, hv, hX, hY⟩ := id hJ
  obtain ⟨q_rh, q_rm, q_cnt, q_elm, q_of, q_dig, q_wh, q_rts, q_wi, q_un, q_mny, q_cls, q_cod, q_par, q_wgh, q_lgt, q_mnd, q_nr, q_tel⟩ := hEQ p e r hv
  obtain ⟨hcd, hmk, hdn, hbt⟩ := hX.cd
  have hN := hv.N
  refine st_digit (R := _) (QX := fun F2 A2 => XJ p e r pl_ len tp fp n set dg mk ck w S F2 A2) (QM := fun F2 A2 => MJ p e r pl_ len tp fp n set dg mk ck w S F2 A2) hK hM hs hoo h67 hot hA0 hi hn0 hD (by decide) (by decide) (by omega) (by omega) (fun F1 A1 F2 A2 h z1 z2 => ?_) (px_r hX (ev_digit hK hX (hR ((i : Int) + 1).toNat) (hR ((i : Int) + 2).toNat))) (fun F1 A1 z1 z2 => pm_c (eq_dig q_dig hN) (fun _ _ h => h) (pm_r (MI.mid hY (z1 44 · (by decide)) z2) (mo_digit hM (MI.mid hY (z1 44 · (by decide)) z2) (hR ((i : Int) + 1).toNat) (hR ((i : Int) + 2).toNat)))) (fun F2 A2 al2 l5 l6 ke hx hm h0 => kk F2 A2 al2 _ _ l5 l6 ke ?_ h0 (by omega) (by omega))
  · exact XI.lo h z1 z2
  · exact ⟨p, e, r, pl_, len, tp, fp, n, set, dg, mk, ck, w, S, hv, hx, hm⟩
set_option maxRecDepth 20000 in
theorem op_whole (hEQ : EQs) {S0 : Nat → Int} {n0 i oo nc ns D mc ms : Nat} {l5 l6 : Option LV} {F : HF} {A : HA} {al : AL} {Post : PO} (hJ : JI F A) (hK : KX al) (hM : KM al) (hs : al.1 0 = (4, n0)) (hoo : al.1 oo = (2, 1)) (h67 : 67 ≤ oo) (hot : oo < al.2) (hA0 : A 0 = S0) (hi : i + 6 ≤ n0) (hn0 : n0 ≤ 3072) (hR : ∀ j, InR (S0 j)) (hD : 60 ≤ D) (hmc : nc + 4 ≤ mc) (hms : ns + 32 ≤ ms)
    (kk : ∀ (F2 : HF) (A2 : HA) (al2 : AL) (nc2 ns2 : Nat) (l5 l6 : Option LV), KE al.2 al al2 → JI F2 A2 → A2 0 = S0 → nc2 ≤ nc + 4 → ns2 ≤ ns + 32 → QW mL_law D mc ms Post nc2 ns2 1899 [some (vA 0), some (vA 1), some (vA 44), some (vA oo), some (vI (i : Nat)), l5, l6] [] F2 A2 al2) :
    QW mL_law D mc ms Post nc ns 771 [some (vA 0), some (vA 1), some (vA 44), some (vA oo), some (vI (i : Nat)), l5, l6] [] F A al := by
  obtain ⟨p, e, r, pl_, len, tp, fp, n, set, dg, mk, ck, w, S, hv, hX, hY⟩ := id hJ
  obtain ⟨q_rh, q_rm, q_cnt, q_elm, q_of, q_dig, q_wh, q_rts, q_wi, q_un, q_mny, q_cls, q_cod, q_par, q_wgh, q_lgt, q_mnd, q_nr, q_tel⟩ := hEQ p e r hv
  obtain ⟨hcd, hmk, hdn, hbt⟩ := hX.cd
  have hN := hv.N
  refine st_whole (R := _) (QX := fun F2 A2 => XJ p e r pl_ len tp fp n set dg mk ck w S F2 A2) (QM := fun F2 A2 => MJ p e r pl_ len tp fp n set dg mk ck w S F2 A2) hK hM hs hoo h67 hot hA0 hi hn0 hD (by decide) (by decide) (by omega) (by omega) (fun F1 A1 F2 A2 h z1 z2 => ?_) (px_r hX (ev_whole hK hX (hR ((i : Int) + 1).toNat) (hR ((i : Int) + 2).toNat) (hR ((i : Int) + 3).toNat) (hR ((i : Int) + 4).toNat))) (fun F1 A1 z1 z2 => pm_c ((q_wh (S0 ((i : Int) + 1).toNat) (S0 ((i : Int) + 2).toNat) (S0 ((i : Int) + 3).toNat) (S0 ((i : Int) + 4).toNat)).symm) (fun _ _ h => h) (pm_r (MI.mid hY (z1 44 · (by decide)) z2) (mo_whole hM (MI.mid hY (z1 44 · (by decide)) z2) (hR ((i : Int) + 1).toNat) (hR ((i : Int) + 2).toNat) (hR ((i : Int) + 3).toNat) (hR ((i : Int) + 4).toNat)))) (fun F2 A2 al2 l5 l6 ke hx hm h0 => kk F2 A2 al2 _ _ l5 l6 ke ?_ h0 (by omega) (by omega))
  · exact XI.lo h z1 z2
  · exact ⟨p, e, r, pl_, len, tp, fp, n, set, dg, mk, ck, w, S, hv, hx, hm⟩
set_option maxRecDepth 20000 in
theorem op_sum (hEQ : EQs) {S0 : Nat → Int} {n0 i oo nc ns D mc ms : Nat} {l5 l6 : Option LV} {F : HF} {A : HA} {al : AL} {Post : PO} (hJ : JI F A) (hK : KX al) (hM : KM al) (hs : al.1 0 = (4, n0)) (hoo : al.1 oo = (2, 1)) (h67 : 67 ≤ oo) (hot : oo < al.2) (hA0 : A 0 = S0) (hi : i + 6 ≤ n0) (hn0 : n0 ≤ 3072) (hR : ∀ j, InR (S0 j)) (hD : 60 ≤ D) (hmc : nc + 4 ≤ mc) (hms : ns + 32 ≤ ms)
    (kk : ∀ (F2 : HF) (A2 : HA) (al2 : AL) (nc2 ns2 : Nat) (l5 l6 : Option LV), KE al.2 al al2 → JI F2 A2 → A2 0 = S0 → nc2 ≤ nc + 4 → ns2 ≤ ns + 32 → QW mL_law D mc ms Post nc2 ns2 1899 [some (vA 0), some (vA 1), some (vA 44), some (vA oo), some (vI (i : Nat)), l5, l6] [] F2 A2 al2) :
    QW mL_law D mc ms Post nc ns 863 [some (vA 0), some (vA 1), some (vA 44), some (vA oo), some (vI (i : Nat)), l5, l6] [] F A al := by
  obtain ⟨p, e, r, pl_, len, tp, fp, n, set, dg, mk, ck, w, S, hv, hX, hY⟩ := id hJ
  obtain ⟨q_rh, q_rm, q_cnt, q_elm, q_of, q_dig, q_wh, q_rts, q_wi, q_un, q_mny, q_cls, q_cod, q_par, q_wgh, q_lgt, q_mnd, q_nr, q_tel⟩ := hEQ p e r hv
  obtain ⟨hcd, hmk, hdn, hbt⟩ := hX.cd
  have hN := hv.N
  refine st_sum (R := _) (QX := fun F2 A2 => XJ p e r pl_ len tp fp n set dg mk ck w S F2 A2) (QM := fun F2 A2 => MJ p e r pl_ len tp fp n set dg mk ck w S F2 A2) hK hM hs hoo h67 hot hA0 hi hn0 hD (by decide) (by decide) (by omega) (by omega) (fun F1 A1 F2 A2 h z1 z2 => ?_) (px_r hX (ev_sum hK hX (hR ((i : Int) + 1).toNat) (hR ((i : Int) + 2).toNat))) (fun F1 A1 z1 z2 => pm_c (eq_sum hv q_dig) (fun _ _ h => h) (pm_r (MI.mid hY (z1 44 · (by decide)) z2) (mo_sum hM (MI.mid hY (z1 44 · (by decide)) z2) (hR ((i : Int) + 1).toNat) (hR ((i : Int) + 2).toNat)))) (fun F2 A2 al2 l5 l6 ke hx hm h0 => kk F2 A2 al2 _ _ l5 l6 ke ?_ h0 (by omega) (by omega))
  · exact XI.lo h z1 z2
  · exact ⟨p, e, r, pl_, len, tp, fp, n, set, dg, mk, ck, w, S, hv, hx, hm⟩
set_option maxRecDepth 20000 in
theorem op_roots (hEQ : EQs) {S0 : Nat → Int} {n0 i oo nc ns D mc ms : Nat} {l5 l6 : Option LV} {F : HF} {A : HA} {al : AL} {Post : PO} (hJ : JI F A) (hK : KX al) (hM : KM al) (hs : al.1 0 = (4, n0)) (hoo : al.1 oo = (2, 1)) (h67 : 67 ≤ oo) (hot : oo < al.2) (hA0 : A 0 = S0) (hi : i + 6 ≤ n0) (hn0 : n0 ≤ 3072) (hR : ∀ j, InR (S0 j)) (hD : 60 ≤ D) (hmc : nc + 4 ≤ mc) (hms : ns + 32 ≤ ms)
    (kk : ∀ (F2 : HF) (A2 : HA) (al2 : AL) (nc2 ns2 : Nat) (l5 l6 : Option LV), KE al.2 al al2 → JI F2 A2 → A2 0 = S0 → nc2 ≤ nc + 4 → ns2 ≤ ns + 32 → QW mL_law D mc ms Post nc2 ns2 1899 [some (vA 0), some (vA 1), some (vA 44), some (vA oo), some (vI (i : Nat)), l5, l6] [] F2 A2 al2) :
    QW mL_law D mc ms Post nc ns 931 [some (vA 0), some (vA 1), some (vA 44), some (vA oo), some (vI (i : Nat)), l5, l6] [] F A al := by
  obtain ⟨p, e, r, pl_, len, tp, fp, n, set, dg, mk, ck, w, S, hv, hX, hY⟩ := id hJ
  obtain ⟨q_rh, q_rm, q_cnt, q_elm, q_of, q_dig, q_wh, q_rts, q_wi, q_un, q_mny, q_cls, q_cod, q_par, q_wgh, q_lgt, q_mnd, q_nr, q_tel⟩ := hEQ p e r hv
  obtain ⟨hcd, hmk, hdn, hbt⟩ := hX.cd
  have hN := hv.N
  refine st_roots (R := _) (QX := fun F2 A2 => XJ p e r pl_ len tp fp n set dg mk ck w S F2 A2) (QM := fun F2 A2 => MJ p e r pl_ len tp fp n set dg mk ck w S F2 A2) hK hM hs hoo h67 hot hA0 hi hn0 hD (by decide) (by decide) (by omega) (by omega) (fun F1 A1 F2 A2 h z1 z2 => ?_) (px_r hX (ev_roots hK hX (hR ((i : Int) + 1).toNat) (hR ((i : Int) + 2).toNat) (hR ((i : Int) + 3).toNat))) (fun F1 A1 z1 z2 => pm_c (eq_roots q_rts hN) (fun _ _ h => h) (pm_r (MI.mid hY (z1 44 · (by decide)) z2) (mo_roots hM (MI.mid hY (z1 44 · (by decide)) z2) (hR ((i : Int) + 1).toNat) (hR ((i : Int) + 2).toNat) (hR ((i : Int) + 3).toNat)))) (fun F2 A2 al2 l5 l6 ke hx hm h0 => kk F2 A2 al2 _ _ l5 l6 ke ?_ h0 (by omega) (by omega))
  · exact XI.lo h z1 z2
  · exact ⟨p, e, r, pl_, len, tp, fp, n, set, dg, mk, ck, w, S, hv, hx, hm⟩
set_option maxRecDepth 20000 in
theorem op_zeros (hEQ : EQs) {S0 : Nat → Int} {n0 i oo nc ns D mc ms : Nat} {l5 l6 : Option LV} {F : HF} {A : HA} {al : AL} {Post : PO} (hJ : JI F A) (hK : KX al) (hM : KM al) (hs : al.1 0 = (4, n0)) (hoo : al.1 oo = (2, 1)) (h67 : 67 ≤ oo) (hot : oo < al.2) (hA0 : A 0 = S0) (hi : i + 6 ≤ n0) (hn0 : n0 ≤ 3072) (hR : ∀ j, InR (S0 j)) (hD : 60 ≤ D) (hmc : nc + 4 ≤ mc) (hms : ns + 32 ≤ ms)
    (kk : ∀ (F2 : HF) (A2 : HA) (al2 : AL) (nc2 ns2 : Nat) (l5 l6 : Option LV), KE al.2 al al2 → JI F2 A2 → A2 0 = S0 → nc2 ≤ nc + 4 → ns2 ≤ ns + 32 → QW mL_law D mc ms Post nc2 ns2 1899 [some (vA 0), some (vA 1), some (vA 44), some (vA oo), some (vI (i : Nat)), l5, l6] [] F2 A2 al2) :
    QW mL_law D mc ms Post nc ns 1011 [some (vA 0), some (vA 1), some (vA 44), some (vA oo), some (vI (i : Nat)), l5, l6] [] F A al := by
  obtain ⟨p, e, r, pl_, len, tp, fp, n, set, dg, mk, ck, w, S, hv, hX, hY⟩ := id hJ
  obtain ⟨q_rh, q_rm, q_cnt, q_elm, q_of, q_dig, q_wh, q_rts, q_wi, q_un, q_mny, q_cls, q_cod, q_par, q_wgh, q_lgt, q_mnd, q_nr, q_tel⟩ := hEQ p e r hv
  obtain ⟨hcd, hmk, hdn, hbt⟩ := hX.cd
  have hN := hv.N
  refine st_zeros (R := _) (QX := fun F2 A2 => XJ p e r pl_ len tp fp n set dg mk ck w S F2 A2) (QM := fun F2 A2 => MJ p e r pl_ len tp fp n set dg mk ck w S F2 A2) hK hM hs hoo h67 hot hA0 hi hn0 hD (by decide) (by decide) (by omega) (by omega) (fun F1 A1 F2 A2 h z1 z2 => ?_) (px_r hX (ev_zeros hK hX (hR ((i : Int) + 1).toNat) (hR ((i : Int) + 2).toNat))) (fun F1 A1 z1 z2 => pm_c (eq_zeros) (fun _ _ h => h) (pm_r (MI.mid hY (z1 44 · (by decide)) z2) (mo_zeros hM (MI.mid hY (z1 44 · (by decide)) z2) (hR ((i : Int) + 1).toNat) (hR ((i : Int) + 2).toNat)))) (fun F2 A2 al2 l5 l6 ke hx hm h0 => kk F2 A2 al2 _ _ l5 l6 ke ?_ h0 (by omega) (by omega))
  · exact XI.lo h z1 z2
  · exact ⟨p, e, r, pl_, len, tp, fp, n, set, dg, mk, ck, w, S, hv, hx, hm⟩
set_option maxRecDepth 20000 in
theorem op_within (hEQ : EQs) {S0 : Nat → Int} {n0 i oo nc ns D mc ms : Nat} {l5 l6 : Option LV} {F : HF} {A : HA} {al : AL} {Post : PO} (hJ : JI F A) (hK : KX al) (hM : KM al) (hs : al.1 0 = (4, n0)) (hoo : al.1 oo = (2, 1)) (h67 : 67 ≤ oo) (hot : oo < al.2) (hA0 : A 0 = S0) (hi : i + 6 ≤ n0) (hn0 : n0 ≤ 3072) (hR : ∀ j, InR (S0 j)) (hD : 60 ≤ D) (hmc : nc + 4 ≤ mc) (hms : ns + 32 ≤ ms)
    (kk : ∀ (F2 : HF) (A2 : HA) (al2 : AL) (nc2 ns2 : Nat) (l5 l6 : Option LV), KE al.2 al al2 → JI F2 A2 → A2 0 = S0 → nc2 ≤ nc + 4 → ns2 ≤ ns + 32 → QW mL_law D mc ms Post nc2 ns2 1899 [some (vA 0), some (vA 1), some (vA 44), some (vA oo), some (vI (i : Nat)), l5, l6] [] F2 A2 al2) :
    QW mL_law D mc ms Post nc ns 1079 [some (vA 0), some (vA 1), some (vA 44), some (vA oo), some (vI (i : Nat)), l5, l6] [] F A al := by
  obtain ⟨p, e, r, pl_, len, tp, fp, n, set, dg, mk, ck, w, S, hv, hX, hY⟩ := id hJ
  obtain ⟨q_rh, q_rm, q_cnt, q_elm, q_of, q_dig, q_wh, q_rts, q_wi, q_un, q_mny, q_cls, q_cod, q_par, q_wgh, q_lgt, q_mnd, q_nr, q_tel⟩ := hEQ p e r hv
  obtain ⟨hcd, hmk, hdn, hbt⟩ := hX.cd
  have hN := hv.N
  refine st_within (R := _) (QX := fun F2 A2 => XJ p e r pl_ len tp fp n set dg mk ck w S F2 A2) (QM := fun F2 A2 => MJ p e r pl_ len tp fp n set dg mk ck w S F2 A2) hK hM hs hoo h67 hot hA0 hi hn0 hD (by decide) (by decide) (by omega) (by omega) (fun F1 A1 F2 A2 h z1 z2 => ?_) (px_r hX (ev_within hK hX (hR ((i : Int) + 1).toNat) (hR ((i : Int) + 2).toNat))) (fun F1 A1 z1 z2 => pm_c (eq_within hv.1 q_wi) (fun _ _ h => h) (pm_r (MI.mid hY (z1 44 · (by decide)) z2) (mo_within hM (MI.mid hY (z1 44 · (by decide)) z2) (hR ((i : Int) + 1).toNat) (hR ((i : Int) + 2).toNat)))) (fun F2 A2 al2 l5 l6 ke hx hm h0 => kk F2 A2 al2 _ _ l5 l6 ke ?_ h0 (by omega) (by omega))
  · exact XI.lo h z1 z2
  · exact ⟨p, e, r, pl_, len, tp, fp, n, set, dg, mk, ck, w, S, hv, hx, hm⟩
set_option maxRecDepth 20000 in
theorem op_units (hEQ : EQs) {S0 : Nat → Int} {n0 i oo nc ns D mc ms : Nat} {l5 l6 : Option LV} {F : HF} {A : HA} {al : AL} {Post : PO} (hJ : JI F A) (hK : KX al) (hM : KM al) (hs : al.1 0 = (4, n0)) (hoo : al.1 oo = (2, 1)) (h67 : 67 ≤ oo) (hot : oo < al.2) (hA0 : A 0 = S0) (hi : i + 6 ≤ n0) (hn0 : n0 ≤ 3072) (hR : ∀ j, InR (S0 j)) (hD : 60 ≤ D) (hmc : nc + 4 ≤ mc) (hms : ns + 32 ≤ ms)
    (kk : ∀ (F2 : HF) (A2 : HA) (al2 : AL) (nc2 ns2 : Nat) (l5 l6 : Option LV), KE al.2 al al2 → JI F2 A2 → A2 0 = S0 → nc2 ≤ nc + 4 → ns2 ≤ ns + 32 → QW mL_law D mc ms Post nc2 ns2 1899 [some (vA 0), some (vA 1), some (vA 44), some (vA oo), some (vI (i : Nat)), l5, l6] [] F2 A2 al2) :
    QW mL_law D mc ms Post nc ns 1147 [some (vA 0), some (vA 1), some (vA 44), some (vA oo), some (vI (i : Nat)), l5, l6] [] F A al := by
  obtain ⟨p, e, r, pl_, len, tp, fp, n, set, dg, mk, ck, w, S, hv, hX, hY⟩ := id hJ
  obtain ⟨q_rh, q_rm, q_cnt, q_elm, q_of, q_dig, q_wh, q_rts, q_wi, q_un, q_mny, q_cls, q_cod, q_par, q_wgh, q_lgt, q_mnd, q_nr, q_tel⟩ := hEQ p e r hv
  obtain ⟨hcd, hmk, hdn, hbt⟩ := hX.cd
  have hN := hv.N
  refine st_units (R := _) (QX := fun F2 A2 => XJ p e r pl_ len tp fp n set dg mk ck w S F2 A2) (QM := fun F2 A2 => MJ p e r pl_ len tp fp n set dg mk ck w S F2 A2) hK hM hs hoo h67 hot hA0 hi hn0 hD (by decide) (by decide) (by omega) (by omega) (fun F1 A1 F2 A2 h z1 z2 => ?_) (px_r hX (ev_units hK hX (hR ((i : Int) + 1).toNat))) (fun F1 A1 z1 z2 => pm_c (eq_units q_un) (fun _ _ h => h) (pm_r (MI.mid hY (z1 44 · (by decide)) z2) (mo_units hM (MI.mid hY (z1 44 · (by decide)) z2) (hR ((i : Int) + 1).toNat)))) (fun F2 A2 al2 l5 l6 ke hx hm h0 => kk F2 A2 al2 _ _ l5 l6 ke ?_ h0 (by omega) (by omega))
  · exact XI.lo h z1 z2
  · exact ⟨p, e, r, pl_, len, tp, fp, n, set, dg, mk, ck, w, S, hv, hx, hm⟩
set_option maxRecDepth 20000 in
theorem op_many (hEQ : EQs) {S0 : Nat → Int} {n0 i oo nc ns D mc ms : Nat} {l5 l6 : Option LV} {F : HF} {A : HA} {al : AL} {Post : PO} (hJ : JI F A) (hK : KX al) (hM : KM al) (hs : al.1 0 = (4, n0)) (hoo : al.1 oo = (2, 1)) (h67 : 67 ≤ oo) (hot : oo < al.2) (hA0 : A 0 = S0) (hi : i + 6 ≤ n0) (hn0 : n0 ≤ 3072) (hR : ∀ j, InR (S0 j)) (hD : 60 ≤ D) (hmc : nc + 4 ≤ mc) (hms : ns + 32 ≤ ms)
    (kk : ∀ (F2 : HF) (A2 : HA) (al2 : AL) (nc2 ns2 : Nat) (l5 l6 : Option LV), KE al.2 al al2 → JI F2 A2 → A2 0 = S0 → nc2 ≤ nc + 4 → ns2 ≤ ns + 32 → QW mL_law D mc ms Post nc2 ns2 1899 [some (vA 0), some (vA 1), some (vA 44), some (vA oo), some (vI (i : Nat)), l5, l6] [] F2 A2 al2) :
    QW mL_law D mc ms Post nc ns 1203 [some (vA 0), some (vA 1), some (vA 44), some (vA oo), some (vI (i : Nat)), l5, l6] [] F A al := by
  obtain ⟨p, e, r, pl_, len, tp, fp, n, set, dg, mk, ck, w, S, hv, hX, hY⟩ := id hJ
  obtain ⟨q_rh, q_rm, q_cnt, q_elm, q_of, q_dig, q_wh, q_rts, q_wi, q_un, q_mny, q_cls, q_cod, q_par, q_wgh, q_lgt, q_mnd, q_nr, q_tel⟩ := hEQ p e r hv
  obtain ⟨hcd, hmk, hdn, hbt⟩ := hX.cd
  have hN := hv.N
  refine st_many (R := _) (QX := fun F2 A2 => XJ p e r pl_ len tp fp n set dg mk ck w S F2 A2) (QM := fun F2 A2 => MJ p e r pl_ len tp fp n set dg mk ck w S F2 A2) hK hM hs hoo h67 hot hA0 hi hn0 hD (by decide) (by decide) (by omega) (by omega) (fun F1 A1 F2 A2 h z1 z2 => ?_) (px_r hX (ev_many hK hX (hR ((i : Int) + 1).toNat) (hR ((i : Int) + 2).toNat))) (fun F1 A1 z1 z2 => pm_c (eq_many q_mny) (fun _ _ h => h) (pm_r (MI.mid hY (z1 44 · (by decide)) z2) (mo_many hM (MI.mid hY (z1 44 · (by decide)) z2) (hR ((i : Int) + 1).toNat) (hR ((i : Int) + 2).toNat)))) (fun F2 A2 al2 l5 l6 ke hx hm h0 => kk F2 A2 al2 _ _ l5 l6 ke ?_ h0 (by omega) (by omega))
  · exact XI.lo h z1 z2
  · exact ⟨p, e, r, pl_, len, tp, fp, n, set, dg, mk, ck, w, S, hv, hx, hm⟩
set_option maxRecDepth 20000 in
theorem op_classes (hEQ : EQs) {S0 : Nat → Int} {n0 i oo nc ns D mc ms : Nat} {l5 l6 : Option LV} {F : HF} {A : HA} {al : AL} {Post : PO} (hJ : JI F A) (hK : KX al) (hM : KM al) (hs : al.1 0 = (4, n0)) (hoo : al.1 oo = (2, 1)) (h67 : 67 ≤ oo) (hot : oo < al.2) (hA0 : A 0 = S0) (hi : i + 6 ≤ n0) (hn0 : n0 ≤ 3072) (hR : ∀ j, InR (S0 j)) (hD : 60 ≤ D) (hmc : nc + 4 ≤ mc) (hms : ns + 32 ≤ ms)
    (kk : ∀ (F2 : HF) (A2 : HA) (al2 : AL) (nc2 ns2 : Nat) (l5 l6 : Option LV), KE al.2 al al2 → JI F2 A2 → A2 0 = S0 → nc2 ≤ nc + 4 → ns2 ≤ ns + 32 → QW mL_law D mc ms Post nc2 ns2 1899 [some (vA 0), some (vA 1), some (vA 44), some (vA oo), some (vI (i : Nat)), l5, l6] [] F2 A2 al2) :
    QW mL_law D mc ms Post nc ns 1271 [some (vA 0), some (vA 1), some (vA 44), some (vA oo), some (vI (i : Nat)), l5, l6] [] F A al := by
  obtain ⟨p, e, r, pl_, len, tp, fp, n, set, dg, mk, ck, w, S, hv, hX, hY⟩ := id hJ
  obtain ⟨q_rh, q_rm, q_cnt, q_elm, q_of, q_dig, q_wh, q_rts, q_wi, q_un, q_mny, q_cls, q_cod, q_par, q_wgh, q_lgt, q_mnd, q_nr, q_tel⟩ := hEQ p e r hv
  obtain ⟨hcd, hmk, hdn, hbt⟩ := hX.cd
  have hN := hv.N
  refine st_classes (R := _) (QX := fun F2 A2 => XJ p e r pl_ len tp fp n set dg mk ck w S F2 A2) (QM := fun F2 A2 => MJ p e r pl_ len tp fp n set dg mk ck w S F2 A2) hK hM hs hoo h67 hot hA0 hi hn0 hD (by decide) (by decide) (by omega) (by omega) (fun F1 A1 F2 A2 h z1 z2 => ?_) (ev_classes hK hX (hR ((i : Int) + 1).toNat) (hR ((i : Int) + 2).toNat) (hR ((i : Int) + 3).toNat)) (fun F1 A1 z1 z2 => pm_c (eq_classes hv q_cls) (fun _ _ h => h) (pm_r (MI.mid hY (z1 44 · (by decide)) z2) (mo_classes hM (MI.mid hY (z1 44 · (by decide)) z2) (hR ((i : Int) + 1).toNat) (hR ((i : Int) + 2).toNat) (hR ((i : Int) + 3).toNat)))) (fun F2 A2 al2 l5 l6 ke hx hm h0 => kk F2 A2 al2 _ _ l5 l6 ke ?_ h0 (by omega) (by omega))
  · exact XI.lo h z1 z2
  · exact ⟨p, e, r, pl_, len, tp, fp, n, set, dg, mk, ck, w, S, hv, hx, hm⟩
set_option maxRecDepth 20000 in
theorem op_coefficient (hEQ : EQs) {S0 : Nat → Int} {n0 i oo nc ns D mc ms : Nat} {l5 l6 : Option LV} {F : HF} {A : HA} {al : AL} {Post : PO} (hJ : JI F A) (hK : KX al) (hM : KM al) (hs : al.1 0 = (4, n0)) (hoo : al.1 oo = (2, 1)) (h67 : 67 ≤ oo) (hot : oo < al.2) (hA0 : A 0 = S0) (hi : i + 6 ≤ n0) (hn0 : n0 ≤ 3072) (hR : ∀ j, InR (S0 j)) (hD : 60 ≤ D) (hmc : nc + 4 ≤ mc) (hms : ns + 32 ≤ ms)
    (kk : ∀ (F2 : HF) (A2 : HA) (al2 : AL) (nc2 ns2 : Nat) (l5 l6 : Option LV), KE al.2 al al2 → JI F2 A2 → A2 0 = S0 → nc2 ≤ nc + 4 → ns2 ≤ ns + 32 → QW mL_law D mc ms Post nc2 ns2 1899 [some (vA 0), some (vA 1), some (vA 44), some (vA oo), some (vI (i : Nat)), l5, l6] [] F2 A2 al2) :
    QW mL_law D mc ms Post nc ns 1388 [some (vA 0), some (vA 1), some (vA 44), some (vA oo), some (vI (i : Nat)), l5, l6] [] F A al := by
  obtain ⟨p, e, r, pl_, len, tp, fp, n, set, dg, mk, ck, w, S, hv, hX, hY⟩ := id hJ
  obtain ⟨q_rh, q_rm, q_cnt, q_elm, q_of, q_dig, q_wh, q_rts, q_wi, q_un, q_mny, q_cls, q_cod, q_par, q_wgh, q_lgt, q_mnd, q_nr, q_tel⟩ := hEQ p e r hv
  obtain ⟨hcd, hmk, hdn, hbt⟩ := hX.cd
  have hN := hv.N
  refine st_coefficient (R := _) (QX := fun F2 A2 => XJ p e r pl_ len tp fp n set dg mk ck w S F2 A2) (QM := fun F2 A2 => MJ p e r pl_ len tp fp n set dg mk ck w S F2 A2) hK hM hs hoo h67 hot hA0 hi hn0 hD (by decide) (by decide) (by omega) (by omega) (fun F1 A1 F2 A2 h z1 z2 => ?_) (px_r hX (ev_coefficient hK hX (hR ((i : Int) + 1).toNat) (hR ((i : Int) + 2).toNat))) (fun F1 A1 z1 z2 => pm_c (eq_coef hdn) (fun _ _ h => h) (pm_r (MI.mid hY (z1 44 · (by decide)) z2) (mo_coefficient hM (MI.mid hY (z1 44 · (by decide)) z2) (hR ((i : Int) + 1).toNat) (hR ((i : Int) + 2).toNat)))) (fun F2 A2 al2 l5 l6 ke hx hm h0 => kk F2 A2 al2 _ _ l5 l6 ke ?_ h0 (by omega) (by omega))
  · exact XI.lo h z1 z2
  · exact ⟨p, e, r, pl_, len, tp, fp, n, set, dg, mk, ck, w, S, hv, hx, hm⟩
set_option maxRecDepth 20000 in
theorem op_number (hEQ : EQs) {S0 : Nat → Int} {n0 i oo nc ns D mc ms : Nat} {l5 l6 : Option LV} {F : HF} {A : HA} {al : AL} {Post : PO} (hJ : JI F A) (hK : KX al) (hM : KM al) (hs : al.1 0 = (4, n0)) (hoo : al.1 oo = (2, 1)) (h67 : 67 ≤ oo) (hot : oo < al.2) (hA0 : A 0 = S0) (hi : i + 6 ≤ n0) (hn0 : n0 ≤ 3072) (hR : ∀ j, InR (S0 j)) (hD : 60 ≤ D) (hmc : nc + 4 ≤ mc) (hms : ns + 32 ≤ ms)
    (kk : ∀ (F2 : HF) (A2 : HA) (al2 : AL) (nc2 ns2 : Nat) (l5 l6 : Option LV), KE al.2 al al2 → JI F2 A2 → A2 0 = S0 → nc2 ≤ nc + 4 → ns2 ≤ ns + 32 → QW mL_law D mc ms Post nc2 ns2 1899 [some (vA 0), some (vA 1), some (vA 44), some (vA oo), some (vI (i : Nat)), l5, l6] [] F2 A2 al2) :
    QW mL_law D mc ms Post nc ns 1594 [some (vA 0), some (vA 1), some (vA 44), some (vA oo), some (vI (i : Nat)), l5, l6] [] F A al := by
  obtain ⟨p, e, r, pl_, len, tp, fp, n, set, dg, mk, ck, w, S, hv, hX, hY⟩ := id hJ
  obtain ⟨q_rh, q_rm, q_cnt, q_elm, q_of, q_dig, q_wh, q_rts, q_wi, q_un, q_mny, q_cls, q_cod, q_par, q_wgh, q_lgt, q_mnd, q_nr, q_tel⟩ := hEQ p e r hv
  obtain ⟨hcd, hmk, hdn, hbt⟩ := hX.cd
  have hN := hv.N
  refine st_number (R := _) (QX := fun F2 A2 => XJ p e r pl_ len tp fp n set dg mk ck w S F2 A2) (QM := fun F2 A2 => MJ p e r pl_ len tp fp n set dg mk ck w S F2 A2) hK hM hs hoo h67 hot hA0 hi hn0 hD (by decide) (by decide) (by omega) (by omega) (fun F1 A1 F2 A2 h z1 z2 => ?_) (px_r hX (ev_number hK hX (hR ((i : Int) + 1).toNat))) (fun F1 A1 z1 z2 => pm_c (eq_num) (fun _ _ h => h) (pm_r (MI.mid hY (z1 44 · (by decide)) z2) (mo_number hM (MI.mid hY (z1 44 · (by decide)) z2) (hR ((i : Int) + 1).toNat)))) (fun F2 A2 al2 l5 l6 ke hx hm h0 => kk F2 A2 al2 _ _ l5 l6 ke ?_ h0 (by omega) (by omega))
  · exact XI.lo h z1 z2
  · exact ⟨p, e, r, pl_, len, tp, fp, n, set, dg, mk, ck, w, S, hv, hx, hm⟩
set_option maxRecDepth 20000 in
theorem op_rest (hEQ : EQs) {S0 : Nat → Int} {n0 i oo nc ns D mc ms : Nat} {l5 l6 : Option LV} {F : HF} {A : HA} {al : AL} {Post : PO} (hJ : JI F A) (hK : KX al) (hM : KM al) (hs : al.1 0 = (4, n0)) (hoo : al.1 oo = (2, 1)) (h67 : 67 ≤ oo) (hot : oo < al.2) (hA0 : A 0 = S0) (hi : i + 6 ≤ n0) (hn0 : n0 ≤ 3072) (hR : ∀ j, InR (S0 j)) (hD : 60 ≤ D) (hmc : nc + 4 ≤ mc) (hms : ns + 32 ≤ ms)
    (kk : ∀ (F2 : HF) (A2 : HA) (al2 : AL) (nc2 ns2 : Nat) (l5 l6 : Option LV), KE al.2 al al2 → JI F2 A2 → A2 0 = S0 → nc2 ≤ nc + 4 → ns2 ≤ ns + 32 → QW mL_law D mc ms Post nc2 ns2 1899 [some (vA 0), some (vA 1), some (vA 44), some (vA oo), some (vI (i : Nat)), l5, l6] [] F2 A2 al2) :
    QW mL_law D mc ms Post nc ns 1650 [some (vA 0), some (vA 1), some (vA 44), some (vA oo), some (vI (i : Nat)), l5, l6] [] F A al := by
  obtain ⟨p, e, r, pl_, len, tp, fp, n, set, dg, mk, ck, w, S, hv, hX, hY⟩ := id hJ
  obtain ⟨q_rh, q_rm, q_cnt, q_elm, q_of, q_dig, q_wh, q_rts, q_wi, q_un, q_mny, q_cls, q_cod, q_par, q_wgh, q_lgt, q_mnd, q_nr, q_tel⟩ := hEQ p e r hv
  obtain ⟨hcd, hmk, hdn, hbt⟩ := hX.cd
  have hN := hv.N
  refine st_rest (R := _) (QX := fun F2 A2 => XJ p e r pl_ len tp fp n set dg mk ck w S F2 A2) (QM := fun F2 A2 => MJ p e r pl_ len tp fp n set dg mk ck w S F2 A2) hK hM hs hoo h67 hot hA0 hi hn0 hD (by decide) (by decide) (by omega) (by omega) (fun F1 A1 F2 A2 h z1 z2 => ?_) (px_r hX (ev_rest hK hX (hR ((i : Int) + 1).toNat))) (fun F1 A1 z1 z2 => pm_c (eq_rest) (fun _ _ h => h) (pm_r (MI.mid hY (z1 44 · (by decide)) z2) (mo_rest hM (MI.mid hY (z1 44 · (by decide)) z2) hmk (hR ((i : Int) + 1).toNat)))) (fun F2 A2 al2 l5 l6 ke hx hm h0 => kk F2 A2 al2 _ _ l5 l6 ke ?_ h0 (by omega) (by omega))
  · exact XI.lo h z1 z2
  · exact ⟨p, e, r, pl_, len, tp, fp, n, set, dg, mk, ck, w, S, hv, hx, hm⟩
set_option maxRecDepth 20000 in
theorem op_mend (hEQ : EQs) {S0 : Nat → Int} {n0 i oo nc ns D mc ms : Nat} {l5 l6 : Option LV} {F : HF} {A : HA} {al : AL} {Post : PO} (hJ : JI F A) (hK : KX al) (hM : KM al) (hs : al.1 0 = (4, n0)) (hoo : al.1 oo = (2, 1)) (h67 : 67 ≤ oo) (hot : oo < al.2) (hA0 : A 0 = S0) (hi : i + 6 ≤ n0) (hn0 : n0 ≤ 3072) (hR : ∀ j, InR (S0 j)) (hD : 60 ≤ D) (hmc : nc + 4 ≤ mc) (hms : ns + 32 ≤ ms)
    (kk : ∀ (F2 : HF) (A2 : HA) (al2 : AL) (nc2 ns2 : Nat) (l5 l6 : Option LV), KE al.2 al al2 → JI F2 A2 → A2 0 = S0 → nc2 ≤ nc + 4 → ns2 ≤ ns + 32 → QW mL_law D mc ms Post nc2 ns2 1899 [some (vA 0), some (vA 1), some (vA 44), some (vA oo), some (vI (i : Nat)), l5, l6] [] F2 A2 al2) :
    QW mL_law D mc ms Post nc ns 1706 [some (vA 0), some (vA 1), some (vA 44), some (vA oo), some (vI (i : Nat)), l5, l6] [] F A al := by
  obtain ⟨p, e, r, pl_, len, tp, fp, n, set, dg, mk, ck, w, S, hv, hX, hY⟩ := id hJ
  obtain ⟨q_rh, q_rm, q_cnt, q_elm, q_of, q_dig, q_wh, q_rts, q_wi, q_un, q_mny, q_cls, q_cod, q_par, q_wgh, q_lgt, q_mnd, q_nr, q_tel⟩ := hEQ p e r hv
  obtain ⟨hcd, hmk, hdn, hbt⟩ := hX.cd
  have hN := hv.N
  refine st_mend (R := _) (QX := fun F2 A2 => XJ p e r pl_ len tp fp n set dg mk ck w S F2 A2) (QM := fun F2 A2 => MJ p e r pl_ len tp fp n set dg mk ck w S F2 A2) hK hM hs hoo h67 hot hA0 hi hn0 hD (by decide) (by decide) (by omega) (by omega) (fun F1 A1 F2 A2 h z1 z2 => ?_) (px_r hX (ev_mend hK hX (hR ((i : Int) + 1).toNat))) (fun F1 A1 z1 z2 => pm_c (eq_mend (fun bt hw => q_mnd n set dg mk ck hcd bt (hbt bt hw))) (fun _ _ h => h) (pm_r (MI.mid hY (z1 44 · (by decide)) z2) (mo_mend hM (MI.mid hY (z1 44 · (by decide)) z2) hmk (hR ((i : Int) + 1).toNat)))) (fun F2 A2 al2 l5 l6 ke hx hm h0 => kk F2 A2 al2 _ _ l5 l6 ke ?_ h0 (by omega) (by omega))
  · exact XI.lo h z1 z2
  · exact ⟨p, e, r, pl_, len, tp, fp, n, set, dg, mk, ck, w, S, hv, hx, hm⟩
set_option maxRecDepth 20000 in
theorem op_nearest (hEQ : EQs) {S0 : Nat → Int} {n0 i oo nc ns D mc ms : Nat} {l5 l6 : Option LV} {F : HF} {A : HA} {al : AL} {Post : PO} (hJ : JI F A) (hK : KX al) (hM : KM al) (hs : al.1 0 = (4, n0)) (hoo : al.1 oo = (2, 1)) (h67 : 67 ≤ oo) (hot : oo < al.2) (hA0 : A 0 = S0) (hi : i + 6 ≤ n0) (hn0 : n0 ≤ 3072) (hR : ∀ j, InR (S0 j)) (hD : 60 ≤ D) (hmc : nc + 4 ≤ mc) (hms : ns + 32 ≤ ms)
    (kk : ∀ (F2 : HF) (A2 : HA) (al2 : AL) (nc2 ns2 : Nat) (l5 l6 : Option LV), KE al.2 al al2 → JI F2 A2 → A2 0 = S0 → nc2 ≤ nc + 4 → ns2 ≤ ns + 32 → QW mL_law D mc ms Post nc2 ns2 1899 [some (vA 0), some (vA 1), some (vA 44), some (vA oo), some (vI (i : Nat)), l5, l6] [] F2 A2 al2) :
    QW mL_law D mc ms Post nc ns 1762 [some (vA 0), some (vA 1), some (vA 44), some (vA oo), some (vI (i : Nat)), l5, l6] [] F A al := by
  obtain ⟨p, e, r, pl_, len, tp, fp, n, set, dg, mk, ck, w, S, hv, hX, hY⟩ := id hJ
  obtain ⟨q_rh, q_rm, q_cnt, q_elm, q_of, q_dig, q_wh, q_rts, q_wi, q_un, q_mny, q_cls, q_cod, q_par, q_wgh, q_lgt, q_mnd, q_nr, q_tel⟩ := hEQ p e r hv
  obtain ⟨hcd, hmk, hdn, hbt⟩ := hX.cd
  have hN := hv.N
  refine st_nearest (R := _) (QX := fun F2 A2 => XJ p e r pl_ len tp fp n set dg mk ck w S F2 A2) (QM := fun F2 A2 => MJ p e r pl_ len tp fp n set dg mk ck w S F2 A2) hK hM hs hoo h67 hot hA0 hi hn0 hD (by decide) (by decide) (by omega) (by omega) (fun F1 A1 F2 A2 h z1 z2 => ?_) (ev_nearest hK hX (hR ((i : Int) + 1).toNat)) (fun F1 A1 z1 z2 => pm_c (eq_near (fun hs bt hw => q_nr n set dg mk ck hcd hs bt (hbt bt hw)) (Int.pow_pos (by obtain ⟨⟨q1, -⟩, -⟩ := id hv; omega))) (fun _ _ h => h) (pm_r (MI.mid hY (z1 44 · (by decide)) z2) (mo_nearest hM (MI.mid hY (z1 44 · (by decide)) z2) hmk (hR ((i : Int) + 1).toNat)))) (fun F2 A2 al2 l5 l6 ke hx hm h0 => kk F2 A2 al2 _ _ l5 l6 ke ?_ h0 (by omega) (by omega))
  · exact XI.lo h z1 z2
  · exact ⟨p, e, r, pl_, len, tp, fp, n, set, dg, mk, ck, w, S, hv, hx, hm⟩
set_option maxRecDepth 20000 in
theorem op_word (hEQ : EQs) {S0 : Nat → Int} {n0 i oo nc ns D mc ms : Nat} {l5 l6 : Option LV} {F : HF} {A : HA} {al : AL} {Post : PO} (hJ : JI F A) (hK : KX al) (hM : KM al) (hs : al.1 0 = (4, n0)) (hoo : al.1 oo = (2, 1)) (h67 : 67 ≤ oo) (hot : oo < al.2) (hA0 : A 0 = S0) (hi : i + 6 ≤ n0) (hn0 : n0 ≤ 3072) (hR : ∀ j, InR (S0 j)) (hD : 60 ≤ D) (hmc : nc + 4 ≤ mc) (hms : ns + 32 ≤ ms)
    (kk : ∀ (F2 : HF) (A2 : HA) (al2 : AL) (nc2 ns2 : Nat) (l5 l6 : Option LV), KE al.2 al al2 → JI F2 A2 → A2 0 = S0 → nc2 ≤ nc + 4 → ns2 ≤ ns + 32 → QW mL_law D mc ms Post nc2 ns2 1899 [some (vA 0), some (vA 1), some (vA 44), some (vA oo), some (vI (i : Nat)), l5, l6] [] F2 A2 al2) :
    QW mL_law D mc ms Post nc ns 1550 [some (vA 0), some (vA 1), some (vA 44), some (vA oo), some (vI (i : Nat)), l5, l6] [] F A al := by
  obtain ⟨p, e, r, pl_, len, tp, fp, n, set, dg, mk, ck, w, S, hv, hX, hY⟩ := id hJ
  obtain ⟨q_rh, q_rm, q_cnt, q_elm, q_of, q_dig, q_wh, q_rts, q_wi, q_un, q_mny, q_cls, q_cod, q_par, q_wgh, q_lgt, q_mnd, q_nr, q_tel⟩ := hEQ p e r hv
  obtain ⟨hcd, hmk, hdn, hbt⟩ := hX.cd
  have hN := hv.N
  refine st_word (R := wrE ((p : Int) ^ e) n dg len mk tp) (QX := fun F2 A2 => if len < n then XJ p e r pl_ len tp fp n set dg mk ck w S F2 A2 else if wdOk ((p : Int) ^ e) n tp then XJ p e r pl_ 0 tp fp n set dg mk ck (some tp) S F2 A2 else XJ p e r pl_ 0 tp fp n set dg mk ck w S F2 A2) (QM := fun F2 A2 => if len < n then MJ p e r pl_ len tp fp n set dg mk ck w S F2 A2 else if wdOk ((p : Int) ^ e) n tp then MJ p e r pl_ 0 tp fp n set dg mk ck (some tp) S F2 A2 else MJ p e r pl_ 0 tp fp n set dg mk ck w S F2 A2) hK hM hs hoo h67 hot hA0 hi hn0 hD (by decide) (by decide) (by omega) (by omega) (fun F1 A1 F2 A2 h z1 z2 => ?_) (ev_word hK hX) (fun F1 A1 z1 z2 => mo_word hM (MI.mid hY (z1 44 · (by decide)) z2) hmk) (fun F2 A2 al2 l5 l6 ke hx hm h0 => kk F2 A2 al2 _ _ l5 l6 ke ?_ h0 (by omega) (by omega))
  · by_cases c1 : len < n
    · rw [if_pos c1] at h ⊢; exact XI.lo h z1 z2
    · rw [if_neg c1] at h ⊢
      by_cases c2 : wdOk ((p : Int) ^ e) n tp
      · rw [if_pos c2] at h ⊢; exact XI.lo h z1 z2
      · rw [if_neg c2] at h ⊢; exact XI.lo h z1 z2
  · by_cases c1 : len < n
    · rw [if_pos c1] at hx hm; exact ⟨p, e, r, _, _, _, _, _, _, _, _, _, _, _, hv, hx, hm⟩
    · rw [if_neg c1] at hx hm
      by_cases c2 : wdOk ((p : Int) ^ e) n tp
      · rw [if_pos c2] at hx hm; exact ⟨p, e, r, _, _, _, _, _, _, _, _, _, _, _, hv, hx, hm⟩
      · rw [if_neg c2] at hx hm; exact ⟨p, e, r, _, _, _, _, _, _, _, _, _, _, _, hv, hx, hm⟩
set_option maxRecDepth 20000 in
theorem op_put (hEQ : EQs) {S0 : Nat → Int} {n0 i oo nc ns D mc ms : Nat} {l5 l6 : Option LV} {F : HF} {A : HA} {al : AL} {Post : PO} (hJ : JI F A) (hK : KX al) (hM : KM al) (hs : al.1 0 = (4, n0)) (hoo : al.1 oo = (2, 1)) (h67 : 67 ≤ oo) (hot : oo < al.2) (hA0 : A 0 = S0) (hi : i + 6 ≤ n0) (hn0 : n0 ≤ 3072) (hR : ∀ j, InR (S0 j)) (hD : 60 ≤ D) (hmc : nc + 4 ≤ mc) (hms : ns + 32 ≤ ms)
    (kk : ∀ (F2 : HF) (A2 : HA) (al2 : AL) (nc2 ns2 : Nat) (l5 l6 : Option LV), KE al.2 al al2 → JI F2 A2 → A2 0 = S0 → nc2 ≤ nc + 4 → ns2 ≤ ns + 32 → QW mL_law D mc ms Post nc2 ns2 1899 [some (vA 0), some (vA 1), some (vA 44), some (vA oo), some (vI (i : Nat)), l5, l6] [] F2 A2 al2) :
    QW mL_law D mc ms Post nc ns 375 [some (vA 0), some (vA 1), some (vA 44), some (vA oo), some (vI (i : Nat)), l5, l6] [] F A al := by
  obtain ⟨p, e, r, pl_, len, tp, fp, n, set, dg, mk, ck, w, S, hv, hX, hY⟩ := id hJ
  obtain ⟨q_rh, q_rm, q_cnt, q_elm, q_of, q_dig, q_wh, q_rts, q_wi, q_un, q_mny, q_cls, q_cod, q_par, q_wgh, q_lgt, q_mnd, q_nr, q_tel⟩ := hEQ p e r hv
  obtain ⟨hcd, hmk, hdn, hbt⟩ := hX.cd
  have hN := hv.N
  have hC : ((0 ≤ (S0 ((i : Int) + 1).toNat) ∧ (S0 ((i : Int) + 1).toNat) ≤ 7) ∧ 0 ≤ (S0 ((i : Int) + 2).toNat) ∧ (S0 ((i : Int) + 2).toNat) ≤ ((p ^ (e * r) : Nat) : Int) - 1) = ((0 ≤ (S0 ((i : Int) + 1).toNat) ∧ (S0 ((i : Int) + 1).toNat) < 8) ∧ 0 ≤ (S0 ((i : Int) + 2).toNat) ∧ (S0 ((i : Int) + 2).toNat) < ((p ^ (e * r) : Nat) : Int)) := propext ⟨fun h => ⟨⟨h.1.1, by omega⟩, h.2.1, by omega⟩, fun h => ⟨⟨h.1.1, by omega⟩, h.2.1, by omega⟩⟩
  refine st_put (R := _) (QX := fun F2 A2 => XJ p e r (if (0 ≤ (S0 ((i : Int) + 1).toNat) ∧ (S0 ((i : Int) + 1).toNat) < 8) ∧ 0 ≤ (S0 ((i : Int) + 2).toNat) ∧ (S0 ((i : Int) + 2).toNat) < ((p ^ (e * r) : Nat) : Int) then upc pl_ (S0 ((i : Int) + 1).toNat).toNat (S0 ((i : Int) + 2).toNat) else pl_) len tp fp n set dg mk ck w S F2 A2) (QM := fun F2 A2 => MJ p e r (if (0 ≤ (S0 ((i : Int) + 1).toNat) ∧ (S0 ((i : Int) + 1).toNat) < 8) ∧ 0 ≤ (S0 ((i : Int) + 2).toNat) ∧ (S0 ((i : Int) + 2).toNat) < ((p ^ (e * r) : Nat) : Int) then upc pl_ (S0 ((i : Int) + 1).toNat).toNat (S0 ((i : Int) + 2).toNat) else pl_) len tp fp n set dg mk ck w S F2 A2) hK hM hs hoo h67 hot hA0 hi hn0 hD (by decide) (by decide) (by omega) (by omega) (fun F1 A1 F2 A2 h z1 z2 => ?_) (ev_put hK hX (hR ((i : Int) + 1).toNat) (hR ((i : Int) + 2).toNat)) (fun F1 A1 z1 z2 => pm_c (by simp only [hC]) (fun F2 A2 h => by simp only [hC] at h; exact h) (mo_put hM (MI.mid hY (z1 44 · (by decide)) z2) (hR ((i : Int) + 1).toNat) (hR ((i : Int) + 2).toNat))) (fun F2 A2 al2 l5 l6 ke hx hm h0 => kk F2 A2 al2 _ _ l5 l6 ke ?_ h0 (by omega) (by omega))
  · exact XI.lo h z1 z2
  · exact ⟨p, e, r, _, len, tp, fp, n, set, dg, mk, ck, w, S, hv, hx, hm⟩
set_option maxRecDepth 20000 in
theorem op_say (hEQ : EQs) {S0 : Nat → Int} {n0 i oo nc ns D mc ms : Nat} {l5 l6 : Option LV} {F : HF} {A : HA} {al : AL} {Post : PO} (hJ : JI F A) (hK : KX al) (hM : KM al) (hs : al.1 0 = (4, n0)) (hoo : al.1 oo = (2, 1)) (h67 : 67 ≤ oo) (hot : oo < al.2) (hA0 : A 0 = S0) (hi : i + 6 ≤ n0) (hn0 : n0 ≤ 3072) (hR : ∀ j, InR (S0 j)) (hD : 60 ≤ D) (hmc : nc + 4 ≤ mc) (hms : ns + 32 ≤ ms)
    (kk : ∀ (F2 : HF) (A2 : HA) (al2 : AL) (nc2 ns2 : Nat) (l5 l6 : Option LV), KE al.2 al al2 → JI F2 A2 → A2 0 = S0 → nc2 ≤ nc + 4 → ns2 ≤ ns + 32 → QW mL_law D mc ms Post nc2 ns2 1899 [some (vA 0), some (vA 1), some (vA 44), some (vA oo), some (vI (i : Nat)), l5, l6] [] F2 A2 al2) :
    QW mL_law D mc ms Post nc ns 1818 [some (vA 0), some (vA 1), some (vA 44), some (vA oo), some (vI (i : Nat)), l5, l6] [] F A al := by
  obtain ⟨p, e, r, pl_, len, tp, fp, n, set, dg, mk, ck, w, S, hv, hX, hY⟩ := id hJ
  obtain ⟨q_rh, q_rm, q_cnt, q_elm, q_of, q_dig, q_wh, q_rts, q_wi, q_un, q_mny, q_cls, q_cod, q_par, q_wgh, q_lgt, q_mnd, q_nr, q_tel⟩ := hEQ p e r hv
  obtain ⟨hcd, hmk, hdn, hbt⟩ := hX.cd
  have hN := hv.N
  have hC : (0 ≤ (S0 ((i : Int) + 1).toNat) ∧ (S0 ((i : Int) + 1).toNat) ≤ ((p ^ (e * r) : Nat) : Int) - 1) = (0 ≤ (S0 ((i : Int) + 1).toNat) ∧ (S0 ((i : Int) + 1).toNat) < ((p ^ (e * r) : Nat) : Int)) := propext ⟨fun h => ⟨h.1, by omega⟩, fun h => ⟨h.1, by omega⟩⟩
  refine st_say (R := _) (QX := fun F2 A2 => XJ p e r pl_ len tp fp n set dg mk ck w (if 0 ≤ (S0 ((i : Int) + 1).toNat) ∧ (S0 ((i : Int) + 1).toNat) < ((p ^ (e * r) : Nat) : Int) then sayE ((p : Int) ^ e) (S0 ((i : Int) + 1).toNat) else S) F2 A2) (QM := fun F2 A2 => MJ p e r pl_ len tp fp n set dg mk ck w (if 0 ≤ (S0 ((i : Int) + 1).toNat) ∧ (S0 ((i : Int) + 1).toNat) < ((p ^ (e * r) : Nat) : Int) then sayE ((p : Int) ^ e) (S0 ((i : Int) + 1).toNat) else S) F2 A2) hK hM hs hoo h67 hot hA0 hi hn0 hD (by decide) (by decide) (by omega) (by omega) (fun F1 A1 F2 A2 h z1 z2 => ?_) (ev_saySay hK hX (hR ((i : Int) + 1).toNat)) (fun F1 A1 z1 z2 => pm_c (by simp only [hC]) (fun F2 A2 h => by simp only [hC] at h; exact h) (mo_say hM (MI.mid hY (z1 44 · (by decide)) z2) (hR ((i : Int) + 1).toNat))) (fun F2 A2 al2 l5 l6 ke hx hm h0 => kk F2 A2 al2 _ _ l5 l6 ke ?_ h0 (by omega) (by omega))
  · exact XI.lo h z1 z2
  · exact ⟨p, e, r, pl_, len, tp, fp, n, set, dg, mk, ck, w, _, hv, hx, hm⟩
set_option maxRecDepth 20000 in
theorem op_feed (hEQ : EQs) {S0 : Nat → Int} {n0 i oo nc ns D mc ms : Nat} {l5 l6 : Option LV} {F : HF} {A : HA} {al : AL} {Post : PO} (hJ : JI F A) (hK : KX al) (hM : KM al) (hs : al.1 0 = (4, n0)) (hoo : al.1 oo = (2, 1)) (h67 : 67 ≤ oo) (hot : oo < al.2) (hA0 : A 0 = S0) (hi : i + 6 ≤ n0) (hn0 : n0 ≤ 3072) (hR : ∀ j, InR (S0 j)) (hD : 60 ≤ D) (hmc : nc + 4 ≤ mc) (hms : ns + 32 ≤ ms)
    (kk : ∀ (F2 : HF) (A2 : HA) (al2 : AL) (nc2 ns2 : Nat) (l5 l6 : Option LV), KE al.2 al al2 → JI F2 A2 → A2 0 = S0 → nc2 ≤ nc + 4 → ns2 ≤ ns + 32 → QW mL_law D mc ms Post nc2 ns2 1899 [some (vA 0), some (vA 1), some (vA 44), some (vA oo), some (vI (i : Nat)), l5, l6] [] F2 A2 al2) :
    QW mL_law D mc ms Post nc ns 221 [some (vA 0), some (vA 1), some (vA 44), some (vA oo), some (vI (i : Nat)), l5, l6] [] F A al := by
  obtain ⟨p, e, r, pl_, len, tp, fp, n, set, dg, mk, ck, w, S, hv, hX, hY⟩ := id hJ
  obtain ⟨q_rh, q_rm, q_cnt, q_elm, q_of, q_dig, q_wh, q_rts, q_wi, q_un, q_mny, q_cls, q_cod, q_par, q_wgh, q_lgt, q_mnd, q_nr, q_tel⟩ := hEQ p e r hv
  obtain ⟨hcd, hmk, hdn, hbt⟩ := hX.cd
  have hN := hv.N
  refine st_feed (v0 := _) (QX := fun F2 A2 => XJ p e r pl_ (if len ≤ 180 then len + 20 else len) (if len ≤ 180 then fdE tp len (S0 ((i : Int) + 1).toNat) (S0 ((i : Int) + 2).toNat) (S0 ((i : Int) + 3).toNat) (S0 ((i : Int) + 4).toNat) (S0 ((i : Int) + 5).toNat) else tp) fp n set dg mk ck w S F2 A2) (QM := fun F2 A2 => MJ p e r pl_ (if len ≤ 180 then len + 20 else len) (if len ≤ 180 then fdE tp len (S0 ((i : Int) + 1).toNat) (S0 ((i : Int) + 2).toNat) (S0 ((i : Int) + 3).toNat) (S0 ((i : Int) + 4).toNat) (S0 ((i : Int) + 5).toNat) else tp) fp n set dg mk ck w S F2 A2) hK hM hs hoo h67 hot hA0 hi hn0 hD (by decide) (by decide) (by omega) (by omega) (fun F1 A1 F2 A2 h z1 z2 => ?_) (ev_feed hK hX (hR ((i : Int) + 1).toNat) (hR ((i : Int) + 2).toNat) (hR ((i : Int) + 3).toNat) (hR ((i : Int) + 4).toNat) (hR ((i : Int) + 5).toNat)) (fun F1 A1 z1 z2 => mo_feed hM (MI.mid hY (z1 44 · (by decide)) z2) (hR ((i : Int) + 1).toNat) (hR ((i : Int) + 2).toNat) (hR ((i : Int) + 3).toNat) (hR ((i : Int) + 4).toNat) (hR ((i : Int) + 5).toNat)) (fun F2 A2 al2 l5 l6 ke hx hm h0 => kk F2 A2 al2 _ _ l5 l6 ke ?_ h0 (by omega) (by omega))
  · exact XI.lo h z1 z2
  · exact ⟨p, e, r, pl_, _, _, fp, n, set, dg, mk, ck, w, S, hv, hx, hm⟩
set_option maxRecDepth 20000 in
theorem op_weighing (hEQ : EQs) {S0 : Nat → Int} {n0 i oo nc ns D mc ms : Nat} {l5 l6 : Option LV} {F : HF} {A : HA} {al : AL} {Post : PO} (hJ : JI F A) (hK : KX al) (hM : KM al) (hs : al.1 0 = (4, n0)) (hoo : al.1 oo = (2, 1)) (h67 : 67 ≤ oo) (hot : oo < al.2) (hA0 : A 0 = S0) (hi : i + 6 ≤ n0) (hn0 : n0 ≤ 3072) (hR : ∀ j, InR (S0 j)) (hD : 60 ≤ D) (hmc : nc + 4 ≤ mc) (hms : ns + 32 ≤ ms)
    (kk : ∀ (F2 : HF) (A2 : HA) (al2 : AL) (nc2 ns2 : Nat) (l5 l6 : Option LV), KE al.2 al al2 → JI F2 A2 → A2 0 = S0 → nc2 ≤ nc + 4 → ns2 ≤ ns + 32 → QW mL_law D mc ms Post nc2 ns2 1899 [some (vA 0), some (vA 1), some (vA 44), some (vA oo), some (vI (i : Nat)), l5, l6] [] F2 A2 al2) :
    QW mL_law D mc ms Post nc ns 1456 [some (vA 0), some (vA 1), some (vA 44), some (vA oo), some (vI (i : Nat)), l5, l6] [] F A al := by
  obtain ⟨p, e, r, pl_, len, tp, fp, n, set, dg, mk, ck, w, S, hv, hX, hY⟩ := id hJ
  obtain ⟨q_rh, q_rm, q_cnt, q_elm, q_of, q_dig, q_wh, q_rts, q_wi, q_un, q_mny, q_cls, q_cod, q_par, q_wgh, q_lgt, q_mnd, q_nr, q_tel⟩ := hEQ p e r hv
  obtain ⟨hcd, hmk, hdn, hbt⟩ := hX.cd
  have hN := hv.N
  by_cases hz : (S0 ((i : Int) + 1).toNat) = 0
  · refine st_weighing0 (v0 := _) (QX := fun F2 A2 => XJ p e r pl_ len tp fp n set dg mk ck w S F2 A2) (QM := fun F2 A2 => MJ p e r pl_ len tp fp n set dg mk ck w S F2 A2) hK hM hs hoo h67 hot hA0 hi hn0 hz (hR ((i : Int) + 1).toNat) hD (by decide) (by decide) (by omega) (by omega) (fun F1 A1 F2 A2 h z1 z2 => ?_) (ev_weighing (lee := 0) hK hX ⟨by decide, by decide⟩ (hR ((i : Int) + 2).toNat)) (fun F1 A1 z1 z2 => pm_c (congrArg some (q_wgh n set dg mk ck hcd 0 (S0 ((i : Int) + 2).toNat)).symm) (fun _ _ h => h) (pm_r (MI.mid hY (z1 44 · (by decide)) z2) (mo_weighing (lee := 0) hM (MI.mid hY (z1 44 · (by decide)) z2) hmk ⟨by decide, by decide⟩ (hR ((i : Int) + 2).toNat)))) (fun F2 A2 al2 l5 l6 ke hx hm h0 => kk F2 A2 al2 _ _ l5 l6 ke ?_ h0 (by omega) (by omega))
    · exact XI.lo h z1 z2
    · exact ⟨p, e, r, pl_, len, tp, fp, n, set, dg, mk, ck, w, S, hv, hx, hm⟩
  · refine st_weighing1 (v0 := _) (QX := fun F2 A2 => XJ p e r pl_ len tp fp n set dg mk ck w S F2 A2) (QM := fun F2 A2 => MJ p e r pl_ len tp fp n set dg mk ck w S F2 A2) hK hM hs hoo h67 hot hA0 hi hn0 hz (hR ((i : Int) + 1).toNat) hD (by decide) (by decide) (by omega) (by omega) (fun F1 A1 F2 A2 h z1 z2 => ?_) (ev_weighing (lee := 1) hK hX ⟨by decide, by decide⟩ (hR ((i : Int) + 2).toNat)) (fun F1 A1 z1 z2 => pm_c (congrArg some (q_wgh n set dg mk ck hcd 1 (S0 ((i : Int) + 2).toNat)).symm) (fun _ _ h => h) (pm_r (MI.mid hY (z1 44 · (by decide)) z2) (mo_weighing (lee := 1) hM (MI.mid hY (z1 44 · (by decide)) z2) hmk ⟨by decide, by decide⟩ (hR ((i : Int) + 2).toNat)))) (fun F2 A2 al2 l5 l6 ke hx hm h0 => kk F2 A2 al2 _ _ l5 l6 ke ?_ h0 (by omega) (by omega))
    · exact XI.lo h z1 z2
    · exact ⟨p, e, r, pl_, len, tp, fp, n, set, dg, mk, ck, w, S, hv, hx, hm⟩
set_option maxRecDepth 20000 in
theorem op_lightest (hEQ : EQs) {S0 : Nat → Int} {n0 i oo nc ns D mc ms : Nat} {l5 l6 : Option LV} {F : HF} {A : HA} {al : AL} {Post : PO} (hJ : JI F A) (hK : KX al) (hM : KM al) (hs : al.1 0 = (4, n0)) (hoo : al.1 oo = (2, 1)) (h67 : 67 ≤ oo) (hot : oo < al.2) (hA0 : A 0 = S0) (hi : i + 6 ≤ n0) (hn0 : n0 ≤ 3072) (hR : ∀ j, InR (S0 j)) (hD : 60 ≤ D) (hmc : nc + 4 ≤ mc) (hms : ns + 32 ≤ ms)
    (kk : ∀ (F2 : HF) (A2 : HA) (al2 : AL) (nc2 ns2 : Nat) (l5 l6 : Option LV), KE al.2 al al2 → JI F2 A2 → A2 0 = S0 → nc2 ≤ nc + 4 → ns2 ≤ ns + 32 → QW mL_law D mc ms Post nc2 ns2 1899 [some (vA 0), some (vA 1), some (vA 44), some (vA oo), some (vI (i : Nat)), l5, l6] [] F2 A2 al2) :
    QW mL_law D mc ms Post nc ns 1509 [some (vA 0), some (vA 1), some (vA 44), some (vA oo), some (vI (i : Nat)), l5, l6] [] F A al := by
  obtain ⟨p, e, r, pl_, len, tp, fp, n, set, dg, mk, ck, w, S, hv, hX, hY⟩ := id hJ
  obtain ⟨q_rh, q_rm, q_cnt, q_elm, q_of, q_dig, q_wh, q_rts, q_wi, q_un, q_mny, q_cls, q_cod, q_par, q_wgh, q_lgt, q_mnd, q_nr, q_tel⟩ := hEQ p e r hv
  obtain ⟨hcd, hmk, hdn, hbt⟩ := hX.cd
  have hN := hv.N
  by_cases hz : (S0 ((i : Int) + 1).toNat) = 0
  · refine st_lightest0 (v0 := _) (QX := fun F2 A2 => XJ p e r pl_ len tp fp n set dg mk ck w S F2 A2) (QM := fun F2 A2 => MJ p e r pl_ len tp fp n set dg mk ck w S F2 A2) hK hM hs hoo h67 hot hA0 hi hn0 hz (hR ((i : Int) + 1).toNat) hD (by decide) (by decide) (by omega) (by omega) (fun F1 A1 F2 A2 h z1 z2 => ?_) (ev_lightest (lee := 0) hK hX ⟨by decide, by decide⟩) (fun F1 A1 z1 z2 => pm_c (congrArg some (q_lgt n set dg mk ck hcd 0).symm) (fun _ _ h => h) (pm_r (MI.mid hY (z1 44 · (by decide)) z2) (mo_lightest (lee := 0) hM (MI.mid hY (z1 44 · (by decide)) z2) hmk ⟨by decide, by decide⟩))) (fun F2 A2 al2 l5 l6 ke hx hm h0 => kk F2 A2 al2 _ _ l5 l6 ke ?_ h0 (by omega) (by omega))
    · exact XI.lo h z1 z2
    · exact ⟨p, e, r, pl_, len, tp, fp, n, set, dg, mk, ck, w, S, hv, hx, hm⟩
  · refine st_lightest1 (v0 := _) (QX := fun F2 A2 => XJ p e r pl_ len tp fp n set dg mk ck w S F2 A2) (QM := fun F2 A2 => MJ p e r pl_ len tp fp n set dg mk ck w S F2 A2) hK hM hs hoo h67 hot hA0 hi hn0 hz (hR ((i : Int) + 1).toNat) hD (by decide) (by decide) (by omega) (by omega) (fun F1 A1 F2 A2 h z1 z2 => ?_) (ev_lightest (lee := 1) hK hX ⟨by decide, by decide⟩) (fun F1 A1 z1 z2 => pm_c (congrArg some (q_lgt n set dg mk ck hcd 1).symm) (fun _ _ h => h) (pm_r (MI.mid hY (z1 44 · (by decide)) z2) (mo_lightest (lee := 1) hM (MI.mid hY (z1 44 · (by decide)) z2) hmk ⟨by decide, by decide⟩))) (fun F2 A2 al2 l5 l6 ke hx hm h0 => kk F2 A2 al2 _ _ l5 l6 ke ?_ h0 (by omega) (by omega))
    · exact XI.lo h z1 z2
    · exact ⟨p, e, r, pl_, len, tp, fp, n, set, dg, mk, ck, w, S, hv, hx, hm⟩
set_option maxRecDepth 20000 in
theorem op_ring (hEQ : EQs) {S0 : Nat → Int} {n0 i oo nc ns D mc ms : Nat} {l5 l6 : Option LV} {F : HF} {A : HA} {al : AL} {Post : PO} (hJ : JI F A) (hK : KX al) (hM : KM al) (hs : al.1 0 = (4, n0)) (hoo : al.1 oo = (2, 1)) (h67 : 67 ≤ oo) (hot : oo < al.2) (hA0 : A 0 = S0) (hi : i + 6 ≤ n0) (hn0 : n0 ≤ 3072) (hR : ∀ j, InR (S0 j)) (hD : 60 ≤ D) (hmc : nc + 4 ≤ mc) (hms : ns + 32 ≤ ms)
    (kk : ∀ (F2 : HF) (A2 : HA) (al2 : AL) (nc2 ns2 : Nat) (l5 l6 : Option LV), KE al.2 al al2 → JI F2 A2 → A2 0 = S0 → nc2 ≤ nc + 4 → ns2 ≤ ns + 32 → QW mL_law D mc ms Post nc2 ns2 1899 [some (vA 0), some (vA 1), some (vA 44), some (vA oo), some (vI (i : Nat)), l5, l6] [] F2 A2 al2) :
    QW mL_law D mc ms Post nc ns 172 [some (vA 0), some (vA 1), some (vA 44), some (vA oo), some (vI (i : Nat)), l5, l6] [] F A al := by
  obtain ⟨p, e, r, pl_, len, tp, fp, n, set, dg, mk, ck, w, S, hv, hX, hY⟩ := id hJ
  obtain ⟨q_rh, q_rm, q_cnt, q_elm, q_of, q_dig, q_wh, q_rts, q_wi, q_un, q_mny, q_cls, q_cod, q_par, q_wgh, q_lgt, q_mnd, q_nr, q_tel⟩ := hEQ p e r hv
  obtain ⟨hcd, hmk, hdn, hbt⟩ := hX.cd
  have hN := hv.N
  rcases exE_01 (S0 ((i : Int) + 1).toNat) (S0 ((i : Int) + 2).toNat) (S0 ((i : Int) + 3).toNat) with h0 | h0
  · refine st_ring (v0 := (-1)) (QX := fun F2 A2 => XJ p e r pl_ len tp fp n set dg mk ck w S F2 A2) (QM := fun F2 A2 => MJ p e r pl_ len tp fp n set dg mk ck w S F2 A2) hK hM hs hoo h67 hot hA0 hi hn0 hD (by decide) (by decide) (by omega) (by omega) (fun F1 A1 F2 A2 h z1 z2 => ?_) (ev_ringNo hK hX (hR ((i : Int) + 1).toNat) (hR ((i : Int) + 2).toNat) (hR ((i : Int) + 3).toNat) h0) (fun F1 A1 z1 z2 => mo_ringNo hM (MI.mid hY (z1 44 · (by decide)) z2) (hR ((i : Int) + 1).toNat) (hR ((i : Int) + 2).toNat) (hR ((i : Int) + 3).toNat) h0) (fun F2 A2 al2 l5 l6 ke hx hm h0 => kk F2 A2 al2 _ _ l5 l6 ke ?_ h0 (by omega) (by omega))
    · exact XI.lo h z1 z2
    · exact ⟨p, e, r, pl_, len, tp, fp, n, set, dg, mk, ck, w, S, hv, hx, hm⟩
  · obtain ⟨p', e', r', e1, e2, e3, hv'⟩ := exE_yes h0
    obtain ⟨rh, rm, r3⟩ := hEQ p' e' r' hv'
    have hcy := r3.2.2.2.2.2.2.2.2.2.2.1 1 0 (by decide) (by decide) (Nat.mod_one _) (by decide) (by decide)
    have hx9 := ev_ringYes hK hX hv'.1 hv'.2 rh
    have hm9 := fun (F1 : HF) (A1 : HA) (z1 : ∀ b k, 44 ≤ b → F1 b k = F b k) (z2 : ∀ b, 44 ≤ b → b < 67 → A1 b = A b) => mo_ringYes hM (MI.mid hY (z1 44 · (by decide)) z2) (by omega) hv'.1 hv'.2 rm
    have hx8 := hx9.args (as2 := [vA 1, vI (S0 ((i : Int) + 1).toNat), vI (S0 ((i : Int) + 2).toNat), vI (S0 ((i : Int) + 3).toNat)]) (by rw [← e1, ← e2, ← e3])
    have hm8 := fun F1 A1 z1 z2 => (hm9 F1 A1 z1 z2).args (as2 := [vA 44, vI (S0 ((i : Int) + 1).toNat), vI (S0 ((i : Int) + 2).toNat), vI (S0 ((i : Int) + 3).toNat)]) (by rw [← e1, ← e2, ← e3])
    rw [hcy] at hx8
    refine st_ring (v0 := _) (QX := _) (QM := _) hK hM hs hoo h67 hot hA0 hi hn0 hD (by decide) (by decide) (by omega) (by omega) (fun F1 A1 F2 A2 h z1 z2 => ?_) hx8 hm8 (fun F2 A2 al2 l5 l6 ke hx hm h0 => kk F2 A2 al2 _ _ l5 l6 ke ?_ h0 (by omega) (by omega))
    · exact XI.lo h z1 z2
    · exact ⟨p', e', r', _, _, _, _, _, _, _, _, _, _, _, hv', hx, hm⟩
set_option maxRecDepth 20000 in
theorem op_code (hEQ : EQs) {S0 : Nat → Int} {n0 i oo nc ns D mc ms : Nat} {l5 l6 : Option LV} {F : HF} {A : HA} {al : AL} {Post : PO} (hJ : JI F A) (hK : KX al) (hM : KM al) (hs : al.1 0 = (4, n0)) (hoo : al.1 oo = (2, 1)) (h67 : 67 ≤ oo) (hot : oo < al.2) (hA0 : A 0 = S0) (hi : i + 6 ≤ n0) (hn0 : n0 ≤ 3072) (hR : ∀ j, InR (S0 j)) (hD : 60 ≤ D) (hmc : nc + 4 ≤ mc) (hms : ns + 32 ≤ ms)
    (kk : ∀ (F2 : HF) (A2 : HA) (al2 : AL) (nc2 ns2 : Nat) (l5 l6 : Option LV), KE al.2 al al2 → JI F2 A2 → A2 0 = S0 → nc2 ≤ nc + 4 → ns2 ≤ ns + 32 → QW mL_law D mc ms Post nc2 ns2 1899 [some (vA 0), some (vA 1), some (vA 44), some (vA oo), some (vI (i : Nat)), l5, l6] [] F2 A2 al2) :
    QW mL_law D mc ms Post nc ns 1351 [some (vA 0), some (vA 1), some (vA 44), some (vA oo), some (vI (i : Nat)), l5, l6] [] F A al := by
  obtain ⟨p, e, r, pl_, len, tp, fp, n, set, dg, mk, ck, w, S, hv, hX, hY⟩ := id hJ
  obtain ⟨q_rh, q_rm, q_cnt, q_elm, q_of, q_dig, q_wh, q_rts, q_wi, q_un, q_mny, q_cls, q_cod, q_par, q_wgh, q_lgt, q_mnd, q_nr, q_tel⟩ := hEQ p e r hv
  obtain ⟨hcd, hmk, hdn, hbt⟩ := hX.cd
  have hN := hv.N
  by_cases hC : codOk p (p ^ r) (S0 ((i : Int) + 1).toNat) (S0 ((i : Int) + 2).toNat)
  · have hCm : codM p (p ^ r) (S0 ((i : Int) + 1).toNat) (S0 ((i : Int) + 2).toNat) := (cod_iff hv q_par).mp hC
    obtain ⟨t, ht⟩ : ∃ t : Nat, (S0 ((i : Int) + 1).toNat) = t := ⟨(S0 ((i : Int) + 1).toNat).toNat, by have := hC.1.1; omega⟩
    have ha1 := (hR ((i : Int) + 1).toNat)
    have ha2 := (hR ((i : Int) + 2).toNat)
    have hx9 := ev_code hK hX ha1 ha2
    have hm9 := fun (F1 : HF) (A1 : HA) (z1 : ∀ b k, 44 ≤ b → F1 b k = F b k) (z2 : ∀ b, 44 ≤ b → b < 67 → A1 b = A b) => mo_code hM (MI.mid hY (z1 44 · (by decide)) z2) ha1 ha2
    simp only [if_pos hC] at hx9
    simp only [if_pos hCm] at hm9
    have hk1 := hC.1
    have hmd : (p ^ r - 1) % (S0 ((i : Int) + 1).toNat).toNat = 0 := q_mod hv hk1.1 hk1.2.2
    have hcy := q_cod (S0 ((i : Int) + 1).toNat).toNat (S0 ((i : Int) + 2).toNat) (by omega) (by omega) hmd hC.2.1 (by have := ha2.2; omega)
    rw [hcy] at hx9
    refine st_code (v0 := _) (QX := _) (QM := _) hK hM hs hoo h67 hot hA0 hi hn0 hD (by decide) (by decide) (by omega) (by omega) (fun F1 A1 F2 A2 h z1 z2 => ?_) hx9 (fun F1 A1 z1 z2 => pm_c (congrArg some (by rw [← hcy]; exact cod_size hk1.1)) (fun _ _ h => h) (hm9 F1 A1 z1 z2)) (fun F2 A2 al2 l5 l6 ke hx hm h0 => kk F2 A2 al2 _ _ l5 l6 ke ?_ h0 (by omega) (by omega))
    · exact XI.lo h z1 z2
    · exact ⟨p, e, r, _, _, _, _, _, _, _, _, _, _, _, hv, hx, hm⟩
  · have hCm : ¬ codM p (p ^ r) (S0 ((i : Int) + 1).toNat) (S0 ((i : Int) + 2).toNat) := fun h => hC ((cod_iff hv q_par).mpr h)
    have hx9 := ev_code hK hX (hR ((i : Int) + 1).toNat) (hR ((i : Int) + 2).toNat)
    have hm9 := fun (F1 : HF) (A1 : HA) (z1 : ∀ b k, 44 ≤ b → F1 b k = F b k) (z2 : ∀ b, 44 ≤ b → b < 67 → A1 b = A b) => mo_code hM (MI.mid hY (z1 44 · (by decide)) z2) (hR ((i : Int) + 1).toNat) (hR ((i : Int) + 2).toNat)
    simp only [if_neg hC] at hx9
    simp only [if_neg hCm] at hm9
    refine st_code (v0 := _) (QX := _) (QM := _) hK hM hs hoo h67 hot hA0 hi hn0 hD (by decide) (by decide) (by omega) (by omega) (fun F1 A1 F2 A2 h z1 z2 => ?_) hx9 hm9 (fun F2 A2 al2 l5 l6 ke hx hm h0 => kk F2 A2 al2 _ _ l5 l6 ke ?_ h0 (by omega) (by omega))
    · exact XI.lo h z1 z2
    · exact ⟨p, e, r, _, _, _, _, _, _, _, _, _, _, _, hv, hx, hm⟩
set_option maxRecDepth 20000 in
theorem op_tell (hEQ : EQs) {S0 : Nat → Int} {n0 i oo nc ns D mc ms : Nat} {l5 l6 : Option LV} {F : HF} {A : HA} {al : AL} {Post : PO} (hJ : JI F A) (hK : KX al) (hM : KM al) (hs : al.1 0 = (4, n0)) (hoo : al.1 oo = (2, 1)) (h67 : 67 ≤ oo) (hot : oo < al.2) (hA0 : A 0 = S0) (hi : i + 6 ≤ n0) (hn0 : n0 ≤ 3072) (hR : ∀ j, InR (S0 j)) (hD : 60 ≤ D) (hmc : nc + 4 ≤ mc) (hms : ns + 32 ≤ ms)
    (kk : ∀ (F2 : HF) (A2 : HA) (al2 : AL) (nc2 ns2 : Nat) (l5 l6 : Option LV), KE al.2 al al2 → JI F2 A2 → A2 0 = S0 → nc2 ≤ nc + 4 → ns2 ≤ ns + 32 → QW mL_law D mc ms Post nc2 ns2 1899 [some (vA 0), some (vA 1), some (vA 44), some (vA oo), some (vI (i : Nat)), l5, l6] [] F2 A2 al2) :
    QW mL_law D mc ms Post nc ns 294 [some (vA 0), some (vA 1), some (vA 44), some (vA oo), some (vI (i : Nat)), l5, l6] [] F A al := by
  obtain ⟨p, e, r, pl_, len, tp, fp, n, set, dg, mk, ck, w, S, hv, hX, hY⟩ := id hJ
  obtain ⟨q_rh, q_rm, q_cnt, q_elm, q_of, q_dig, q_wh, q_rts, q_wi, q_un, q_mny, q_cls, q_cod, q_par, q_wgh, q_lgt, q_mnd, q_nr, q_tel⟩ := hEQ p e r hv
  obtain ⟨hcd, hmk, hdn, hbt⟩ := hX.cd
  have hN := hv.N
  obtain ⟨wo, hwo, hw0, hw1⟩ := hY.wo
  have hpl := hX.2.1
  have htp := hX.2.2.1
  generalize ht1 : rdM p e r (p ^ r) (p ^ (e * r)) (S0 ((i : Int) + 2).toNat).toNat ((p : Int) ^ e) (rF p e r) (rG p e r) (fun j => tcE p e r (p ^ r) ((p : Int) ^ e) (rF p e r) j) (rL p e r) tp pl_ 0 wo = t1
  generalize ht2 : rdM p e r (p ^ r) (p ^ (e * r)) (S0 ((i : Int) + 2).toNat).toNat ((p : Int) ^ e) (rF p e r) (rG p e r) (fun j => tcE p e r (p ^ r) ((p : Int) ^ e) (rF p e r) j) (rL p e r) tp pl_ 1 (t1.2 24) = t2
  have hm9 := fun (F1 : HF) (A1 : HA) (z1 : ∀ b k, 44 ≤ b → F1 b k = F b k) (z2 : ∀ b, 44 ≤ b → b < 67 → A1 b = A b) => mo_tell (wo := wo) hM (MI.mid hY (z1 44 · (by decide)) z2) ((z1 44 24 (by decide)).trans hwo) ⟨hw0, hw1⟩ (hR ((i : Int) + 1).toNat) (hR ((i : Int) + 2).toNat)
  simp only [ht1, ht2] at hm9
  have hx9 := (ev_tell hK hX (hR ((i : Int) + 1).toNat) (hR ((i : Int) + 2).toNat)).post (P2 := PXR eI (telM len (S0 ((i : Int) + 1).toNat) (S0 ((i : Int) + 2).toNat) t1 t2) F A al (fun F2 A2 => XJ p e r (telP len (S0 ((i : Int) + 1).toNat) (S0 ((i : Int) + 2).toNat) pl_ t1 t2) (telL len (S0 ((i : Int) + 1).toNat) (S0 ((i : Int) + 2).toNat)) tp (telF len (S0 ((i : Int) + 1).toNat) (S0 ((i : Int) + 2).toNat) fp t1 t2) n set dg mk ck w S F2 A2)) (fun o F' A' al' hp => by
    obtain ⟨rs, ⟨hrd, hr0, hr1⟩, h1, h2, h3, h4, h5⟩ := hp
    by_cases hC : tlC len (S0 ((i : Int) + 1).toNat) (S0 ((i : Int) + 2).toNat)
    · have hCm : (0 ≤ (S0 ((i : Int) + 1).toNat) ∧ (S0 ((i : Int) + 1).toNat) ≤ 7) ∧ 0 ≤ (S0 ((i : Int) + 2).toNat) ∧ (S0 ((i : Int) + 2).toNat) ≤ (len : Int) := ⟨⟨hC.1.1, by have := hC.1.2; omega⟩, hC.2⟩
      have hz : (S0 ((i : Int) + 2).toNat).toNat ≤ 200 := by have := htp.2.1; omega
      obtain ⟨k1, k2, k3⟩ := q_tel (S0 ((i : Int) + 2).toNat).toNat tp pl_ rs wo hz (fun j hj => (htp.2.2 j hj).2) (fun j hj => (hpl j hj).2) hr0 hr1 hw0 hw1 _ t1 t2 rfl ht1 ht2
      rw [if_pos hC] at h1
      rw [if_pos hC, if_pos hC, if_pos hC, k2, k3] at h5
      rw [k1] at h1
      refine ⟨?_, h2, h3, h4, ?_⟩
      · rw [h1]; unfold telM; rw [if_pos hCm]
      · unfold telP telL telF
        rw [if_pos hCm, if_pos hCm, if_pos hCm]
        exact h5
    · have hCm : ¬ ((0 ≤ (S0 ((i : Int) + 1).toNat) ∧ (S0 ((i : Int) + 1).toNat) ≤ 7) ∧ 0 ≤ (S0 ((i : Int) + 2).toNat) ∧ (S0 ((i : Int) + 2).toNat) ≤ (len : Int)) := fun h => hC ⟨⟨h.1.1, by have := h.1.2; omega⟩, h.2⟩
      rw [if_neg hC] at h1
      rw [if_neg hC, if_neg hC, if_neg hC] at h5
      refine ⟨?_, h2, h3, h4, ?_⟩
      · rw [h1]; unfold telM; rw [if_neg hCm]
      · unfold telP telL telF
        rw [if_neg hCm, if_neg hCm, if_neg hCm]
        exact h5)
  refine st_tell (R := _) (QX := _) (QM := _) hK hM hs hoo h67 hot hA0 hi hn0 hD (by decide) (by decide) (by omega) (by omega) (fun F1 A1 F2 A2 h z1 z2 => ?_) hx9 hm9 (fun F2 A2 al2 l5 l6 ke hx hm h0 => kk F2 A2 al2 _ _ l5 l6 ke ?_ h0 (by omega) (by omega))
  · exact XI.lo h z1 z2
  · exact ⟨p, e, r, _, _, _, _, _, _, _, _, _, _, _, hv, hx, hm⟩
