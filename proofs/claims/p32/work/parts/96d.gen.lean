/-! which root makes all: both ways to ask are one; the least of these -/
theorem pw_gcd {m : Int} {r : Nat} {f : Nat → Int} {x : Int} (hm : 2 ≤ m) (hr : 0 < r) (hx : El m r x) : ∀ (k a b : Nat), a ≤ k → pw m r f x a = 1 → pw m r f x b = 1 → pw m r f x (Nat.gcd a b) = 1
  | 0, a, b, hk, _, hb => by
    obtain rfl : a = 0 := by omega
    rw [Nat.gcd_zero_left]; exact hb
  | k + 1, a, b, hk, ha, hb => by
    rcases Nat.eq_zero_or_pos a with h0 | h0
    · subst h0
      rw [Nat.gcd_zero_left]; exact hb
    rw [Nat.gcd_rec]
    refine pw_gcd hm hr hx k (b % a) a (by have := Nat.mod_lt b h0; omega) ?_ ha
    have h1 : pw m r f x (b % a + a * (b / a)) = 1 := by rw [Nat.mod_add_div]; exact hb
    rw [pw_add hm hr hx, pw_mul hm hr hx, ha, one_pw hm hr, tm_one hm hr (pw_el hm hr x _)] at h1
    exact h1
theorem pw_dvd {m : Int} {r : Nat} {f : Nat → Int} {x : Int} (hm : 2 ≤ m) (hr : 0 < r) (hx : El m r x) {a b : Nat} (h : a ∣ b) (ha : pw m r f x a = 1) : pw m r f x b = 1 := by
  obtain ⟨c, rfl⟩ := h
  rw [pw_mul hm hr hx, ha, one_pw hm hr]
/-- a number from 2 on that none from 2 on below it divides -/
def prm (c : Nat) : Prop := 2 ≤ c ∧ ∀ d, 2 ≤ d → d < c → ¬ d ∣ c
theorem prm_gcd {c b : Nat} (h : prm c) (hb : ¬ c ∣ b) : Nat.gcd c b = 1 := by
  have h1 := Nat.gcd_dvd_left c b
  have h2 := Nat.gcd_dvd_right c b
  have h3 : Nat.gcd c b ≤ c := Nat.le_of_dvd (by have := h.1; omega) h1
  have h4 : 0 < Nat.gcd c b := Nat.gcd_pos_of_pos_left b (by have := h.1; omega)
  rcases Nat.lt_or_ge (Nat.gcd c b) 2 with h5 | h5
  · omega
  · rcases Nat.lt_or_ge (Nat.gcd c b) c with h6 | h6
    · exact absurd h1 (h.2 _ h5 h6)
    · have h7 : Nat.gcd c b = c := by omega
      rw [h7] at h2
      exact absurd h2 hb
theorem dvd_cop {c b y : Nat} (h : Nat.gcd c b = 1) (hd : c ∣ b * y) : c ∣ y := by
  have h1 : c ∣ Nat.gcd (c * y) (b * y) := Nat.dvd_gcd (Nat.dvd_mul_right c y) hd
  rw [Nat.gcd_mul_right, h, Nat.one_mul] at h1
  exact h1
theorem prm_ex : ∀ (k t : Nat), t ≤ k → 2 ≤ t → ∃ c, prm c ∧ c ∣ t
  | 0, t, h1, h2 => absurd h2 (by omega)
  | k + 1, t, h1, h2 => by
    by_cases hp : prm t
    · exact ⟨t, hp, Nat.dvd_refl t⟩
    · have : ∃ d, 2 ≤ d ∧ d < t ∧ d ∣ t := Classical.byContradiction fun hn => hp ⟨h2, fun d a b c => hn ⟨d, a, b, c⟩⟩
      obtain ⟨d, a, b, c⟩ := this
      obtain ⟨c9, p1, p2⟩ := prm_ex k d (by omega) a
      exact ⟨c9, p1, Nat.dvd_trans p2 c⟩
theorem do_dvd {b : Nat} : ∀ k l, doM k l b ∣ l
  | 0, l => Nat.dvd_refl l
  | k + 1, l => by
    unfold doM
    split
    · next h => exact Nat.dvd_trans (do_dvd k (l / b)) (Nat.div_dvd_of_dvd (Nat.dvd_of_mod_eq_zero h))
    · exact Nat.dvd_refl l
theorem do_fac {b c : Nat} (hc : prm c) (hb : ¬ c ∣ b) : ∀ k l, c ∣ l → c ∣ doM k l b
  | 0, l, h => h
  | k + 1, l, h => by
    unfold doM
    split
    · next h9 =>
      refine do_fac hc hb k (l / b) (dvd_cop (prm_gcd hc hb) ?_)
      rw [Nat.mul_div_cancel' (Nat.dvd_of_mod_eq_zero h9)]
      exact h
    · exact h
theorem do_no {b : Nat} (hb : 2 ≤ b) : ∀ k l, 1 ≤ l → l ≤ k → ¬ b ∣ doM k l b
  | 0, l, h1, h2 => absurd h1 (by omega)
  | k + 1, l, h1, h2 => by
    unfold doM
    split
    · next h9 =>
      have h3 := Nat.mul_div_cancel' (Nat.dvd_of_mod_eq_zero h9)
      have h4 : l / b < l := Nat.div_lt_self (by omega) (by omega)
      have h5 : 1 ≤ l / b := by
        rcases Nat.eq_zero_or_pos (l / b) with q | q
        · rw [q, Nat.mul_zero] at h3; omega
        · exact q
      exact do_no hb k (l / b) h5 (by omega)
    · next h9 => exact fun h => h9 (Nat.mod_eq_zero_of_dvd h)
theorem ig_true {P : Nat → Bool} : ∀ (k l b : Nat), (∀ c, 2 ≤ c → c ∣ l → P c = false) → 2 ≤ b → igM P k l b = true
  | 0, _, _, _, _ => rfl
  | k + 1, l, b, h, hb => by
    unfold igM
    split
    · rfl
    split
    · exact ig_true k l (b + 1) h (by omega)
    · next h2 =>
      have h3 : b ∣ l := Nat.dvd_of_mod_eq_zero (Classical.byContradiction h2)
      rw [if_neg (by rw [h b hb h3]; decide)]
      exact ig_true k _ (b + 1) (fun c hc hd => h c hc (Nat.dvd_trans hd (do_dvd l l))) (by omega)
theorem ig_prm {P : Nat → Bool} : ∀ (k l b : Nat), (∀ c, 2 ≤ c → c < b → ¬ c ∣ l) → l + 1 ≤ b + k → 1 ≤ l → 2 ≤ b → igM P k l b = true → ∀ c, prm c → c ∣ l → P c = false
  | 0, l, b, h1, h2, h3, h4, _, c, hc, hd => absurd hd (h1 c hc.1 (by have := Nat.le_of_dvd h3 hd; omega))
  | k + 1, l, b, h1, h2, h3, h4, hg, c, hc, hd => by
    unfold igM at hg
    by_cases hl : l ≤ 1
    · have := Nat.le_of_dvd h3 hd
      have := hc.1
      omega
    rw [if_neg hl] at hg
    by_cases hm : l % b ≠ 0
    · rw [if_pos hm] at hg
      refine ig_prm k l (b + 1) (fun c' a1 a2 a3 => ?_) (by omega) h3 (by omega) hg c hc hd
      rcases Nat.lt_or_ge c' b with q | q
      · exact h1 c' a1 q a3
      · obtain rfl : c' = b := by omega
        exact hm (Nat.mod_eq_zero_of_dvd a3)
    · rw [if_neg hm] at hg
      have hbl : b ∣ l := Nat.dvd_of_mod_eq_zero (Classical.byContradiction hm)
      by_cases hP : P b = true
      · rw [if_pos hP] at hg; exact absurd hg (by decide)
      rw [if_neg hP] at hg
      by_cases hcb : c = b
      · rw [hcb]; exact Bool.eq_false_iff.mpr hP
      · have hcn : ¬ c ∣ b := fun q => by
          have h5 := Nat.le_of_dvd (by omega) q
          exact h1 c hc.1 (by omega) hd
        have hq : 1 ≤ doM l l b := Nat.pos_of_dvd_of_pos (do_dvd l l) h3
        have hle : doM l l b ≤ l := Nat.le_of_dvd h3 (do_dvd l l)
        refine ig_prm k (doM l l b) (b + 1) (fun c' a1 a2 a3 => ?_) (by omega) hq (by omega) hg c hc (do_fac hc hcn l l hd)
        rcases Nat.lt_or_ge c' b with q | q
        · exact h1 c' a1 q (Nat.dvd_trans a3 (do_dvd l l))
        · obtain rfl : c' = b := by omega
          exact do_no h4 l l h3 (Nat.le_refl _) a3
theorem ig_iff {m : Int} {r q : Nat} {f : Nat → Int} {x : Int} (hm : 2 ≤ m) (hr : 0 < r) (hq : 2 ≤ q) (hx : El m r x) (h1 : pw m r f x (q - 1) = 1) : igE m r q f x = true ↔ maE q m r f x := by
  constructor
  · intro hg n hn hn1 hp
    have hgp := ig_prm q (q - 1) 2 (fun c a b => absurd b (by omega)) (by omega) (by omega) (by decide) hg
    have hd := pw_gcd hm hr hx n n (q - 1) (Nat.le_refl _) hp h1
    have hdl : Nat.gcd n (q - 1) ∣ q - 1 := Nat.gcd_dvd_right _ _
    have hdn : Nat.gcd n (q - 1) ≤ n := Nat.le_of_dvd hn1 (Nat.gcd_dvd_left _ _)
    have hd0 : 0 < Nat.gcd n (q - 1) := Nat.gcd_pos_of_pos_left _ hn1
    generalize Nat.gcd n (q - 1) = d at hd hdl hdn hd0
    obtain ⟨t, ht⟩ := hdl
    have ht2 : 2 ≤ t := by
      rcases Nat.lt_or_ge t 2 with q9 | q9
      · have : t = 0 ∨ t = 1 := by omega
        rcases this with rfl | rfl
        · rw [Nat.mul_zero] at ht; omega
        · rw [Nat.mul_one] at ht; omega
      · exact q9
    obtain ⟨c, hc, hct⟩ := prm_ex t t (Nat.le_refl _) ht2
    obtain ⟨u, hu⟩ := hct
    have hP := hgp c hc ⟨d * u, by rw [ht, hu, ← Nat.mul_assoc, Nat.mul_comm d c, Nat.mul_assoc]⟩
    have hcd : (q - 1) / c = d * u := by
      rw [ht, hu, ← Nat.mul_assoc, Nat.mul_comm d c, Nat.mul_assoc, Nat.mul_div_cancel_left _ (by have := hc.1; omega)]
    unfold igP at hP
    rw [decide_eq_false_iff_not, hcd] at hP
    exact hP (pw_dvd hm hr hx ⟨u, rfl⟩ hd)
  · intro hma
    refine ig_true q (q - 1) 2 (fun c hc hd => ?_) (by decide)
    unfold igP
    rw [decide_eq_false_iff_not]
    obtain ⟨u, hu⟩ := hd
    have h9 : (q - 1) / c = u := by rw [hu, Nat.mul_div_cancel_left _ (by omega)]
    rw [h9]
    have hu1 : 1 ≤ u := by
      rcases Nat.eq_zero_or_pos u with q9 | q9
      · rw [q9, Nat.mul_zero] at hu; omega
      · exact q9
    refine hma u ?_ hu1
    have : 2 * u ≤ c * u := Nat.mul_le_mul_right u hc
    omega
section Gens
variable {p e r q : Nat} {m : Int} {f : Nat → Int} {g x y : Int}
theorem RK.tcb (h : RK p e r m q f g) {b : Nat} (h1 : 1 ≤ b) (h2 : b < q) : ∃ k, k < q - 1 ∧ tcE p e r q m f b = pw m r f g k := by
  obtain ⟨k, hk, hl⟩ := h.lsurj h1 h2
  exact ⟨k, hk, by rw [← hl, h.tc_k]⟩
theorem RK.tc_one (h : RK p e r m q f g) (k : Nat) : pw m r f (pw m r f g k) (q - 1) = 1 := by
  have hm := h.m2
  rw [← pw_mul hm h.2.2.1 h.2.2.2.2.2.1, Nat.mul_comm, pw_mul hm h.2.2.1 h.2.2.2.2.2.1, h.2.2.2.2.2.2.1, one_pw hm h.2.2.1]
theorem RK.g_ne (h : RK p e r m q f g) (k : Nat) : pw m r f g k ≠ 0 := fun h0 => by
  have h2 := h.inv k
  have hm := h.m2
  rw [h0, zero_tm (by omega) (h.el _)] at h2
  exact absurd h2 (by decide)
theorem RK.gens (h : RK p e r m q f g) (hN : m ^ r ≤ 4096) : ∀ B, B ≤ q - 1 → (gnE p e r q m f B = 0 ∧ gnM p e r q m f B = 4096 ∧ ∀ b, 1 ≤ b → b ≤ B → ¬ maE q m r f (tcE p e r q m f b)) ∨
    (gnM p e r q m f B = gnE p e r q m f B ∧ ∃ b, 1 ≤ b ∧ b ≤ B ∧ gnE p e r q m f B = tcE p e r q m f b ∧ maE q m r f (tcE p e r q m f b))
  | 0, _ => Or.inl ⟨rfl, rfl, fun b h1 h2 => absurd h1 (by omega)⟩
  | B + 1, hB => by
    have hm := h.m2
    have hr := h.2.2.1
    obtain ⟨k, hk, hT⟩ := h.tcb (b := B + 1) (by omega) (by omega)
    have hel : El m r (tcE p e r q m f (B + 1)) := tc_el hm hr _
    have hig := ig_iff (f := f) hm hr h.q2 hel (by rw [hT]; exact h.tc_one k)
    have hlt : tcE p e r q m f (B + 1) < 4096 := by have := hel.2; omega
    have hgne : ∀ b, 1 ≤ b → b ≤ B → tcE p e r q m f b ≠ 0 := fun b h1 h2 => by
      obtain ⟨k, hk, hT⟩ := h.tcb (b := b) h1 (by omega)
      rw [hT]; exact h.g_ne k
    have eE : gnE p e r q m f (B + 1) = if (gnE p e r q m f B = 0 ∨ tcE p e r q m f (B + 1) < gnE p e r q m f B) ∧ maE q m r f (tcE p e r q m f (B + 1)) then tcE p e r q m f (B + 1) else gnE p e r q m f B := rfl
    have eM : gnM p e r q m f (B + 1) = if tcE p e r q m f (B + 1) < gnM p e r q m f B ∧ igE m r q f (tcE p e r q m f (B + 1)) = true then tcE p e r q m f (B + 1) else gnM p e r q m f B := rfl
    rcases RK.gens h hN B (by omega) with ⟨a1, a2, a3⟩ | ⟨a1, b, b1, b2, b3, b4⟩
    · by_cases hma : maE q m r f (tcE p e r q m f (B + 1))
      · refine Or.inr ⟨?_, B + 1, by omega, Nat.le_refl _, ?_, hma⟩
        · rw [eE, eM, if_pos ⟨by omega, hig.mpr hma⟩, if_pos ⟨Or.inl a1, hma⟩]
        · rw [eE, if_pos ⟨Or.inl a1, hma⟩]
      · refine Or.inl ⟨?_, ?_, fun b h1 h2 => ?_⟩
        · rw [eE, if_neg (fun q => hma q.2)]; exact a1
        · rw [eM, if_neg (fun q => hma (hig.mp q.2))]; exact a2
        · rcases Nat.lt_or_ge b (B + 1) with q9 | q9
          · exact a3 b h1 (by omega)
          · obtain rfl : b = B + 1 := by omega
            exact hma
    · have hg0 : gnE p e r q m f B ≠ 0 := by rw [b3]; exact hgne b b1 b2
      by_cases hc : tcE p e r q m f (B + 1) < gnE p e r q m f B ∧ maE q m r f (tcE p e r q m f (B + 1))
      · refine Or.inr ⟨?_, B + 1, by omega, Nat.le_refl _, ?_, hc.2⟩
        · rw [eE, eM, if_pos ⟨by rw [a1]; exact hc.1, hig.mpr hc.2⟩, if_pos ⟨Or.inr hc.1, hc.2⟩]
        · rw [eE, if_pos ⟨Or.inr hc.1, hc.2⟩]
      · have n1 : ¬ ((gnE p e r q m f B = 0 ∨ tcE p e r q m f (B + 1) < gnE p e r q m f B) ∧ maE q m r f (tcE p e r q m f (B + 1))) := fun q => hc ⟨q.1.resolve_left hg0, q.2⟩
        have n2 : ¬ (tcE p e r q m f (B + 1) < gnM p e r q m f B ∧ igE m r q f (tcE p e r q m f (B + 1)) = true) := fun q => hc ⟨by rw [← a1]; exact q.1, hig.mp q.2⟩
        refine Or.inr ⟨?_, b, b1, by omega, ?_, b4⟩
        · rw [eE, eM, if_neg n1, if_neg n2]; exact a1
        · rw [eE, if_neg n1]; exact b3
/-- the class' generator: it is the model's, and it makes all -/
theorem RK.gen (h : RK p e r m q f g) (hN : m ^ r ≤ 4096) : gnE p e r q m f (q - 1) = gnM p e r q m f (q - 1) ∧ RK p e r m q f (gnE p e r q m f (q - 1)) := by
  have hm := h.m2
  have hr := h.2.2.1
  have hq2 := h.q2
  have hg := h.2.2.2.2.2.1
  rcases h.gens hN (q - 1) (Nat.le_refl _) with ⟨a1, a2, a3⟩ | ⟨a1, b, b1, b2, b3, b4⟩
  · have hp := h.1
    have hl : low p r m (pw m r f g 1) < p ^ r := low_lt (by omega)
    rw [← h.2.2.2.2.1] at hl
    have hl0 := h.lpos 1
    refine absurd ?_ (a3 (low p r m (pw m r f g 1)) (by omega) (by omega))
    rw [h.tc_k, pw_one hm hr hg]
    exact h.2.2.2.2.2.2.2.1
  · refine ⟨a1.symm, ?_⟩
    obtain ⟨k, hk, hT⟩ := h.tcb (b := b) b1 (by omega)
    have hmv : mv p r m f (pw m r f g k) = pw m r f (pw m r f g k) p := by
      rw [mv_S hm hr, mvS_pw hm hr (pw_el hm hr _ _) h.2.2.2.2.2.2.2.2.1, ← mv_S hm hr, h.2.2.2.2.2.2.2.2.2, ← pw_mul hm hr hg, ← pw_mul hm hr hg, Nat.mul_comm]
    rw [hT] at b3 b4
    rw [b3]
    exact ⟨h.1, h.2.1, hr, h.2.2.2.1, h.2.2.2.2.1, h.el k, h.tc_one k, b4, h.2.2.2.2.2.2.2.2.1, hmv⟩
end Gens
