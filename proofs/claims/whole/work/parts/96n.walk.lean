/-! all words of a code: both ways to go through them -/
def bB (dg : Nat) (mk : Nat → Int) (t x : Nat) : Int := if t ≤ x ∧ x ≤ t + dg then mk (x - t) else 0
def rwT (m : Int) (dg : Nat) (mk : Nat → Int) : Nat → Nat → (Nat → Int) → Int → (Nat → Int)
  | 0, _, row, _ => row
  | k + 1, t, row, T => rwT m dg mk k (t + 1) (gwM m dg mk t (T % m) row) (T / m)
theorem rw_val {m : Int} {dg_ : Nat} {mk : Nat → Int} (hm : 0 < m) : ∀ (k t : Nat) (row : Nat → Int) (T : Int), (∀ x, 0 ≤ row x ∧ row x < m) → ∀ x, rwT m dg_ mk k t row T x = (row x + sm k (fun j => dg m j T * bB dg_ mk (t + j) x)) % m
  | 0, t, row, T, hr, x => by
    show row x = (row x + 0) % m
    rw [Int.add_zero, Int.emod_eq_of_lt (hr x).1 (hr x).2]
  | k + 1, t, row, T, hr, x => by
    show rwT m dg_ mk k (t + 1) (gwM m dg_ mk t (T % m) row) (T / m) x = _
    rw [rw_val hm k (t + 1) _ (T / m) (fun x => gwM_rg hm x) x, sm_first]
    have e1 : gwM m dg_ mk t (T % m) row x = (row x + T % m * bB dg_ mk t x) % m := rfl
    rw [e1, Int.emod_add_emod, Int.add_assoc]
    congr 3
    exact sm_congr fun j _ => by
      show dg m j (T / m) * bB dg_ mk (t + 1 + j) x = dg m j (T / m) * bB dg_ mk (t + (j + 1)) x
      rw [show t + 1 + j = t + (j + 1) by omega]
theorem rw_rg {m : Int} {dg_ : Nat} {mk : Nat → Int} (hm : 0 < m) : ∀ (k t : Nat) (row : Nat → Int) (T : Int), (∀ x, 0 ≤ row x ∧ row x < m) → ∀ x, 0 ≤ rwT m dg_ mk k t row T x ∧ rwT m dg_ mk k t row T x < m := fun k t row T hr x => by
  rw [rw_val hm k t row T hr x]
  exact ⟨Int.emod_nonneg _ (by omega), Int.emod_lt_of_pos _ hm⟩
theorem rw_zero {m : Int} {dg_ : Nat} {mk : Nat → Int} (hm : 0 < m) {k x : Nat} {T : Int} (hx : k + dg_ ≤ x) : rwT m dg_ mk k 0 (fun _ => 0) T x = 0 := by
  rw [rw_val hm k 0 _ T (fun _ => ⟨Int.le_refl _, hm⟩) x, sm_zero (fun j hj => by
    unfold bB
    rw [if_neg (by omega), Int.mul_zero])]
  rfl
/-! the class' walk -/
theorem am_val {m : Int} {dg_ : Nat} {mk nu : Nat → Int} {j x : Nat} (hx : x < 63) : amE m dg_ mk j nu x % m = (nu x + bB dg_ mk j x) % m := by
  unfold amE bB
  by_cases h : j ≤ x ∧ x ≤ j + dg_
  · rw [if_pos ⟨h.1, h.2, hx⟩, if_pos h, Int.emod_emod]
  · rw [if_neg (fun k => h ⟨k.1, k.2.1⟩), if_neg h, Int.add_zero]
theorem ws_low {m : Int} {dg_ : Nat} {mk : Nat → Int} : ∀ (k j : Nat) (s : (Nat → Int) × (Nat → Int)), (∀ i, i < j → (wsE m dg_ mk k j s).2 i = s.2 i) ∧ ∀ x, 63 ≤ x → (wsE m dg_ mk k j s).1 x = s.1 x
  | 0, j, s => ⟨fun _ _ => rfl, fun _ _ => rfl⟩
  | k + 1, j, s => by
    have e1 : wsE m dg_ mk (k + 1) j s = if s.2 j + 1 < m then (amE m dg_ mk j s.1, upc s.2 j (s.2 j + 1)) else wsE m dg_ mk k (j + 1) (amE m dg_ mk j s.1, upc s.2 j 0) := rfl
    have ham : ∀ x, 63 ≤ x → amE m dg_ mk j s.1 x = s.1 x := fun x hx => if_neg (by omega)
    by_cases hc : s.2 j + 1 < m
    · rw [e1, if_pos hc]
      exact ⟨fun i hi => if_neg (by omega), ham⟩
    · rw [e1, if_neg hc]
      obtain ⟨h1, h2⟩ := ws_low (m := m) (dg_ := dg_) (mk := mk) k (j + 1) (amE m dg_ mk j s.1, upc s.2 j 0)
      exact ⟨fun i hi => (h1 i (by omega)).trans (if_neg (by omega)), fun x hx => (h2 x hx).trans (ham x hx)⟩
theorem ws_dig {m : Int} {dg_ : Nat} {mk : Nat → Int} (hm : 2 ≤ m) : ∀ (k j : Nat) (s : (Nat → Int) × (Nat → Int)) (T : Int), 0 ≤ T → T + 1 < m ^ k → (∀ i, i < k → s.2 (j + i) = dg m i T) → ∀ i, i < k → (wsE m dg_ mk k j s).2 (j + i) = dg m i (T + 1)
  | 0, _, _, _, _, _, _, i, hi => absurd hi (by omega)
  | k + 1, j, s, T, h0, h1, h2, i, hi => by
    have e1 : wsE m dg_ mk (k + 1) j s = if s.2 j + 1 < m then (amE m dg_ mk j s.1, upc s.2 j (s.2 j + 1)) else wsE m dg_ mk k (j + 1) (amE m dg_ mk j s.1, upc s.2 j 0) := rfl
    have h3 : s.2 j = T % m := h2 0 (by omega)
    have hT := Int.mul_ediv_add_emod T m
    have hr0 := Int.emod_nonneg T (show m ≠ 0 by omega)
    have hr1 := Int.emod_lt_of_pos T (show 0 < m by omega)
    by_cases hc : s.2 j + 1 < m
    · rw [e1, if_pos hc]
      have hmod : (T + 1) % m = T % m + 1 := by
        rw [Int.add_emod, Int.emod_eq_of_lt (show (0 : Int) ≤ 1 by decide) (by omega), Int.emod_eq_of_lt (by omega) (by omega)]
      have hdiv : (T + 1) / m = T / m := by
        have hT2 := Int.mul_ediv_add_emod (T + 1) m
        rw [hmod] at hT2
        have h9 : m * ((T + 1) / m) = m * (T / m) := by omega
        exact Int.eq_of_mul_eq_mul_left (by omega) h9
      cases i with
      | zero =>
        show (if j + 0 = j then s.2 j + 1 else s.2 (j + 0)) = (T + 1) % m
        rw [if_pos (Nat.add_zero j), hmod, h3]
      | succ i =>
        show (if j + (i + 1) = j then s.2 j + 1 else s.2 (j + (i + 1))) = dg m i ((T + 1) / m)
        rw [if_neg (by omega), hdiv]
        exact h2 (i + 1) hi
    · rw [e1, if_neg hc]
      have hl : T % m = m - 1 := by omega
      have hmod : (T + 1) % m = 0 := by
        have : T + 1 = m * (T / m + 1) := by rw [Int.mul_add, Int.mul_one]; omega
        rw [this, Int.mul_emod_right]
      have hdiv : (T + 1) / m = T / m + 1 := by
        have : T + 1 = m * (T / m + 1) := by rw [Int.mul_add, Int.mul_one]; omega
        rw [this, Int.mul_ediv_cancel_left _ (by omega)]
      cases i with
      | zero =>
        show (wsE m dg_ mk k (j + 1) (amE m dg_ mk j s.1, upc s.2 j 0)).2 j = (T + 1) % m
        rw [(ws_low k (j + 1) _).1 j (by omega), hmod]
        exact if_pos rfl
      | succ i =>
        have hlt : T / m + 1 < m ^ k := by
          rw [Int.pow_succ] at h1
          have h9 : m * (T / m + 1) < m * m ^ k := by rw [Int.mul_add, Int.mul_one, Int.mul_comm m (m ^ k)]; omega
          exact Int.lt_of_mul_lt_mul_left h9 (by omega)
        have ih := ws_dig (dg_ := dg_) (mk := mk) hm k (j + 1) (amE m dg_ mk j s.1, upc s.2 j 0) (T / m) (Int.ediv_nonneg h0 (by omega)) hlt (fun i' hi' => by
          show (if j + 1 + i' = j then 0 else s.2 (j + 1 + i')) = dg m i' (T / m)
          rw [if_neg (by omega), show j + 1 + i' = j + (i' + 1) by omega]
          exact h2 (i' + 1) (by omega)) i (by omega)
        show (wsE m dg_ mk k (j + 1) (amE m dg_ mk j s.1, upc s.2 j 0)).2 (j + (i + 1)) = dg m i ((T + 1) / m)
        rw [hdiv, ← ih, show j + (i + 1) = j + 1 + i by omega]
theorem ws_num {m : Int} {dg_ : Nat} {mk : Nat → Int} (hm : 0 < m) {x : Nat} (hx : x < 63) : ∀ (k j : Nat) (s : (Nat → Int) × (Nat → Int)), (∀ i, 0 ≤ s.2 i ∧ s.2 i < m) → (wsE m dg_ mk k j s).1 x % m = (s.1 x + sm k (fun i => ((wsE m dg_ mk k j s).2 (j + i) - s.2 (j + i)) * bB dg_ mk (j + i) x)) % m
  | 0, j, s, _ => by
    show s.1 x % m = (s.1 x + 0) % m
    rw [Int.add_zero]
  | k + 1, j, s, hr => by
    have e1 : wsE m dg_ mk (k + 1) j s = if s.2 j + 1 < m then (amE m dg_ mk j s.1, upc s.2 j (s.2 j + 1)) else wsE m dg_ mk k (j + 1) (amE m dg_ mk j s.1, upc s.2 j 0) := rfl
    by_cases hc : s.2 j + 1 < m
    · rw [e1, if_pos hc, sm_first]
      have e2 : ∀ i, i < k → (upc s.2 j (s.2 j + 1) (j + (i + 1)) - s.2 (j + (i + 1))) * bB dg_ mk (j + (i + 1)) x = 0 := fun i _ => by
        rw [show upc s.2 j (s.2 j + 1) (j + (i + 1)) = s.2 (j + (i + 1)) from if_neg (by omega), Int.sub_self, Int.zero_mul]
      show amE m dg_ mk j s.1 x % m = (s.1 x + ((upc s.2 j (s.2 j + 1) (j + 0) - s.2 (j + 0)) * bB dg_ mk (j + 0) x + sm k (fun i => (upc s.2 j (s.2 j + 1) (j + (i + 1)) - s.2 (j + (i + 1))) * bB dg_ mk (j + (i + 1)) x))) % m
      rw [sm_zero e2, am_val hx, Int.add_zero, show upc s.2 j (s.2 j + 1) (j + 0) = s.2 j + 1 from if_pos rfl, Nat.add_zero, show s.2 j + 1 - s.2 j = 1 by omega, Int.one_mul]
    · rw [e1, if_neg hc, sm_first]
      have hrj := hr j
      have ih := ws_num (dg_ := dg_) (mk := mk) hm hx k (j + 1) (amE m dg_ mk j s.1, upc s.2 j 0) (fun i => by
        show 0 ≤ (if i = j then 0 else s.2 i) ∧ (if i = j then 0 else s.2 i) < m
        split
        · exact ⟨Int.le_refl _, hm⟩
        · exact hr i)
      have hlow := (ws_low (m := m) (dg_ := dg_) (mk := mk) k (j + 1) (amE m dg_ mk j s.1, upc s.2 j 0)).1 j (by omega)
      have hz : (wsE m dg_ mk k (j + 1) (amE m dg_ mk j s.1, upc s.2 j 0)).2 (j + 0) = 0 := hlow.trans (if_pos rfl)
      generalize wsE m dg_ mk k (j + 1) (amE m dg_ mk j s.1, upc s.2 j 0) = s' at ih hz
      rw [ih, hz]
      have e3 : sm k (fun i => (s'.2 (j + 1 + i) - upc s.2 j 0 (j + 1 + i)) * bB dg_ mk (j + 1 + i) x) = sm k (fun i => (s'.2 (j + (i + 1)) - s.2 (j + (i + 1))) * bB dg_ mk (j + (i + 1)) x) := sm_congr fun i _ => by
        rw [show upc s.2 j 0 (j + 1 + i) = s.2 (j + 1 + i) from if_neg (by omega), show j + 1 + i = j + (i + 1) by omega]
      show (amE m dg_ mk j s.1 x + sm k (fun i => (s'.2 (j + 1 + i) - upc s.2 j 0 (j + 1 + i)) * bB dg_ mk (j + 1 + i) x)) % m = _
      rw [e3, Int.add_emod, am_val hx, ← Int.add_emod]
      generalize sm k (fun i => (s'.2 (j + (i + 1)) - s.2 (j + (i + 1))) * bB dg_ mk (j + (i + 1)) x) = R
      rw [Nat.add_zero, show s.2 j = m - 1 by omega]
      refine Int.emod_eq_emod_iff_emod_sub_eq_zero.mpr (Int.emod_eq_zero_of_dvd ⟨bB dg_ mk j x, ?_⟩)
      rw [Int.sub_mul, Int.sub_mul, Int.zero_mul, Int.one_mul]
      omega
/-- the word of a number, as both have it -/
theorem wk_val {m : Int} {dg_ ch : Nat} {mk : Nat → Int} (hm : 2 ≤ m) (hn : ch + dg_ ≤ 63) : ∀ T : Nat, (T : Int) < m ^ ch → (∀ j, j < ch → (wkE m dg_ ch mk T).2 j = dg m j T) ∧ (wkE m dg_ ch mk T).1 = rwT m dg_ mk ch 0 (fun _ => 0) T
  | 0, _ => by
    have hm0 : 0 < m := by omega
    refine ⟨fun j _ => by rw [show ((0 : Nat) : Int) = 0 from rfl, dg_zero]; rfl, funext fun x => ?_⟩
    rw [rw_val hm0 ch 0 _ _ (fun _ => ⟨Int.le_refl _, hm0⟩) x, sm_zero (fun j _ => by rw [show ((0 : Nat) : Int) = 0 from rfl, dg_zero, Int.zero_mul])]
    rfl
  | T + 1, hT => by
    have hm0 : 0 < m := by omega
    obtain ⟨h1, h2⟩ := wk_val hm hn T (by omega)
    obtain ⟨r1, r2⟩ := wk_range (dg := dg_) (ch := ch) (mk := mk) hm0 T
    obtain ⟨q1, q2⟩ := wk_range (dg := dg_) (ch := ch) (mk := mk) hm0 (T + 1)
    have e1 : wkE m dg_ ch mk (T + 1) = wsE m dg_ mk ch 0 (wkE m dg_ ch mk T) := rfl
    have hd : ∀ j, j < ch → (wkE m dg_ ch mk (T + 1)).2 j = dg m j ((T + 1 : Nat) : Int) := fun j hj => by
      have h3 := ws_dig (dg_ := dg_) (mk := mk) hm ch 0 (wkE m dg_ ch mk T) T (by omega) hT (fun i hi => by rw [Nat.zero_add]; exact h1 i hi) j hj
      rw [Nat.zero_add] at h3
      exact h3
    refine ⟨hd, funext fun x => ?_⟩
    by_cases hx : x < 63
    · have h3 := ws_num (dg_ := dg_) (mk := mk) hm0 hx ch 0 (wkE m dg_ ch mk T) r2
      rw [← e1] at h3
      have h4 := q1 x
      rw [rw_val hm0 ch 0 _ _ (fun _ => ⟨Int.le_refl _, hm0⟩) x, Int.zero_add]
      rw [← Int.emod_eq_of_lt h4.1 h4.2, h3, h2, rw_val hm0 ch 0 _ _ (fun _ => ⟨Int.le_refl _, hm0⟩) x, Int.zero_add, Int.emod_add_emod, ← sm_add]
      congr 1
      exact sm_congr fun j hj => by
        rw [Nat.zero_add, hd j hj, h1 j hj, ← Int.add_mul]
        congr 1
        omega
    · rw [rw_zero hm0 (by omega), e1, (ws_low ch 0 _).2 x (by omega), h2, rw_zero hm0 (by omega)]
/-! counts over all words -/
def sN : Nat → (Nat → Nat) → Nat
  | 0, _ => 0
  | k + 1, c => sN k c + c k
theorem ctn_app {P : Nat → Bool} (a : Nat) : ∀ b, ctn P (a + b) = ctn P a + ctn (fun x => P (a + x)) b
  | 0 => rfl
  | b + 1 => by
    have ih := ctn_app (P := P) a b
    by_cases h : P (a + b) = true
    · rw [← Nat.add_assoc, ctn_yes h, ctn_yes (P := fun x => P (a + x)) h, ih]; omega
    · rw [← Nat.add_assoc, ctn_no h, ctn_no (P := fun x => P (a + x)) h, ih]
theorem sN_add {c d : Nat → Nat} : ∀ k, sN k (fun i => c i + d i) = sN k c + sN k d
  | 0 => rfl
  | k + 1 => by
    show sN k (fun i => c i + d i) + (c k + d k) = (sN k c + c k) + (sN k d + d k)
    rw [sN_add k]; omega
theorem sN_ctn {P : Nat → Bool} : ∀ k, sN k (fun i => if P i = true then 1 else 0) = ctn P k
  | 0 => rfl
  | k + 1 => by
    show sN k (fun i => if P i = true then 1 else 0) + (if P k = true then 1 else 0) = if P k = true then ctn P k + 1 else ctn P k
    rw [sN_ctn k]
    split <;> rfl
theorem sN_zero : ∀ k, sN k (fun _ => 0) = 0
  | 0 => rfl
  | k + 1 => sN_zero k
theorem ctn_dm {g : Nat → Nat → Bool} {M : Nat} (hM : 0 < M) : ∀ K, ctn (fun T => g (T % M) (T / M)) (M * K) = sN M (fun d => ctn (g d) K)
  | 0 => (sN_zero M).symm
  | K + 1 => by
    rw [Nat.mul_add, Nat.mul_one, ctn_app, ctn_dm hM K]
    have e1 : ctn (fun x => g ((M * K + x) % M) ((M * K + x) / M)) M = ctn (fun d => g d K) M := ctn_congr fun y hy => by
      rw [Nat.mul_add_mod, Nat.mod_eq_of_lt hy, Nat.mul_add_div hM, Nat.div_eq_of_lt hy, Nat.add_zero]
    rw [e1, ← sN_ctn M, ← sN_add]
    congr 1
    funext d
    show _ = if g d K = true then ctn (g d) K + 1 else ctn (g d) K
    split <;> rfl
theorem go_cnt {S : Type} {stp : (Nat → Int) → S → S} {π : S → Int} {B : (Nat → Int) → Bool} (hst : ∀ row s, π (stp row s) = π s + (if B row = true then 1 else 0)) {M dg_ : Nat} {mk : Nat → Int} (hM : 0 < M) : ∀ (k t : Nat) (row : Nat → Int) (s : S), π (goF stp (M : Int) dg_ mk k t row s) = π s + (ctn (fun T => B (rwT (M : Int) dg_ mk k t row (T : Nat))) (M ^ k) : Nat)
  | 0, t, row, s => by
    show π (stp row s) = π s + ((if B row = true then 0 + 1 else 0 : Nat) : Int)
    rw [hst]
    split <;> rfl
  | k + 1, t, row, s => by
    have h1 := fo_ind (S := S) (g := fun d s => goF stp (M : Int) dg_ mk k (t + 1) (gwM (M : Int) dg_ mk t d row) s) (s := s) (P := fun d s' => π s' = π s + ((sN d (fun d => ctn (fun T => B (rwT (M : Int) dg_ mk k (t + 1) (gwM (M : Int) dg_ mk t (d : Nat) row) (T : Nat))) (M ^ k)) : Nat) : Int)) (by show π s = π s + ((0 : Nat) : Int); omega) (fun d s' hs' => by
      have h2 := go_cnt hst (dg_ := dg_) (mk := mk) hM k (t + 1) (gwM (M : Int) dg_ mk t d row) s'
      show π (goF stp (M : Int) dg_ mk k (t + 1) (gwM (M : Int) dg_ mk t d row) s') = π s + ((sN d _ + ctn (fun T => B (rwT (M : Int) dg_ mk k (t + 1) (gwM (M : Int) dg_ mk t (d : Nat) row) (T : Nat))) (M ^ k) : Nat) : Int)
      rw [h2, hs']
      omega) M
    have e1 : goF stp (M : Int) dg_ mk (k + 1) t row s = foF (fun d s => goF stp (M : Int) dg_ mk k (t + 1) (gwM (M : Int) dg_ mk t d row) s) M s := by
      show foF _ (M : Int).toNat s = _
      rw [Int.toNat_natCast]
    rw [e1, h1]
    congr 2
    rw [Nat.pow_succ, Nat.mul_comm, ← ctn_dm (g := fun d T => B (rwT (M : Int) dg_ mk k (t + 1) (gwM (M : Int) dg_ mk t (d : Nat) row) (T : Nat))) hM (M ^ k)]
    refine ctn_congr fun T _ => ?_
    show B (rwT (M : Int) dg_ mk k (t + 1) (gwM (M : Int) dg_ mk t ((T % M : Nat) : Int) row) ((T / M : Nat) : Int)) = B (rwT (M : Int) dg_ mk k (t + 1) (gwM (M : Int) dg_ mk t ((T : Int) % (M : Int)) row) ((T : Int) / (M : Int)))
    rw [Int.natCast_emod, Int.natCast_ediv]
theorem wt_cut {w : Nat → Int} {n : Nat} (hz : ∀ x, n ≤ x → w x = 0) : ∀ k, wtE w (n + k) = wtE w n
  | 0 => rfl
  | k + 1 => by
    have ih := wt_cut hz k
    unfold wtE at ih ⊢
    rw [← Nat.add_assoc, ctn_no (by rw [hz _ (by omega)]; decide), ih]
theorem le_cut {m : Int} {w : Nat → Int} {n : Nat} (hz : ∀ x, n ≤ x → w x = 0) : ∀ k, leE m w (n + k) = leE m w n
  | 0 => rfl
  | k + 1 => by
    show leE m w (n + k) + (if 0 < w (n + k) then _ else 0) = _
    rw [hz _ (by omega), if_neg (by decide), Int.add_zero, le_cut hz k]
theorem le_nn {m : Int} {w : Nat → Int} (hw : ∀ x, 0 ≤ w x ∧ w x < m) : ∀ k, 0 ≤ leE m w k
  | 0 => Int.le_refl _
  | k + 1 => by
    have ih := le_nn hw k
    have hr := hw k
    unfold leE
    generalize leE m w k = L at ih ⊢
    generalize w k = v at hr ⊢
    split
    · split <;> omega
    · omega
theorem wg_eq {m : Int} {n dg_ : Nat} {mk : Nat → Int} (hm : 2 ≤ m) (hd : dg_ ≤ n) (hn : n ≤ 63) (hs : m ^ (n - dg_) ≤ 65536) : (∀ j, (wgT m n dg_ mk).1 j = cwE m n dg_ mk j) ∧ ∀ j, (wgT m n dg_ mk).2 j = clE_ m n dg_ mk j := by
  obtain ⟨M, rfl⟩ : ∃ M : Nat, m = M := ⟨m.toNat, by omega⟩
  have hM : 0 < M := by omega
  have hws : ws_ M n dg_ = M ^ (n - dg_) := by
    unfold ws_
    rw [sw_def, if_pos hs, ← inat_pow]
    exact Int.toNat_natCast _
  have hz : ∀ (T : Int) x, n ≤ x → rwT (M : Int) dg_ mk (n - dg_) 0 (fun _ => 0) T x = 0 := fun T x hx => rw_zero (by omega) (by omega)
  have hwk : ∀ T, T < M ^ (n - dg_) → (wkE (M : Int) dg_ (n - dg_) mk T).1 = rwT (M : Int) dg_ mk (n - dg_) 0 (fun _ => 0) (T : Nat) := fun T hT => (wk_val hm (by omega) T (by rw [← inat_pow]; omega)).2
  constructor
  · intro j
    have h1 := go_cnt (stp := wgS (M : Int) n) (π := fun s => s.1 j) (B := fun row => decide (wtE row n = j)) (fun row s => by
      show upc s.1 (wtE row n) (s.1 (wtE row n) + 1) j = _
      unfold upc
      by_cases hc : wtE row n = j
      · rw [if_pos hc.symm, if_pos (decide_eq_true hc), hc]
      · rw [if_neg (fun q => hc q.symm), if_neg (by rw [decide_eq_false hc]; decide), Int.add_zero]) (dg_ := dg_) (mk := mk) hM (n - dg_) 0 (fun _ => 0) ((fun _ => 0), (fun _ => 0))
    show (goF (wgS (M : Int) n) M dg_ mk (n - dg_) 0 (fun _ => 0) ((fun _ => 0), (fun _ => 0))).1 j = _
    rw [h1]
    unfold cwE
    rw [hws]
    show (0 : Int) + _ = _
    rw [Int.zero_add]
    congr 1
    refine ctn_congr fun T hT => ?_
    rw [hwk T hT]
    have h2 := wt_cut (hz T) (63 - n)
    rw [show n + (63 - n) = 63 by omega] at h2
    rw [h2]
  · intro j
    have h1 := go_cnt (stp := wgS (M : Int) n) (π := fun s => s.2 j) (B := fun row => decide ((leE M row n).toNat = j)) (fun row s => by
      show upc s.2 (leE M row n).toNat (s.2 (leE M row n).toNat + 1) j = _
      unfold upc
      by_cases hc : (leE M row n).toNat = j
      · rw [if_pos hc.symm, if_pos (decide_eq_true hc), hc]
      · rw [if_neg (fun q => hc q.symm), if_neg (by rw [decide_eq_false hc]; decide), Int.add_zero]) (dg_ := dg_) (mk := mk) hM (n - dg_) 0 (fun _ => 0) ((fun _ => 0), (fun _ => 0))
    show (goF (wgS (M : Int) n) M dg_ mk (n - dg_) 0 (fun _ => 0) ((fun _ => 0), (fun _ => 0))).2 j = _
    rw [h1]
    unfold clE_
    rw [hws]
    show (0 : Int) + _ = _
    rw [Int.zero_add]
    congr 1
    refine ctn_congr fun T hT => ?_
    rw [hwk T hT]
    have h2 := le_cut (m := (M : Int)) (hz T) (63 - n)
    rw [show n + (63 - n) = 63 by omega] at h2
    rw [h2]
    have h3 := le_nn (w := rwT (M : Int) dg_ mk (n - dg_) 0 (fun _ => 0) (T : Nat)) (fun x => rw_rg (dg_ := dg_) (mk := mk) (show (0 : Int) < M by omega) (n - dg_) 0 (fun _ => 0) (T : Nat) (fun _ => ⟨Int.le_refl _, by omega⟩) x) n
    by_cases hc : leE M (rwT (M : Int) dg_ mk (n - dg_) 0 (fun _ => 0) (T : Nat)) n = j
    · rw [decide_eq_true hc, decide_eq_true (by omega)]
    · rw [decide_eq_false hc, decide_eq_false (by omega)]
