/-! the nearest word: both folds find the same one -/
def LTw (n : Nat) (x y : Int × (Nat → Int)) : Prop := x.1 < y.1 ∨ x.1 = y.1 ∧ ahM x.2 y.2 n 0 = true
theorem ah_cut {u v : Nat → Int} {n : Nat} (hz : ∀ x, n ≤ x → u x = v x) : ∀ (k i j : Nat), i + k = n → ahM u v (k + j) i = ahM u v k i
  | 0, i, 0, _ => rfl
  | 0, i, j + 1, h => by
    have e := hz i (by omega)
    have ih := ah_cut hz 0 i j h
    rw [Nat.zero_add] at ih ⊢
    show (if u i ≠ v i then decide (u i < v i) else ahM u v j (i + 1)) = false
    rw [if_neg (fun q => q e)]
    have : ∀ (j i : Nat), n ≤ i → ahM u v j i = false := fun j => by
      induction j with
      | zero => exact fun _ _ => rfl
      | succ j ih =>
        intro i hi
        show (if u i ≠ v i then decide (u i < v i) else ahM u v j (i + 1)) = false
        rw [if_neg (fun q => q (hz i hi))]
        exact ih (i + 1) (by omega)
    exact this j (i + 1) (by omega)
  | k + 1, i, j, h => by
    rw [show k + 1 + j = (k + j) + 1 by omega]
    show (if u i ≠ v i then decide (u i < v i) else ahM u v (k + j) (i + 1)) = if u i ≠ v i then decide (u i < v i) else ahM u v k (i + 1)
    rw [ah_cut hz k (i + 1) j (by omega)]
theorem ah_em {u v : Nat → Int} : ∀ (k i : Nat), ahE u v k i = ahM u v k i
  | 0, _ => rfl
  | k + 1, i => by
    show (if u i = v i then ahE u v k (i + 1) else decide (u i < v i)) = if u i ≠ v i then decide (u i < v i) else ahM u v k (i + 1)
    by_cases h : u i = v i
    · rw [if_pos h, if_neg (fun q => q h), ah_em k]
    · rw [if_neg h, if_pos h]
theorem ah_asy {u v : Nat → Int} : ∀ (k i : Nat), ahM u v k i = true → ahM v u k i = true → False
  | 0, _, h, _ => Bool.noConfusion h
  | k + 1, i, h, h2 => by
    replace h : (if u i ≠ v i then decide (u i < v i) else ahM u v k (i + 1)) = true := h
    replace h2 : (if v i ≠ u i then decide (v i < u i) else ahM v u k (i + 1)) = true := h2
    by_cases e : u i = v i
    · rw [if_neg (fun q => q e)] at h
      rw [if_neg (fun q => q e.symm)] at h2
      exact ah_asy k _ h h2
    · rw [if_pos e] at h
      rw [if_pos (fun q => e q.symm)] at h2
      have a1 := of_decide_eq_true h
      have a2 := of_decide_eq_true h2
      omega
theorem ah_neg {u v w : Nat → Int} : ∀ (k i : Nat), ahM u w k i = true → ahM u v k i = true ∨ ahM v w k i = true
  | 0, _, h => Bool.noConfusion h
  | k + 1, i, h => by
    replace h : (if u i ≠ w i then decide (u i < w i) else ahM u w k (i + 1)) = true := h
    show (if u i ≠ v i then decide (u i < v i) else ahM u v k (i + 1)) = true ∨ (if v i ≠ w i then decide (v i < w i) else ahM v w k (i + 1)) = true
    by_cases e : u i = w i
    · rw [if_neg (fun q => q e)] at h
      by_cases e2 : u i = v i
      · rw [if_neg (fun q => q e2), if_neg (fun q => q (e2.symm.trans e))]
        exact ah_neg k _ h
      · rw [if_pos e2, if_pos (fun q => e2 (e.trans q.symm))]
        rcases (show u i < v i ∨ v i < w i by omega) with h9 | h9
        · exact Or.inl (decide_eq_true h9)
        · exact Or.inr (decide_eq_true h9)
    · rw [if_pos e] at h
      have a1 := of_decide_eq_true h
      by_cases e2 : u i = v i
      · rw [if_pos (show v i ≠ w i from fun q => e (e2.trans q))]
        exact Or.inr (decide_eq_true (by omega))
      · rw [if_pos e2]
        by_cases e3 : u i < v i
        · exact Or.inl (decide_eq_true e3)
        · rw [if_pos (show v i ≠ w i by omega)]
          exact Or.inr (decide_eq_true (by omega))
theorem ah_tri {u v : Nat → Int} : ∀ (k i : Nat), ¬ ahM u v k i = true → ¬ ahM v u k i = true → ∀ j, i ≤ j → j < i + k → u j = v j
  | 0, _, _, _, j, h1, h2 => absurd h2 (by omega)
  | k + 1, i, h, h2, j, h3, h4 => by
    replace h : ¬ (if u i ≠ v i then decide (u i < v i) else ahM u v k (i + 1)) = true := h
    replace h2 : ¬ (if v i ≠ u i then decide (v i < u i) else ahM v u k (i + 1)) = true := h2
    by_cases e : u i = v i
    · rw [if_neg (fun q => q e)] at h
      rw [if_neg (fun q => q e.symm)] at h2
      by_cases hj : j = i
      · subst hj; exact e
      · exact ah_tri k (i + 1) h h2 j (by omega) (by omega)
    · rw [if_pos e] at h
      rw [if_pos (fun q => e q.symm)] at h2
      have a1 : ¬ u i < v i := fun q => h (decide_eq_true q)
      have a2 : ¬ v i < u i := fun q => h2 (decide_eq_true q)
      omega
theorem LTw.asy {n : Nat} {x y : Int × (Nat → Int)} (h : LTw n x y) (h2 : LTw n y x) : False := by
  rcases h with h | ⟨h, h3⟩ <;> rcases h2 with h2 | ⟨h2, h4⟩
  · omega
  · omega
  · omega
  · exact ah_asy _ _ h3 h4
theorem LTw.neg {n : Nat} {x z : Int × (Nat → Int)} (y : Int × (Nat → Int)) (h : LTw n x z) : LTw n x y ∨ LTw n y z := by
  rcases h with h | ⟨h, h3⟩
  · rcases (show x.1 < y.1 ∨ y.1 < z.1 by omega) with h9 | h9
    · exact Or.inl (Or.inl h9)
    · exact Or.inr (Or.inl h9)
  · rcases (show x.1 < y.1 ∨ y.1 < z.1 ∨ (x.1 = y.1 ∧ y.1 = z.1) by omega) with h9 | h9 | ⟨h9, h8⟩
    · exact Or.inl (Or.inl h9)
    · exact Or.inr (Or.inl h9)
    · rcases ah_neg (v := y.2) _ _ h3 with h7 | h7
      · exact Or.inl (Or.inr ⟨h9, h7⟩)
      · exact Or.inr (Or.inr ⟨h8, h7⟩)
theorem LTw.tri {n : Nat} {x y : Int × (Nat → Int)} (h : ¬ LTw n x y) (h2 : ¬ LTw n y x) : x.1 = y.1 ∧ ∀ i, i < n → x.2 i = y.2 i := by
  have a1 : ¬ x.1 < y.1 := fun q => h (Or.inl q)
  have a2 : ¬ y.1 < x.1 := fun q => h2 (Or.inl q)
  have e : x.1 = y.1 := by omega
  exact ⟨e, fun i hi => ah_tri n 0 (fun q => h (Or.inr ⟨e, q⟩)) (fun q => h2 (Or.inr ⟨e.symm, q⟩)) i (by omega) (by omega)⟩
def Bst (n : Nat) (w : Nat → Int × (Nat → Int)) (N : Nat) (s0 s : Int × (Nat → Int)) : Prop := (s = s0 ∨ ∃ T, T < N ∧ s = w T) ∧ (∀ T, T < N → ¬ LTw n (w T) s) ∧ ¬ LTw n s0 s
theorem Bst.same {n : Nat} {w : Nat → Int × (Nat → Int)} {N : Nat} {s0 s s' : Int × (Nat → Int)} (hN : 0 < N) (h0 : ∀ T, T < N → LTw n (w T) s0) (h : Bst n w N s0 s) (h' : Bst n w N s0 s') : s.1 = s'.1 ∧ ∀ i, i < n → s.2 i = s'.2 i := by
  obtain ⟨a1, a2, -⟩ := h
  obtain ⟨b1, b2, -⟩ := h'
  rcases a1 with a1 | ⟨T, hT, a1⟩
  · exact absurd (h0 0 hN) (a1 ▸ a2 0 hN)
  · rcases b1 with b1 | ⟨U, hU, b1⟩
    · exact absurd (h0 0 hN) (b1 ▸ b2 0 hN)
    · exact LTw.tri (a1 ▸ b2 T hT) (b1 ▸ a2 U hU)
/-- one more word at the end -/
theorem Bst.one {n : Nat} {w : Nat → Int × (Nat → Int)} {N : Nat} {s0 s s' : Int × (Nat → Int)} (h : Bst n w N s0 s) (h1 : LTw n (w N) s → s' = w N) (h2 : ¬ LTw n (w N) s → s' = s) : Bst n w (N + 1) s0 s' := by
  obtain ⟨a1, a2, a3⟩ := h
  by_cases hc : LTw n (w N) s
  · have e := h1 hc
    subst e
    refine ⟨Or.inr ⟨N, by omega, rfl⟩, fun T hT q => ?_, fun q => ?_⟩
    · by_cases hT2 : T = N
      · subst hT2; exact q.asy q
      · rcases q.neg s with q2 | q2
        · exact a2 T (by omega) q2
        · exact q2.asy hc
    · rcases q.neg s with q2 | q2
      · exact a3 q2
      · exact q2.asy hc
  · have e := h2 hc
    subst e
    refine ⟨?_, fun T hT q => ?_, a3⟩
    · rcases a1 with a1 | ⟨T, hT, a1⟩
      · exact Or.inl a1
      · exact Or.inr ⟨T, by omega, a1⟩
    · by_cases hT2 : T = N
      · subst hT2; exact hc q
      · exact a2 T (by omega) q
theorem Bst.zero {n : Nat} {w : Nat → Int × (Nat → Int)} {s0 : Int × (Nat → Int)} : Bst n w 0 s0 s0 := ⟨Or.inl rfl, fun T hT => absurd hT (by omega), fun q => q.asy q⟩
abbrev wPr (M n dg_ : Nat) (mk bt : Nat → Int) (k t : Nat) (row : Nat → Int) (T : Nat) : Int × (Nat → Int) := (((pfM (rwT (M : Int) dg_ mk k t row (T : Nat)) bt n : Nat) : Int), rwT (M : Int) dg_ mk k t row (T : Nat))
theorem rw_cast {M k t dg_ : Nat} {mk row : Nat → Int} (T : Nat) : rwT (M : Int) dg_ mk (k + 1) t row (T : Nat) = rwT (M : Int) dg_ mk k (t + 1) (gwM (M : Int) dg_ mk t ((T % M : Nat) : Int) row) ((T / M : Nat) : Int) := by
  show rwT (M : Int) dg_ mk k (t + 1) (gwM (M : Int) dg_ mk t ((T : Int) % (M : Int)) row) ((T : Int) / (M : Int)) = _
  rw [Int.natCast_emod, Int.natCast_ediv]
theorem go_bst {M n dg_ : Nat} {mk bt : Nat → Int} (hM : 0 < M) : ∀ (k t : Nat) (row : Nat → Int) (s : Int × (Nat → Int)), Bst n (wPr M n dg_ mk bt k t row) (M ^ k) s (goF (lkS n bt) (M : Int) dg_ mk k t row s)
  | 0, t, row, s => by
    refine Bst.one (s := s) Bst.zero (fun hc => ?_) (fun hc => ?_)
    · exact if_pos hc
    · exact if_neg hc
  | k + 1, t, row, s => by
    have h1 := fo_ind (S := Int × (Nat → Int)) (g := fun d s => goF (lkS n bt) (M : Int) dg_ mk k (t + 1) (gwM (M : Int) dg_ mk t d row) s) (s := s) (P := fun d s' => d ≤ M →
      (s' = s ∨ ∃ T, T < M ^ (k + 1) ∧ s' = wPr M n dg_ mk bt (k + 1) t row T) ∧ (∀ T, T < M ^ (k + 1) → T % M < d → ¬ LTw n (wPr M n dg_ mk bt (k + 1) t row T) s') ∧ ¬ LTw n s s') (fun _ => ⟨Or.inl rfl, fun T _ hT => absurd hT (by omega), fun q => q.asy q⟩) (fun d s' hs' hd => by
      obtain ⟨a1, a2, a3⟩ := hs' (by omega)
      obtain ⟨b1, b2, b3⟩ := go_bst hM (dg_ := dg_) (mk := mk) k (t + 1) (gwM (M : Int) dg_ mk t (d : Nat) row) s'
      show (goF (lkS n bt) (M : Int) dg_ mk k (t + 1) (gwM (M : Int) dg_ mk t d row) s' = s ∨ _) ∧ (∀ T, T < M ^ (k + 1) → T % M < d + 1 → ¬ LTw n (wPr M n dg_ mk bt (k + 1) t row T) (goF (lkS n bt) (M : Int) dg_ mk k (t + 1) (gwM (M : Int) dg_ mk t d row) s')) ∧ ¬ LTw n s (goF (lkS n bt) (M : Int) dg_ mk k (t + 1) (gwM (M : Int) dg_ mk t d row) s')
      generalize goF (lkS n bt) (M : Int) dg_ mk k (t + 1) (gwM (M : Int) dg_ mk t d row) s' = s2 at b1 b2 b3
      refine ⟨?_, fun T hT hTd q => ?_, fun q => ?_⟩
      · rcases b1 with b1 | ⟨T, hT, b1⟩
        · rw [b1]; exact a1
        · refine Or.inr ⟨M * T + d, ?_, ?_⟩
          · rw [Nat.pow_succ, Nat.mul_comm (M ^ k)]
            have h9 : M * (T + 1) ≤ M * M ^ k := Nat.mul_le_mul_left _ hT
            rw [Nat.mul_add, Nat.mul_one] at h9
            omega
          · rw [b1]
            show _ = (((pfM (rwT (M : Int) dg_ mk (k + 1) t row ((M * T + d : Nat) : Int)) bt n : Nat) : Int), rwT (M : Int) dg_ mk (k + 1) t row ((M * T + d : Nat) : Int))
            have e1 : (M * T + d) % M = d := by rw [Nat.mul_add_mod, Nat.mod_eq_of_lt (by omega)]
            have e2 : (M * T + d) / M = T := by rw [Nat.mul_add_div hM, Nat.div_eq_of_lt (by omega), Nat.add_zero]
            rw [rw_cast, e1, e2]
      · by_cases hc : T % M = d
        · have h9 := b2 (T / M) (by
            rw [Nat.pow_succ] at hT
            exact Nat.div_lt_of_lt_mul (by rw [Nat.mul_comm]; exact hT))
          refine h9 ?_
          have e : wPr M n dg_ mk bt (k + 1) t row T = wPr M n dg_ mk bt k (t + 1) (gwM (M : Int) dg_ mk t (d : Nat) row) (T / M) := by
            show (((pfM (rwT (M : Int) dg_ mk (k + 1) t row (T : Nat)) bt n : Nat) : Int), rwT (M : Int) dg_ mk (k + 1) t row (T : Nat)) = _
            rw [rw_cast, hc]
          rw [← e]
          exact q
        · rcases q.neg s' with q | q
          · exact a2 T hT (by omega) q
          · exact b3 q
      · rcases q.neg s' with q | q
        · exact a3 q
        · exact b3 q) M
    have e1 : goF (lkS n bt) (M : Int) dg_ mk (k + 1) t row s = foF (fun d s => goF (lkS n bt) (M : Int) dg_ mk k (t + 1) (gwM (M : Int) dg_ mk t d row) s) M s := by
      show foF _ (M : Int).toNat s = _
      rw [Int.toNat_natCast]
    rw [e1]
    obtain ⟨a1, a2, a3⟩ := h1 (Nat.le_refl _)
    exact ⟨a1, fun T hT => a2 T hT (Nat.mod_lt _ hM), a3⟩
theorem po_cut {w bt : Nat → Int} {n : Nat} (hz : ∀ x, n ≤ x → w x = 0) : ∀ k, poE (nbE n bt) w (n + k) = pfM w bt n
  | 0 => ctn_congr fun i hi => by rw [show nbE n bt i = bt i from if_pos hi]
  | k + 1 => by
    have ih := po_cut (bt := bt) hz k
    unfold poE at ih ⊢
    rw [← Nat.add_assoc, ctn_no (by
      rw [hz _ (by omega), show nbE n bt (n + k) = 0 from if_neg (by omega)]; decide), ih]
theorem sk_bst {M n dg_ : Nat} {mk bt : Nat → Int} (hm : 2 ≤ (M : Int)) (hd : dg_ ≤ n) (hn : n ≤ 63) : ∀ N, N ≤ M ^ (n - dg_) → (∀ x, n ≤ x → (skE (M : Int) dg_ (n - dg_) mk (nbE n bt) (fun _ => 0) N).2 x = 0) ∧ Bst n (wPr M n dg_ mk bt (n - dg_) 0 (fun _ => 0)) N (64, fun _ => 0) (skE (M : Int) dg_ (n - dg_) mk (nbE n bt) (fun _ => 0) N)
  | 0, _ => ⟨fun _ _ => rfl, Bst.zero⟩
  | N + 1, hN => by
    obtain ⟨h1, h2⟩ := sk_bst hm hd hn N (by omega)
    have hw : (wkE (M : Int) dg_ (n - dg_) mk N).1 = rwT (M : Int) dg_ mk (n - dg_) 0 (fun _ => 0) (N : Nat) := (wk_val hm (by omega) N (by rw [← inat_pow]; omega)).2
    have hz : ∀ x, n ≤ x → rwT (M : Int) dg_ mk (n - dg_) 0 (fun _ => 0) (N : Nat) x = 0 := fun x hx => rw_zero (by omega) (by omega)
    have e1 : skE (M : Int) dg_ (n - dg_) mk (nbE n bt) (fun _ => 0) (N + 1) = if (wPr M n dg_ mk bt (n - dg_) 0 (fun _ => 0) N).1 < (skE (M : Int) dg_ (n - dg_) mk (nbE n bt) (fun _ => 0) N).1 ∨ (wPr M n dg_ mk bt (n - dg_) 0 (fun _ => 0) N).1 = (skE (M : Int) dg_ (n - dg_) mk (nbE n bt) (fun _ => 0) N).1 ∧ ahM (wPr M n dg_ mk bt (n - dg_) 0 (fun _ => 0) N).2 (skE (M : Int) dg_ (n - dg_) mk (nbE n bt) (fun _ => 0) N).2 n 0 = true then wPr M n dg_ mk bt (n - dg_) 0 (fun _ => 0) N else skE (M : Int) dg_ (n - dg_) mk (nbE n bt) (fun _ => 0) N := by
      show (if ((poE (nbE n bt) (wkE (M : Int) dg_ (n - dg_) mk N).1 63 : Nat) : Int) < (skE (M : Int) dg_ (n - dg_) mk (nbE n bt) (fun _ => 0) N).1 ∨ ((poE (nbE n bt) (wkE (M : Int) dg_ (n - dg_) mk N).1 63 : Nat) : Int) = (skE (M : Int) dg_ (n - dg_) mk (nbE n bt) (fun _ => 0) N).1 ∧ ahE (wkE (M : Int) dg_ (n - dg_) mk N).1 (skE (M : Int) dg_ (n - dg_) mk (nbE n bt) (fun _ => 0) N).2 63 0 = true then (((poE (nbE n bt) (wkE (M : Int) dg_ (n - dg_) mk N).1 63 : Nat) : Int), (wkE (M : Int) dg_ (n - dg_) mk N).1) else skE (M : Int) dg_ (n - dg_) mk (nbE n bt) (fun _ => 0) N) = _
      have e2 := po_cut (bt := bt) hz (63 - n)
      have e3 := ah_cut (u := rwT (M : Int) dg_ mk (n - dg_) 0 (fun _ => 0) (N : Nat)) (v := (skE (M : Int) dg_ (n - dg_) mk (nbE n bt) (fun _ => 0) N).2) (n := n) (fun x hx => by rw [hz x hx, h1 x hx]) n 0 (63 - n) (by omega)
      rw [show n + (63 - n) = 63 by omega] at e2 e3
      rw [hw, e2, ah_em, e3]
    refine ⟨fun x hx => ?_, Bst.one h2 (fun hc => ?_) (fun hc => ?_)⟩
    · rw [e1]
      split
      · exact hz x hx
      · exact h1 x hx
    · exact e1.trans (if_pos hc)
    · exact e1.trans (if_neg hc)
theorem sk_lk {m : Int} {n dg_ : Nat} {mk bt : Nat → Int} (hm : 2 ≤ m) (hd : dg_ ≤ n) (hn : n ≤ 63) (hs : m ^ (n - dg_) ≤ 65536) : (skE m dg_ (n - dg_) mk (nbE n bt) (fun _ => 0) (ws_ m n dg_)).1 = (lkT m n dg_ mk bt).1 ∧ ∀ i, i < n → (skE m dg_ (n - dg_) mk (nbE n bt) (fun _ => 0) (ws_ m n dg_)).2 i = (lkT m n dg_ mk bt).2 i := by
  obtain ⟨M, rfl⟩ : ∃ M : Nat, m = M := ⟨m.toNat, by omega⟩
  have hM : 0 < M := by omega
  have hws : ws_ M n dg_ = M ^ (n - dg_) := by
    unfold ws_
    rw [sw_def, if_pos hs, ← inat_pow]
    exact Int.toNat_natCast _
  rw [hws]
  refine Bst.same (Nat.pow_pos hM) (fun T _ => Or.inl ?_) (sk_bst hm hd hn _ (Nat.le_refl _)).2 (go_bst hM (n - dg_) 0 (fun _ => 0) (64, fun _ => 0))
  have : pfM (rwT (M : Int) dg_ mk (n - dg_) 0 (fun _ => 0) (T : Nat)) bt n ≤ n := ctn_le _ n
  show ((pfM (rwT (M : Int) dg_ mk (n - dg_) 0 (fun _ => 0) (T : Nat)) bt n : Nat) : Int) < 64
  omega
theorem ls_lt {c d : Nat → Int} (h : ∀ j, c j = d j) : ∀ (k w : Nat), lsE c k w = ltM d k w
  | 0, _ => rfl
  | k + 1, w => by
    show (if 0 < c w then (w : Int) else lsE c k (w + 1)) = if 0 < d w then (w : Int) else ltM d k (w + 1)
    rw [h w, ls_lt h k]
theorem lt_more {d : Nat → Int} {n : Nat} (hz : ∀ x, n ≤ x → d x = 0) : ∀ (k w j : Nat), w + k = n → ltM d (k + j) w = ltM d k w
  | 0, w, 0, _ => rfl
  | 0, w, j + 1, h => by
    have : ∀ (j w : Nat), n ≤ w → ltM d j w = -1 := fun j => by
      induction j with
      | zero => exact fun _ _ => rfl
      | succ j ih =>
        intro w hw
        show (if 0 < d w then (w : Int) else ltM d j (w + 1)) = -1
        rw [hz w hw, if_neg (by decide)]
        exact ih _ (by omega)
    rw [Nat.zero_add, this (j + 1) w (by omega)]
    rfl
  | k + 1, w, j, h => by
    rw [show k + 1 + j = (k + j) + 1 by omega]
    show (if 0 < d w then (w : Int) else ltM d (k + j) (w + 1)) = if 0 < d w then (w : Int) else ltM d k (w + 1)
    rw [lt_more hz k (w + 1) j (by omega)]
theorem le_7200 {p e r q n : Nat} {m : Int} (hp2 : 2 ≤ p) (hp7 : p ≤ 7) (he4 : e ≤ 4) (hr1 : 1 ≤ r) (hm2 : 2 ≤ m) (hme : m = (p : Int) ^ e) (hqe : q = p ^ r) (hN4 : m ^ r ≤ 4096) (hn1 : 1 ≤ n) (hn63 : n ≤ 63) (hnq : (q - 1) % n = 0) : (n : Int) * (m / 2) ≤ 7200 := by
  by_cases hr : r = 1
  · subst hr
    have hq : q = p := by rw [hqe, Nat.pow_one]
    have hnp : n ≤ 6 := by
      have := Nat.le_of_dvd (show 0 < q - 1 by omega) (Nat.dvd_of_mod_eq_zero hnq)
      omega
    have hm7 : m ≤ 2401 := by
      rw [hme]
      have h1 : (p : Int) ^ e ≤ 7 ^ e := by
        have : p ^ e ≤ 7 ^ e := Nat.pow_le_pow_left hp7 e
        have h2 : ((p ^ e : Nat) : Int) ≤ ((7 ^ e : Nat) : Int) := Int.ofNat_le.mpr this
        rw [Int.natCast_pow, Int.natCast_pow] at h2
        exact h2
      have h2 : (7 : Int) ^ e ≤ 7 ^ 4 := ipow_mono (by decide) he4
      exact Int.le_trans h1 h2
    have h3 : (n : Int) * (m / 2) ≤ 6 * 1200 := Int.mul_le_mul (by omega) (by omega) (by omega) (by decide)
    omega
  · have h2 : m * m ≤ 4096 := by
      have h3 : m ^ 2 ≤ m ^ r := ipow_mono (by omega) (by omega)
      rw [Int.pow_succ, Int.pow_succ, Int.pow_zero, Int.one_mul] at h3
      omega
    have h64 : m ≤ 64 := by
      rcases (show 64 < m ∨ m ≤ 64 by omega) with h | h
      · have := Int.mul_le_mul (show (65 : Int) ≤ m by omega) (show (65 : Int) ≤ m by omega) (by decide) (by omega)
        omega
      · exact h
    have h3 : (n : Int) * (m / 2) ≤ 63 * 32 := Int.mul_le_mul (by omega) (by omega) (by omega) (by decide)
    omega
theorem cl_top {m : Int} {n dg_ : Nat} {mk : Nat → Int} (hm : 2 ≤ m) (hd : dg_ ≤ n) (hn : n ≤ 63) (hs : m ^ (n - dg_) ≤ 65536) (hc : (n : Int) * (m / 2) ≤ 7200) {j : Nat} (hj : 7201 ≤ j) : clE_ m n dg_ mk j = 0 := by
  obtain ⟨M, rfl⟩ : ∃ M : Nat, m = M := ⟨m.toNat, by omega⟩
  have hws : ws_ M n dg_ = M ^ (n - dg_) := by
    unfold ws_
    rw [sw_def, if_pos hs, ← inat_pow]
    exact Int.toNat_natCast _
  unfold clE_
  rw [hws, ctn_congr (Q := fun _ => false) (fun T hT => by
    have hw : (wkE (M : Int) dg_ (n - dg_) mk T).1 = rwT (M : Int) dg_ mk (n - dg_) 0 (fun _ => 0) (T : Nat) := (wk_val hm (by omega) T (by rw [← inat_pow]; omega)).2
    have hz : ∀ x, n ≤ x → rwT (M : Int) dg_ mk (n - dg_) 0 (fun _ => 0) (T : Nat) x = 0 := fun x hx => rw_zero (by omega) (by omega)
    have h2 := le_cut (m := (M : Int)) hz (63 - n)
    rw [show n + (63 - n) = 63 by omega] at h2
    have h3 := le_half (m := (M : Int)) (nu := rwT (M : Int) dg_ mk (n - dg_) 0 (fun _ => 0) (T : Nat)) (by omega) n
    rw [hw, h2]
    exact decide_eq_false (by omega))]
  have : ∀ N, ctn (fun _ => false) N = 0 := fun N => by
    induction N with
    | zero => rfl
    | succ N ih => rw [ctn_no (by decide), ih]
  rw [this]
  rfl
theorem sw_zero {m : Int} {k : Nat} (hm : 2 ≤ m) : swE m k = 0 ↔ ¬ m ^ k ≤ 65536 := by
  rw [sw_def]
  have h : 0 < m ^ k := Int.pow_pos (by omega)
  split
  · next h9 => exact ⟨fun q => by omega, fun q => absurd h9 q⟩
  · next h9 => exact ⟨fun _ => h9, fun _ => rfl⟩
theorem RV.m2 {p e r : Nat} (hv : RV p e r) : 2 ≤ (p : Int) ^ e := by
  obtain ⟨⟨h1, h2, h3, h4, h5⟩, -⟩ := hv
  have h6 : (p : Int) ^ 1 ≤ (p : Int) ^ e := ipow_mono (by omega) (by omega)
  rw [Int.pow_succ, Int.pow_zero, Int.one_mul] at h6
  omega
theorem RV.cap {p e r : Nat} (hv : RV p e r) {n : Nat} (hn1 : 1 ≤ n) (hn63 : n ≤ 63) (hnq : (p ^ r - 1) % n = 0) : (n : Int) * ((p : Int) ^ e / 2) ≤ 7200 := by
  have hm2 := hv.m2
  have hN := hv.N
  obtain ⟨⟨h1, h2, h3, h4, h5⟩, h6⟩ := hv
  exact le_7200 (p := p) (e := e) (r := r) (q := p ^ r) (by omega) (by omega) (by omega) (by omega) hm2 rfl rfl (by rw [← hN, Int.natCast_pow]; exact h6) hn1 hn63 hnq
theorem CD.dg {p e r : Nat} {n : Nat} {set : Int} {dg_ : Nat} {mk ck : Nat → Int} (hc : CD p e r n set dg_ mk ck) : dg_ ≤ n := by
  have h1 := cy_le (m := (p : Int) ^ e) (r := r) (q := p ^ r) (n := n) (f := rF p e r) (g := rG p e r) (c := (paE p n n).1) (set := set) n
  rw [hc.2] at h1
  exact h1
theorem wgh_of {p e r : Nat} (hv : RV p e r) : Q_wgh p e r := by
  intro n set dg_ mk ck hc lee v
  have hd := CD.dg hc
  have hm2 := hv.m2
  have hcap := hv.cap hc.1.1 hc.1.2.1 hc.1.2.2.1
  have hsw := sw_zero (m := (p : Int) ^ e) (k := n - dg_) hm2
  unfold wgM
  by_cases hs : ((p : Int) ^ e) ^ (n - dg_) ≤ 65536
  · have hs0 : ¬ swE ((p : Int) ^ e) (n - dg_) = 0 := fun q => hsw.mp q hs
    by_cases hv0 : v < 0
    · rw [if_pos (Or.inr hv0), if_neg (fun q => by omega)]
    · rw [if_neg (fun q => q.elim hs0 hv0), if_pos (show ((p : Int) ^ e) ^ (n - dg_) ≤ 65536 ∧ 0 ≤ v from ⟨hs, by omega⟩)]
      obtain ⟨g1, g2⟩ := wg_eq (mk := mk) hm2 hd hc.1.2.1 hs
      by_cases hl : lee ≠ 0
      · rw [if_pos hl, if_pos hl, g2]
        by_cases h1 : v < 7201
        · rw [if_pos h1, if_pos (show v < 8192 by omega)]
        · rw [if_neg h1, cl_top hm2 hd hc.1.2.1 hs hcap (by omega)]
          split <;> rfl
      · rw [if_neg hl, if_neg hl, g1]
  · rw [if_pos (Or.inl (hsw.mpr hs)), if_neg (show ¬ (((p : Int) ^ e) ^ (n - dg_) ≤ 65536 ∧ 0 ≤ v) from fun q => hs q.1)]
theorem lgt_of {p e r : Nat} (hv : RV p e r) : Q_lgt p e r := by
  intro n set dg_ mk ck hc lee
  have hd := CD.dg hc
  have hm2 := hv.m2
  have hcap := hv.cap hc.1.1 hc.1.2.1 hc.1.2.2.1
  have hsw := sw_zero (m := (p : Int) ^ e) (k := n - dg_) hm2
  unfold ltR
  by_cases hs : ((p : Int) ^ e) ^ (n - dg_) ≤ 65536
  · rw [if_neg (fun q => hsw.mp q hs), if_pos hs]
    obtain ⟨g1, g2⟩ := wg_eq (mk := mk) hm2 hd hc.1.2.1 hs
    by_cases hl : lee ≠ 0
    · rw [if_pos hl, if_pos hl, ls_lt (fun j => (g2 j).symm)]
      exact (lt_more (n := 7201) (fun x hx => by rw [g2, cl_top hm2 hd hc.1.2.1 hs hcap hx]) 7200 1 991 (by decide)).symm
    · rw [if_neg hl, if_neg hl, ls_lt (fun j => (g1 j).symm)]
  · rw [if_pos (hsw.mpr hs), if_neg hs]
theorem nr_of {p e r : Nat} (hv : RV p e r) : Q_nr p e r := fun _ _ _ _ _ hc hs _ _ => sk_lk hv.m2 (CD.dg hc) hc.1.2.1 hs
