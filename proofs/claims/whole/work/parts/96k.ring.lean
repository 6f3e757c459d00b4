/-! the answers of the ring: class and model -/
section RingQ
variable {p e r : Nat}
abbrev RKr (p e r : Nat) : Prop := RK p e r ((p : Int) ^ e) (p ^ r) (rF p e r) (rG p e r)
theorem RKr.N (h : RKr p e r) : ((p ^ (e * r) : Nat) : Int) = ((p : Int) ^ e) ^ r := by rw [← Int.pow_mul, inat_pow]
theorem q_cnt_of (h : RKr p e r) (hp : prm p) : Q_cnt p e r := by
  intro len n dg what hdg
  have hq2 := h.q2
  have e6 : ((p ^ (e * r) : Nat) : Int) - ((p ^ (e * r) : Nat) : Int) / ((p ^ r : Nat) : Int) = ((umE (p ^ (e * r)) (p ^ r) : Nat) : Int) := by
    unfold umE
    have := Nat.div_le_self (p ^ (e * r)) (p ^ r)
    rw [← Int.natCast_ediv]
    omega
  have e9 : (((n - dg : Nat) : Int)) = (n : Int) - dg := by omega
  have e12 : (((p ^ r : Nat) : Int) - 1) * ((coE p e r (p ^ (e * r)) ((p : Int) ^ e) (rF p e r) (rL p e r) : Nat) : Int) = ((exM p r ((p : Int) ^ e) (rF p e r) (p ^ (e * r)) (p ^ (e * r) - 1) : Nat) : Int) := by
    rw [← h.exp hp h.N, Int.natCast_mul]
    congr 1
    omega
  unfold cntE cntM
  rw [e6, e9, e12]
theorem q_elm_of (h : RKr p e r) : Q_elm p e r := by
  intro how x y
  have hN := h.N
  unfold elmE elmM
  by_cases hxy : (0 ≤ x ∧ x < ((p ^ (e * r) : Nat) : Int)) ∧ 0 ≤ y ∧ y < ((p ^ (e * r) : Nat) : Int)
  · rw [if_pos hxy]
    have hy : El ((p : Int) ^ e) r y := ⟨hxy.2.1, by rw [← hN]; exact hxy.2.2⟩
    by_cases h0 : how = 0
    · have c : (0 ≤ how ∧ how ≤ 3) ∧ (0 ≤ x ∧ x ≤ ((p ^ (e * r) : Nat) : Int) - 1) ∧ (0 ≤ y ∧ y ≤ ((p ^ (e * r) : Nat) : Int) - 1) ∧ (how < 3 ∨ low p r ((p : Int) ^ e) y ≠ 0) := ⟨by omega, by omega, by omega, Or.inl (by omega)⟩
      rw [if_pos c, if_pos h0, if_pos h0]
    by_cases h1 : how = 1
    · have c : (0 ≤ how ∧ how ≤ 3) ∧ (0 ≤ x ∧ x ≤ ((p ^ (e * r) : Nat) : Int) - 1) ∧ (0 ≤ y ∧ y ≤ ((p ^ (e * r) : Nat) : Int) - 1) ∧ (how < 3 ∨ low p r ((p : Int) ^ e) y ≠ 0) := ⟨by omega, by omega, by omega, Or.inl (by omega)⟩
      rw [if_pos c, if_neg h0, if_neg h0, if_pos h1, if_pos h1]
    by_cases h2 : how = 2
    · have c : (0 ≤ how ∧ how ≤ 3) ∧ (0 ≤ x ∧ x ≤ ((p ^ (e * r) : Nat) : Int) - 1) ∧ (0 ≤ y ∧ y ≤ ((p ^ (e * r) : Nat) : Int) - 1) ∧ (how < 3 ∨ low p r ((p : Int) ^ e) y ≠ 0) := ⟨by omega, by omega, by omega, Or.inl (by omega)⟩
      rw [if_pos c, if_neg h0, if_neg h0, if_neg h1, if_neg h1, if_pos h2, if_pos h2]
    by_cases h3 : how = 3
    · by_cases hu : low p r ((p : Int) ^ e) y = 0
      · have c : ¬ ((0 ≤ how ∧ how ≤ 3) ∧ (0 ≤ x ∧ x ≤ ((p ^ (e * r) : Nat) : Int) - 1) ∧ (0 ≤ y ∧ y ≤ ((p ^ (e * r) : Nat) : Int) - 1) ∧ (how < 3 ∨ low p r ((p : Int) ^ e) y ≠ 0)) := fun k => by
          rcases k.2.2.2 with k | k
          · omega
          · exact k hu
        rw [if_neg c, if_neg h0, if_neg h1, if_neg h2, if_pos h3, if_pos (h.rl_no.mpr hu)]
      · have c : (0 ≤ how ∧ how ≤ 3) ∧ (0 ≤ x ∧ x ≤ ((p ^ (e * r) : Nat) : Int) - 1) ∧ (0 ≤ y ∧ y ≤ ((p ^ (e * r) : Nat) : Int) - 1) ∧ (how < 3 ∨ low p r ((p : Int) ^ e) y ≠ 0) := ⟨by omega, by omega, by omega, Or.inr hu⟩
        rw [if_pos c, if_neg h0, if_neg h0, if_neg h1, if_neg h1, if_neg h2, if_neg h2, if_pos h3, if_neg (fun k => hu (h.rl_no.mp k)), h.iv_eq hy hu]
    · have c : ¬ ((0 ≤ how ∧ how ≤ 3) ∧ (0 ≤ x ∧ x ≤ ((p ^ (e * r) : Nat) : Int) - 1) ∧ (0 ≤ y ∧ y ≤ ((p ^ (e * r) : Nat) : Int) - 1) ∧ (how < 3 ∨ low p r ((p : Int) ^ e) y ≠ 0)) := fun k => by omega
      rw [if_neg c, if_neg h0, if_neg h1, if_neg h2, if_neg h3]
  · have c : ¬ ((0 ≤ how ∧ how ≤ 3) ∧ (0 ≤ x ∧ x ≤ ((p ^ (e * r) : Nat) : Int) - 1) ∧ (0 ≤ y ∧ y ≤ ((p ^ (e * r) : Nat) : Int) - 1) ∧ (how < 3 ∨ low p r ((p : Int) ^ e) y ≠ 0)) := fun k => hxy ⟨⟨k.2.1.1, by omega⟩, k.2.2.1.1, by omega⟩
    rw [if_neg hxy, if_neg c]
theorem q_of_of (h : RKr p e r) (hp : prm p) : Q_of p e r := by
  intro x what
  have hN := h.N
  have hr1 := h.2.2.1
  have hm := h.m2
  unfold ofR ofM
  by_cases hx0 : 0 ≤ x ∧ x < ((p ^ (e * r) : Nat) : Int)
  · rw [if_pos hx0]
    have hx : El ((p : Int) ^ e) r x := ⟨hx0.1, by rw [← hN]; exact hx0.2⟩
    by_cases hw : 0 ≤ what ∧ what ≤ 8
    · have c : (0 ≤ x ∧ x ≤ ((p ^ (e * r) : Nat) : Int) - 1) ∧ 0 ≤ what ∧ what ≤ 8 := ⟨by omega, hw⟩
      rw [if_pos c]
      by_cases h0 : what = 0
      · rw [if_pos h0, if_pos h0, h.lv x e 0 (fun j _ => by rw [Int.pow_zero, Int.emod_one])]
      rw [if_neg h0, if_neg h0]
      by_cases h1 : what = 1
      · rw [if_pos h1, if_pos h1, h.ro_tc]
      rw [if_neg h1, if_neg h1]
      by_cases h2 : what = 2
      · rw [if_pos h2, if_pos h2, h.mv_eq hx]
      rw [if_neg h2, if_neg h2]
      by_cases h3 : what = 3
      · rw [if_pos h3, if_pos h3, h.tr_eq hx]
      rw [if_neg h3, if_neg h3]
      by_cases h4 : what = 4
      · rw [if_pos h4, if_pos h4, h.nm_eq hx]
      rw [if_neg h4, if_neg h4]
      by_cases h5 : what = 5
      · rw [if_pos h5, if_pos h5, h.wi hx (r - 1) 1 (by omega) (by omega)]
      rw [if_neg h5, if_neg h5]
      by_cases hu : low p r ((p : Int) ^ e) x = 0
      · have hrl := h.rl_no.mpr hu
        rw [if_pos hu, if_pos hrl, if_pos hrl, if_pos hrl]
        by_cases h6 : what = 6
        · rw [if_pos h6]
        rw [if_neg h6]
        by_cases h7 : what = 7
        · rw [if_pos h7]
        rw [if_neg h7, if_pos (by omega)]
      · have hrl : ¬ rl p r ((p : Int) ^ e) (rL p e r) x = -1 := fun k => hu (h.rl_no.mp k)
        rw [if_neg hu, if_neg hrl, if_neg hrl, if_neg hrl]
        unfold ofuM
        by_cases h6 : what = 6
        · rw [if_pos h6, if_pos h6]
          obtain ⟨k, hk, k1, k2, -⟩ := h.split hx hu
          have hrt := h.ro_tc x
          unfold obl
          rw [k2] at hrt ⊢
          dsimp only
          rw [← hrt, h.iv_eq (h.el k) (h.lpos k)]
        rw [if_neg h6, if_neg h6]
        by_cases h7 : what = 7
        · rw [if_pos h7, if_pos h7, h.od hp hx hu]
        rw [if_neg h7, if_neg h7, if_pos (by omega), h.iv_eq hx hu]
    · have c : ¬ ((0 ≤ x ∧ x ≤ ((p ^ (e * r) : Nat) : Int) - 1) ∧ 0 ≤ what ∧ what ≤ 8) := fun k => hw k.2
      rw [if_neg c, if_neg (by omega), if_neg (by omega), if_neg (by omega), if_neg (by omega), if_neg (by omega), if_neg (by omega), if_neg (by omega), if_neg (by omega), if_neg (by omega)]
  · have c : ¬ ((0 ≤ x ∧ x ≤ ((p ^ (e * r) : Nat) : Int) - 1) ∧ 0 ≤ what ∧ what ≤ 8) := fun k => hx0 ⟨k.1.1, by omega⟩
    rw [if_neg hx0, if_neg c]
theorem q_dig_of (h : RKr p e r) : Q_dig p e r := by
  intro x i _ _
  have e1 := h.dl_eq x i
  show rl p r ((p : Int) ^ e) (rL p e r) (dlE p r ((p : Int) ^ e) (rF p e r) (rG p e r) (rL p e r) x i) = _
  rw [e1]
  rfl
theorem q_rts_of (h : RKr p e r) : Q_rts p e r := by
  intro x k hx hk y hy
  have hq2 := h.q2
  have hp2 := h.1
  have hm := h.m2
  have hye := h.el_nat hy
  by_cases hc : pw ((p : Int) ^ e) r (rF p e r) y k = x
  · rw [decide_eq_true hc, Bool.and_true]
    refine decide_eq_true ?_
    unfold mrE
    refine if_pos ?_
    by_cases hu : low p r ((p : Int) ^ e) y = 0
    · rw [if_pos (h.rl_no.mpr hu)]
      refine h.rl_no.mpr ?_
      rw [← hc, h.low_pw hye (el_zero (by omega)) (hu.trans (low_zero (by omega)).symm), zero_pw hm hk, low_zero (by omega)]
    · obtain ⟨t, ht, t1, t2⟩ := h.rl_k hu
      have e1 : ((p ^ r : Nat) : Int) - 1 = ((p ^ r - 1 : Nat) : Int) := by omega
      rw [if_neg (by rw [t1]; omega), if_pos (by omega), t1, e1, ← Int.natCast_mul]
      unfold rl
      rw [← hc, h.low_pw hye (h.el t) t2.symm, ← pw_mul hm h.2.2.1 h.2.2.2.2.2.1, h.mod]
      exact h.lgk (Nat.mod_lt _ (by omega))
  · rw [decide_eq_false hc, Bool.and_false]
theorem q_wi_of (h : RKr p e r) : Q_wi p e r := by
  intro k hk hr y hy
  have hr1 := h.2.2.1
  have hle : k ≤ r := Nat.le_of_dvd (by omega) (Nat.dvd_of_mod_eq_zero hr)
  have hel := h.el_nat hy
  have e1 := h.mvn_eq hel (k % r)
  show _ = decide (mvMn p e r (p ^ r) ((p : Int) ^ e) (rF p e r) (rG p e r) (rtR p e r (p ^ r) ((p : Int) ^ e) (rF p e r)) (lgR p r ((p : Int) ^ e) (p ^ r) (rF p e r) (rG p e r)) y (k % r) = y)
  rw [e1]
  rcases Nat.lt_or_ge k r with q9 | q9
  · rw [Nat.mod_eq_of_lt q9]
  · obtain rfl : k = r := by omega
    rw [Nat.mod_self, h.mvn_r hel]
    rfl
theorem q_un_of (h : RKr p e r) : Q_un p e r := by
  intro k hk _
  rw [← h.many_un hk, Int.natCast_mul]
theorem wd_pl {p r : Nat} {m : Int} {f : Nat → Int} {g x : Int} {i : Nat} {k : Nat} (hm : 0 < m) : wdE p r m f g x i (k : Int) = pl m r x (sc m r ((p : Int) ^ i) (pw m r f g k)) := by
  unfold wdE
  rw [if_neg (by omega)]
  refine un_congr fun j hj => ?_
  rw [dg_sc hm hj, Int.add_emod_emod]
  rfl
theorem q_wh_of (h : RKr p e r) (he4 : e ≤ 4) : Q_wh p e r := by
  intro d0 d1 d2 d3
  have hm := h.m2
  have hq2 := h.q2
  have hC : ((d0 = -1 ∨ 0 < (e : Int) ∧ 0 ≤ d0 ∧ d0 ≤ ((p ^ r : Nat) : Int) - 2) ∧ (d1 = -1 ∨ 1 < (e : Int) ∧ 0 ≤ d1 ∧ d1 ≤ ((p ^ r : Nat) : Int) - 2) ∧ (d2 = -1 ∨ 2 < (e : Int) ∧ 0 ≤ d2 ∧ d2 ≤ ((p ^ r : Nat) : Int) - 2) ∧ (d3 = -1 ∨ 3 < (e : Int) ∧ 0 ≤ d3 ∧ d3 ≤ ((p ^ r : Nat) : Int) - 2)) ↔ whB e (p ^ r) (whD d0 d1 d2 d3) 4 = true := by
    unfold whB
    rw [decide_eq_true_eq]
    have one : ∀ (d : Int) (i : Nat), (-1 ≤ d ∧ d ≤ (if i < e then ((p ^ r : Nat) : Int) - 2 else -1)) ↔ (d = -1 ∨ (i : Int) < (e : Int) ∧ 0 ≤ d ∧ d ≤ ((p ^ r : Nat) : Int) - 2) := fun d i => by
      split <;> omega
    constructor
    · rintro ⟨a, b, c, d⟩ i hi
      have hi4 : i = 0 ∨ i = 1 ∨ i = 2 ∨ i = 3 := by omega
      rcases hi4 with rfl | rfl | rfl | rfl
      · exact (one d0 0).mpr a
      · exact (one d1 1).mpr b
      · exact (one d2 2).mpr c
      · exact (one d3 3).mpr d
    · intro hall
      exact ⟨(one d0 0).mp (hall 0 (by decide)), (one d1 1).mp (hall 1 (by decide)), (one d2 2).mp (hall 2 (by decide)), (one d3 3).mp (hall 3 (by decide))⟩
  by_cases hB : whB e (p ^ r) (whD d0 d1 d2 d3) 4 = true
  · rw [if_pos hB, if_pos (hC.mpr hB)]
    congr 1
    have hc := hC.mpr hB
    have step : ∀ (X d : Int) (i : Nat), i < 4 → whD d0 d1 d2 d3 i = d → (d = -1 ∨ (i : Int) < (e : Int) ∧ 0 ≤ d ∧ d ≤ ((p ^ r : Nat) : Int) - 2) → X = jnM p r (p ^ r) ((p : Int) ^ e) (rF p e r) (rG p e r) (whD d0 d1 d2 d3) 1 (min i e) → wdE p r ((p : Int) ^ e) (rF p e r) (rG p e r) X i d = jnM p r (p ^ r) ((p : Int) ^ e) (rF p e r) (rG p e r) (whD d0 d1 d2 d3) 1 (min (i + 1) e) := fun X d i hi hd hc hX => by
      rcases hc with hc | ⟨c1, c2, c3⟩
      · have e1 : wdE p r ((p : Int) ^ e) (rF p e r) (rG p e r) X i d = X := if_pos hc
        rw [e1, hX]
        rcases Nat.lt_or_ge i e with q9 | q9
        · rw [Nat.min_eq_left (by omega), Nat.min_eq_left (by omega), jn_no (hd.trans hc)]
        · rw [Nat.min_eq_right (by omega), Nat.min_eq_right (by omega)]
      · obtain ⟨k, rfl⟩ : ∃ k : Nat, d = k := ⟨d.toNat, by omega⟩
        rw [wd_pl (by omega), hX, Nat.min_eq_left (by omega), Nat.min_eq_left (by omega), h.jn_yes (by omega) hd, Nat.mul_one]
    have s0 := step 0 d0 0 (by decide) rfl hc.1 (by rw [Nat.zero_min]; rfl)
    have s1 := step _ d1 1 (by decide) rfl hc.2.1 s0
    have s2 := step _ d2 2 (by decide) rfl hc.2.2.1 s1
    have s3 := step _ d3 3 (by decide) rfl hc.2.2.2 s2
    rw [Nat.min_eq_right (show e ≤ 3 + 1 by omega)] at s3
    exact s3
  · rw [if_neg hB, if_neg (fun k => hB (hC.mp k))]
theorem q_mny_of (h : RKr p e r) {y0 : Int} (hy : El ((p : Int) ^ e) r y0) (ht : trE p r ((p : Int) ^ e) (rF p e r) y0 r = 1) : Q_mny p e r := by
  intro what v
  have hp2 := h.1
  unfold mnyE
  by_cases h0 : what = 0
  · have hw : 0 ≤ what ∧ what ≤ 3 := by omega
    rw [if_pos h0, if_pos hw]
    congr 1
    have h1 := many_level (p := p) (e := e) (r := r) (v := v) (m := (p : Int) ^ e) hp2 rfl
    rw [← h1]
    congr 1
    refine ctn_congr fun y _ => ?_
    unfold mnP
    rw [if_pos h0]
    by_cases hc : lvM p r ((p : Int) ^ e) y 0 e = v
    · rw [decide_eq_true (by omega)]; exact (decide_eq_true (by omega)).symm
    · rw [decide_eq_false (by omega)]; exact (decide_eq_false (by omega)).symm
  rw [if_neg h0]
  by_cases h1 : what = 1
  · have hw : 0 ≤ what ∧ what ≤ 3 := by omega
    rw [if_pos h1, if_pos hw]
    congr 1
    rw [← h.many_tr hy ht v]
    congr 1
    refine ctn_congr fun y hy9 => ?_
    unfold mnP
    rw [if_neg h0, if_pos h1]
    have e1 := h.tr_eq (h.el_nat hy9) r
    show _ = decide (trM p e r (p ^ r) ((p : Int) ^ e) (rF p e r) (rG p e r) (rtR p e r (p ^ r) ((p : Int) ^ e) (rF p e r)) (lgR p r ((p : Int) ^ e) (p ^ r) (rF p e r) (rG p e r)) y r = v)
    rw [e1]
  rw [if_neg h1]
  by_cases h2 : what = 2
  · have hw : 0 ≤ what ∧ what ≤ 3 := by omega
    rw [if_pos h2, if_pos hw]
    congr 2
    refine ctn_congr fun y hy9 => ?_
    unfold mnP
    rw [if_neg h0, if_neg h1, if_pos h2]
    have e1 := h.nm_eq (h.el_nat hy9) r
    show _ = decide (nmM p e r (p ^ r) ((p : Int) ^ e) (rF p e r) (rG p e r) (rtR p e r (p ^ r) ((p : Int) ^ e) (rF p e r)) (lgR p r ((p : Int) ^ e) (p ^ r) (rF p e r) (rG p e r)) y r = v)
    rw [e1]
  rw [if_neg h2]
  by_cases h3 : what = 3
  · have hw : 0 ≤ what ∧ what ≤ 3 := by omega
    rw [if_pos h3, if_pos hw]
    congr 1
    have e1 := h.many_fix (v % r)
    have e2 : Nat.gcd (v % r) r = Nat.gcd v r := by rw [← Nat.gcd_rec, Nat.gcd_comm]
    rw [e2] at e1
    have e3 : ctn (mnP p e r (p ^ r) ((p : Int) ^ e) (rF p e r) (rG p e r) (fun j => tcE p e r (p ^ r) ((p : Int) ^ e) (rF p e r) j) (rL p e r) what v) (p ^ (e * r)) = ctn (fun x => decide (mvn p r ((p : Int) ^ e) (rF p e r) x (v % r) = x)) (p ^ (e * r)) := ctn_congr fun y hy9 => by
      unfold mnP
      rw [if_neg h0, if_neg h1, if_neg h2]
      have e4 := h.mvn_eq (h.el_nat hy9) (v % r)
      show decide (mvMn p e r (p ^ r) ((p : Int) ^ e) (rF p e r) (rG p e r) (rtR p e r (p ^ r) ((p : Int) ^ e) (rF p e r)) (lgR p r ((p : Int) ^ e) (p ^ r) (rF p e r) (rG p e r)) y (v % r) = y) = _
      rw [e4]
    rw [e3, e1, inat_pow, inat_pow, ← Int.pow_mul, ← Int.pow_mul, Nat.mul_comm]
  · rw [if_neg h3, if_neg (by omega)]
end RingQ
