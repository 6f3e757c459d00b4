/-! leaving and mends: the remainder is linear -/
def shR (row : Nat → Int) : Nat → Int := fun j => if j = 0 then 0 else row (j - 1)
def unR (i : Nat) : Nat → Int := fun j => if j = i then 1 else 0
theorem un_sh (i : Nat) : unR (i + 1) = shR (unR i) := funext fun j => by
  show (if j = i + 1 then (1 : Int) else 0) = if j = 0 then 0 else (if j - 1 = i then 1 else 0)
  by_cases h : j = 0
  · rw [if_pos h, if_neg (by omega)]
  · rw [if_neg h]
    by_cases h2 : j = i + 1
    · rw [if_pos h2, if_pos (by omega)]
    · rw [if_neg h2, if_neg (by omega)]
theorem lm_sh {m : Int} {dg_ k : Nat} {mk row : Nat → Int} : lmE m dg_ mk (dg_ + (k + 1)) (shR row) = shR (lmE m dg_ mk (dg_ + k) row) := funext fun j => by
  show (if dg_ + (k + 1) - dg_ ≤ j ∧ j ≤ dg_ + (k + 1) then ((if j = 0 then 0 else row (j - 1)) + (m - (if dg_ + (k + 1) = 0 then 0 else row (dg_ + (k + 1) - 1))) * mk (j - (dg_ + (k + 1) - dg_))) % m else (if j = 0 then 0 else row (j - 1))) = if j = 0 then 0 else (if dg_ + k - dg_ ≤ j - 1 ∧ j - 1 ≤ dg_ + k then (row (j - 1) + (m - row (dg_ + k)) * mk (j - 1 - (dg_ + k - dg_))) % m else row (j - 1))
  by_cases h0 : j = 0
  · rw [if_neg (show ¬ (dg_ + (k + 1) - dg_ ≤ j ∧ j ≤ dg_ + (k + 1)) by omega), if_pos h0, if_pos h0]
  · rw [if_neg h0, if_neg h0]
    by_cases h1 : dg_ + k - dg_ ≤ j - 1 ∧ j - 1 ≤ dg_ + k
    · rw [if_pos h1, if_pos (show dg_ + (k + 1) - dg_ ≤ j ∧ j ≤ dg_ + (k + 1) by omega), if_neg (show ¬ dg_ + (k + 1) = 0 by omega), show dg_ + (k + 1) - 1 = dg_ + k by omega, show j - (dg_ + (k + 1) - dg_) = j - 1 - (dg_ + k - dg_) by omega]
    · rw [if_neg h1, if_neg (show ¬ (dg_ + (k + 1) - dg_ ≤ j ∧ j ≤ dg_ + (k + 1)) by omega)]
theorem rs_sh {m : Int} {dg_ : Nat} {mk : Nat → Int} (hd : 1 ≤ dg_) : ∀ (k : Nat) (row : Nat → Int) (j : Nat), j < dg_ → rsE m dg_ mk (k + 1) (shR row) j = sfE m dg_ mk (rsE m dg_ mk k row) j
  | 0, row, j, hj => by
    show lmE m dg_ mk (dg_ + 0) (shR row) j = sfE m dg_ mk row j
    unfold lmE sfE shR
    rw [if_pos hj, if_pos (show dg_ + 0 - dg_ ≤ j ∧ j ≤ dg_ + 0 by omega), if_neg (show ¬ dg_ + 0 = 0 by omega), show dg_ + 0 - 1 = dg_ - 1 by omega, show j - (dg_ + 0 - dg_) = j by omega]
  | k + 1, row, j, hj => by
    show rsE m dg_ mk (k + 1) (lmE m dg_ mk (dg_ + (k + 1)) (shR row)) j = sfE m dg_ mk (rsE m dg_ mk k (lmE m dg_ mk (dg_ + k) row)) j
    rw [lm_sh, rs_sh hd k _ j hj]
theorem lm_id {m : Int} {dg_ t : Nat} {mk row : Nat → Int} (hr : ∀ j, 0 ≤ row j ∧ row j < m) (h0 : row t = 0) : lmE m dg_ mk t row = row := funext fun j => by
  unfold lmE
  split
  · rw [h0, Int.sub_zero, Int.add_mul_emod_self_left, Int.emod_eq_of_lt (hr j).1 (hr j).2]
  · rfl
theorem rs_id {m : Int} {dg_ : Nat} {mk row : Nat → Int} (hr : ∀ j, 0 ≤ row j ∧ row j < m) (h0 : ∀ t, dg_ ≤ t → row t = 0) : ∀ k, rsE m dg_ mk k row = row
  | 0 => rfl
  | k + 1 => by
    show rsE m dg_ mk k (lmE m dg_ mk (dg_ + k) row) = row
    rw [lm_id hr (h0 _ (by omega)), rs_id hr h0 k]
theorem un_rg {m : Int} (hm : 2 ≤ m) (i j : Nat) : 0 ≤ unR i j ∧ unR i j < m := by
  unfold unR
  split <;> omega
def sfI (m : Int) (dg_ : Nat) (mk : Nat → Int) : Nat → Nat → Int
  | 0 => oneC
  | i + 1 => sfE m dg_ mk (sfI m dg_ mk i)
theorem sfI_eq {m : Int} {n dg_ : Nat} {mk : Nat → Int} (hm : 2 ≤ m) (hd : 1 ≤ dg_) (hn : dg_ ≤ n) : ∀ i, i < n → ∀ j, j < dg_ → sfI m dg_ mk i j = rsE m dg_ mk (n - dg_) (unR i) j
  | 0, _, j, _ => by
    rw [rs_id (un_rg hm 0) (fun t ht => if_neg (by omega))]
    rfl
  | i + 1, hi, j, hj => by
    have ih := sfI_eq (mk := mk) hm hd hn i (by omega)
    have h1 := rs_sh (m := m) (mk := mk) hd (n - dg_) (unR i) j hj
    have e1 : rsE m dg_ mk (n - dg_ + 1) (unR (i + 1)) = rsE m dg_ mk (n - dg_) (unR (i + 1)) := by
      show rsE m dg_ mk (n - dg_) (lmE m dg_ mk (dg_ + (n - dg_)) (unR (i + 1))) = _
      rw [lm_id (un_rg hm (i + 1)) (if_neg (by omega))]
    rw [← e1, un_sh, h1]
    show sfE m dg_ mk (sfI m dg_ mk i) j = _
    unfold sfE
    rw [if_pos hj, if_pos hj, ih (dg_ - 1) (by omega)]
    by_cases h0 : j = 0
    · rw [if_pos h0, if_pos h0]
    · rw [if_neg h0, if_neg h0, ih (j - 1) (by omega)]
theorem rs_lin {m c : Int} {dg_ : Nat} {mk : Nat → Int} : ∀ (k : Nat) (u v w : Nat → Int), (∀ j, w j % m = (u j + c * v j) % m) → ∀ j, rsE m dg_ mk k w j % m = (rsE m dg_ mk k u j + c * rsE m dg_ mk k v j) % m
  | 0, _, _, _, h, j => h j
  | k + 1, u, v, w, h, j => rs_lin k (lmE m dg_ mk (dg_ + k) u) (lmE m dg_ mk (dg_ + k) v) (lmE m dg_ mk (dg_ + k) w) (fun j => by
      have key : ∀ row : Nat → Int, lmE m dg_ mk (dg_ + k) row j % m = (row j - (if dg_ + k - dg_ ≤ j ∧ j ≤ dg_ + k then row (dg_ + k) * mk (j - (dg_ + k - dg_)) else 0)) % m := fun row => by
        unfold lmE
        split
        · rw [Int.emod_emod, Int.sub_mul, show row j + (m * mk (j - (dg_ + k - dg_)) - row (dg_ + k) * mk (j - (dg_ + k - dg_))) = row j - row (dg_ + k) * mk (j - (dg_ + k - dg_)) + m * mk (j - (dg_ + k - dg_)) by omega, Int.add_mul_emod_self_left]
        · rw [Int.sub_zero]
      rw [key w, Int.add_emod, key u, Int.mul_emod, key v, ← Int.mul_emod, ← Int.add_emod]
      have h1 := h j
      have h2 := h (dg_ + k)
      by_cases hc : dg_ + k - dg_ ≤ j ∧ j ≤ dg_ + k
      · simp only [if_pos hc]
        generalize mk (j - (dg_ + k - dg_)) = z
        rw [Int.sub_emod, h1, Int.mul_emod, h2, ← Int.mul_emod, ← Int.sub_emod]
        congr 1
        rw [Int.add_mul, Int.mul_sub, Int.mul_assoc]
        omega
      · simp only [if_neg hc, Int.sub_zero]
        exact h1) j
theorem of_zero {lf : Nat → Int} {dg_ : Nat} : ofE lf dg_ = 0 ↔ ∀ j, j < dg_ → lf j = 0 := by
  unfold ofE
  split
  · next h => exact ⟨fun _ => h, fun _ => rfl⟩
  · next h => exact ⟨fun q => absurd q (by decide), fun q => absurd q h⟩
theorem nb_rg {m : Int} {n : Nat} {bt : Nat → Int} (hm : 2 ≤ m) (hb : ∀ j, j < n → 0 ≤ bt j ∧ bt j < m) (j : Nat) : 0 ≤ nbE n bt j ∧ nbE n bt j < m := by
  unfold nbE
  split
  · next h => exact hb j h
  · omega
theorem md_iff {m : Int} {n dg_ i v : Nat} {mk bt : Nat → Int} (hm : 2 ≤ m) (hd : 1 ≤ dg_) (hn : dg_ ≤ n) (hi : i < n) (hb : ∀ j, j < n → 0 ≤ bt j ∧ bt j < m) : mdE m dg_ (lfE m n dg_ mk bt) (sfI m dg_ mk i) v ↔ mdP m n dg_ mk bt i v = true := by
  have hb2 : ∀ j, j < n → 0 ≤ tdM m bt i v j ∧ tdM m bt i v j < m := fun j hj => by
    show 0 ≤ (if j = i then (bt i + v) % m else bt j) ∧ (if j = i then (bt i + v) % m else bt j) < m
    split
    · exact ⟨Int.emod_nonneg _ (by omega), Int.emod_lt_of_pos _ (by omega)⟩
    · exact hb j hj
  have hlin := rs_lin (m := m) (c := (v : Int)) (dg_ := dg_) (mk := mk) (n - dg_) (nbE n bt) (unR i) (nbE n (tdM m bt i v)) (fun j => by
    show (if j < n then (if j = i then (bt i + v) % m else bt j) else 0) % m = ((if j < n then bt j else 0) + (v : Int) * (if j = i then 1 else 0)) % m
    by_cases h1 : j < n
    · rw [if_pos h1, if_pos h1]
      by_cases h2 : j = i
      · rw [if_pos h2, if_pos h2, h2, Int.emod_emod, Int.mul_one]
      · rw [if_neg h2, if_neg h2, Int.mul_zero, Int.add_zero]
    · rw [if_neg h1, if_neg h1, if_neg (by omega), Int.mul_zero]; rfl)
  have hsf := sfI_eq (mk := mk) hm hd hn i hi
  have hr := rs_range (m := m) (dg := dg_) (mk := mk) (by omega) (n - dg_) _ (nb_rg hm hb2)
  show (∀ j, j < dg_ → (lfE m n dg_ mk bt j + v * sfI m dg_ mk i j) % m = 0) ↔ decide (ofE (lfE m n dg_ mk (tdM m bt i v)) dg_ = 0) = true
  rw [decide_eq_true_iff, of_zero]
  have e : ∀ j, j < dg_ → (lfE m n dg_ mk bt j + v * sfI m dg_ mk i j) % m = lfE m n dg_ mk (tdM m bt i v) j := fun j hj => by
    have h1 := hlin j
    have h2 := hr j
    rw [Int.emod_eq_of_lt h2.1 h2.2] at h1
    rw [hsf j hj]
    exact h1.symm
  exact ⟨fun h j hj => (e j hj).symm.trans (h j hj), fun h j hj => (e j hj).trans (h j hj)⟩
def IvS (s : Int × Int × Int) : Prop := 0 ≤ s.1 ∧ (s.1 = 0 ↔ s.2.1 = -1)
theorem st_iv {b : Bool} {i : Nat} {d : Int} {s : Int × Int × Int} (h : IvS s) : IvS (stM b i d s) := by
  obtain ⟨h1, h2⟩ := h
  unfold stM
  split
  · refine ⟨by show 0 ≤ s.1 + 1; omega, ?_⟩
    show s.1 + 1 = 0 ↔ (if s.2.1 = -1 then (i : Int) else s.2.1) = -1
    split <;> omega
  · exact ⟨h1, h2⟩
theorem mdR_iv {P : Nat → Nat → Bool} {i : Nat} {s : Int × Int × Int} (h : IvS s) : ∀ k, IvS (mdR P i k s)
  | 0 => h
  | k + 1 => st_iv (mdR_iv h k)
theorem mdT_iv {P : Nat → Nat → Bool} {k : Nat} : ∀ i, IvS (mdT P k i)
  | 0 => ⟨by show (0 : Int) ≤ 0; decide, by show (0 : Int) = 0 ↔ (-1 : Int) = -1; decide⟩
  | i + 1 => mdR_iv (mdT_iv i) k
theorem mi_mdR {m : Int} {dg_ i : Nat} {lf sf : Nat → Int} {P : Nat → Nat → Bool} {s : Int × Int × Int} (hP : ∀ v : Nat, mdE m dg_ lf sf v ↔ P i v = true) (hs : IvS s) : ∀ (k v : Nat), miE m dg_ lf sf i k (v + 1) (mdR P i v s) = mdR P i (v + k) s
  | 0, v => rfl
  | k + 1, v => by
    have ih := mi_mdR hP hs k (v + 1)
    have hiv := mdR_iv (P := P) (i := i) hs v
    rw [show v + (k + 1) = v + 1 + k by omega, ← ih]
    show miE m dg_ lf sf i k (v + 1 + 1) (if mdE m dg_ lf sf ((v + 1 : Nat) : Int) then ((mdR P i v s).1 + 1, if (mdR P i v s).1 = 0 then (i : Int) else (mdR P i v s).2.1, if (mdR P i v s).1 = 0 then ((v + 1 : Nat) : Int) else (mdR P i v s).2.2) else mdR P i v s) = miE m dg_ lf sf i k (v + 1 + 1) (stM (P i (v + 1)) i ((v + 1 : Nat) : Int) (mdR P i v s))
    congr 1
    unfold stM
    by_cases hc : P i (v + 1) = true
    · rw [if_pos hc, if_pos ((hP (v + 1)).mpr hc)]
      by_cases h0 : (mdR P i v s).1 = 0
      · rw [if_pos h0, if_pos h0, if_pos (hiv.2.mp h0), if_pos (hiv.2.mp h0)]
      · rw [if_neg h0, if_neg h0, if_neg (fun q => h0 (hiv.2.mpr q)), if_neg (fun q => h0 (hiv.2.mpr q))]
    · rw [if_neg hc, if_neg (fun q => hc ((hP (v + 1)).mp q))]
theorem mo_mdT {m : Int} {n dg_ : Nat} {mk bt : Nat → Int} (hm : 2 ≤ m) (hd : 1 ≤ dg_) (hn : dg_ ≤ n) (hb : ∀ j, j < n → 0 ≤ bt j ∧ bt j < m) : ∀ (k i : Nat), i + k = n → moE m dg_ mk (lfE m n dg_ mk bt) k i (sfI m dg_ mk i) (mdT (mdP m n dg_ mk bt) (m.toNat - 1) i) = mdT (mdP m n dg_ mk bt) (m.toNat - 1) n
  | 0, i, h => by
    rw [show n = i by omega]
    rfl
  | k + 1, i, h => by
    have h1 := mi_mdR (P := mdP m n dg_ mk bt) (s := mdT (mdP m n dg_ mk bt) (m.toNat - 1) i) (fun v => md_iff (v := v) hm hd hn (show i < n by omega) hb) (mdT_iv i) (m.toNat - 1) 0
    have e0 := Nat.zero_add (m.toNat - 1)
    rw [e0] at h1
    show moE m dg_ mk (lfE m n dg_ mk bt) k (i + 1) (sfI m dg_ mk (i + 1)) (miE m dg_ (lfE m n dg_ mk bt) (sfI m dg_ mk i) i (m.toNat - 1) 1 (mdT (mdP m n dg_ mk bt) (m.toNat - 1) i)) = _
    have h2 : miE m dg_ (lfE m n dg_ mk bt) (sfI m dg_ mk i) i (m.toNat - 1) 1 (mdT (mdP m n dg_ mk bt) (m.toNat - 1) i) = mdT (mdP m n dg_ mk bt) (m.toNat - 1) (i + 1) := h1
    rw [h2]
    exact mo_mdT hm hd hn hb k (i + 1) (by omega)
theorem mnd_of {p e r : Nat} (hv : RV p e r) : Q_mnd p e r := by
  intro n set dg_ mk ck hc bt hb
  have hm2 := hv.m2
  have hd := CD.dg hc
  unfold mdsE mndM
  rcases of_01 (lfE ((p : Int) ^ e) n dg_ mk bt) dg_ with h | h
  · rw [if_neg (by omega), if_pos h]
  · rw [if_pos h, if_neg (by omega)]
    have hd1 : 1 ≤ dg_ := by
      rcases Nat.eq_zero_or_pos dg_ with h0 | h0
      · rw [h0] at h
        have := (of_zero (lf := lfE ((p : Int) ^ e) n 0 mk bt) (dg_ := 0)).mpr (fun j hj => absurd hj (by omega))
        omega
      · exact h0
    exact mo_mdT hm2 hd1 hd hb n 0 (by omega)
