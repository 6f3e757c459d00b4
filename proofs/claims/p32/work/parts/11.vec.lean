/-! finite sums, digits, vectors, products of vectors by a polynomial X^r + f(r-1) X^(r-1) + .. over the whole numbers -/
def sm : Nat → (Nat → Int) → Int
  | 0, _ => 0
  | n + 1, f => sm n f + f n
theorem sm_congr {f g : Nat → Int} : ∀ {n : Nat}, (∀ i, i < n → f i = g i) → sm n f = sm n g
  | 0, _ => rfl
  | n + 1, h => by
    show sm n f + f n = sm n g + g n
    rw [sm_congr (fun i hi => h i (by omega)), h n (by omega)]
theorem sm_zero : ∀ {n : Nat} {f : Nat → Int}, (∀ i, i < n → f i = 0) → sm n f = 0
  | 0, _, _ => rfl
  | n + 1, f, h => by
    show sm n f + f n = 0
    rw [sm_zero (fun i hi => h i (by omega)), h n (by omega)]
    rfl
theorem sm_add (f g : Nat → Int) : ∀ n : Nat, sm n (fun i => f i + g i) = sm n f + sm n g
  | 0 => rfl
  | n + 1 => by
    show sm n (fun i => f i + g i) + (f n + g n) = sm n f + f n + (sm n g + g n)
    rw [sm_add f g n]; omega
theorem sm_sub (f g : Nat → Int) : ∀ n : Nat, sm n (fun i => f i - g i) = sm n f - sm n g
  | 0 => rfl
  | n + 1 => by
    show sm n (fun i => f i - g i) + (f n - g n) = sm n f + f n - (sm n g + g n)
    rw [sm_sub f g n]; omega
theorem sm_mul (c : Int) (f : Nat → Int) : ∀ n : Nat, sm n (fun i => c * f i) = c * sm n f
  | 0 => by simp [sm]
  | n + 1 => by
    show sm n (fun i => c * f i) + c * f n = c * (sm n f + f n)
    rw [sm_mul c f n, Int.mul_add]
theorem sm_mulr (c : Int) (f : Nat → Int) (n : Nat) : sm n (fun i => f i * c) = sm n f * c := by
  rw [show (fun i => f i * c) = fun i => c * f i from funext fun i => Int.mul_comm _ _, sm_mul, Int.mul_comm]
theorem sm_comm (f : Nat → Nat → Int) (k : Nat) : ∀ n : Nat, sm n (fun i => sm k (fun j => f i j)) = sm k (fun j => sm n (fun i => f i j))
  | 0 => (sm_zero (fun _ _ => rfl)).symm
  | n + 1 => by
    show sm n (fun i => sm k (fun j => f i j)) + sm k (fun j => f n j) = sm k (fun j => sm n (fun i => f i j) + f n j)
    rw [sm_comm f k n, sm_add]
theorem sm_one {n : Nat} {f : Nat → Int} {k : Nat} (hk : k < n) (h : ∀ i, i < n → i ≠ k → f i = 0) : sm n f = f k := by
  induction n with
  | zero => omega
  | succ n ih =>
    show sm n f + f n = f k
    by_cases e : k = n
    · subst e
      rw [sm_zero (fun i hi => h i (by omega) (by omega))]; omega
    · rw [ih (by omega) (fun i hi => h i (by omega)), h n (by omega) (by omega)]; omega
theorem sm_add_n (f : Nat → Int) (n : Nat) : ∀ k : Nat, sm (n + k) f = sm n f + sm k (fun i => f (n + i))
  | 0 => by simp [sm]
  | k + 1 => by
    show sm (n + k) f + f (n + k) = sm n f + (sm k (fun i => f (n + i)) + f (n + k))
    rw [sm_add_n f n k]; omega
theorem sm_first (f : Nat → Int) : ∀ n : Nat, sm (n + 1) f = f 0 + sm n (fun i => f (i + 1))
  | 0 => by simp [sm]
  | n + 1 => by
    show sm (n + 1) f + f (n + 1) = f 0 + (sm n (fun i => f (i + 1)) + f (n + 1))
    rw [sm_first f n]; omega
theorem sm_mod {m : Int} {f g : Nat → Int} : ∀ {n : Nat}, (∀ i, i < n → f i % m = g i % m) → sm n f % m = sm n g % m
  | 0, _ => rfl
  | n + 1, h => by
    show (sm n f + f n) % m = (sm n g + g n) % m
    rw [Int.add_emod, sm_mod (fun i hi => h i (by omega)), h n (by omega), ← Int.add_emod]
/-! digits -/
def dg (m : Int) : Nat → Int → Int
  | 0, x => x % m
  | i + 1, x => dg m i (x / m)
def un (m : Int) : Nat → (Nat → Int) → Int
  | 0, _ => 0
  | n + 1, c => c 0 % m + m * un m n (fun i => c (i + 1))
theorem dg_range {m : Int} (hm : 0 < m) : ∀ (i : Nat) (x : Int), 0 ≤ dg m i x ∧ dg m i x < m
  | 0, x => ⟨Int.emod_nonneg _ (by omega), Int.emod_lt_of_pos _ hm⟩
  | i + 1, x => dg_range hm i (x / m)
theorem dg_mod {m : Int} (hm : 0 < m) (i : Nat) (x : Int) : dg m i x % m = dg m i x := Int.emod_eq_of_lt (dg_range hm i x).1 (dg_range hm i x).2
theorem dg_zero {m : Int} : ∀ i : Nat, dg m i 0 = 0
  | 0 => Int.zero_emod m
  | i + 1 => by
    show dg m i (0 / m) = 0
    rw [Int.zero_ediv, dg_zero i]
theorem dg_big {m : Int} (hm : 0 < m) : ∀ (r i : Nat) (x : Int), 0 ≤ x → x < m ^ r → r ≤ i → dg m i x = 0
  | 0, i, x, h0, h1, _ => by
    have e : x = 0 := by simp at h1; omega
    subst e
    exact dg_zero i
  | r + 1, i + 1, x, h0, h1, h2 => dg_big hm r i (x / m) (Int.ediv_nonneg h0 (by omega)) (Int.ediv_lt_of_lt_mul hm (by rw [← Int.pow_succ]; exact h1)) (by omega)
theorem un_range {m : Int} (hm : 0 < m) : ∀ (n : Nat) (c : Nat → Int), 0 ≤ un m n c ∧ un m n c < m ^ n
  | 0, c => ⟨Int.le_refl 0, by simp [un]⟩
  | n + 1, c => by
    obtain ⟨h1, h2⟩ := un_range hm n (fun i => c (i + 1))
    have h3 := Int.emod_nonneg (c 0) (b := m) (by omega)
    have h4 := Int.emod_lt_of_pos (c 0) hm
    have h5 : 0 ≤ m * un m n (fun i => c (i + 1)) := Int.mul_nonneg (by omega) h1
    have h6 : m * (un m n (fun i => c (i + 1)) + 1) ≤ m * m ^ n := Int.mul_le_mul_of_nonneg_left (by omega) (by omega)
    rw [Int.mul_add, Int.mul_one] at h6
    refine ⟨by unfold un; omega, ?_⟩
    rw [Int.pow_succ, Int.mul_comm]
    unfold un; omega
theorem un_congr {m : Int} : ∀ {n : Nat} {c d : Nat → Int}, (∀ i, i < n → c i % m = d i % m) → un m n c = un m n d
  | 0, _, _, _ => rfl
  | n + 1, c, d, h => by
    unfold un
    rw [h 0 (by omega), un_congr (fun i hi => h (i + 1) (by omega))]
theorem dg_un {m : Int} (hm : 0 < m) : ∀ (n i : Nat) (c : Nat → Int), dg m i (un m n c) = if i < n then c i % m else 0
  | 0, i, c => by
    show dg m i 0 = _
    rw [dg_zero]; simp
  | n + 1, 0, c => by
    show (c 0 % m + m * un m n (fun i => c (i + 1))) % m = _
    rw [Int.add_mul_emod_self_left, Int.emod_emod]; simp
  | n + 1, i + 1, c => by
    show dg m i ((c 0 % m + m * un m n (fun i => c (i + 1))) / m) = _
    rw [Int.add_mul_ediv_left _ _ (by omega), Int.ediv_eq_zero_of_lt (Int.emod_nonneg _ (by omega)) (Int.emod_lt_of_pos _ hm), Int.zero_add, dg_un hm n i]
    simp
theorem un_dg {m : Int} (hm : 0 < m) : ∀ (n : Nat) (x : Int), 0 ≤ x → x < m ^ n → un m n (fun i => dg m i x) = x
  | 0, x, h0, h1 => by
    have : x = 0 := by simp at h1; omega
    subst this; rfl
  | n + 1, x, h0, h1 => by
    show (x % m) % m + m * un m n (fun i => dg m i (x / m)) = x
    rw [un_dg hm n (x / m) (Int.ediv_nonneg h0 (by omega)) (Int.ediv_lt_of_lt_mul hm (by rw [← Int.pow_succ]; exact h1)), Int.emod_emod]
    have := Int.emod_add_mul_ediv x m; omega
theorem un_more {m : Int} : ∀ (n k : Nat) (c : Nat → Int), (∀ i, n ≤ i → c i % m = 0) → un m (n + k) c = un m n c
  | 0, 0, c, _ => rfl
  | 0, k + 1, c, h => by
    show un m (0 + k + 1) c = 0
    unfold un
    rw [h 0 (by omega), un_more 0 k (fun i => c (i + 1)) (fun i _ => h (i + 1) (by omega))]
    show 0 + m * 0 = 0
    simp
  | n + 1, k, c, h => by
    rw [show n + 1 + k = n + k + 1 by omega]
    unfold un
    rw [un_more n k (fun i => c (i + 1)) (fun i hi => h (i + 1) (by omega))]
theorem mixI_un (b f : Int) : ∀ (n : Nat) (x y : Int), mixI b f n x y = un b n (fun i => dg b i x + f * dg b i y)
  | 0, _, _ => rfl
  | n + 1, x, y => by
    show (x % b + f * (y % b)) % b + b * mixI b f n (x / b) (y / b) = _
    rw [mixI_un b f n]
    rfl
/-- by the first r digits alone -/
theorem mixI_r {b f : Int} (hb : 0 < b) {r : Nat} (hr : r ≤ 31) {x y : Int} (hx : 0 ≤ x) (hx2 : x < b ^ r) (hy : 0 ≤ y) (hy2 : y < b ^ r) : mixI b f 31 x y = un b r (fun i => dg b i x + f * dg b i y) := by
  rw [mixI_un]
  have e : (31 : Nat) = r + (31 - r) := by omega
  rw [e, un_more]
  intro i hi
  rw [dg_big hb r i x hx hx2 hi, dg_big hb r i y hy hy2 hi]
  simp
/-! products -/
def sup (r : Nat) (b : Nat → Int) : Prop := ∀ j, r ≤ j → b j = 0
def sh (r : Nat) (f : Nat → Int) (c : Nat → Int) : Nat → Int := fun i => if i < r then (if i = 0 then 0 else c (i - 1)) - f i * c (r - 1) else 0
def shi (r : Nat) (f : Nat → Int) : Nat → (Nat → Int) → (Nat → Int)
  | 0, b => b
  | i + 1, b => sh r f (shi r f i b)
def mulV (r : Nat) (f a b : Nat → Int) : Nat → Int := fun j => sm r (fun i => a i * shi r f i b j)
def ev1 (k : Nat) : Nat → Int := fun j => if j = k then 1 else 0
theorem sh_sup {r : Nat} {f c : Nat → Int} : sup r (sh r f c) := fun j hj => by unfold sh; rw [if_neg (by omega)]
theorem shi_sup {r : Nat} {f : Nat → Int} : ∀ {i : Nat} {c : Nat → Int}, sup r c → sup r (shi r f i c)
  | 0, _, h => h
  | _ + 1, _, _ => sh_sup
theorem mulV_sup {r : Nat} {f a b : Nat → Int} (hb : sup r b) : sup r (mulV r f a b) := fun j hj => sm_zero fun i _ => by rw [shi_sup hb j hj, Int.mul_zero]
theorem sh_lin {r : Nat} {f : Nat → Int} (n : Nat) (a : Nat → Int) (v : Nat → Nat → Int) : sh r f (fun j => sm n (fun k => a k * v k j)) = fun j => sm n (fun k => a k * sh r f (v k) j) := by
  funext i
  unfold sh
  by_cases hi : i < r
  · simp only [if_pos hi]
    by_cases h0 : i = 0
    · simp only [if_pos h0]
      rw [show (fun k => a k * (0 - f i * v k (r - 1))) = fun k => (- f i) * (a k * v k (r - 1)) from funext fun k => by rw [Int.zero_sub, Int.neg_mul, Int.mul_neg, Int.mul_left_comm], sm_mul]
      rw [Int.zero_sub, Int.neg_mul]
    · simp only [if_neg h0]
      rw [show (fun k => a k * (v k (i - 1) - f i * v k (r - 1))) = fun k => a k * v k (i - 1) - f i * (a k * v k (r - 1)) from funext fun k => by rw [Int.mul_sub, Int.mul_left_comm], sm_sub, sm_mul]
  · simp only [if_neg hi]
    exact (sm_zero fun k _ => Int.mul_zero _).symm
theorem shi_lin {r : Nat} {f : Nat → Int} (n : Nat) (a : Nat → Int) (v : Nat → Nat → Int) : ∀ k : Nat, shi r f k (fun j => sm n (fun i => a i * v i j)) = fun j => sm n (fun i => a i * shi r f k (v i) j)
  | 0 => rfl
  | k + 1 => by
    show sh r f (shi r f k (fun j => sm n (fun i => a i * v i j))) = _
    rw [shi_lin n a v k, sh_lin]
    rfl
theorem shi_add {r : Nat} {f : Nat → Int} (i : Nat) (b : Nat → Int) : ∀ k : Nat, shi r f k (shi r f i b) = shi r f (k + i) b
  | 0 => by rw [Nat.zero_add]; rfl
  | k + 1 => by
    rw [show k + 1 + i = k + i + 1 by omega]
    show sh r f (shi r f k (shi r f i b)) = sh r f (shi r f (k + i) b)
    rw [shi_add i b k]
theorem shi_e {r : Nat} {f : Nat → Int} : ∀ i : Nat, i < r → shi r f i (ev1 0) = ev1 i
  | 0, _ => rfl
  | i + 1, h => by
    show sh r f (shi r f i (ev1 0)) = _
    rw [shi_e i (by omega)]
    funext j
    unfold sh ev1
    by_cases hj : j < r
    · rw [if_pos hj, if_neg (show ¬ r - 1 = i by omega), Int.mul_zero, Int.sub_zero]
      by_cases h0 : j = 0
      · rw [if_pos h0, if_neg (by omega)]
      · rw [if_neg h0]
        by_cases h1 : j = i + 1
        · rw [if_pos (by omega), if_pos h1]
        · rw [if_neg (by omega), if_neg h1]
    · rw [if_neg hj, if_neg (by omega)]
theorem basis {r : Nat} {f b : Nat → Int} (hb : sup r b) : b = fun j => sm r (fun i => b i * shi r f i (ev1 0) j) := by
  funext j
  rw [sm_congr (g := fun i => b i * ev1 i j) (fun i hi => by rw [shi_e i hi])]
  by_cases hj : j < r
  · rw [sm_one hj (fun i _ hne => by unfold ev1; rw [if_neg (Ne.symm hne), Int.mul_zero])]
    unfold ev1
    rw [if_pos rfl, Int.mul_one]
  · rw [hb j (by omega), sm_zero]
    intro i hi
    unfold ev1
    rw [if_neg (by omega), Int.mul_zero]
def Xv (r : Nat) (f : Nat → Int) (k : Nat) : Nat → Int := shi r f k (ev1 0)
theorem mulV_X {r : Nat} {f a b : Nat → Int} (hb : sup r b) (j : Nat) : mulV r f a b j = sm r (fun i => sm r (fun k => a i * b k * Xv r f (i + k) j)) := by
  unfold mulV
  apply sm_congr
  intro i _
  have e : shi r f i b = fun j => sm r (fun k => b k * shi r f i (shi r f k (ev1 0)) j) := by
    have h1 := basis (f := f) hb
    have h2 := shi_lin (f := f) (r := r) r b (fun k => shi r f k (ev1 0)) i
    rw [← h2, ← h1]
  rw [e, ← sm_mul]
  apply sm_congr
  intro k _
  rw [shi_add, Int.mul_assoc]
  rfl
theorem mulV_comm {r : Nat} {f a b : Nat → Int} (ha : sup r a) (hb : sup r b) : mulV r f a b = mulV r f b a := by
  funext j
  rw [mulV_X hb, mulV_X ha, sm_comm]
  apply sm_congr
  intro k _
  apply sm_congr
  intro i _
  rw [Int.mul_comm (a i), Nat.add_comm i]
theorem mulV_lin {r : Nat} {f a : Nat → Int} (n : Nat) (c : Nat → Int) (v : Nat → Nat → Int) : mulV r f a (fun j => sm n (fun k => c k * v k j)) = fun j => sm n (fun k => c k * mulV r f a (v k) j) := by
  funext j
  unfold mulV
  rw [sm_congr (g := fun i => sm n (fun k => a i * (c k * shi r f i (v k) j))) (fun i _ => by rw [shi_lin, ← sm_mul]), sm_comm]
  apply sm_congr
  intro k _
  rw [← sm_mul]
  apply sm_congr
  intro i _
  rw [Int.mul_left_comm]
theorem mulV_sh {r : Nat} {f a b : Nat → Int} : mulV r f a (sh r f b) = sh r f (mulV r f a b) := by
  have e : sh r f (mulV r f a b) = fun j => sm r (fun i => a i * sh r f (shi r f i b) j) := sh_lin r a (fun i => shi r f i b)
  rw [e]
  funext j
  unfold mulV
  apply sm_congr
  intro i _
  have h : shi r f i (sh r f b) = sh r f (shi r f i b) := by
    have h1 := shi_add (f := f) (r := r) 1 b i
    have h2 : shi r f 1 b = sh r f b := rfl
    rw [h2] at h1
    rw [h1]
    rfl
  rw [h]
theorem mulV_shi {r : Nat} {f a b : Nat → Int} : ∀ k : Nat, mulV r f a (shi r f k b) = shi r f k (mulV r f a b)
  | 0 => rfl
  | k + 1 => by
    show mulV r f a (sh r f (shi r f k b)) = sh r f (shi r f k (mulV r f a b))
    rw [mulV_sh, mulV_shi k]
theorem mulV_left {r : Nat} {f a c v : Nat → Int} : mulV r f a (mulV r f c v) = mulV r f c (mulV r f a v) := by
  have e : mulV r f c v = fun j => sm r (fun k => c k * shi r f k v j) := rfl
  rw [e, mulV_lin]
  funext j
  apply sm_congr
  intro k _
  rw [mulV_shi]
theorem mulV_assoc {r : Nat} {f a b c : Nat → Int} (ha : sup r a) (hb : sup r b) (hc : sup r c) : mulV r f (mulV r f a b) c = mulV r f a (mulV r f b c) := by
  rw [mulV_comm (mulV_sup hb) hc, mulV_left, mulV_comm hc hb]
theorem mulV_one {r : Nat} {f b : Nat → Int} (hr : 0 < r) : mulV r f (ev1 0) b = b := by
  funext j
  unfold mulV
  rw [sm_one hr (fun i _ hne => by unfold ev1; rw [if_neg hne, Int.zero_mul])]
  unfold ev1
  rw [if_pos rfl, Int.one_mul]
  rfl
theorem mulV_mod {r : Nat} {f a a' b b' : Nat → Int} {m : Int} (hb : sup r b) (hb' : sup r b') (ha : ∀ i, i < r → a i % m = a' i % m) (hbb : ∀ i, i < r → b i % m = b' i % m) (j : Nat) : mulV r f a b j % m = mulV r f a' b' j % m := by
  rw [mulV_X hb, mulV_X hb']
  apply sm_mod
  intro i hi
  apply sm_mod
  intro k hk
  have e : (a i * b k) % m = (a' i * b' k) % m := by rw [Int.mul_emod, ha i hi, hbb k hk, ← Int.mul_emod]
  rw [Int.mul_emod, e, ← Int.mul_emod]
theorem mulV_add {r : Nat} {f a b c : Nat → Int} (hb : sup r b) (hc : sup r c) (j : Nat) : mulV r f a (fun i => b i + c i) j = mulV r f a b j + mulV r f a c j := by
  have hs : sup r (fun i => b i + c i) := fun i hi => by show b i + c i = 0; rw [hb i hi, hc i hi]; rfl
  rw [mulV_X hs, mulV_X hb, mulV_X hc, ← sm_add]
  apply sm_congr
  intro i _
  rw [← sm_add]
  apply sm_congr
  intro k _
  rw [← Int.add_mul, ← Int.mul_add]
theorem mulV_scal {r : Nat} {f a b : Nat → Int} {k : Int} (hb : sup r b) (j : Nat) : mulV r f a (fun i => k * b i) j = k * mulV r f a b j := by
  have hs : sup r (fun i => k * b i) := fun i hi => by show k * b i = 0; rw [hb i hi, Int.mul_zero]
  rw [mulV_X hs, mulV_X hb, ← sm_mul]
  apply sm_congr
  intro i _
  rw [← sm_mul]
  apply sm_congr
  intro n _
  rw [Int.mul_left_comm (a i), Int.mul_assoc k]
