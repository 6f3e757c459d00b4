/-! A small logic over the kit: whole numbers for ints and longs, logical addresses, fields and rows as functions; one judgement QW a method's walk, one judgement QE a method. -/
abbrev LV : Type := Int ⊕ (Int ⊕ (Option Nat ⊕ Nat))
abbrev vI (k : Int) : LV := .inl k
abbrev vJ (k : Int) : LV := .inr (.inl k)
abbrev vA (a : Nat) : LV := .inr (.inr (.inl (some a)))
abbrev vN : LV := .inr (.inr (.inl none))
abbrev vO (q : Nat) : LV := .inr (.inr (.inr q))
abbrev HF : Type := Nat → Nat → LV
abbrev HA : Type := Nat → Nat → Int
abbrev AL : Type := (Nat → Nat × Nat) × Nat
abbrev LO : Type := Option Int ⊕ String
abbrev PO : Type := LO → HF → HA → AL → Prop
abbrev MT : Type := MethodName × ByteArray × Nat × Option FieldType × List (Nat × Nat × Nat × Nat)
abbrev GG : Type := va_G × ClassId × ClassId × ClassId × ClassId
def InR (a : Int) : Prop := -2147483648 ≤ a ∧ a < 2147483648
def InL (a : Int) : Prop := -9223372036854775808 ≤ a ∧ a < 9223372036854775808
def tr (ad : Nat → Nat) : LV → Value
  | .inl k => .int (Int32.ofInt k)
  | .inr (.inl k) => .long (Int64.ofInt k)
  | .inr (.inr (.inl none)) => .null
  | .inr (.inr (.inl (some a))) => .ref (ad a)
  | .inr (.inr (.inr q)) => .ref q
def okv (n : Nat) : LV → Prop
  | .inr (.inr (.inl (some a))) => a < n
  | _ => True
def okst (n : Nat) : List LV → Prop
  | [] => True
  | v :: t => okv n v ∧ okst n t
def c2 : LV → Bool
  | .inr (.inl _) => true
  | _ => false
def rfo (ad : Nat → Nat) : LV → Option Nat
  | .inr (.inr (.inl (some a))) => some (ad a)
  | _ => none
theorem okv_mono {n n' : Nat} (h : n ≤ n') {v : LV} (hv : okv n v) : okv n' v := by
  rcases v with k | k | (_ | a) | q
  · trivial
  · trivial
  · trivial
  · exact Nat.lt_of_lt_of_le hv h
  · trivial
theorem okst_mono {n n' : Nat} (h : n ≤ n') : ∀ {st : List LV}, okst n st → okst n' st
  | [], _ => trivial
  | _ :: _, hv => ⟨okv_mono h hv.1, okst_mono h hv.2⟩
theorem okst_app {n : Nat} : ∀ {a b : List LV}, okst n a → okst n b → okst n (a ++ b)
  | [], _, _, h => h
  | _ :: _, _, h1, h2 => ⟨h1.1, okst_app h1.2 h2⟩
theorem okst_r {n : Nat} : ∀ {a b : List LV}, okst n (a ++ b) → okst n b
  | [], _, h => h
  | _ :: _, _, h => okst_r h.2
theorem okst_mem {n : Nat} : ∀ {a : List LV} {v : LV}, okst n a → v ∈ a → okv n v
  | [], _, _, h => by cases h
  | x :: t, v, h, hv => by
    rcases List.mem_cons.mp hv with rfl | hv
    · exact h.1
    · exact okst_mem h.2 hv
theorem okst_of {n : Nat} : ∀ {a : List LV}, (∀ v ∈ a, okv n v) → okst n a
  | [], _ => trivial
  | _ :: _, h => ⟨h _ List.mem_cons_self, okst_of fun v hv => h v (List.mem_cons_of_mem _ hv)⟩
theorem tr_ext {ad ad' : Nat → Nat} {n : Nat} (h : ∀ k, k < n → ad' k = ad k) {v : LV} (hv : okv n v) : tr ad' v = tr ad v := by
  rcases v with k | k | (_ | a) | q
  · rfl
  · rfl
  · rfl
  · show Value.ref (ad' a) = Value.ref (ad a)
    rw [h a hv]
  · rfl
theorem rfo_ext {ad ad' : Nat → Nat} {n : Nat} (h : ∀ k, k < n → ad' k = ad k) {v : LV} (hv : okv n v) : rfo ad' v = rfo ad v := by
  rcases v with k | k | (_ | a) | q
  · rfl
  · rfl
  · rfl
  · show some (ad' a) = some (ad a)
    rw [h a hv]
  · rfl
theorem map_tr_ext {ad ad' : Nat → Nat} {n : Nat} (h : ∀ k, k < n → ad' k = ad k) : ∀ {st : List LV}, okst n st → st.map (tr ad') = st.map (tr ad)
  | [], _ => rfl
  | v :: t, hv => by rw [List.map_cons, List.map_cons, tr_ext h hv.1, map_tr_ext h hv.2]
theorem tr_cat (ad : Nat → Nat) (v : LV) : (tr ad v).category = if c2 v then 2 else 1 := by
  rcases v with k | k | (_ | a) | q <;> rfl
/-! ## the heap -/
def cellOf (G : GG) (ad : Nat → Nat) (kd : Nat × Nat) (f : Nat → LV) (a : Nat → Int) : va_E :=
  match kd.1 with
  | 0 => .inl (G.2.1, kd.2, .inl (fun i => Int32.ofInt (a i)))
  | 1 => .inl (G.2.2.1, kd.2, .inl (fun i => Int32.ofInt (a i)))
  | 2 => .inl (G.2.2.2.1, kd.2, .inr (.inl (fun i => Int64.ofInt (a i))))
  | 3 => .inl (G.2.2.2.2, kd.2, .inr (.inr (.inr (.inr (fun i => rfo ad (f i))))))
  | n => .inr (n - 10, (List.range kd.2).map (fun i => tr ad (f i)))
def wl (G : GG) (ad : Nat → Nat) (F : HF) (A : HA) (al : AL) : va_W :=
  (List.range (al.2 - 1)).map (fun k => (ad (k + 1), cellOf G ad (al.1 (k + 1)) (F (k + 1)) (A (k + 1))))
theorem wl_get {G : GG} {ad : Nat → Nat} {F : HF} {A : HA} {al : AL} {k : Nat} (h0 : 0 < k) (h1 : k < al.2) :
    (wl G ad F A al)[k - 1]? = some (ad k, cellOf G ad (al.1 k) (F k) (A k)) := by
  have e : k - 1 + 1 = k := by omega
  unfold wl
  rw [List.getElem?_map, List.getElem?_range (by omega)]
  simp only [Option.map_some, e]
theorem wl_len {G : GG} {ad : Nat → Nat} {F : HF} {A : HA} {al : AL} : (wl G ad F A al).length = al.2 - 1 := by simp [wl]
theorem wl_in {G : GG} {ad : Nat → Nat} {F : HF} {A : HA} {al : AL} {j : Nat} {q : Nat × va_E} (h : (wl G ad F A al)[j]? = some q) :
    j + 1 < al.2 ∧ q = (ad (j + 1), cellOf G ad (al.1 (j + 1)) (F (j + 1)) (A (j + 1))) := by
  have hl : j < al.2 - 1 := by
    have := (List.getElem?_eq_some_iff.mp h).1
    rwa [wl_len] at this
  have := wl_get (G := G) (ad := ad) (F := F) (A := A) (al := al) (k := j + 1) (by omega) (by omega)
  rw [show j + 1 - 1 = j by omega, h] at this
  exact ⟨by omega, Option.some.inj this⟩
theorem wl_set {G : GG} {ad : Nat → Nat} {F F' : HF} {A A' : HA} {al : AL} {k : Nat} (h0 : 0 < k) (ho : ∀ j, j ≠ k → F' j = F j ∧ A' j = A j) {z : Nat × va_E} (hz : z = (ad k, cellOf G ad (al.1 k) (F' k) (A' k))) :
    (wl G ad F A al).set (k - 1) z = wl G ad F' A' al := by
  subst hz
  apply List.ext_getElem?
  intro j
  by_cases hj : j = k - 1
  · subst hj
    by_cases hk : k < al.2
    · rw [List.getElem?_set_self (by rw [wl_len]; omega), wl_get h0 hk]
    · rw [List.getElem?_eq_none (by rw [List.length_set, wl_len]; omega), List.getElem?_eq_none (by rw [wl_len]; omega)]
  · rw [List.getElem?_set_ne (Ne.symm hj)]
    by_cases hl : j + 1 < al.2
    · have e1 := wl_get (G := G) (ad := ad) (F := F) (A := A) (al := al) (k := j + 1) (by omega) hl
      have e2 := wl_get (G := G) (ad := ad) (F := F') (A := A') (al := al) (k := j + 1) (by omega) hl
      rw [show j + 1 - 1 = j by omega] at e1 e2
      rw [e1, e2, (ho (j + 1) (by omega)).1, (ho (j + 1) (by omega)).2]
    · rw [List.getElem?_eq_none (by rw [wl_len]; omega), List.getElem?_eq_none (by rw [wl_len]; omega)]
theorem cellOf_ext {G : GG} {ad ad' : Nat → Nat} {n : Nat} {kd : Nat × Nat} {f : Nat → LV} {a : Nat → Int} (h : ∀ k, k < n → ad' k = ad k) (hf : ∀ i, okv n (f i)) : cellOf G ad' kd f a = cellOf G ad kd f a := by
  have e1 : (fun i => rfo ad' (f i)) = fun i => rfo ad (f i) := funext fun i => rfo_ext h (hf i)
  have e2 : (fun i => tr ad' (f i)) = fun i => tr ad (f i) := funext fun i => tr_ext h (hf i)
  unfold cellOf
  rw [e1, e2]
theorem wl_ext {G : GG} {ad ad' : Nat → Nat} {F : HF} {A : HA} {al : AL} (h : ∀ k, k < al.2 → ad' k = ad k) (hf : ∀ a i, okv al.2 (F a i)) : wl G ad' F A al = wl G ad F A al := by
  unfold wl
  apply List.map_congr_left
  intro k hk
  have hk := List.mem_range.mp hk
  rw [h (k + 1) (by omega), cellOf_ext h (hf (k + 1))]
theorem wl_push {G : GG} {ad : Nat → Nat} {F F' : HF} {A A' : HA} {K K' : Nat → Nat × Nat} {n : Nat} (h0 : 0 < n) (hK : ∀ j, j < n → K' j = K j) (hF : ∀ j, j < n → F' j = F j) (hA : ∀ j, j < n → A' j = A j) :
    wl G ad F' A' (K', n + 1) = wl G ad F A (K, n) ++ [(ad n, cellOf G ad (K' n) (F' n) (A' n))] := by
  unfold wl
  show (List.range (n + 1 - 1)).map _ = _
  have e : n + 1 - 1 = (n - 1) + 1 := by omega
  have e2 : n - 1 + 1 = n := by omega
  rw [e, List.range_succ, List.map_append]
  congr 1
  · apply List.map_congr_left
    intro k hk
    have hk := List.mem_range.mp hk
    show (ad (k + 1), cellOf G ad (K' (k + 1)) (F' (k + 1)) (A' (k + 1))) = (ad (k + 1), cellOf G ad (K (k + 1)) (F (k + 1)) (A (k + 1)))
    rw [hK (k + 1) (by omega), hF (k + 1) (by omega), hA (k + 1) (by omega)]
  · simp only [List.map_cons, List.map_nil, e2]
def KK (G : GG) (U : State) : Prop := va_K G.1 vwCl [(G.2.1, .int), (G.2.2.1, .int), (G.2.2.2.1, .int), (G.2.2.2.2, .array .int)] U
def REP (G : GG) (ad : Nat → Nat) (F : HF) (A : HA) (al : AL) (P : Nat → Prop) (U : State) (H : Heap) : Prop :=
  va_P G.1 vwCl (wl G ad F A al) H ∧ va_D P (wl G ad F A al) ∧ (∀ a i, okv al.2 (F a i)) ∧ (∀ k, al.2 ≤ k → al.1 k = (9, 0)) ∧ 0 < al.2 ∧ (al.1 0).1 = 4 ∧
  va_X (ad 0) (al.1 0).2 (fun j => Int32.ofInt (A 0 j)) U H ∧ ¬ P (ad 0) ∧ ∀ k, (al.1 k).2 < 2147483648
theorem REP.lt {G : GG} {ad : Nat → Nat} {F : HF} {A : HA} {al : AL} {P : Nat → Prop} {U : State} {H : Heap} (h : REP G ad F A al P U H) {k : Nat} {t n : Nat} (hk : al.1 k = (t, n)) (ht : t ≠ 9) : k < al.2 := by
  rcases Nat.lt_or_ge k al.2 with q | q
  · exact q
  · have := h.2.2.2.1 k q
    rw [hk] at this
    exact absurd (congrArg Prod.fst this) ht
theorem REP.pos {G : GG} {ad : Nat → Nat} {F : HF} {A : HA} {al : AL} {P : Nat → Prop} {U : State} {H : Heap} (h : REP G ad F A al P U H) {k : Nat} {t n : Nat} (hk : al.1 k = (t, n)) (ht : t ≠ 4) : 0 < k := by
  rcases Nat.eq_zero_or_pos k with q | q
  · subst q
    have := h.2.2.2.2.2.1
    rw [hk] at this
    exact absurd this ht
  · exact q
theorem REP.get {G : GG} {ad : Nat → Nat} {F : HF} {A : HA} {al : AL} {P : Nat → Prop} {U : State} {H : Heap} (h : REP G ad F A al P U H) {k : Nat} {t n : Nat} (hk : al.1 k = (t, n)) (h4 : t ≠ 4) (h9 : t ≠ 9) :
    (wl G ad F A al)[k - 1]? = some (ad k, cellOf G ad (t, n) (F k) (A k)) := by
  rw [wl_get (h.pos hk h4) (h.lt hk h9), hk]
theorem REP.moved {G : GG} {ad : Nat → Nat} {F : HF} {A : HA} {al : AL} {P : Nat → Prop} {u U : State} {H : Heap} (hv : u.vm.Alike U.vm) (h : REP G ad F A al P u H) : REP G ad F A al P U H :=
  ⟨h.1, h.2.1, h.2.2.1, h.2.2.2.1, h.2.2.2.2.1, h.2.2.2.2.2.1, h.2.2.2.2.2.2.1.moved hv, h.2.2.2.2.2.2.2⟩
theorem REP.s0 {G : GG} {ad : Nat → Nat} {F : HF} {A : HA} {al : AL} {P : Nat → Prop} {U : State} {H : Heap} (h : REP G ad F A al P U H) : ad 0 < H.size := by
  obtain ⟨scr, h1, -⟩ := h.2.2.2.2.2.2.1
  exact (Array.getElem?_eq_some_iff.mp h1).1
/-! ## words -/
def TBg : List Cond := lw_tbl.filter goodWord
theorem tb_i {w : Cond} (h : w ∈ lw_tbl) (g : goodWord w = true) : w ∈ TBg := List.mem_filter.mpr ⟨h, g⟩
theorem tb_good {w : Cond} (h : w ∈ TBg) : (w.onTables && w.keeps) = true ∨ ∃ ty, w = .arrayClass ty := good_of_word (List.mem_filter.mp h).2
def xwC : List (String × String) := [("java/util/NoSuchElementException", "java/util/NoSuchElementException")]
def xwM : List (String × Nat × MethodName × String) := [("RootedRing", 9, yX2_init, "RootedRing"), ("RootedRing", 25, yX8_init, "RootedRing"), ("RootedRing", 32, yX6_init, "RootedRing"), ("RootedRing", 39, yX4_init, "RootedRing")]
def xwD : List MethodName := [{ cls := "java/lang/RuntimeException", name := "<init>", desc := "()V" }, { cls := "java/lang/Exception", name := "<init>", desc := "()V" }, { cls := "java/lang/Throwable", name := "<init>", desc := "()V" }]
def XW (U : State) : Prop := (∀ q ∈ xwC, va_Nw (.castable q.1 q.2) U) ∧ (∀ q ∈ xwM, va_Nw (.methodLinkNest q.1 q.2.1 q.2.2.1 q.2.2.2) U) ∧ (∀ x ∈ xwD, va_Nw (.declares x) U) ∧ va_AOA .int U
theorem XW.warm {s U : State} (hW : s.WarmedH U.vm) (h : XW s) : XW U := ⟨fun q hq => va_Nw.warmC hW (h.1 q hq), fun q hq => va_Nw.warmM hW (h.2.1 q hq), fun x hx => va_Nw.warmD hW (h.2.2.1 x hx), va_AOA.moved hW.alike h.2.2.2⟩
theorem XW.same {u U : State} (e : u.vm = U.vm) (h : XW u) : XW U := ⟨fun q hq => va_Nw.same rfl e (h.1 q hq), fun q hq => va_Nw.same rfl e (h.2.1 q hq), fun x hx => va_Nw.same rfl e (h.2.2.1 x hx), va_AOA.moved (by rw [e]; exact Vm.Alike.refl U.vm) h.2.2.2⟩
def Zs (P : Nat → Prop) (U : State) (H : Heap) : Prop := vx_Zq Bundle.tN "UNASSIGNED_STACK" Bundle.steD P U H ∧ vx_Zq Bundle.tN "SUPPRESSED_SENTINEL" Bundle.listD P U H
/-! ## locals -/
def okS (L : List (Option LV)) : Nat → Bool
  | 0 => true
  | j + 1 => match L[j]? with
    | some (some v) => !c2 v
    | _ => true
def QL (ad : Nat → Nat) (n nL : Nat) (L : List (Option LV)) (ls : Array Slot) : Prop :=
  ls.size = nL ∧ lv_wf ls ∧ ∀ (i : Nat) (v : LV), L[i]? = some (some v) → okv n v ∧ ls[i]? = some (.val (tr ad v))
def lof (ad : Nat → Nat) (L : List (Option LV)) : List (Nat × Value) := (List.range L.length).filterMap fun j => match L[j]? with
  | some (some v) => some (j, tr ad v)
  | _ => none
theorem lof_mem {ad : Nat → Nat} {L : List (Option LV)} {q : Nat × Value} : q ∈ lof ad L ↔ ∃ v, L[q.1]? = some (some v) ∧ q.2 = tr ad v := by
  unfold lof
  rw [List.mem_filterMap]
  constructor
  · rintro ⟨j, -, h⟩
    split at h
    · next v hv => cases h; exact ⟨v, hv, rfl⟩
    · cases h
  · rintro ⟨v, h1, h2⟩
    refine ⟨q.1, List.mem_range.mpr (List.getElem?_eq_some_iff.mp h1).1, ?_⟩
    rw [h1]
    obtain ⟨a, b⟩ := q
    cases h2
    rfl
theorem QL.to {ad : Nat → Nat} {n nL : Nat} {L : List (Option LV)} {ls : Array Slot} (h : QL ad n nL L ls) : lv_has ls nL (lof ad L) :=
  ⟨h.1, h.2.1, fun q hq => by obtain ⟨v, h1, h2⟩ := lof_mem.mp hq; rw [h2]; exact (h.2.2 q.1 v h1).2⟩
theorem QL.of1 {ad : Nat → Nat} {n nL i : Nat} {L : List (Option LV)} {ls ls' : Array Slot} {v : LV} (h : QL ad n nL L ls) (hk : okS L i = true) (hv : okv n v)
    (h' : lv_has ls' nL ((i, tr ad v) :: (lof ad L).filter (fun q => !(q.1 == i) && !(q.1 + 1 == i && q.2.category == 2)))) : QL ad n nL (L.set i (some v)) ls' := by
  refine ⟨h'.1, h'.2.1, fun j w hj => ?_⟩
  by_cases e : j = i
  · subst e
    have hl : j < L.length := by
      have := (List.getElem?_eq_some_iff.mp hj).1
      rwa [List.length_set] at this
    rw [List.getElem?_set_self hl] at hj
    cases hj
    exact ⟨hv, h'.2.2 (j, tr ad v) List.mem_cons_self⟩
  · rw [List.getElem?_set_ne (Ne.symm e)] at hj
    refine ⟨(h.2.2 j w hj).1, h'.2.2 (j, tr ad w) (List.mem_cons_of_mem _ (List.mem_filter.mpr ⟨lof_mem.mpr ⟨w, hj, rfl⟩, ?_⟩))⟩
    have e1 : (j == i) = false := by simpa using e
    have e2 : ((j + 1 == i) && ((tr ad w).category == 2)) = false := by
      by_cases e3 : j + 1 = i
      · subst e3
        have hk' : (!c2 w) = true := by
          have h0 := hk
          simp only [okS, hj] at h0
          exact h0
        rw [tr_cat]
        cases hc : c2 w
        · simp
        · rw [hc] at hk'; cases hk'
      · simp [e3]
    simp only [e1, e2, Bool.not_false, Bool.and_self]
theorem QL.of2 {ad : Nat → Nat} {n nL i : Nat} {L : List (Option LV)} {ls ls' : Array Slot} {v : LV} (h : QL ad n nL L ls) (hk : okS L i = true) (hv : okv n v)
    (h' : lv_has ls' nL ((i, tr ad v) :: (lof ad L).filter (fun q => !(q.1 == i) && (!(q.1 == i + 1) && !(q.1 + 1 == i && q.2.category == 2))))) : QL ad n nL ((L.set i (some v)).set (i + 1) none) ls' := by
  refine ⟨h'.1, h'.2.1, fun j w hj => ?_⟩
  by_cases e0 : j = i + 1
  · subst e0
    have hl : i + 1 < (L.set i (some v)).length := by
      have := (List.getElem?_eq_some_iff.mp hj).1
      rwa [List.length_set] at this
    rw [List.getElem?_set_self hl] at hj
    cases hj
  rw [List.getElem?_set_ne (Ne.symm e0)] at hj
  by_cases e : j = i
  · subst e
    have hl : j < L.length := by
      have := (List.getElem?_eq_some_iff.mp hj).1
      rwa [List.length_set] at this
    rw [List.getElem?_set_self hl] at hj
    cases hj
    exact ⟨hv, h'.2.2 (j, tr ad v) List.mem_cons_self⟩
  · rw [List.getElem?_set_ne (Ne.symm e)] at hj
    refine ⟨(h.2.2 j w hj).1, h'.2.2 (j, tr ad w) (List.mem_cons_of_mem _ (List.mem_filter.mpr ⟨lof_mem.mpr ⟨w, hj, rfl⟩, ?_⟩))⟩
    have e1 : (j == i) = false := by simpa using e
    have e4 : (j == i + 1) = false := by simpa using e0
    have e2 : ((j + 1 == i) && ((tr ad w).category == 2)) = false := by
      by_cases e3 : j + 1 = i
      · subst e3
        have hk' : (!c2 w) = true := by
          have h0 := hk
          simp only [okS, hj] at h0
          exact h0
        rw [tr_cat]
        cases hc : c2 w
        · simp
        · rw [hc] at hk'; cases hk'
      · simp [e3]
    simp only [e1, e2, e4, Bool.not_false, Bool.and_self]
theorem QL.ext {ad ad' : Nat → Nat} {n n' nL : Nat} {L : List (Option LV)} {ls : Array Slot} (h : QL ad n nL L ls) (hn : n ≤ n') (he : ∀ k, k < n → ad' k = ad k) : QL ad' n' nL L ls :=
  ⟨h.1, h.2.1, fun i v hi => ⟨okv_mono hn (h.2.2 i v hi).1, by rw [tr_ext he (h.2.2 i v hi).1]; exact (h.2.2 i v hi).2⟩⟩
def entL (as : List LV) : List (Option LV) := as.flatMap fun v => if c2 v then [some v, none] else [some v]
theorem entL_get (ad : Nat → Nat) : ∀ (as : List LV) (i : Nat) (v : LV), (entL as)[i]? = some (some v) → v ∈ as ∧ (lg_sl (as.map (tr ad)))[i]? = some (.val (tr ad v))
  | [], i, v, h => by simp [entL] at h
  | a :: t, i, v, h => by
    have ih := entL_get ad t
    have hc := tr_cat ad a
    unfold entL at h ih
    unfold lg_sl at ih ⊢
    rw [List.flatMap_cons] at h
    rw [List.map_cons, List.flatMap_cons]
    cases hca : c2 a
    · rw [hca] at h hc
      simp only [Bool.false_eq_true, ↓reduceIte] at h hc
      rw [if_neg (by omega)]
      cases i with
      | zero => simp at h; subst h; exact ⟨List.mem_cons_self, by simp⟩
      | succ i =>
        simp at h
        obtain ⟨h1, h2⟩ := ih i v h
        exact ⟨List.mem_cons_of_mem _ h1, by simpa using h2⟩
    · rw [hca] at h hc
      simp only [↓reduceIte] at h hc
      rw [if_pos hc]
      match i, h with
      | 0, h => simp at h; subst h; exact ⟨List.mem_cons_self, by simp⟩
      | 1, h => simp at h
      | i + 2, h =>
        simp at h
        obtain ⟨h1, h2⟩ := ih i v h
        exact ⟨List.mem_cons_of_mem _ h1, by simpa using h2⟩
def padL (nL : Nat) (as : List LV) : List (Option LV) := entL as ++ List.replicate (nL - (entL as).length) none
theorem entL_len (ad : Nat → Nat) : ∀ as : List LV, (entL as).length = (lg_sl (as.map (tr ad))).length
  | [] => rfl
  | a :: t => by
    have ih := entL_len ad t
    have hc := tr_cat ad a
    unfold entL at ih ⊢
    unfold lg_sl at ih ⊢
    rw [List.map_cons, List.flatMap_cons, List.flatMap_cons, List.length_append, List.length_append, ih]
    cases hca : c2 a <;> rw [hca] at hc <;> simp at hc <;> simp [hc]
theorem QL.entry {ad : Nat → Nat} {n nL : Nat} {as : List LV} (hn : (entL as).length ≤ nL) (hok : okst n as) :
    QL ad n nL (padL nL as) ((lg_sl (as.map (tr ad)) ++ List.replicate (nL - (lg_sl (as.map (tr ad))).length) Slot.unset).toArray) := by
  have he := lv_entry (as.map (tr ad)) (n := nL) (by rw [← entL_len]; exact hn)
  refine ⟨he.1, he.2.1, fun i v hi => ?_⟩
  unfold padL at hi
  by_cases hl : i < (entL as).length
  · rw [List.getElem?_append_left hl] at hi
    obtain ⟨h1, h2⟩ := entL_get ad as i v hi
    refine ⟨okst_mem hok h1, ?_⟩
    rw [List.getElem?_toArray, List.getElem?_append_left (by rw [← entL_len]; exact hl)]
    exact h2
  · rw [List.getElem?_append_right (by omega)] at hi
    rw [List.getElem?_replicate] at hi
    split at hi <;> cases hi
/-! ## the judgements -/
def QC (M : MT) (d mc ms : Nat) (p : Program) (l : Launch) (R : Room) (s : State) (m : MethodId) (args : Array Value) (meth : Method) (c : Code) (G : GG) (P : Nat → Prop) : Prop :=
  p.tables.exec = Jvm.exec ∧ l.stackTraces = false ∧ c.code = M.2.1 ∧ c.maxLocals = M.2.2.1 ∧ s.vm.findClass M.1.cls = some m.cls ∧ (∀ w ∈ TBg, w.before args s = true) ∧ meth.sig.returnType = M.2.2.2.1 ∧ meth.locks = false ∧ meth.name = M.1.name ∧
  c.exceptionTable.toList = tableOf M.2.2.2.2 ∧ XW s ∧ KK G s ∧ Zs P s s.heap ∧ (∀ q, s.heap.size ≤ q → P q) ∧ d ≤ R.frames ∧ 40 * d ≤ R.locals ∧ mc ≤ R.cells ∧ ms ≤ R.slots
def QS (G : GG) (P : Nat → Prop) (ad0 : Nat → Nat) (N0 nL : Nat) (s : State) (ad : Nat → Nat) (L : List (Option LV)) (F : HF) (A : HA) (al : AL) (H : Heap) (locs : List Loc) (ls : Array Slot) : Prop :=
  REP G ad F A al P s H ∧ va_S P s.heap H locs ∧ N0 ≤ al.2 ∧ (∀ k, k < N0 → ad k = ad0 k) ∧ QL ad al.2 nL L ls ∧ ad 0 < s.heap.size
def QQ (Post : PO) (G : GG) (P : Nat → Prop) (ad0 : Nat → Nat) (N0 : Nat) : Array Value → State → Outcome → State → Prop := fun _ st o t =>
  (∃ (v : Option Int) (F : HF) (A : HA) (al : AL) (ad : Nat → Nat), o = .returned (v.map fun k => .int (Int32.ofInt k)) ∧ Post (.inl v) F A al ∧ REP G ad F A al P t t.heap ∧ N0 ≤ al.2 ∧ ∀ k, k < N0 → ad k = ad0 k) ∧ va_F P st t
def QX (Post : PO) (G : GG) (P : Nat → Prop) (ad0 : Nat → Nat) (N0 : Nat) : String → State → State → Prop := fun E st t =>
  (∃ (F : HF) (A : HA) (al : AL) (ad : Nat → Nat), Post (.inr E) F A al ∧ REP G ad F A al P t t.heap ∧ N0 ≤ al.2 ∧ ∀ k, k < N0 → ad k = ad0 k) ∧ va_F P st t
def QW (M : MT) (d mc ms : Nat) (Post : PO) (nc ns pc : Nat) (L : List (Option LV)) (st : List LV) (F : HF) (A : HA) (al : AL) : Prop :=
  ∀ (p : Program) (l : Launch) (e : Env) (R : Room) (s : State) (m : MethodId) (args : Array Value) (below : List Frame) (meth : Method) (c : Code) (G : GG) (P : Nat → Prop) (ad0 : Nat → Nat) (N0 : Nat),
    QC M d mc ms p l R s m args meth c G P → ∀ (ad : Nat → Nat) (H : Heap) (locs : List Loc) (ls : Array Slot), QS G P ad0 N0 M.2.2.1 s ad L F A al H locs ls → okst al.2 st →
    W p l e R s m args below meth c H locs nc ns (vx_MQ below (QQ Post G P ad0 N0) (QX Post G P ad0 N0) args s mc ms P) (F0 m pc ls (st.map (tr ad)))
def PA (ad : Nat → Nat) (n sz : Nat) : Nat → Prop := fun q => (∃ k, 0 < k ∧ k < n ∧ q = ad k) ∨ sz ≤ q
def PCq (as : List LV) (G : GG) (ad : Nat → Nat) (F : HF) (A : HA) (al : AL) (sz : Nat) : Array Value → State → Prop := fun v U =>
  v = (as.map (tr ad)).toArray ∧ U.heap.size = sz ∧ REP G ad F A al (PA ad al.2 sz) U U.heap ∧ KK G U ∧ XW U ∧ Zs (PA ad al.2 sz) U U.heap ∧ okst al.2 as
def cdw (M : MT) : Cond := match M.2.2.2.2 with
  | [] => .code M.1 M.2.1 M.2.2.1 M.2.2.2.1
  | h :: t => .codeWith M.1 M.2.1 M.2.2.1 M.2.2.2.1 (h :: t)
def rmq (d mc ms : Nat) : Room := { frames := d, cells := mc, slots := ms, locals := 40 * d }
def QE (d mc ms : Nat) (M : MT) (as : List LV) (F : HF) (A : HA) (al : AL) (Post : PO) : Prop :=
  ∀ (l : Launch), l.stackTraces = false → ∀ (G : GG) (ad : Nat → Nat) (sz : Nat),
    vx_Met l M.1 (cdw M :: TBg) (rmq d mc ms) (PCq as G ad F A al sz) (QQ Post G (PA ad al.2 sz) ad al.2) (QX Post G (PA ad al.2 sz) ad al.2) mc ms (PA ad al.2 sz)
theorem PCq_blind {as : List LV} {G : GG} {ad : Nat → Nat} {F : HF} {A : HA} {al : AL} {sz : Nat} : FrameBlind (PCq as G ad F A al sz) := by
  intro a U g mk h
  obtain ⟨h1, h2, h3, h4, h5, h6, h7⟩ := h
  exact ⟨h1, h2, h3.moved (U := U.calling g mk a) (Vm.Alike.refl U.vm), va_K.moved (U := U.calling g mk a) (Vm.Alike.refl U.vm) h4, h5.same rfl,
    ⟨vx_Zq.moved (U := U.calling g mk a) (Vm.Alike.refl U.vm) h6.1, vx_Zq.moved (U := U.calling g mk a) (Vm.Alike.refl U.vm) h6.2⟩, h7⟩
/-- a method out of its walk -/
theorem QE.mk {d mc ms : Nat} {y : MethodName} {cc : ByteArray} {nL : Nat} {ret : Option FieldType} {as : List LV} {F : HF} {A : HA} {al : AL} {Post : PO}
    (hy : plainName y.cls = true) (hn : (entL as).length ≤ nL) (body : QW (y, cc, nL, ret, []) d mc ms Post 0 0 0 (padL nL as) [] F A al) : QE d mc ms (y, cc, nL, ret, []) as F A al Post := by
  intro l hl G ad sz
  refine vx_ofW (cc := cc) (maxL := nL) (ret := ret) (ws' := TBg) hy rfl ?_
  intro p e s m args below meth c s₁ B hml htab hv
  obtain ⟨rfl, hsz, hR, hK, hX, hZ, hok⟩ := hv
  subst hsz
  rw [lg_entry_eq]
  have ht : c.exceptionTable.toList = [] := by
    cases h : c.exceptionTable.toList with
    | nil => rfl
    | cons x t => exact (htab x (by rw [h]; exact List.mem_cons_self)).elim
  exact body p l e _ s m _ below meth c G _ ad al.2
    ⟨B.exec, hl, B.bytes, hml, findClass_of_methodNamed B.named, fun w hw => atoms_spec (ws := cdw (y, cc, nL, ret, []) :: TBg) B.pre w (List.mem_cons_of_mem _ hw), B.returns, B.notSynchronized,
      (name_of_methodNamed B.named B.method).1, ht, hX, hK, hZ, fun q h => Or.inr h, Nat.le_refl _, Nat.le_refl _, Nat.le_refl _, Nat.le_refl _⟩
    ad s.heap [] _ ⟨hR, va_S.rf, Nat.le_refl _, fun _ _ => rfl, QL.entry hn hok, hR.s0⟩ trivial
