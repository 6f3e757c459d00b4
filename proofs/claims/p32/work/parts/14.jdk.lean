/-! JDK's own, rows by natural indices, the first methods of Galois -/
def Off (l : List Nat) (A A2 : HA) : Prop := ∀ b, b ∉ l → A2 b = A b
theorem Off.rfl' {l : List Nat} {A : HA} : Off l A A := fun _ _ => rfl
theorem Off.trans {l : List Nat} {A B C : HA} (h : Off l A B) (h2 : Off l B C) : Off l A C := fun b hb => (h2 b hb).trans (h b hb)
theorem Off.mono {l l' : List Nat} {A B : HA} (h : Off l A B) (hl : ∀ b, b ∈ l → b ∈ l') : Off l' A B := fun b hb => h b fun q => hb (hl b q)
theorem Off.up {l : List Nat} {A : HA} {a i : Nat} {v : Int} (h : a ∈ l) : Off l A (up2 A a i v) := fun b hb => up2_row (fun e => hb (by rw [e]; exact h))
theorem atS_nat {A : HA} {a n k : Nat} (h : k < n) : atS A a n (k : Int) = A a k := by
  unfold atS
  rw [if_pos ⟨by omega, by omega⟩]
  rfl
theorem ev_atN {a n k : Nat} {F : HF} {A : HA} {al : AL} (hk : al.1 a = (0, n)) (h : k < n) (hn : n < 2147483648) : QE 0 0 0 mX7_at [vA a, vI k] F A al (PI (A a k) F A al) := by
  have h1 := ev_at (F := F) (A := A) (i := (k : Int)) hk ⟨by omega, by omega⟩ hn
  rw [atS_nat h] at h1
  exact h1
theorem ev_setN {a n k : Nat} {x : Int} {F : HF} {A : HA} {al : AL} (hk : al.1 a = (0, n)) (h : k < n) (hn : n < 2147483648) : QE 0 0 0 mX7_set [vA a, vI k, vI x] F A al (PV F al (fun A2 => A2 = up2 A a k x)) := by
  have h1 := ev_set (F := F) (A := A) (i := (k : Int)) (x := x) hk ⟨by omega, by omega⟩ hn
  rw [if_pos ⟨by omega, by omega⟩] at h1
  exact h1
theorem ev_addN {a n k : Nat} {x : Int} {F : HF} {A : HA} {al : AL} (hk : al.1 a = (0, n)) (h : k < n) (hn : n < 2147483648) : QE 0 0 0 mX7_add [vA a, vI k, vI x] F A al (PV F al (fun A2 => A2 = up2 A a k (A a k + x))) := by
  have h1 := ev_add (F := F) (A := A) (i := (k : Int)) (x := x) hk ⟨by omega, by omega⟩ hn
  rw [if_pos ⟨by omega, by omega⟩] at h1
  exact h1
theorem ev_remP {a b : Int} {F : HF} {A : HA} {al : AL} (ha : 0 ≤ a) (ha2 : a < 2147483648) (hb : 0 < b) (hb2 : b < 2147483648) : QE 0 0 0 mX7_remainder [vI a, vI b] F A al (PI (a % b) F A al) := by
  have h1 := ev_rem (F := F) (A := A) (al := al) ha ha2 (b := b) ⟨by omega, by omega⟩
  rw [if_pos hb] at h1
  exact h1
theorem ev_quotP {a b : Int} {F : HF} {A : HA} {al : AL} (ha : 0 ≤ a) (ha2 : a < 2147483648) (hb : 0 < b) (hb2 : b < 2147483648) : QE 0 0 0 mX7_quotient [vI a, vI b] F A al (PI (a / b) F A al) := by
  have h1 := ev_quot (F := F) (A := A) (al := al) ha ha2 (b := b) ⟨by omega, by omega⟩
  rw [if_pos hb] at h1
  exact h1
theorem ev_raiseN {b : Int} {n : Nat} {F : HF} {A : HA} {al : AL} (hn : n < 2147483648) : QE 0 0 0 mX7_raise [vI b, vI n] F A al (PI (b ^ n) F A al) := ev_raise (n := (n : Int)) ⟨by omega, by omega⟩
theorem ofWF {l : Launch} {y : MethodName} {ws ws' : List Cond} {rm : Room} {Pc : Array Value → State → Prop} {Qc : Array Value → State → Outcome → State → Prop} {XC : String → State → State → Prop} {mc ms : Nat} {free : Addr → Prop} {cc : ByteArray} {maxL : Nat} {ret : Option FieldType}
    (hy : plainFor y = true) (hw : ws = Cond.code y cc maxL ret :: ws')
    (body : ∀ p e s m args below meth c s₁, BodyLoose p l y (headSpec ws rm) cc maxL ret e s m args below meth c s₁ → c.maxLocals = maxL → (∀ x ∈ c.exceptionTable.toList, False) → Pc args s →
      W p l e (headSpec ws rm).room s m args below meth c s.heap [] 0 0 (vx_MQ below Qc XC args s mc ms free) (entryFrame m args maxL)) : vx_Met l y ws rm Pc Qc XC mc ms free := by
  refine MetFree.of_bodySF (code := cc) (maxLocals := maxL) (ret := ret) hy ?_ ?_
  · intro args s m h hn
    obtain ⟨meth, c, h1, h2, h3, h4, h5, h6, -, -⟩ := Cond.code_spec hn (atoms_spec (ws := ws) h _ (by rw [hw]; exact List.mem_cons_self))
    exact ⟨meth, c, h1, h2, h3, h4, h5, h6⟩
  · intro p e s m args below meth c s₁ B hml hP _
    have hh0 : s₁.heap = s.heap := by rw [B.state]; rfl
    have ht : ∀ x ∈ c.exceptionTable.toList, False := by
      obtain ⟨meth9, c9, h1, h2, -, -, -, -, h7, -⟩ := Cond.code_spec B.named (atoms_spec (ws := ws) B.pre _ (by rw [hw]; exact List.mem_cons_self))
      cases Option.some.inj (h1.symm.trans B.method)
      cases Option.some.inj (h2.symm.trans (Stand.of_body B).code)
      intro x hx
      rw [Array.isEmpty_iff.mp h7] at hx
      cases hx
    obtain ⟨t, a1, o, b1, b2, b3⟩ := body p e s m args below meth c s₁ B hml ht hP s₁ hh0 (Stand.of_body B)
    exact ⟨t, o, a1, b1, b2, b3⟩
/-- a method of a class that has overridden methods, itself none of them -/
theorem QE.mkF {d mc ms : Nat} {y : MethodName} {cc : ByteArray} {nL : Nat} {ret : Option FieldType} {as : List LV} {F : HF} {A : HA} {al : AL} {Post : PO}
    (hy : plainFor y = true) (hn : (entL as).length ≤ nL) (body : QW (y, cc, nL, ret, []) d mc ms Post 0 0 0 (padL nL as) [] F A al) : QE d mc ms (y, cc, nL, ret, []) as F A al Post := by
  intro l hl G ad sz
  refine ofWF (cc := cc) (maxL := nL) (ret := ret) (ws' := TBg) hy rfl ?_
  intro p e s m args below meth c s₁ B hml htab hv
  obtain ⟨rfl, hsz, hR, hK, hX, hZ, hok⟩ := hv
  subst hsz
  rw [lg_entry_eq]
  have ht : c.exceptionTable.toList = [] := by
    cases h : c.exceptionTable.toList with
    | nil => rfl
    | cons x t => exact (htab x (by rw [h]; exact List.mem_cons_self)).elim
  exact body p l e _ s m _ below meth c G _ ad al.2
    ⟨B.exec, hl, B.bytes, hml, findClass_of_methodNamed B.named, fun w hw => atoms_spec (ws := cdw (y, cc, nL, ret, []) :: TBg) B.pre w (List.mem_cons_of_mem _ hw), B.returns, B.notSynchronized,
      (name_of_methodNamed B.named B.method).1, ht, hX, hK, hZ, fun q h => Or.inr h, Nat.le_refl _, Nat.le_refl _, Nat.le_refl _, Nat.le_refl _⟩
    ad s.heap [] _ ⟨hR, va_S.rf, Nat.le_refl _, fun _ _ => rfl, QL.entry hn hok, hR.s0⟩ trivial
set_option maxRecDepth 20000 in
theorem ev_min {a b : Int} {F : HF} {A : HA} {al : AL} (ha : InR a) (hb : InR b) : QE 0 0 0 mJ9_min_7cf53 [vI a, vI b] F A al (PI (min a b) F A al) := by
  refine QE.mkF (by decide +kernel) (Nat.le_of_ble_eq_true rfl) ?_
  refine q_iload_n dJ9_min_7cf53_0 rfl ?_
  refine q_iload_n dJ9_min_7cf53_1 rfl ?_
  refine q_icmp_gt (tgt := 9) dJ9_min_7cf53_2 (by decide) (by first | assumption | exact ⟨by omega, by omega⟩) (by first | assumption | exact ⟨by omega, by omega⟩) (fun c2 => ?_) (fun c2 => ?_)
  · refine q_iload_n dJ9_min_7cf53_9 rfl ?_
    refine q_retI dJ9_min_7cf53_10 rfl (by decide) (by decide) ?_
    refine PI_ok ?_
    omega
  · refine q_iload_n dJ9_min_7cf53_5 rfl ?_
    refine q_goto (tgt := 10) dJ9_min_7cf53_6 (by decide) ?_
    refine q_retI dJ9_min_7cf53_10 rfl (by decide) (by decide) ?_
    refine PI_ok ?_
    omega
set_option maxRecDepth 20000 in
theorem ev_max {a b : Int} {F : HF} {A : HA} {al : AL} (ha : InR a) (hb : InR b) : QE 0 0 0 mJ9_max_7cf53 [vI a, vI b] F A al (PI (max a b) F A al) := by
  refine QE.mkF (by decide +kernel) (Nat.le_of_ble_eq_true rfl) ?_
  refine q_iload_n dJ9_max_7cf53_0 rfl ?_
  refine q_iload_n dJ9_max_7cf53_1 rfl ?_
  refine q_icmp_lt (tgt := 9) dJ9_max_7cf53_2 (by decide) (by first | assumption | exact ⟨by omega, by omega⟩) (by first | assumption | exact ⟨by omega, by omega⟩) (fun c2 => ?_) (fun c2 => ?_)
  · refine q_iload_n dJ9_max_7cf53_9 rfl ?_
    refine q_retI dJ9_max_7cf53_10 rfl (by decide) (by decide) ?_
    refine PI_ok ?_
    omega
  · refine q_iload_n dJ9_max_7cf53_5 rfl ?_
    refine q_goto (tgt := 10) dJ9_max_7cf53_6 (by decide) ?_
    refine q_retI dJ9_max_7cf53_10 rfl (by decide) (by decide) ?_
    refine PI_ok ?_
    omega
theorem lp_fill {a n : Nat} {v : Int} {F : HF} {A0 : HA} {al : AL} (hk : al.1 a = (0, n)) (hn : n < 2147483648) : ∀ (k i : Nat) (A : HA), i + k = n → Off [a] A0 A → (∀ j, j < i → A a j = v) →
    QW mJ7_fill_53178 0 0 0 (PV F al (fun A2 => Off [a] A0 A2 ∧ ∀ j, j < n → A2 a j = v)) 0 0 5 [some (vA a), some (vI v), some (vI i), some (vI n)] [] F A al := by
  intro k
  induction k with
  | zero =>
    intro i A hi ho hv
    refine q_iload_n dJ7_fill_53178_5 rfl ?_
    refine q_iload_n dJ7_fill_53178_6 rfl ?_
    refine q_icmp_ge (tgt := 20) dJ7_fill_53178_7 (by decide) (by first | assumption | exact ⟨by omega, by omega⟩) (by first | assumption | exact ⟨by omega, by omega⟩) (fun c7 => ?_) (fun c7 => ?_)
    · refine q_retV dJ7_fill_53178_20 rfl (by decide) (by decide) ?_
      exact ⟨rfl, rfl, rfl, ho, fun j hj => hv j (by omega)⟩
    · exact absurd c7 (by omega)
  | succ k ih =>
    intro i A hi ho hv
    refine q_iload_n dJ7_fill_53178_5 rfl ?_
    refine q_iload_n dJ7_fill_53178_6 rfl ?_
    refine q_icmp_ge (tgt := 20) dJ7_fill_53178_7 (by decide) (by first | assumption | exact ⟨by omega, by omega⟩) (by first | assumption | exact ⟨by omega, by omega⟩) (fun c7 => ?_) (fun c7 => ?_)
    · exact absurd c7 (by omega)
    · refine q_aload_n dJ7_fill_53178_10 rfl ?_
      refine q_iload_n dJ7_fill_53178_11 rfl ?_
      refine q_iload_n dJ7_fill_53178_12 rfl ?_
      refine q_iast dJ7_fill_53178_13 hk (by omega) (by omega) ?_
      refine q_iinc dJ7_fill_53178_14 rfl (by decide) rfl ?_
      refine q_goto (tgt := 5) dJ7_fill_53178_17 (by decide) ?_
      refine ih (i + 1) _ (by omega) (ho.trans (Off.up (by simp))) (fun j hj => ?_)
      rw [up2_at]
      split
      · rfl
      · next hne => exact hv j (by have : j ≠ i := hne; omega)
set_option maxRecDepth 20000 in
theorem ev_fill {a n : Nat} {v : Int} {F : HF} {A : HA} {al : AL} (hk : al.1 a = (0, n)) (hn : n < 2147483648) : QE 0 0 0 mJ7_fill_53178 [vA a, vI v] F A al (PV F al (fun A2 => Off [a] A A2 ∧ ∀ j, j < n → A2 a j = v)) := by
  refine QE.mk (by decide +kernel) (Nat.le_of_ble_eq_true rfl) ?_
  refine q_iconst dJ7_fill_53178_0 ?_
  refine q_istore_n dJ7_fill_53178_1 (by decide) rfl ?_
  refine q_aload_n dJ7_fill_53178_2 rfl ?_
  refine q_alen dJ7_fill_53178_3 hk ?_
  refine q_istore_n dJ7_fill_53178_4 (by decide) rfl ?_
  exact lp_fill hk hn n 0 A (by omega) Off.rfl' (fun j hj => by omega)
