/-! System.arraycopy of ints -/
theorem ac_link : Jvm.Cond.methodLink "RootedRing$Latest" (128 : Nat) ({ cls := "java/lang/System", name := "arraycopy", desc := "(Ljava/lang/Object;ILjava/lang/Object;II)V" } : Jvm.MethodName) ∈ TBg := tb_i (List.mem_of_getElem? (i := 1157) (by decide +kernel)) (by decide +kernel)
theorem ac_static : Jvm.Cond.static ({ cls := "java/lang/System", name := "arraycopy", desc := "(Ljava/lang/Object;ILjava/lang/Object;II)V" } : Jvm.MethodName) ∈ TBg := tb_i (List.mem_of_getElem? (i := 1158) (by decide +kernel)) (by decide +kernel)
theorem ac_native : Jvm.Cond.native ({ cls := "java/lang/System", name := "arraycopy", desc := "(Ljava/lang/Object;ILjava/lang/Object;II)V" } : Jvm.MethodName) ∈ TBg := tb_i (List.mem_of_getElem? (i := 1159) (by decide +kernel)) (by decide +kernel)
theorem ac_init : Jvm.Cond.initialized "java/lang/System" ∈ TBg := tb_i (List.mem_of_getElem? (i := 127) (by decide +kernel)) (by decide +kernel)
def cpA (A : HA) (a0 a n : Nat) : HA := fun b => if b = a then (fun j => if j < n then A a0 j else A a j) else A b
section Copy
variable {M : MT} {d mc ms nc ns pc : Nat} {Post : PO} {L : List (Option LV)} {st : List LV} {F : HF} {A : HA} {al : AL}
theorem q_arrcopy {a0 a n : Nat} (hM : M.1.cls = "RootedRing$Latest") (hd : decode M.2.1 pc = .ok (.invokestatic 128, 3)) (hk0 : al.1 a0 = (0, n)) (hk : al.1 a = (0, n)) (hn : n < 2147483648) (hdd : 1 ≤ d)
    (k : QW M d mc ms Post nc ns (pc + 3) L [] F (cpA A a0 a n) al) : QW M d mc ms Post nc ns pc L [vI n, vI 0, vA a, vI 0, vA a0] F A al := by
  intro p l e R s m args below meth c G P ad0 N0 hc ad H locs ls hs hst
  have hpos := hs.1.pos hk (by omega)
  have hN : (Int32.ofInt (n : Int)).toNatClampNeg = n := by
    show ((Int32.ofInt (n : Int)).toInt).toNat = n
    rw [i_toInt ⟨by omega, by omega⟩]
    omega
  have hZ : (Int32.ofInt (0 : Int)).toNatClampNeg = 0 := by decide
  have hnn : ¬ Int32.ofInt (n : Int) < 0 := by
    rw [Int32.lt_iff_toInt_lt, i_toInt ⟨by omega, by omega⟩]
    show ¬ (n : Int) < (0 : Int32).toInt
    rw [show (0 : Int32).toInt = 0 from rfl]
    omega
  have hlink := hc.2.2.2.2.2.1 _ ac_link
  rw [← hM] at hlink
  refine va_copyi hc.1 hc.2.2.1 (by rw [hc.2.2.2.1]; exact hs.2.2.2.2.1.1.symm) hc.2.2.2.2.1 hlink (hc.2.2.2.2.2.1 _ ac_native) (hc.2.2.2.2.2.1 _ ac_static) (hc.2.2.2.2.2.1 _ ac_init)
    hc.2.2.2.2.2.2.2.2.2.2.2.1 hs.1.1 hs.1.2.1 hs.2.1 (a0 - 1) (a - 1) 0 0 (hs.1.get hk0 (by omega) (by omega)) (hs.1.get hk (by omega) (by omega)) rfl rfl rfl
    (by decide) (by decide) hnn (by rw [hZ, hN]; omega) (by rw [hZ, hN]; omega) (fun i _ => rfl) (by have := hc.2.2.2.2.2.2.2.2.2.2.2.2.2.2.1; omega)
    (by have h := hc.2.2.2.2.2.2.2.2.2.2.2.2.2.2.2.1; have hw : nativeFrameWords "java/lang/System" "arraycopy" 5 = 7 := (by decide); show 0 + _ ≤ _; omega) hd (fun H1 locs1 hP1 hD1 hS1 => ?_)
  rw [hZ, hN] at hP1 hD1
  have e9 := wl_set (G := G) (ad := ad) (F := F) (F' := F) (A := A) (A' := cpA A a0 a n) (al := al) hpos (fun b hb => ⟨rfl, if_neg hb⟩) (z := (ad a, .inl (G.2.1, n, .inl (va_cpy (fun j => Int32.ofInt (A a0 j)) (fun j => Int32.ofInt (A a j)) 0 0 n))))
    (by
      rw [hk]
      show _ = (ad a, (Sum.inl (G.2.1, n, Sum.inl fun j => Int32.ofInt (cpA A a0 a n a j)) : va_E))
      congr 5
      funext j
      unfold va_cpy cpA
      rw [if_pos rfl]
      by_cases hj : j < n
      · rw [if_pos ⟨by omega, by omega⟩, if_pos hj, Nat.zero_add, Nat.sub_zero]
      · rw [if_neg (by omega), if_neg hj])
  rw [e9] at hP1 hD1
  exact k p l e R s m args below meth c G P ad0 N0 hc ad H1 locs1 ls ⟨hs.1.put hP1 hD1 hs.1.2.2.1 (if_neg (Nat.ne_of_lt hpos)) (va_S_same hs.2.1 hS1 hs.2.2.2.2.2 hs.1.2.2.2.2.2.2.2.1), hS1, hs.2.2⟩ trivial
end Copy

