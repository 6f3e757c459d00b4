/-! the law: methods with a handler, calls of them; what stays beside a call -/
theorem QE.mkH {d mc ms : Nat} {y : MethodName} {cc : ByteArray} {nL : Nat} {ret : Option FieldType} {h : Nat × Nat × Nat × Nat} {t : List (Nat × Nat × Nat × Nat)} {as : List LV} {F : HF} {A : HA} {al : AL} {Post : PO}
    (hy : plainName y.cls = true) (hn : (entL as).length ≤ nL) (body : QW (y, cc, nL, ret, h :: t) d mc ms Post 0 0 0 (padL nL as) [] F A al) : QE d mc ms (y, cc, nL, ret, h :: t) as F A al Post := by
  intro l hl G ad sz
  refine vx_ofWH (cc := cc) (maxL := nL) (ret := ret) (hh := h :: t) (ws' := TBg) hy rfl ?_
  intro p e s m args below meth c s₁ B hml hv
  have hw9 : (Cond.codeWith y cc nL ret (h :: t)).before args s = true := atoms_spec (ws := cdw (y, cc, nL, ret, h :: t) :: TBg) B.pre _ List.mem_cons_self
  have ht := vx_table (x := y) B hw9
  obtain ⟨rfl, hsz, hR, hK, hX, hZ, hok⟩ := hv
  subst hsz
  rw [lg_entry_eq]
  exact body p l e _ s m _ below meth c G _ ad al.2
    ⟨B.exec, hl, B.bytes, hml, findClass_of_methodNamed B.named, fun w hw => atoms_spec (ws := cdw (y, cc, nL, ret, h :: t) :: TBg) B.pre w (List.mem_cons_of_mem _ hw), B.returns, B.notSynchronized,
      (name_of_methodNamed B.named B.method).1, ht, hX, hK, hZ, fun q h => Or.inr h, Nat.le_refl _, Nat.le_refl _, Nat.le_refl _, Nat.le_refl _⟩
    ad s.heap [] _ ⟨hR, va_S.rf, Nat.le_refl _, fun _ _ => rfl, QL.entry hn hok, hR.s0⟩ trivial
section HCalls
variable {M : MT} {d mc ms : Nat} {Post : PO} {nc ns pc : Nat} {L : List (Option LV)} {st : List LV} {F : HF} {A : HA} {al : AL}
variable {M1 : MT} {d1 mc1 ms1 n1 idx : Nat} {as : List LV} {Post1 : PO}
/-- a call of a method that may throw, in a method whose one handler takes that -/
theorem q_callVH (as : List LV) {b ci n k0 k1 hp ct : Nat} {E : String} (hh : M.2.2.2.2 = [(k0, k1, hp, ct)]) (hcv : (decide (k0 ≤ pc) && decide (pc < k1)) = true) (h0 : ct ≠ 0) (hlk : Cond.classLink M.1.cls ct E ∈ TBg) (hxw : (E, E) ∈ xwC)
    (hd : decode M.2.1 pc = .ok (.invokevirtual idx, 3)) (hm : MF M1 as.length) (hw : CV M.1.cls idx M1 ci) (hk : al.1 b = (ci + 10, n)) (ev : QE d1 mc1 ms1 M1 (vA b :: as) F A al Post1) (hd1 : d1 < d) (hm1 : nc + mc1 ≤ mc) (hm2 : ns + ms1 ≤ ms) (hr : catS st ≤ 8)
    {st0 : List LV} (hst0 : st0 = as.reverse ++ vA b :: st) (hx : ∀ (E' : String) (F' : HF) (A' : HA) (al' : AL), Post1 (.inr E') F' A' al' → E' = E ∧ ∀ q, QW M d mc ms Post (nc + mc1) (ns + ms1) hp L [vO q] F' A' al')
    (k : ∀ (v : Option Int) (F' : HF) (A' : HA) (al' : AL), Post1 (.inl v) F' A' al' → QW M d mc ms Post (nc + mc1) (ns + ms1) (pc + 3) L (retL v ++ st) F' A' al') : QW M d mc ms Post nc ns pc L st0 F A al := by
  intro p l e R s m args below meth c G P ad0 N0 hc ad H locs ls hs hst
  subst hst0
  have h1 := okst_r hst
  have h2 : okst al.2 (vA b :: as) := ⟨h1.1, okst_of fun v hv => okst_mem hst (List.mem_append_left _ (List.mem_reverse.mpr hv))⟩
  have ht : c.exceptionTable.toList = [⟨k0, k1, hp, ct⟩] := by rw [hc.2.2.2.2.2.2.2.2.2.1, hh]; rfl
  have hts := hc.2.2.2.2.2.1
  exact q_after hc hs h1.2 (runV hd hm hw hk ev hd1 hm1 hm2 hr hc hs h2 rfl)
    (fun v F' A' al' ad' H' locs' hp hq ho => k v F' A' al' hp p l e R s m args below meth c G P ad0 N0 hc ad' H' locs' ls hq (okst_app (retL_ok v) ho))
    (fun E' F' A' al' ad' H' locs' q ce hp' hq ho hce hcv' hcl => by
      obtain ⟨rfl, kk⟩ := hx E' F' A' al' hp'
      exact vx_catch (own := M.1.cls) (name := E') hc.2.2.2.2.1 [] ⟨k0, k1, hp, ct⟩ [] ht (fun z hz => by cases hz) hcv h0 (hts _ hlk) (va_Nw.use rfl (hc.2.2.2.2.2.2.2.2.2.2.1.1 (E', E') hxw)) hce hcv' hcl
        (kk q p l e R s m args below meth c G P ad0 N0 hc ad' H' locs' ls hq ⟨trivial, trivial⟩))
def CW (own : String) (idx : Nat) (M : MT) : Prop := Cond.codeWith M.1 M.2.1 M.2.2.1 M.2.2.2.1 M.2.2.2.2 ∈ TBg ∧ Cond.initialized M.1.cls ∈ TBg ∧ Cond.methodLink own idx M.1 ∈ TBg ∧ Cond.static M.1 ∈ TBg
def MFW (M : MT) (n : Nat) : Prop := (M.1.cls ≠ "java/lang/invoke/MethodHandle" ∧ M.1.cls ≠ "java/lang/invoke/VarHandle") ∧ (parseMethodDescriptor M.1.desc).map (fun d => d.parameters.length) = some n ∧ M.2.2.1 ≤ 21 ∧ M.2.2.2.2 ≠ []
theorem cdw_cons {M : MT} (h : M.2.2.2.2 ≠ []) : cdw M = .codeWith M.1 M.2.1 M.2.2.1 M.2.2.2.1 M.2.2.2.2 := by
  unfold cdw
  split
  · next e => exact absurd e h
  · next e => rw [e]
/-- a call of a static method with a handler, that returns -/
theorem q_callSW (as : List LV) (hd : decode M.2.1 pc = .ok (.invokestatic idx, 3)) (hm : MFW M1 as.length) (hw : CW M.1.cls idx M1) (ev : QE d1 mc1 ms1 M1 as F A al Post1) (hnt : NT Post1) (hd1 : d1 < d) (hm1 : nc + mc1 ≤ mc) (hm2 : ns + ms1 ≤ ms) (hr : catS st ≤ 8)
    {st0 : List LV} (hst0 : st0 = as.reverse ++ st)
    (k : ∀ (v : Option Int) (F' : HF) (A' : HA) (al' : AL), Post1 (.inl v) F' A' al' → QW M d mc ms Post (nc + mc1) (ns + ms1) (pc + 3) L (retL v ++ st) F' A' al') : QW M d mc ms Post nc ns pc L st0 F A al := by
  intro p l e R s m args below meth c G P ad0 N0 hc ad H locs ls hs hst
  subst hst0
  have h1 := okst_r hst
  have h2 : okst al.2 as := okst_of fun v hv => okst_mem hst (List.mem_append_left _ (List.mem_reverse.mpr hv))
  have hts := hc.2.2.2.2.2.1
  obtain ⟨hn1, hn2, hn3, hn4⟩ := hm
  obtain ⟨w1, w2, w3, w4⟩ := hw
  obtain ⟨hf1, hf2, hf3, hf4⟩ := hc.2.2.2.2.2.2.2.2.2.2.2.2.2.2
  have hE := ev l hc.2.1 G ad H.size
  rw [cdw_cons hn4] at hE
  refine q_after (Post1 := Post1) hc hs h1 (stk := (as.reverse ++ st).map (tr ad)) (a := (as.map (tr ad)).toArray) ?_
    (fun v F' A' al' ad' H' locs' hp hq ho => k v F' A' al' hp p l e R s m args below meth c G P ad0 N0 hc ad' H' locs' ls hq (okst_app (retL_ok v) ho))
    (fun E F' A' al' _ _ _ _ _ hp => absurd hp (hnt E F' A' al'))
  refine vx_runSX (n := as.length) (hh := M1.2.2.2.2) (ws := Cond.codeWith M1.1 M1.2.1 M1.2.2.1 M1.2.2.2.1 M1.2.2.2.2 :: TBg) (rm := rmq d1 mc1 ms1) (As := as.map (tr ad)) (bytes := M1.2.1) (maxL := M1.2.2.1) (ret := M1.2.2.2.1) (Ts := TBg) ⟨hc.1, hc.2.2.1, hc.2.2.2.1, hc.2.2.2.2.1, hts⟩ hE
    ⟨⟨rfl, rfl, (show d1 + 1 ≤ R.frames by omega), (show 8 + (M1.2.2.1 + 11) + 40 * d1 ≤ R.locals by omega), pay_tb hc w1, List.mem_cons_self⟩, hts _ w1, hts _ w2, hn1, fun sig h => ?_, hts _ w3, hts _ w4⟩
    ⟨PCq_blind, fun U hU hW => pc_of hc hs h2 U hU hW⟩ rfl (by rw [List.length_map]) hs.2.2.2.2.1.1 (by rw [List.map_append, List.map_reverse]) (room_st hr) hd ⟨Nat.le_trans hm1 hf3, Nat.le_trans hm2 hf4⟩
  rw [h] at hn2
  exact (Option.some.inj hn2).symm
end HCalls
/-- an int as the machine has it -/
def wr (a : Int) : Int := (Int32.ofInt a).toInt
theorem wr_L (a : Int) : InL (wr a) := by
  have h1 := Int32.le_toInt (Int32.ofInt a)
  have h2 := Int32.toInt_lt (Int32.ofInt a)
  unfold wr
  exact ⟨by omega, by omega⟩
section Law0
variable {M : MT} {d mc ms : Nat} {Post : PO} {nc ns pc : Nat} {L : List (Option LV)} {st : List LV} {F : HF} {A : HA} {al : AL}
theorem q_i2lw {a : Int} (hd : decode M.2.1 pc = .ok (.i2l, 1)) (k : QW M d mc ms Post nc ns (pc + 1) L (vJ (wr a) :: st) F A al) : QW M d mc ms Post nc ns pc L (vI a :: st) F A al := by
  intro p l e R s m args below meth c G P ad0 N0 hc ad H locs ls hs hst
  refine lv_i2l (v := Int64.ofInt (wr a)) hc.1 hc.2.2.1 hd ?_ ?_
  · apply Int64.toInt_inj.mp
    rw [Int32.toInt_toInt64, l_toInt (wr_L a)]; rfl
  exact k p l e R s m args below meth c G P ad0 N0 hc ad H locs ls hs ⟨trivial, hst.2⟩
theorem q_icmp_same {a : Int} {off : Int} {tgt : Nat} (hd : decode M.2.1 pc = .ok (.if_icmp .eq off, 3)) (ht : (pc : Int) + off = (tgt : Int)) (kt : QW M d mc ms Post nc ns tgt L st F A al) : QW M d mc ms Post nc ns pc L (vI a :: vI a :: st) F A al := by
  intro p l e R s m args below meth c G P ad0 N0 hc ad H locs ls hs hst
  exact lv_icmp_eq hc.1 hc.2.2.1 hd ht (fun _ => kt p l e R s m args below meth c G P ad0 N0 hc ad H locs ls hs hst.2.2) (fun h => absurd rfl h)
theorem q_sldE {S0 : Nat → Int} {i : Int} {n : Nat} (hd : decode M.2.1 pc = .ok (.iaload, 1)) (he : A 0 = S0) (hk : al.1 0 = (4, n)) (h0 : 0 ≤ i) (h1 : i < n) (k : QW M d mc ms Post nc ns (pc + 1) L (vI (S0 i.toNat) :: st) F A al) : QW M d mc ms Post nc ns pc L (vI i :: vA 0 :: st) F A al :=
  q_sld hd hk h0 h1 (by rw [he]; exact k)
end Law0
/-! what a call leaves beside it -/
theorem FE.lo {l : List (Nat × Nat)} {F F' : HF} (h : ∀ b k, b < 44 → F' b k = F b k) (hl : (l.all fun q => decide (q.1 < 44)) = true) : FE l F F' := fun q hq => h q.1 q.2 (by have := List.all_eq_true.mp hl q hq; exact of_decide_eq_true this)
theorem AE.lo {l : List Nat} {A A' : HA} (h : ∀ b, b < 44 → A' b = A b) (hl : (l.all fun q => decide (q < 44)) = true) : AE l A A' := fun q hq => h q (by have := List.all_eq_true.mp hl q hq; exact of_decide_eq_true this)
theorem FE.m44 {l : List (Nat × Nat)} {F F' : HF} (h : ∀ k, F' 44 k = F 44 k) (hl : (l.all fun q => decide (q.1 = 44)) = true) : FE l F F' := fun q hq => by
  have h1 := List.all_eq_true.mp hl q hq
  have h2 : q.1 = 44 := of_decide_eq_true h1
  rw [h2]; exact h q.2
theorem AE.mid {l : List Nat} {A A' : HA} (h : ∀ b, 44 ≤ b → b < 67 → A' b = A b) (hl : (l.all fun q => decide (44 ≤ q) && decide (q < 67)) = true) : AE l A A' := fun q hq => by
  have h1 := List.all_eq_true.mp hl q hq
  rw [Bool.and_eq_true] at h1
  exact h q (of_decide_eq_true h1.1) (of_decide_eq_true h1.2)
section Beside
variable {p e r q N : Nat} {m : Int} {f : Nat → Int} {g : Int} {rt lg pl_ tp mk ck : Nat → Int} {len n dg : Nat} {fp set : Int} {w : Option (Nat → Int)} {S : List Int} {F F' : HF} {A A' : HA} {al : AL}
theorem XF.lo (h : XF F) (hF : ∀ b k, b < 44 → F' b k = F b k) : XF F' := fun z hz => by
  rw [hF z.1 z.2.1 ?_]
  · exact h z hz
  · have h1 := List.all_eq_true.mp (show (xrefs.all fun z => decide (z.1 < 44)) = true by decide) z hz
    exact of_decide_eq_true h1
theorem MR.m44 (h : MR F) (hF : ∀ k, F' 44 k = F 44 k) : MR F' := fun z hz => by
  have h1 := List.all_eq_true.mp (show (mrefs.all fun z => decide (z.1 = 44)) = true by decide) z hz
  have h2 : z.1 = 44 := of_decide_eq_true h1
  have h3 := h z hz
  rw [h2] at h3 ⊢
  rw [hF]; exact h3
theorem XI.lo (h : XI p e r q N m f g lg pl_ len tp fp n set dg mk ck w S F A) (hF : ∀ b k, b < 44 → F' b k = F b k) (hA : ∀ b, b < 44 → A' b = A b) : XI p e r q N m f g lg pl_ len tp fp n set dg mk ck w S F' A' := by
  obtain ⟨a1, a2, a3, a4, a5, a6, a7, a8⟩ := h
  exact ⟨a1.pres (a1.1.lo hF) (FE.lo hF (by decide)) (AE.lo hA (by decide)), a2.pres (AE.lo hA (by decide)), a3.pres (FE.lo hF (by decide)) (AE.lo hA (by decide)), a4.pres (FE.lo hF (by decide)), a5.pres (FE.lo hF (by decide)) (AE.lo hA (by decide)), a6.pres (FE.lo hF (by decide)) (AE.lo hA (by decide)), a7.pres (FE.lo hF (by decide)) (AE.lo hA (by decide)), a8.pres (FE.lo hF (by decide)) (AE.lo hA (by decide))⟩
theorem MI.mid (h : MI p e r q N m f g rt lg pl_ len tp fp n set dg mk ck w S F A) (hF : ∀ k, F' 44 k = F 44 k) (hA : ∀ b, 44 ≤ b → b < 67 → A' b = A b) : MI p e r q N m f g rt lg pl_ len tp fp n set dg mk ck w S F' A' := by
  obtain ⟨a1, a2, a3, a4, a5, a7, a8⟩ := h
  exact ⟨a1.pres (a1.1.m44 hF) (FE.m44 hF (by decide)) (AE.mid hA (by decide)), a2.pres (AE.mid hA (by decide)), a3.pres (FE.m44 hF (by decide)) (AE.mid hA (by decide)), a4.pres (FE.m44 hF (by decide)), a5.pres (FE.m44 hF (by decide)) (AE.mid hA (by decide)), a7.pres (FE.m44 hF (by decide)) (AE.mid hA (by decide)), a8.pres (FE.m44 hF (by decide)) (AE.mid hA (by decide))⟩
/-- a call of the class that changes nothing, told as one that may -/
theorem px_r {d mc ms : Nat} {M : MT} {as : List LV} {E : String} {R : Option Int} (h : XI p e r q N m f g lg pl_ len tp fp n set dg mk ck w S F A) (ev : QE d mc ms M as F A al (PXP E R F A al)) :
    QE d mc ms M as F A al (PXR E R F A al (fun F2 A2 => XI p e r q N m f g lg pl_ len tp fp n set dg mk ck w S F2 A2)) := ev.post (fun o F' A' al' hp => by
  obtain ⟨h1, h2, rfl, h4⟩ := hp
  exact ⟨h1, h2, fun _ _ _ => rfl, h4.hi (by decide), h.s4 h4⟩)
theorem pm_r {d mc ms : Nat} {M : MT} {as : List LV} {R : Option Int} (h : MI p e r q N m f g rt lg pl_ len tp fp n set dg mk ck w S F A) (ev : QE d mc ms M as F A al (PMP R F A al)) :
    QE d mc ms M as F A al (PMR R F A al (fun F2 A2 => MI p e r q N m f g rt lg pl_ len tp fp n set dg mk ck w S F2 A2)) := ev.post (fun o F' A' al' hp => by
  obtain ⟨h1, h2, rfl, h4, h5⟩ := hp
  refine ⟨h1, h2, ⟨Nat.le_refl _, fun _ _ => rfl⟩, fun b k _ hb => h4 b k (fun hm => hb ?_), fun b _ hb => h5 b (fun hm => ?_), h.off h4 h5 (by decide) (by decide) (by decide)⟩
  · have h6 := List.all_eq_true.mp (show (SCF.all fun z => decide (z.1 = 44)) = true by decide) _ hm
    exact of_decide_eq_true h6
  · have h6 := List.all_eq_true.mp (show (SCA.all fun z => decide (44 ≤ z) && decide (z < 67)) = true by decide) _ hm
    rw [Bool.and_eq_true] at h6
    have h7 := of_decide_eq_true h6.1
    have h8 := of_decide_eq_true h6.2
    omega)
end Beside
