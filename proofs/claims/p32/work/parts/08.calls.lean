/-! calls, throws, new cells -/
def retL : Option Int → List LV
  | none => []
  | some k => [vI k]
theorem retL_tr {ad : Nat → Nat} : ∀ v : Option Int, (v.map fun k => Value.int (Int32.ofInt k)).toList = (retL v).map (tr ad)
  | none => rfl
  | some _ => rfl
theorem retL_ok {n : Nat} : ∀ v : Option Int, okst n (retL v)
  | none => trivial
  | some _ => ⟨trivial, trivial⟩
/-- facts of a method: its class is an ordinary one, how many arguments, not too many locals -/
def MF (M : MT) (n : Nat) : Prop := (M.1.cls ≠ "java/lang/invoke/MethodHandle" ∧ M.1.cls ≠ "java/lang/invoke/VarHandle") ∧ (parseMethodDescriptor M.1.desc).map (fun d => d.parameters.length) = some n ∧ M.2.2.1 ≤ 21 ∧ M.2.2.2.2 = []
def CS (own : String) (idx : Nat) (M : MT) : Prop := Cond.code M.1 M.2.1 M.2.2.1 M.2.2.2.1 ∈ TBg ∧ Cond.initialized M.1.cls ∈ TBg ∧ Cond.methodLink own idx M.1 ∈ TBg ∧ Cond.static M.1 ∈ TBg
def CV (own : String) (idx : Nat) (M : MT) (ci : Nat) : Prop := Cond.code M.1 M.2.1 M.2.2.1 M.2.2.2.1 ∈ TBg ∧ Cond.initialized M.1.cls ∈ TBg ∧ Cond.methodLink own idx M.1 ∈ TBg ∧ Cond.instanceMethod M.1 ∈ TBg ∧ Cond.selects M.1.cls M.1 M.1 ∈ TBg ∧ ∃ (T : u_T) (N : Nat), vwCl[ci]? = some (M.1.cls, T, N)
def CI (own : String) (idx : Nat) (M : MT) : Prop := Cond.code M.1 M.2.1 M.2.2.1 M.2.2.2.1 ∈ TBg ∧ Cond.initialized M.1.cls ∈ TBg ∧ Cond.methodLink own idx M.1 ∈ TBg ∧ Cond.instanceMethod M.1 ∈ TBg ∧ M.1.name = "<init>" ∧ M.2.2.2.1 = none
def CN (own : String) (idx : Nat) (M : MT) : Prop := Cond.code M.1 M.2.1 M.2.2.1 M.2.2.2.1 ∈ TBg ∧ Cond.initialized M.1.cls ∈ TBg ∧ (own, idx, M.1, "RootedRing") ∈ xwM ∧ Cond.instanceMethod M.1 ∈ TBg ∧ M.1.name = "<init>" ∧ M.2.2.2.1 = none
theorem met_of_vx {l : Launch} {y : MethodName} {ws : List Cond} {rm : Room} {Pc : Array Value → State → Prop} {Qc : Array Value → State → Outcome → State → Prop} {XC : String → State → State → Prop} {mc ms : Nat} {free : Addr → Prop}
    (h : vx_Met l y ws rm Pc Qc XC mc ms free) (hx : ∀ E s t, ¬ XC E s t) : Met l y ws rm Pc Qc mc ms free := by
  intro p e a1 a2 a3 s m args below hf hap hP hK
  obtain ⟨n, o, h1, h2, h3, h4⟩ := h p e a1 a2 a3 s m args below hf hap hP hK
  refine ⟨n, o, h1, h2, h3, ?_⟩
  rcases h4 with h4 | ⟨q, -, E, ce, Ls, h5, -⟩
  · exact h4
  · exact absurd h5 (hx _ _ _)
/-- Post of a method that does not throw -/
def NT (Post : PO) : Prop := ∀ E F A al, ¬ Post (.inr E) F A al
theorem NT.qx {Post : PO} (h : NT Post) {G : GG} {P : Nat → Prop} {ad0 : Nat → Nat} {N0 : Nat} (E : String) (s t : State) : ¬ QX Post G P ad0 N0 E s t := by
  rintro ⟨⟨F, A, al, ad, h1, -⟩, -⟩
  exact h E F A al h1
theorem PA_self {G : GG} {ad : Nat → Nat} {F : HF} {A : HA} {al : AL} {P : Nat → Prop} {U : State} {H : Heap} (h : REP G ad F A al P U H) : REP G ad F A al (PA ad al.2 H.size) U H := by
  refine ⟨h.1, h.2.1.weaken (fun k q hq _ => ?_), h.2.2.1, h.2.2.2.1, h.2.2.2.2.1, h.2.2.2.2.2.1, h.2.2.2.2.2.2.1, ?_, h.2.2.2.2.2.2.2.2⟩
  · obtain ⟨h1, h2⟩ := wl_in hq
    subst h2
    exact Or.inl ⟨k + 1, by omega, h1, rfl⟩
  · rintro (⟨k, h0, h1, h2⟩ | h1)
    · have e := wl_get (G := G) (ad := ad) (F := F) (A := A) (al := al) h0 h1
      have := h.2.1.2 _ _ e
      exact h.2.2.2.2.2.2.2.1 (by rw [h2]; exact this)
    · have := h.s0; omega
theorem PA_in {G : GG} {ad : Nat → Nat} {F : HF} {A : HA} {al : AL} {P : Nat → Prop} {U : State} {H : Heap} {sz : Nat} (h : REP G ad F A al P U H) (hz : ∀ q, sz ≤ q → P q) (hl : sz ≤ H.size) : ∀ q, PA ad al.2 H.size q → P q := by
  rintro q (⟨k, h0, h1, rfl⟩ | h1)
  · have e := wl_get (G := G) (ad := ad) (F := F) (A := A) (al := al) h0 h1
    exact h.2.1.2 _ _ e
  · exact hz q (Nat.le_trans hl h1)
theorem REP.wide {G : GG} {ad : Nat → Nat} {F : HF} {A : HA} {al : AL} {P1 P : Nat → Prop} {U : State} {H : Heap} (h : REP G ad F A al P1 U H) (hP : ∀ q, P1 q → P q) (h0 : ¬ P (ad 0)) : REP G ad F A al P U H :=
  ⟨h.1, h.2.1.weaken (fun _ q _ hq => hP q.1 hq), h.2.2.1, h.2.2.2.1, h.2.2.2.2.1, h.2.2.2.2.2.1, h.2.2.2.2.2.2.1, h0, h.2.2.2.2.2.2.2.2⟩
/-- a callee's start -/
theorem pc_of {M : MT} {d mc ms : Nat} {p : Program} {l : Launch} {R : Room} {s : State} {m : MethodId} {args : Array Value} {meth : Method} {c : Code} {G : GG} {P : Nat → Prop} {ad0 ad : Nat → Nat} {N0 : Nat} {L : List (Option LV)} {F : HF} {A : HA} {al : AL} {H : Heap} {locs : List Loc} {ls : Array Slot} {as : List LV}
    (hc : QC M d mc ms p l R s m args meth c G P) (hs : QS G P ad0 N0 M.2.2.1 s ad L F A al H locs ls) (hok : okst al.2 as) (U : State) (hU : U.heap = H) (hW : s.WarmedH U.vm) : PCq as G ad F A al H.size (as.map (tr ad)).toArray U := by
  have hin := PA_in hs.1 hc.2.2.2.2.2.2.2.2.2.2.2.2.2.1 hs.2.1.1
  refine ⟨rfl, by rw [hU], by rw [hU]; exact (PA_self hs.1).moved hW.alike, va_K.moved hW.alike hc.2.2.2.2.2.2.2.2.2.2.2.1, hc.2.2.2.2.2.2.2.2.2.2.1.warm hW, ?_, hok⟩
  rw [hU]
  have hZ := hc.2.2.2.2.2.2.2.2.2.2.2.2.1
  exact ⟨vx_Zq.moved hW.alike ((hZ.1.kept hs.2.1.2.1).narrow hin), vx_Zq.moved hW.alike ((hZ.2.kept hs.2.1.2.1).narrow hin)⟩
section QCalls
variable {M : MT} {d mc ms : Nat} {Post : PO} {nc ns pc : Nat} {L : List (Option LV)} {st : List LV} {F : HF} {A : HA} {al : AL}
variable {M1 : MT} {d1 mc1 ms1 n1 idx : Nat} {as : List LV} {Post1 : PO}
variable {p : Program} {l : Launch} {e : Env} {R : Room} {s : State} {m : MethodId} {args : Array Value} {below : List Frame} {meth : Method} {c : Code} {G : GG} {P : Nat → Prop} {ad0 ad : Nat → Nat} {N0 : Nat} {H : Heap} {locs : List Loc} {ls : Array Slot}
theorem cat_sum (ad : Nat → Nat) : ∀ st : List LV, ((st.map (tr ad)).map fun v => v.category).sum = (st.map fun v => if c2 v then 2 else 1).sum
  | [] => rfl
  | a :: t => by
    have := cat_sum ad t
    rw [List.map_cons, List.map_cons, List.map_cons, List.sum_cons, List.sum_cons, tr_cat, this]
def catS (st : List LV) : Nat := (st.map fun v => if c2 v then 2 else 1).sum
theorem room_st {m : MethodId} {pc : Nat} {ls : Array Slot} {stk : List Value} (h : catS st ≤ 8) : 2 * (F0 m pc ls stk).monitorRoom + ((st.map (tr ad)).map fun v => v.category).sum ≤ 8 := lv_room (by rw [cat_sum]; exact h)
/-- behind a call that returned or threw -/
theorem q_after (hc : QC M d mc ms p l R s m args meth c G P) (hs : QS G P ad0 N0 M.2.2.1 s ad L F A al H locs ls) (hst : okst al.2 st) {stk : List Value} {a : Array Value}
    (hr : vx_Run p l e R s m args below meth c H locs nc ns mc1 ms1 (F0 m pc ls stk) (st.map (tr ad)) (QQ Post1 G (PA ad al.2 H.size) ad al.2 a) (QX Post1 G (PA ad al.2 H.size) ad al.2) (PA ad al.2 H.size))
    {Q : State → Prop}
    (kk : ∀ (v : Option Int) (F' : HF) (A' : HA) (al' : AL) (ad' : Nat → Nat) (H' : Heap) (locs' : List Loc), Post1 (.inl v) F' A' al' → QS G P ad0 N0 M.2.2.1 s ad' L F' A' al' H' locs' ls → okst al'.2 st → W p l e R s m args below meth c H' locs' (nc + mc1) (ns + ms1) Q (F0 m (pc + 3) ls ((retL v ++ st).map (tr ad'))))
    (kx : ∀ (E : String) (F' : HF) (A' : HA) (al' : AL) (ad' : Nat → Nat) (H' : Heap) (locs' : List Loc) (q : Addr) (ce : Cell), Post1 (.inr E) F' A' al' → QS G P ad0 N0 M.2.2.1 s ad' L F' A' al' H' locs' ls → okst al'.2 st → H'[q]? = some ce → ce.vm = .none → s.vm.findClass E = some ce.cls → vx_W p l e R s m args below meth c H' locs' (nc + mc1) (ns + ms1) Q (F0 m pc ls (st.map (tr ad'))) q) :
    W p l e R s m args below meth c H locs nc ns Q (F0 m pc ls stk) := by
  have hin := PA_in hs.1 hc.2.2.2.2.2.2.2.2.2.2.2.2.2.1 hs.2.1.1
  have hqs : ∀ {t T' : State} {L9 : List Loc} {st₀ : State} {F' : HF} {A' : HA} {al' : AL} {ad' : Nat → Nat}, st₀.heap = H → Stand p l e R s m args below meth c T' (locs ++ L9) (nc + mc1) (ns + ms1) → (∀ q ∈ L9, PA ad al.2 H.size q.base) → T'.heap = t.heap → T'.vm = t.vm → va_F (PA ad al.2 H.size) st₀ t → REP G ad' F' A' al' (PA ad al.2 H.size) t t.heap → al.2 ≤ al'.2 → (∀ k, k < al.2 → ad' k = ad k) →
      QS G P ad0 N0 M.2.2.1 s ad' L F' A' al' T'.heap (locs ++ L9) ls := by
    intro t T' L9 st₀ F' A' al' ad' h0 X' hL e1 e2 hF hR hN had
    obtain ⟨g1, g2, g3⟩ := vx_keep h0 e1 hs.2.1 (fun q _ => hin q) hin hL hF
    have e0 : ad' 0 = ad 0 := had 0 hs.1.2.2.2.2.1
    have hal : t.vm.Alike s.vm := by rw [← e2]; exact X'.warmed.alike.symm
    refine ⟨by rw [e1]; exact (hR.wide hin (by rw [e0]; exact hs.1.2.2.2.2.2.2.2.1)).moved hal, g3, Nat.le_trans hs.2.2.1 hN, fun k hk => (had k (Nat.lt_of_lt_of_le hk hs.2.2.1)).trans (hs.2.2.2.1 k hk), hs.2.2.2.2.1.ext hN had, by rw [e0]; exact hs.2.2.2.2.2⟩
  intro T hT X
  rcases hr T hT X with ⟨v, st₀, t, T', L9, h0, X', hL, e1, e2, ⟨⟨v', F', A', al', ad', hv, hp, hR, hN, had⟩, hF⟩, st9⟩ | ⟨q, st₀, t, T', L9, E, ce, h0, X', hL, e1, e2, ⟨⟨F', A', al', ad', hp, hR, hN, had⟩, hF⟩, hce, hcv, hcl, st9⟩
  · obtain ⟨t2, a1, b1⟩ := kk v' F' A' al' ad' T'.heap (locs ++ L9) hp (hqs h0 X' hL e1 e2 hF hR hN had) (okst_mono hN hst) T' rfl X'
    refine ⟨t2, st9 t2 ?_, b1⟩
    have ev : v = v'.map fun k => Value.int (Int32.ofInt k) := by cases hv; rfl
    rw [ev, retL_tr (ad := ad'), ← map_tr_ext had hst, ← List.map_append]
    exact a1
  · obtain ⟨t2, a1, b1⟩ := kx E F' A' al' ad' T'.heap (locs ++ L9) q ce hp (hqs h0 X' hL e1 e2 hF hR hN had) (okst_mono hN hst) (by rw [e1]; exact hce) hcv hcl T' rfl X'
    rw [map_tr_ext had hst] at a1
    exact ⟨t2, st9.trans a1, b1⟩
theorem pay_tb (hc : QC M d mc ms p l R s m args meth c G P) {w0 : Cond} (h0 : w0 ∈ TBg) : ∀ w ∈ w0 :: TBg, ∀ (a' : Array Value) (U : State), s.WarmedH U.vm → w.before a' U = true := by
  intro w hw a' U hW
  have hm : w ∈ TBg := by
    rcases List.mem_cons.mp hw with rfl | hw
    · exact h0
    · exact hw
  exact word_at hW (tb_good hm) (hc.2.2.2.2.2.1 w hm)
theorem cdw_nil {M : MT} (h : M.2.2.2.2 = []) : cdw M = .code M.1 M.2.1 M.2.2.1 M.2.2.2.1 := by unfold cdw; rw [h]
theorem runS (hd : decode M.2.1 pc = .ok (.invokestatic idx, 3)) (hm : MF M1 as.length) (hw : CS M.1.cls idx M1) (ev : QE d1 mc1 ms1 M1 as F A al Post1) (hd1 : d1 < d) (hm1 : nc + mc1 ≤ mc) (hm2 : ns + ms1 ≤ ms) (hr : catS st ≤ 8)
    (hc : QC M d mc ms p l R s m args meth c G P) (hs : QS G P ad0 N0 M.2.2.1 s ad L F A al H locs ls) (hok : okst al.2 as) {stk : List Value} (hstk : stk = (as.reverse ++ st).map (tr ad)) :
    vx_Run p l e R s m args below meth c H locs nc ns mc1 ms1 (F0 m pc ls stk) (st.map (tr ad)) (QQ Post1 G (PA ad al.2 H.size) ad al.2 (as.map (tr ad)).toArray) (QX Post1 G (PA ad al.2 H.size) ad al.2) (PA ad al.2 H.size) := by
  have hts := hc.2.2.2.2.2.1
  obtain ⟨hn1, hn2, hn3, hn4⟩ := hm
  obtain ⟨w1, w2, w3, w4⟩ := hw
  obtain ⟨hf1, hf2, hf3, hf4⟩ := hc.2.2.2.2.2.2.2.2.2.2.2.2.2.2
  have hE := ev l hc.2.1 G ad H.size
  rw [cdw_nil hn4] at hE
  refine vx_runS (n := as.length) (ws := Cond.code M1.1 M1.2.1 M1.2.2.1 M1.2.2.2.1 :: TBg) (rm := rmq d1 mc1 ms1) (As := as.map (tr ad)) (bytes := M1.2.1) (maxL := M1.2.2.1) (ret := M1.2.2.2.1) (Ts := TBg) ⟨hc.1, hc.2.2.1, hc.2.2.2.1, hc.2.2.2.2.1, hts⟩ hE
    ⟨⟨rfl, rfl, (show d1 + 1 ≤ R.frames by omega), (show 8 + (M1.2.2.1 + 11) + 40 * d1 ≤ R.locals by omega), pay_tb hc w1, List.mem_cons_self, hts _ w1, hts _ w2, hn1, fun sig h => ?_, hts _ w3⟩, hts _ w4⟩
    ⟨PCq_blind, fun U hU hW => pc_of hc hs hok U hU hW⟩ rfl (by rw [List.length_map]) hs.2.2.2.2.1.1 (by rw [hstk, List.map_append, List.map_reverse]) (room_st hr) hd ⟨Nat.le_trans hm1 hf3, Nat.le_trans hm2 hf4⟩
  rw [h] at hn2
  exact (Option.some.inj hn2).symm
theorem runV {b ci n : Nat} (hd : decode M.2.1 pc = .ok (.invokevirtual idx, 3)) (hm : MF M1 as.length) (hw : CV M.1.cls idx M1 ci) (hk : al.1 b = (ci + 10, n)) (ev : QE d1 mc1 ms1 M1 (vA b :: as) F A al Post1) (hd1 : d1 < d) (hm1 : nc + mc1 ≤ mc) (hm2 : ns + ms1 ≤ ms) (hr : catS st ≤ 8)
    (hc : QC M d mc ms p l R s m args meth c G P) (hs : QS G P ad0 N0 M.2.2.1 s ad L F A al H locs ls) (hok : okst al.2 (vA b :: as)) {stk : List Value} (hstk : stk = (as.reverse ++ vA b :: st).map (tr ad)) :
    vx_Run p l e R s m args below meth c H locs nc ns mc1 ms1 (F0 m pc ls stk) (st.map (tr ad)) (QQ Post1 G (PA ad al.2 H.size) ad al.2 ((vA b :: as).map (tr ad)).toArray) (QX Post1 G (PA ad al.2 H.size) ad al.2) (PA ad al.2 H.size) := by
  have hts := hc.2.2.2.2.2.1
  obtain ⟨hn1, hn2, hn3, hn4⟩ := hm
  obtain ⟨w1, w2, w3, w4, w5, T, N, hcl⟩ := hw
  obtain ⟨hf1, hf2, hf3, hf4⟩ := hc.2.2.2.2.2.2.2.2.2.2.2.2.2.2
  have hE := ev l hc.2.1 G ad H.size
  rw [cdw_nil hn4] at hE
  have ha := hs.1.get hk (by omega) (by omega)
  rw [cellOf_obj] at ha
  refine vx_runV (C := M1.1.cls) (b := ad b) (n := as.length) (ws := Cond.code M1.1 M1.2.1 M1.2.2.1 M1.2.2.2.1 :: TBg) (rm := rmq d1 mc1 ms1) (As := as.map (tr ad)) (bytes := M1.2.1) (maxL := M1.2.2.1) (ret := M1.2.2.2.1) (Ts := TBg) ⟨hc.1, hc.2.2.1, hc.2.2.2.1, hc.2.2.2.2.1, hts⟩ hE
    ⟨⟨rfl, rfl, (show d1 + 1 ≤ R.frames by omega), (show 8 + (M1.2.2.1 + 11) + 40 * d1 ≤ R.locals by omega), pay_tb hc w1, List.mem_cons_self, hts _ w1, hts _ w2, hn1, fun sig h => ?_, hts _ w3⟩, hts _ w4, hts _ w5⟩
    ⟨PCq_blind, va_recv hc.2.2.2.2.2.2.2.2.2.2.2.1 hs.1.1 hcl ha, fun U hU hW => pc_of hc hs hok U hU hW⟩ rfl (by rw [List.length_map]) hs.2.2.2.2.1.1 (by rw [hstk, List.map_append, List.map_reverse]; rfl) (room_st hr) hd ⟨Nat.le_trans hm1 hf3, Nat.le_trans hm2 hf4⟩
  rw [h] at hn2
  exact (Option.some.inj hn2).symm
/-- a static call of a method that returns -/
theorem q_callS (as : List LV) (hd : decode M.2.1 pc = .ok (.invokestatic idx, 3)) (hm : MF M1 as.length) (hw : CS M.1.cls idx M1) (ev : QE d1 mc1 ms1 M1 as F A al Post1) (hnt : NT Post1) (hd1 : d1 < d) (hm1 : nc + mc1 ≤ mc) (hm2 : ns + ms1 ≤ ms) (hr : catS st ≤ 8)
    {st0 : List LV} (hst0 : st0 = as.reverse ++ st)
    (k : ∀ (v : Option Int) (F' : HF) (A' : HA) (al' : AL), Post1 (.inl v) F' A' al' → QW M d mc ms Post (nc + mc1) (ns + ms1) (pc + 3) L (retL v ++ st) F' A' al') : QW M d mc ms Post nc ns pc L st0 F A al := by
  intro p l e R s m args below meth c G P ad0 N0 hc ad H locs ls hs hst
  subst hst0
  have h1 := okst_r hst
  have h2 : okst al.2 as := okst_of fun v hv => okst_mem hst (List.mem_append_left _ (List.mem_reverse.mpr hv))
  exact q_after hc hs h1 (runS hd hm hw ev hd1 hm1 hm2 hr hc hs h2 rfl)
    (fun v F' A' al' ad' H' locs' hp hq ho => k v F' A' al' hp p l e R s m args below meth c G P ad0 N0 hc ad' H' locs' ls hq (okst_app (retL_ok v) ho))
    (fun E F' A' al' _ _ _ _ _ hp => absurd hp (hnt E F' A' al'))
theorem q_callV (as : List LV) {b ci n : Nat} (hd : decode M.2.1 pc = .ok (.invokevirtual idx, 3)) (hm : MF M1 as.length) (hw : CV M.1.cls idx M1 ci) (hk : al.1 b = (ci + 10, n)) (ev : QE d1 mc1 ms1 M1 (vA b :: as) F A al Post1) (hnt : NT Post1) (hd1 : d1 < d) (hm1 : nc + mc1 ≤ mc) (hm2 : ns + ms1 ≤ ms) (hr : catS st ≤ 8)
    {st0 : List LV} (hst0 : st0 = as.reverse ++ vA b :: st)
    (k : ∀ (v : Option Int) (F' : HF) (A' : HA) (al' : AL), Post1 (.inl v) F' A' al' → QW M d mc ms Post (nc + mc1) (ns + ms1) (pc + 3) L (retL v ++ st) F' A' al') : QW M d mc ms Post nc ns pc L st0 F A al := by
  intro p l e R s m args below meth c G P ad0 N0 hc ad H locs ls hs hst
  subst hst0
  have h1 := okst_r hst
  have h2 : okst al.2 (vA b :: as) := ⟨h1.1, okst_of fun v hv => okst_mem hst (List.mem_append_left _ (List.mem_reverse.mpr hv))⟩
  exact q_after hc hs h1.2 (runV hd hm hw hk ev hd1 hm1 hm2 hr hc hs h2 rfl)
    (fun v F' A' al' ad' H' locs' hp hq ho => k v F' A' al' hp p l e R s m args below meth c G P ad0 N0 hc ad' H' locs' ls hq (okst_app (retL_ok v) ho))
    (fun E F' A' al' _ _ _ _ _ hp => absurd hp (hnt E F' A' al'))
/-- a call of a method that may throw, in a method without a table -/
theorem q_callSX (as : List LV) (hh : M.2.2.2.2 = []) (hd : decode M.2.1 pc = .ok (.invokestatic idx, 3)) (hm : MF M1 as.length) (hw : CS M.1.cls idx M1) (ev : QE d1 mc1 ms1 M1 as F A al Post1) (hd1 : d1 < d) (hm1 : nc + mc1 ≤ mc) (hm2 : ns + ms1 ≤ ms) (hr : catS st ≤ 8)
    {st0 : List LV} (hst0 : st0 = as.reverse ++ st) (hx : ∀ (E : String) (F' : HF) (A' : HA) (al' : AL), Post1 (.inr E) F' A' al' → Post (.inr E) F' A' al')
    (k : ∀ (v : Option Int) (F' : HF) (A' : HA) (al' : AL), Post1 (.inl v) F' A' al' → QW M d mc ms Post (nc + mc1) (ns + ms1) (pc + 3) L (retL v ++ st) F' A' al') : QW M d mc ms Post nc ns pc L st0 F A al := by
  intro p l e R s m args below meth c G P ad0 N0 hc ad H locs ls hs hst
  subst hst0
  have h1 := okst_r hst
  have h2 : okst al.2 as := okst_of fun v hv => okst_mem hst (List.mem_append_left _ (List.mem_reverse.mpr hv))
  have ht : c.exceptionTable.toList = [] := by rw [hc.2.2.2.2.2.2.2.2.2.1, hh]; rfl
  exact q_after hc hs h1 (runS hd hm hw ev hd1 hm1 hm2 hr hc hs h2 rfl)
    (fun v F' A' al' ad' H' locs' hp hq ho => k v F' A' al' hp p l e R s m args below meth c G P ad0 N0 hc ad' H' locs' ls hq (okst_app (retL_ok v) ho))
    (fun E F' A' al' ad' H' locs' q ce hp hq _ hce hcv hcl => vx_out (E := E) (ce := ce) (fun x hx9 => by rw [ht] at hx9; cases hx9) hc.2.2.2.2.2.2.2.1 hce hcv hcl
      (fun t ht9 hal => ⟨⟨F', A', al', ad', hx E F' A' al' hp, by rw [ht9]; exact hq.1.moved hal, hq.2.2.1, hq.2.2.2.1⟩, hq.2.1.F ht9⟩) hq.2.1.2.2 hm1 hm2)
theorem q_callVX (as : List LV) {b ci n : Nat} (hh : M.2.2.2.2 = []) (hd : decode M.2.1 pc = .ok (.invokevirtual idx, 3)) (hm : MF M1 as.length) (hw : CV M.1.cls idx M1 ci) (hk : al.1 b = (ci + 10, n)) (ev : QE d1 mc1 ms1 M1 (vA b :: as) F A al Post1) (hd1 : d1 < d) (hm1 : nc + mc1 ≤ mc) (hm2 : ns + ms1 ≤ ms) (hr : catS st ≤ 8)
    {st0 : List LV} (hst0 : st0 = as.reverse ++ vA b :: st) (hx : ∀ (E : String) (F' : HF) (A' : HA) (al' : AL), Post1 (.inr E) F' A' al' → Post (.inr E) F' A' al')
    (k : ∀ (v : Option Int) (F' : HF) (A' : HA) (al' : AL), Post1 (.inl v) F' A' al' → QW M d mc ms Post (nc + mc1) (ns + ms1) (pc + 3) L (retL v ++ st) F' A' al') : QW M d mc ms Post nc ns pc L st0 F A al := by
  intro p l e R s m args below meth c G P ad0 N0 hc ad H locs ls hs hst
  subst hst0
  have h1 := okst_r hst
  have h2 : okst al.2 (vA b :: as) := ⟨h1.1, okst_of fun v hv => okst_mem hst (List.mem_append_left _ (List.mem_reverse.mpr hv))⟩
  have ht : c.exceptionTable.toList = [] := by rw [hc.2.2.2.2.2.2.2.2.2.1, hh]; rfl
  exact q_after hc hs h1.2 (runV hd hm hw hk ev hd1 hm1 hm2 hr hc hs h2 rfl)
    (fun v F' A' al' ad' H' locs' hp hq ho => k v F' A' al' hp p l e R s m args below meth c G P ad0 N0 hc ad' H' locs' ls hq (okst_app (retL_ok v) ho))
    (fun E F' A' al' ad' H' locs' q ce hp hq _ hce hcv hcl => vx_out (E := E) (ce := ce) (fun x hx9 => by rw [ht] at hx9; cases hx9) hc.2.2.2.2.2.2.2.1 hce hcv hcl
      (fun t ht9 hal => ⟨⟨F', A', al', ad', hx E F' A' al' hp, by rw [ht9]; exact hq.1.moved hal, hq.2.2.1, hq.2.2.2.1⟩, hq.2.1.F ht9⟩) hq.2.1.2.2 hm1 hm2)
end QCalls
