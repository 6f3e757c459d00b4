/-! the law: its start, the claim -/
theorem nwL_9 : NW RL 9 9 "RootedRing" 10 := ⟨⟨_, rfl⟩, tb_i (List.mem_of_getElem? (i := 35) (by decide +kernel)) (by decide +kernel), tb_i (List.mem_of_getElem? (i := 36) (by decide +kernel)) (by decide +kernel), tb_i (List.mem_of_getElem? (i := 17) (by decide +kernel)) (by decide +kernel), by decide +kernel, by decide⟩
set_option maxRecDepth 20000 in
theorem law_start {S0 : Nat → Int} {n0 : Nat} (hn0 : n0 ≤ 260) {F : HF} {A : HA} {K : Nat → Nat × Nat} (hs : K 0 = (4, n0)) (hA0 : A 0 = S0) : QW mL_law 9 600086 7301442 PL1 0 0 0 (padL 26 [vA 0]) [] F A (K, 1) := by
  have rh : RH 2 1 1 := rh_of ⟨by decide, by decide⟩ cer_2_1_1
  refine q_new eL_law_0 nwL_9 (Nat.le_of_ble_eq_true rfl) (Nat.le_of_ble_eq_true rfl) ?_
  refine q_dup eL_law_3 rfl ?_
  refine q_callI [] (M1 := mX11_init) eL_law_4 mf_X11_init lk_L_28 (ev_x11 rfl rh) (by intro E F A al h; cases h.1) (Nat.le_of_ble_eq_true rfl) (Nat.le_of_ble_eq_true rfl) (Nat.le_of_ble_eq_true rfl) (Nat.le_of_ble_eq_true rfl) (st := [vA 1]) rfl (fun v1 F1 A1 al1 h1 => ?_)
  obtain ⟨e1, k1, kx1, a1, s1, hX⟩ := h1
  obtain rfl := Sum.inl.inj e1
  obtain ⟨K1, n1⟩ := al1
  obtain rfl : n1 = 44 := k1
  have ks : K1 0 = (4, n0) := s1.trans ((if_neg (show ¬ 0 = 1 by decide)).trans hs)
  have ha : A1 0 = S0 := a1.trans hA0
  refine q_astore_n eL_law_7 (by decide) rfl ?_
  refine q_aload_n eL_law_8 rfl ?_
  refine q_aload_n eL_law_9 rfl ?_
  refine q_iconst eL_law_10 ?_
  refine q_callSP [vA 0, vI 0] (M1 := mL_cell) eL_law_11 mf_L_cell lk_L_29 (ev_cell (S0 := S0) (k := 0) ks hn0 ha (by decide)) (by decide) (Nat.le_of_ble_eq_true rfl) (Nat.le_of_ble_eq_true rfl) (Nat.le_of_ble_eq_true rfl) rfl ?_
  obtain ⟨c0, c1⟩ := ce_rg S0 n0 0
  generalize ceE S0 n0 0 = c at c0 c1
  refine q_callS [vA 1, vI c] (M1 := mL_rings) eL_law_14 mf_L_rings lk_L_35 (ev_rings c0 c1 kx1 hX) (by intro E F A al h; obtain ⟨_, _, _, _, _, h, _⟩ := h; cases h) (by decide) (Nat.le_of_ble_eq_true rfl) (Nat.le_of_ble_eq_true rfl) (Nat.le_of_ble_eq_true rfl) (st := []) rfl (fun v2 F2 A2 al2 h2 => ?_)
  obtain ⟨p, e, r, hv, hc, e2, rfl, a2, hX2⟩ := h2
  obtain rfl := Sum.inl.inj e2
  have hw : LW p e r (p ^ r) (p ^ (e * r)) ((p : Int) ^ e) (rF p e r) (rG p e r) 1 0 _ _ _ A2 F2 A2 := ⟨hX2, fun _ _ => rfl⟩
  have hK : KX (kU (K1, 44) (0, 36)) := kx1.kU (Nat.le_refl _) _
  have h0 : (kU (K1, 44) (0, 36)).1 0 = (4, n0) := by
    show (if (0 : Nat) = 44 then ((0, 36) : Nat × Nat) else K1 0) = _
    rw [if_neg (by decide)]
    exact ks
  show QW mL_law 9 600086 7301442 PL1 _ _ _ _ [vI ((p ^ (e * r) : Nat) : Int)] _ _ _
  refine q_istore_n eL_law_17 (by decide) rfl ?_
  refine q_aload_n eL_law_18 rfl ?_
  refine q_iconst eL_law_19 ?_
  refine c_cnt (what := 2) (v := r) ⟨by decide, by decide⟩ hw hK eL_law_20 rfl (Nat.le_of_ble_eq_true rfl) (Nat.le_of_ble_eq_true rfl) (Nat.le_of_ble_eq_true rfl) (fun A3 hw => ?_)
  refine q_istore_n eL_law_23 (by decide) rfl ?_
  refine q_aload_n eL_law_24 rfl ?_
  refine q_iconst eL_law_25 ?_
  refine c_cnt (what := 1) (v := e) ⟨by decide, by decide⟩ hw hK eL_law_26 rfl (Nat.le_of_ble_eq_true rfl) (Nat.le_of_ble_eq_true rfl) (Nat.le_of_ble_eq_true rfl) (fun A4 hw => ?_)
  refine q_istore eL_law_29 (by decide) rfl ?_
  refine q_aload_n eL_law_31 rfl ?_
  refine q_iconst eL_law_32 ?_
  refine c_cnt (what := 3) (v := (p : Int) ^ e) ⟨by decide, by decide⟩ hw hK eL_law_33 rfl (Nat.le_of_ble_eq_true rfl) (Nat.le_of_ble_eq_true rfl) (Nat.le_of_ble_eq_true rfl) (fun A5 hw => ?_)
  refine q_istore eL_law_36 (by decide) rfl ?_
  exact t_38 (S0 := S0) (rg_of hv hc) hw hK h0 hn0 (a2.trans ha) rfl (Nat.le_of_ble_eq_true rfl) (Nat.le_of_ble_eq_true rfl)
theorem ak_spec {ty : FieldType} {args : Array Value} {s : State} (h : (Cond.arrayClass ty).before args s = true) : ∃ c, ArrOfT s c ty ∧ s.vm.findClass ("[" ++ ty.toString) = some c := by
  obtain ⟨c, k, comp, h1, h2, h3⟩ := Cond.arrayClass_spec h
  exact ⟨c, fun n z => ⟨fun k h => (by cases h), k, h2, comp, h3⟩, h1⟩
theorem ao_spec {t : FieldType} {args : Array Value} {s : State} (h : (Cond.arrayOver (.array t)).before args s = true) : ∃ c, ArrOfT s c (.array t) ∧ s.vm.findClass ("[" ++ (FieldType.array t).toString) = some c := by
  have h : (Cond.arrayOver (.array t)).holds args s none s [] = true := h
  simp only [Cond.holds, Cond.value, beq_iff_eq] at h
  cases hc : s.vm.findClass (FieldType.array t).toString with
  | none => simp [hc] at h
  | some comp =>
    simp only [hc, Option.bind_some, Option.bind_eq_some_iff, Option.map_eq_some_iff] at h
    obtain ⟨c, hi, k, hk, hb⟩ := h
    cases hkind : k.kind with
    | array component ty =>
      rw [hkind] at hb
      simp at hb
      exact ⟨c, fun n z => ⟨fun k h => (by cases h), k, hk, component, by rw [hkind, hb.1]⟩, hb.2⟩
    | _ => rw [hkind] at hb; simp at hb
theorem inst_all : ∀ q ∈ vwCl, Cond.instantiable q.1 q.2.2 ∈ TBg := List.forall_mem_cons.mpr ⟨tb_i (List.mem_of_getElem? (i := 198) (by decide +kernel)) (by decide +kernel), List.forall_mem_cons.mpr ⟨tb_i (List.mem_of_getElem? (i := 44) (by decide +kernel)) (by decide +kernel), List.forall_mem_cons.mpr ⟨tb_i (List.mem_of_getElem? (i := 270) (by decide +kernel)) (by decide +kernel), List.forall_mem_cons.mpr ⟨tb_i (List.mem_of_getElem? (i := 140) (by decide +kernel)) (by decide +kernel), List.forall_mem_cons.mpr ⟨tb_i (List.mem_of_getElem? (i := 158) (by decide +kernel)) (by decide +kernel), List.forall_mem_cons.mpr ⟨tb_i (List.mem_of_getElem? (i := 124) (by decide +kernel)) (by decide +kernel), List.forall_mem_cons.mpr ⟨tb_i (List.mem_of_getElem? (i := 110) (by decide +kernel)) (by decide +kernel), List.forall_mem_cons.mpr ⟨tb_i (List.mem_of_getElem? (i := 237) (by decide +kernel)) (by decide +kernel), List.forall_mem_cons.mpr ⟨tb_i (List.mem_of_getElem? (i := 231) (by decide +kernel)) (by decide +kernel), List.forall_mem_cons.mpr ⟨tb_i (List.mem_of_getElem? (i := 36) (by decide +kernel)) (by decide +kernel), fun _ h => absurd h List.not_mem_nil⟩⟩⟩⟩⟩⟩⟩⟩⟩⟩
theorem kk_of {s : State} {args : Array Value} (hts : ∀ w ∈ TBg, w.before args s = true) (h1 : (Cond.arrayClass .int).before args s = true) (h4 : (Cond.arrayOver (.array .int)).before args s = true) : ∃ G : GG, KK G s := by
  obtain ⟨c1, x1, y1⟩ := ak_spec h1
  obtain ⟨c4, x4, y4⟩ := ao_spec h4
  have hc : ∀ c : Nat, ∃ x : ClassId × (Nat → Nat), ∀ q : vw_C, vwCl[c]? = some q → u_Kn s q.1 q.2.1 q.2.2 x.1 x.2 := by
    intro c
    cases hq : vwCl[c]? with
    | none => exact ⟨(c1, fun _ => 0), fun q h => by cases h⟩
    | some q =>
      obtain ⟨C, T, N⟩ := q
      obtain ⟨cC, iS, hk⟩ := u_known (C := C) (T := T) (N := N) (n := N) hts (cl_all hq).1 (hts _ (inst_all _ (List.mem_of_getElem? hq)))
      exact ⟨(cC, iS), fun q h => by cases h; exact hk⟩
  refine ⟨((fun c => (Classical.choose (hc c)).1, fun c => (Classical.choose (hc c)).2), c1, c1, c1, c4), fun c q h => Classical.choose_spec (hc c) q h, fun k q h => ?_⟩
  match k, h with
  | 0, h => cases h; exact ⟨x1, y1⟩
  | 1, h => cases h; exact ⟨x1, y1⟩
  | 2, h => cases h; exact ⟨x1, y1⟩
  | 3, h => cases h; exact ⟨x4, y4⟩
  | k + 4, h => simp at h
def R_law : String := "RootedRingLaw"
def lw_P (b : Addr) (xs : List Int32) (args : Array Value) (s : State) : Prop := args = #[.ref b] ∧ s.IntsAt b xs ∧ xs.length ≤ 260 ∧ (Jvm.Cond.and given_1 narrow_1).before args s = true
def lw_Q (_ : Array Value) (s : State) (o : Outcome) (t : State) : Prop := o = .returned (some (.int 1)) ∧ Framed s o t [] 600086 7301442
def lw_Z (below : List Frame) (a : Array Value) (s : State) : State → Prop := fun t => ∃ o, t.status = .running ∧ Ended t below o ∧ lw_Q a s o t
theorem whole_start {p : Program} {e : Env} {s : State} {m : MethodId} {below : List Frame} {meth : Method} {c : Code} (l : Launch) (hflags : l.flags = flags0) {b L : Nat} {xs : Nat → Int32} (hL : L ≤ 260)
    (hx : p.tables.exec = Jvm.exec) (hb : c.code = code) (hr : meth.sig.returnType = ret) (hml : c.maxLocals = 26) (hown : s.vm.findClass R_law = some m.cls) (hts : ∀ w ∈ lw_tbl, w.before #[Value.ref b] s = true) (hX : va_X b L xs s s.heap) (hbl : b < s.heap.size) (hlocks : meth.locks = false) (hgv : (Jvm.Cond.and given_1 narrow_1).before #[Value.ref b] s = true) (hname : meth.name = "law") (htab : c.exceptionTable.toList = []) :
    W p l e room_1 s m #[Value.ref b] below meth c s.heap [] 0 0 (lw_Z below #[Value.ref b] s) (entryFrame m ([Value.ref b] : List Value).toArray 26) := by
  have hT : ∀ {w : Cond}, w ∈ lw_tbl → w.before #[Value.ref b] s = true := fun h => hts _ h
  have htg : ∀ w ∈ TBg, w.before #[Value.ref b] s = true := fun w hw => hts w (List.mem_filter.mp hw).1
  have hfl := flat_of_before _ hgv
  obtain ⟨G, hK⟩ := kk_of htg (hT (w := (Jvm.Cond.arrayClass Jvm.ClassFile.FieldType.int)) (List.mem_of_getElem? (i := 108) (by decide +kernel))) (hT (w := (Jvm.Cond.arrayOver (Jvm.ClassFile.FieldType.array Jvm.ClassFile.FieldType.int))) (List.mem_of_getElem? (i := 50) (by decide +kernel)))
  have hXW : XW s := by
    refine ⟨?_, ?_, ?_, hT (w := (Jvm.Cond.arrayOver (Jvm.ClassFile.FieldType.array Jvm.ClassFile.FieldType.int))) (List.mem_of_getElem? (i := 50) (by decide +kernel))⟩
    · intro q hq
      obtain rfl : q = ("java/util/NoSuchElementException", "java/util/NoSuchElementException") := by simpa [xwC] using hq
      exact hT (w := (Jvm.Cond.castable "java/util/NoSuchElementException" "java/util/NoSuchElementException")) (List.mem_of_getElem? (i := 516) (by decide +kernel))
    · intro q hq
      have h9 : q = ("RootedRing", 9, yX2_init, "RootedRing") ∨ q = ("RootedRing", 25, yX8_init, "RootedRing") ∨ q = ("RootedRing", 32, yX6_init, "RootedRing") ∨ q = ("RootedRing", 39, yX4_init, "RootedRing") := by simpa [xwM] using hq
      rcases h9 with rfl | rfl | rfl | rfl
      · exact hT (w := (Jvm.Cond.methodLinkNest "RootedRing" (9 : Nat) ({ cls := "RootedRing$Galois", name := "<init>", desc := "()V" } : Jvm.MethodName) "RootedRing")) (List.mem_of_getElem? (i := 45) (by decide +kernel))
      · exact hT (w := (Jvm.Cond.methodLinkNest "RootedRing" (25 : Nat) ({ cls := "RootedRing$Tape", name := "<init>", desc := "()V" } : Jvm.MethodName) "RootedRing")) (List.mem_of_getElem? (i := 111) (by decide +kernel))
      · exact hT (w := (Jvm.Cond.methodLinkNest "RootedRing" (32 : Nat) ({ cls := "RootedRing$Speech", name := "<init>", desc := "()V" } : Jvm.MethodName) "RootedRing")) (List.mem_of_getElem? (i := 125) (by decide +kernel))
      · exact hT (w := (Jvm.Cond.methodLinkNest "RootedRing" (39 : Nat) ({ cls := "RootedRing$Partition", name := "<init>", desc := "()V" } : Jvm.MethodName) "RootedRing")) (List.mem_of_getElem? (i := 141) (by decide +kernel))
    · intro x hx9
      have h9 : x = { cls := "java/lang/RuntimeException", name := "<init>", desc := "()V" } ∨ x = { cls := "java/lang/Exception", name := "<init>", desc := "()V" } ∨ x = { cls := "java/lang/Throwable", name := "<init>", desc := "()V" } := by simpa [xwD] using hx9
      rcases h9 with rfl | rfl | rfl
      · exact hT (w := (Jvm.Cond.declares ({ cls := "java/lang/RuntimeException", name := "<init>", desc := "()V" } : Jvm.MethodName))) (List.mem_of_getElem? (i := 517) (by decide +kernel))
      · exact hT (w := (Jvm.Cond.declares ({ cls := "java/lang/Exception", name := "<init>", desc := "()V" } : Jvm.MethodName))) (List.mem_of_getElem? (i := 519) (by decide +kernel))
      · exact hT (w := (Jvm.Cond.declares ({ cls := "java/lang/Throwable", name := "<init>", desc := "()V" } : Jvm.MethodName))) (List.mem_of_getElem? (i := 521) (by decide +kernel))
  have hZs : Zs (fun q : Nat => s.heap.size ≤ q) s s.heap := by
    refine ⟨vx_Zqof (args := #[Value.ref b]) (hT (w := (Jvm.Cond.laysStatic "java/lang/Throwable" "UNASSIGNED_STACK" "[Ljava/lang/StackTraceElement;")) (List.mem_of_getElem? (i := 541) (by decide +kernel))) (hT (w := (Jvm.Cond.initialized "java/lang/Throwable")) (List.mem_of_getElem? (i := 31) (by decide +kernel))) (hfl _ (by decide +kernel)) (fun a ha => Nat.not_le.mpr ha), vx_Zqof (args := #[Value.ref b]) (hT (w := (Jvm.Cond.laysStatic "java/lang/Throwable" "SUPPRESSED_SENTINEL" "Ljava/util/List;")) (List.mem_of_getElem? (i := 543) (by decide +kernel))) (hT (w := (Jvm.Cond.initialized "java/lang/Throwable")) (List.mem_of_getElem? (i := 31) (by decide +kernel))) (hfl _ (by decide +kernel)) (fun a ha => Nat.not_le.mpr ha)⟩
  rw [show ([Value.ref b] : List Value) = ([vA 0] : List LV).map (tr (fun _ => b)) from rfl, lg_entry_eq]
  have hcore := law_start (S0 := fun j => (xs j).toInt) (n0 := L) hL (F := fun _ _ => vN) (A := fun a => if a = 0 then (fun j => (xs j).toInt) else fun _ => 0) (K := fun a => if a = 0 then (4, L) else (9, 0)) (if_pos rfl) (if_pos rfl)
  have h := hcore p l e room_1 s m #[Value.ref b] below meth c G (fun q : Nat => s.heap.size ≤ q) (fun _ => b) 1
    ⟨hx, by rw [Launch.stackTraces, hflags]; decide, hb, hml, hown, htg, hr, hlocks, hname, htab, hXW, hK, hZs, fun _ h => h, Nat.le_of_ble_eq_true rfl, Nat.le_of_ble_eq_true rfl, Nat.le_of_ble_eq_true rfl, Nat.le_of_ble_eq_true rfl⟩
    (fun _ => b) s.heap [] _ ⟨⟨fun k q h => by simp [wl] at h, ⟨fun i j p q h => by simp [wl] at h, fun k q h => by simp [wl] at h⟩, fun _ _ => trivial, fun k hk => if_neg (show ¬ k = 0 by have : 1 ≤ k := hk; omega), Nat.one_pos, rfl, ?_, Nat.not_le.mpr hbl, fun k => ?_⟩, va_S.rf, Nat.le_refl _, fun _ _ => rfl, QL.entry (ad := fun _ => b) (nL := 26) (as := [vA 0]) (by decide) ⟨Nat.one_pos, trivial⟩, hbl⟩ trivial
  · intro T hTT X
    obtain ⟨t, a1, o, b1, b2, b3⟩ := h T hTT X
    refine ⟨t, a1, o, b1, b2, ?_⟩
    rcases b3 with ⟨⟨⟨v, F', A', al', ad', e1, e2, -⟩, -⟩, L9, ⟨f1, f2, f3⟩, f4⟩ | ⟨q, -, E, ce, L9, ⟨⟨F', A', al', ad', e2, -⟩, -⟩, -⟩
    · cases e2
      exact ⟨e1, f1, f2, State.sameButNew.drop_fresh (L := []) f3 f4⟩
    · cases e2
  · show va_X b L (fun j => Int32.ofInt ((if 0 = 0 then (fun j => (xs j).toInt) else fun _ => 0) j)) s s.heap
    rw [if_pos rfl]
    simp only [Int32.ofInt_toInt]
    exact hX
  · show (if k = 0 then (4, L) else (9, 0) : Nat × Nat).2 < 2147483648
    split
    · show L < 2147483648; omega
    · decide
set_option maxHeartbeats 4000000 in
theorem lw_walk (l : Launch) (hflags : l.flags = flags0) (b : Addr) (xs : List Int32) : MetFree l x (headSpec (Jvm.Cond.code x code maxLocals ret :: tables_1) room_1) (lw_P b xs) (fun _ _ _ _ _ => True) lw_Q := by
  refine MetFree.of_bodyS (code := code) (maxLocals := maxLocals) (ret := ret) (by decide) ?_ ?_
  · intro args s m h hn
    obtain ⟨meth, c, h1, h2, h3, h4, h5, h6, -, -⟩ := Cond.code_spec hn (atoms_spec (ws := Jvm.Cond.code x code maxLocals ret :: tables_1) h _ List.mem_cons_self)
    exact ⟨meth, c, h1, h2, h3, h4, h5, h6⟩
  · intro p e s m args below meth c s₁ B hml0 hP _
    obtain ⟨rfl, hx, hbd, hgv⟩ := hP
    obtain ⟨scr, harrAt, hlist, hof, hsmall⟩ := hx
    obtain ⟨hcb, hkn, -, -⟩ := State.arrayAt?_spec harrAt
    have hown : s.vm.findClass R_law = some m.cls := findClass_of_methodNamed B.named
    have hts0 : ∀ c ∈ (Jvm.Cond.code x code maxLocals ret :: tables_1), c.before #[Value.ref b] s = true := atoms_spec (ws := Jvm.Cond.code x code maxLocals ret :: tables_1) B.pre
    have hts : ∀ w ∈ lw_tbl, w.before #[Value.ref b] s = true := k2_hts_sels lw_privs (fun w hw => hts0 w (List.mem_cons_of_mem _ hw)) lw_privs_ok
    have hml : c.maxLocals = 26 := B.maxLocals_eq (hts0 _ List.mem_cons_self)
    have X₀ : Stand p l e room_1 s m #[Value.ref b] below meth c s₁ [] 0 0 := Stand.of_body B
    have hh0 : s₁.heap = s.heap := by rw [B.state]; rfl
    have hsz : scr.slots.size = xs.length := by rw [← Array.length_toList, hlist, List.length_map]
    have hval : ∀ j : Nat, j < xs.length → scr.slots[j]? = some (.int (xs.getD j 0)) := fun j hj => by
      rw [← Array.getElem?_toList, hlist]
      simp [hj]
    have hbl : b < s.heap.size := (Array.getElem?_eq_some_iff.mp hcb).1
    have hX : va_X b xs.length (fun j => xs.getD j 0) s s.heap := ⟨scr, hcb, hof, hkn, hsz, hval⟩
    have htab : c.exceptionTable.toList = [] := by
      obtain ⟨meth9, c9, h1, h2, -, -, -, -, h7, -⟩ := Cond.code_spec B.named (hts0 _ List.mem_cons_self)
      cases Option.some.inj (h1.symm.trans B.method)
      cases Option.some.inj (h2.symm.trans (Stand.of_body B).code)
      rw [Array.isEmpty_iff.mp h7]
    have K : W p l e room_1 s m #[Value.ref b] below meth c s₁.heap [] 0 0 (lw_Z below #[Value.ref b] s) (entryFrame m ([Value.ref b] : List Value).toArray 26) := by
      rw [hh0]
      exact whole_start l hflags hbd B.exec B.bytes B.returns hml hown hts hX hbl B.notSynchronized hgv (name_of_methodNamed B.named B.method).1 htab
    obtain ⟨t, a1, o, b1, b2, b3⟩ := K s₁ rfl X₀
    exact ⟨t, o, a1, b1, b2, b3⟩
theorem lw_pre_spec {args : Array Value} {s : State} (h : (Jvm.Cond.and given_1 narrow_1).before args s = true) (hr : rest_1_c.before args s = true) : ∃ (b : Addr) (xs : List Int32), lw_P b xs args s := by
  have hs := flat_of_before _ h
  have hq := flat_of_before _ hr
  have hc : (Cond.count 1).before args s = true := hs _ (by decide +kernel)
  have harr : (Cond.arrayOf (.arg 0) .int).before args s = true := hs _ (by decide +kernel)
  have hle : (Cond.le (.length (.arg 0)) (.int 260)).before args s = true := hs _ (by decide +kernel)
  have hlen : (Cond.isInt (.length (.arg 0))).before args s = true := hq _ (by decide +kernel)
  have hall : (Cond.all (.arg 0) (.isInt (.elem (.arg 0) (.index 0)))).before args s = true := hq _ (by decide +kernel)
  obtain ⟨b, xs, hb, hx⟩ := State.ints_of_pre rfl harr hlen hall
  have hsm : xs.length < 2 ^ 31 := hx.choose_spec.2.2.2
  have hev : (Term.length (.arg 0)).eval args s none [] s = some (.int xs.length.toInt32) := hx.length_eval hb
  have hv := Cond.le_ints hev (show (Term.int 260).eval args s none [] s = some (.int 260) from rfl)
  have hd : xs.length.toInt32 ≤ 260 := by
    simpa [Cond.before, Cond.holds, hv] using hle
  have hN : xs.length ≤ 260 := (Int32.ofNat_le_ofNat hsm (by decide)).mp (show Int32.ofNat xs.length ≤ Int32.ofNat 260 from hd)
  exact ⟨b, xs, Cond.one_arg hc (show args[0]? = some (.ref b) from hb), hx, hN, h⟩
theorem lw_comes (l : Launch) (hflags : l.flags = flags0) : Comes l x (Jvm.Cond.code x code maxLocals ret :: tables_1) room_1 (fun tb e args s => Calls_1 tb e args s ∧ rest_1 tb e args s ∧ Pre_1 tb e args s)
    (fun _ _ args s o t => lw_Q args s o t) := by
  intro p e ha hc hk s m args below hf hfit hheap happ hpre
  obtain ⟨b, xs, hP⟩ := lw_pre_spec hpre.2.2 hpre.2.1
  obtain ⟨k, o, h1, h2, h3, hQ⟩ := lw_walk l hflags b xs p e ha hc hk s m args below hf ((Spec.applies_iff_loose hf).mp happ).1 hP trivial
  exact ⟨k, o, h1, h2, h3, hQ⟩
theorem lw_frame {s t : State} {o : Outcome} {args : Array Value} (h : Framed s o t [] 600086 7301442) :
    Framed s o t (fieldLocs frame_1_writes args s ++ arrayLocs frame_1_arrays args s ++ staticLocs frame_1_statics s) 600086 7301442 := h
theorem lw_limb (L : Cond) (hL : ∀ (args : Array Value) (s t : State), L.after args s (.returned (some (.int 1))) t = true) :
    ArmFor flags0 classFile x code maxLocals ret World_1 tables_1 room_1 Calls_1 rest_1 Pre_1
      (fun tb e a s o t => postC L tb e a s o t ∧ Framed s o t (fieldLocs frame_1_writes a s ++ arrayLocs frame_1_arrays a s ++ staticLocs frame_1_statics s) 600086 7301442) := by
  intro l hflags _ _ p e ha hc hk s m args below hf hfit hheap happ hpre
  obtain ⟨k, o, h1, h2, h3, rfl, hF⟩ := lw_comes l hflags p e ha hc hk s m args below hf hfit hheap happ hpre
  exact ⟨k, _, h1, h2, h3, hL args s _, lw_frame hF⟩
theorem i_vc : Claimed_1_1 ∧ Claimed_1_2 := ⟨lw_limb limb_1_1 (fun args s t => by simp [limb_1_1, Cond.after, Cond.holds, Cond.value]), lw_limb limb_1_2 (fun args s t => Cond.after_iff.mpr (by
  first | (rw [show limb_1_2 = Cond.eq .result (.int 1) from rfl, Cond.eq_ints (x := 1) (y := 1) rfl rfl]; simp; done) | (simp [limb_1_2, Cond.value, Term.eval]; done)))⟩
