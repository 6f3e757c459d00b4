/-! rows for what is made: objects, rows, constructors -/
def kU (al : AL) (x : Nat × Nat) : AL := (fun a => if a = al.2 then x else al.1 a, al.2 + 1)
def nF (F : HF) (n : Nat) (v : Nat → LV) : HF := fun a => if a = n then v else F a
def nA (A : HA) (n : Nat) : HA := fun a => if a = n then fun _ => 0 else A a
def dfT : FieldType → LV
  | .object _ => vN
  | .array _ => vN
  | .long => vJ 0
  | _ => vI 0
def okT : FieldType → Bool
  | .float => false
  | .double => false
  | _ => true
theorem dv_ok (ad : Nat → Nat) : ∀ t : FieldType, okT t = true → defaultValue t = tr ad (dfT t)
  | .byte, _ => rfl
  | .char, _ => rfl
  | .short, _ => rfl
  | .boolean, _ => rfl
  | .int, _ => rfl
  | .long, _ => rfl
  | .object _, _ => rfl
  | .array _, _ => rfl
  | .float, h => by cases h
  | .double, h => by cases h
theorem df_okv (n : Nat) : ∀ t : FieldType, okv n (dfT t)
  | .byte => trivial
  | .char => trivial
  | .short => trivial
  | .boolean => trivial
  | .int => trivial
  | .long => trivial
  | .object _ => trivial
  | .array _ => trivial
  | .float => trivial
  | .double => trivial
def adU (ad : Nat → Nat) (n q : Nat) : Nat → Nat := fun k => if k = n then q else ad k
theorem adU_lt {ad : Nat → Nat} {n q k : Nat} (h : k < n) : adU ad n q k = ad k := if_neg (by omega)
theorem adU_at {ad : Nat → Nat} {n q : Nat} : adU ad n q n = q := if_pos rfl
/-- the picture with one cell more -/
theorem REP.push {G : GG} {ad : Nat → Nat} {F F' : HF} {A A' : HA} {K : Nat → Nat × Nat} {n q : Nat} {x : Nat × Nat} {P : Nat → Prop} {U : State} {H H1 : Heap} (h : REP G ad F A (K, n) P U H) (hF : ∀ j, j < n → F' j = F j) (hA : ∀ j, j < n → A' j = A j) (hF2 : ∀ a i, okv (n + 1) (F' a i))
    (hx : x.2 < 2147483648) (hP : va_P G.1 vwCl (wl G ad F A (K, n) ++ [(q, cellOf G (adU ad n q) x (F' n) (A' n))]) H1) (hD : va_D P (wl G ad F A (K, n) ++ [(q, cellOf G (adU ad n q) x (F' n) (A' n))])) (h0 : H1[ad 0]? = H[ad 0]?) :
    REP G (adU ad n q) F' A' (kU (K, n) x) P U H1 := by
  have hn : 0 < n := h.2.2.2.2.1
  have e1 : wl G (adU ad n q) F' A' (kU (K, n) x) = wl G ad F A (K, n) ++ [(q, cellOf G (adU ad n q) x (F' n) (A' n))] := by
    show wl G (adU ad n q) F' A' ((fun a => if a = n then x else K a), n + 1) = _
    rw [wl_push hn (K := K) (F := F) (A := A) (fun j hj => if_neg (by omega)) hF hA, wl_ext (ad := ad) (fun k hk => adU_lt hk) h.2.2.1, adU_at]
    simp
  have e0 : adU ad n q 0 = ad 0 := adU_lt hn
  refine ⟨by rw [e1]; exact hP, by rw [e1]; exact hD, hF2, fun k hk => ?_, Nat.succ_pos _, ?_, ?_, ?_, fun k => ?_⟩
  · have hk2 : n + 1 ≤ k := hk
    show (if k = n then x else K k) = _
    rw [if_neg (by omega)]
    exact h.2.2.2.1 k (by show n ≤ k; omega)
  · show (if 0 = n then x else K 0).1 = 4
    rw [if_neg (by omega)]
    exact h.2.2.2.2.2.1
  · show va_X (adU ad n q 0) (if 0 = n then x else K 0).2 (fun j => Int32.ofInt (A' 0 j)) U H1
    rw [if_neg (by omega), e0, hA 0 hn]
    exact h.2.2.2.2.2.2.1.kept h0
  · rw [e0]; exact h.2.2.2.2.2.2.2.1
  · show (if k = n then x else K k).2 < 2147483648
    split
    · exact hx
    · exact h.2.2.2.2.2.2.2.2 k
/-- words of new: the class link, that it can be made, that it is initialized -/
def NW (own : String) (idx ci : Nat) (C : String) (N : Nat) : Prop := (∃ T, vwCl[ci]? = some (C, T, N)) ∧ Cond.classLink own idx C ∈ TBg ∧ Cond.instantiable C N ∈ TBg ∧ Cond.initialized C ∈ TBg ∧ (∀ j, j < N → okT (tyOf ci j) = true) ∧ N < 2147483648
def dfF (ci : Nat) : Nat → LV := fun j => dfT (tyOf ci j)
theorem QS.push {G : GG} {P : Nat → Prop} {ad0 ad : Nat → Nat} {N0 nL : Nat} {s : State} {L : List (Option LV)} {F F' : HF} {A A' : HA} {K K' : Nat → Nat × Nat} {n n' : Nat} {H H1 : Heap} {locs : List Loc} {ls : Array Slot} {ad' : Nat → Nat} (hs : QS G P ad0 N0 nL s ad L F A (K, n) H locs ls)
    (hR : REP G ad' F' A' (K', n') P s H1) (hS : va_S P s.heap H1 locs) (hn : n ≤ n') (had : ∀ k, k < n → ad' k = ad k) : QS G P ad0 N0 nL s ad' L F' A' (K', n') H1 locs ls := by
  have hN : N0 ≤ n := hs.2.2.1
  have h0 : 0 < n := hs.1.2.2.2.2.1
  refine ⟨hR, hS, Nat.le_trans hN hn, fun k hk => (had k (by omega)).trans (hs.2.2.2.1 k hk), hs.2.2.2.2.1.ext hn had, ?_⟩
  rw [had 0 h0]; exact hs.2.2.2.2.2
section QNew
variable {M : MT} {d mc ms nc ns pc : Nat} {Post : PO} {L : List (Option LV)} {st : List LV} {F : HF} {A : HA} {K : Nat → Nat × Nat} {n : Nat}
theorem q_new {idx ci N : Nat} {C : String} (hd : decode M.2.1 pc = .ok (.new idx, 3)) (hw : NW M.1.cls idx ci C N) (hm1 : nc + 1 ≤ mc) (hm2 : ns + N ≤ ms)
    (k : QW M d mc ms Post (nc + 1) (ns + N) (pc + 3) L (vA n :: st) (nF F n (dfF ci)) A (kU (K, n) (ci + 10, N))) : QW M d mc ms Post nc ns pc L st F A (K, n) := by
  intro p l e R s m args below meth c G P ad0 N0 hc ad H locs ls hs hst
  obtain ⟨⟨T, hcl⟩, w1, w2, w3, hok, hN⟩ := hw
  obtain ⟨hin, hty, hnm⟩ := cl_all hcl
  obtain ⟨hf1, hf2, hf3, hf4⟩ := hc.2.2.2.2.2.2.2.2.2.2.2.2.2.2
  refine va_new hc.1 hc.2.2.1 hc.2.2.2.2.2.1 hin (tyOf ci) hty hc.2.2.2.2.1 (hc.2.2.2.2.2.1 _ w1) (hc.2.2.2.2.2.1 _ w2) (hc.2.2.2.2.2.1 _ w3) hc.2.2.2.2.2.2.2.2.2.2.2.1 hs.1.1 hs.1.2.1 hs.2.1 hc.2.2.2.2.2.2.2.2.2.2.2.2.2.1 hcl (fs := (List.range N).map (fun i => tr ad (dfF ci i))) (fun j hj => ?_)
    (Nat.le_trans hm1 hf3) (Nat.le_trans hm2 hf4) hd (fun q H1 hP1 hD1 hS1 => ?_)
  · unfold vp_V
    rw [List.getD_eq_getElem?_getD, fs_get hj]
    exact dv_ok ad _ (hok j hj)
  have hcell : (.inr (ci, (List.range N).map (fun i => tr ad (dfF ci i))) : va_E) = cellOf G (adU ad n q) (ci + 10, N) (nF F n (dfF ci) n) (A n) := by
    rw [cellOf_obj]
    show (.inr (ci, (List.range N).map (fun i => tr ad (dfF ci i))) : va_E) = .inr (ci, (List.range N).map (fun i => tr (adU ad n q) (nF F n (dfF ci) n i)))
    rw [show nF F n (dfF ci) n = dfF ci from if_pos rfl]
    congr 2
    exact List.map_congr_left fun i _ => (tr_ext (n := 0) (fun k hk => absurd hk (by omega)) (df_okv 0 _)).symm
  rw [hcell] at hP1 hD1
  have hR1 := hs.1.push (F' := nF F n (dfF ci)) (A' := A) (x := (ci + 10, N)) (fun j hj => if_neg (by omega)) (fun j hj => rfl) (fun a i => by
    unfold nF
    split
    · exact df_okv _ _
    · exact okv_mono (Nat.le_succ n) (hs.1.2.2.1 a i)) hN hP1 hD1 (va_S_same hs.2.1 hS1 hs.2.2.2.2.2 hs.1.2.2.2.2.2.2.2.1)
  have hq := k p l e R s m args below meth c G P ad0 N0 hc (adU ad n q) H1 locs ls (hs.push hR1 hS1 (Nat.le_succ n) (fun k hk => adU_lt hk)) ⟨Nat.lt_succ_self n, okst_mono (Nat.le_succ n) hst⟩
  have e9 : (vA n :: st).map (tr (adU ad n q)) = Value.ref q :: st.map (tr ad) := by
    rw [List.map_cons, map_tr_ext (fun k hk => adU_lt hk) hst]
    show Value.ref (adU ad n q n) :: _ = _
    rw [adU_at]
  rw [e9] at hq
  exact hq
theorem ac_I : Cond.arrayClass .int ∈ TBg := tb_i (List.mem_of_getElem? (i := 108) (by decide +kernel)) (by decide +kernel)
theorem q_newa_I {N : Nat} (hd : decode M.2.1 pc = .ok (.newarray .int, 2)) (hN : N < 16384) (hm1 : nc + 1 ≤ mc) (hm2 : ns + N ≤ ms)
    (k : QW M d mc ms Post (nc + 1) (ns + N) (pc + 2) L (vA n :: st) F (nA A n) (kU (K, n) (0, N))) : QW M d mc ms Post nc ns pc L (vI N :: st) F A (K, n) := by
  intro p l e R s m args below meth c G P ad0 N0 hc ad H locs ls hs hst
  obtain ⟨hf1, hf2, hf3, hf4⟩ := hc.2.2.2.2.2.2.2.2.2.2.2.2.2.2
  have hKK : KK G s := hc.2.2.2.2.2.2.2.2.2.2.2.1
  have hr : InR (N : Int) := ⟨by omega, by omega⟩
  refine va_newa (atype := .int) (ty := .int) hc.1 hc.2.2.1 (hc.2.2.2.2.2.1 _ ac_I) rfl hKK hs.1.1 hs.1.2.1 hs.2.1 hc.2.2.2.2.2.2.2.2.2.2.2.2.2.1 (N' := N) (a0 := (N, .inl (fun _ => 0))) (fun cA => rfl) (fun q => by have := (i_lt0 hr).mp q; omega) (by rw [i_nat hr]; omega)
    (by show N * 4 ≤ _; omega) (Nat.le_trans hm1 hf3) (Nat.le_trans hm2 hf4) hd (fun q cA H1 hK1 hP1 hD1 hS1 => ?_)
  have hcA : cA = G.2.1 := by
    have h1 : va_RA s cA .int := (hK1.2 4 (cA, .int) rfl).2
    have h2 : va_RA s G.2.1 .int := (hKK.2 0 (G.2.1, .int) rfl).2
    have h3 : some cA = some G.2.1 := (show s.vm.findClass _ = some cA from h1).symm.trans h2
    exact Option.some.inj h3
  subst hcA
  have hcell : (.inl (G.2.1, N, .inl (fun _ => 0)) : va_E) = cellOf G (adU ad n q) (0, N) (F n) (nA A n n) := by
    show _ = (.inl (G.2.1, N, .inl (fun i => Int32.ofInt (nA A n n i))) : va_E)
    rw [show nA A n n = fun _ => 0 from if_pos rfl]
    rfl
  rw [hcell] at hP1 hD1
  have hR1 := hs.1.push (F' := F) (A' := nA A n) (x := (0, N)) (fun j hj => rfl) (fun j hj => if_neg (by omega)) (fun a i => okv_mono (Nat.le_succ n) (hs.1.2.2.1 a i)) (by show N < _; omega) hP1 hD1 (va_S_same hs.2.1 hS1 hs.2.2.2.2.2 hs.1.2.2.2.2.2.2.2.1)
  have hq := k p l e R s m args below meth c G P ad0 N0 hc (adU ad n q) H1 locs ls (hs.push hR1 hS1 (Nat.le_succ n) (fun k hk => adU_lt hk)) ⟨Nat.lt_succ_self n, okst_mono (Nat.le_succ n) hst.2⟩
  have e9 : (vA n :: st).map (tr (adU ad n q)) = Value.ref q :: st.map (tr ad) := by
    rw [List.map_cons, map_tr_ext (fun k hk => adU_lt hk) hst.2]
    show Value.ref (adU ad n q n) :: _ = _
    rw [adU_at]
  rw [e9] at hq
  exact hq
/-- a row of rows, 6 by 6 -/
def mF (F : HF) (n : Nat) : HF := fun a => if a = n then (fun i => if i < 6 then vA (n + 1 + i) else vN) else F a
def mA (A : HA) (n : Nat) : HA := nA (nA (nA (nA (nA (nA A (n + 1)) (n + 2)) (n + 3)) (n + 4)) (n + 5)) (n + 6)
def mU (al : AL) : AL := kU (kU (kU (kU (kU (kU (kU al (3, 6)) (0, 6)) (0, 6)) (0, 6)) (0, 6)) (0, 6)) (0, 6)
def adM (ad : Nat → Nat) (n q : Nat) (r : Nat → Nat) : Nat → Nat := adU (adU (adU (adU (adU (adU (adU ad n q) (n + 1) (r 0)) (n + 2) (r 1)) (n + 3) (r 2)) (n + 4) (r 3)) (n + 5) (r 4)) (n + 6) (r 5)
theorem cl_mna : Cond.classLink "RootedRing$Galois" 43 "[[I" ∈ TBg := tb_i (List.mem_of_getElem? (i := 49) (by decide +kernel)) (by decide +kernel)
theorem wl_mna {G : GG} {ad : Nat → Nat} {F : HF} {A : HA} {K : Nat → Nat × Nat} {n q : Nat} {r : Nat → Nat} (hn : 0 < n) (hf : ∀ a i, okv n (F a i)) : wl G (adM ad n q r) (mF F n) (mA A n) (mU (K, n)) = wl G ad F A (K, n) ++ [(q, .inl (G.2.2.2.2, 6, .inr (.inr (.inr (.inr (fun i => if i < 6 then some (r i) else none)))))), (r 0, .inl (G.2.1, 6, .inl (fun _ => 0))), (r 1, .inl (G.2.1, 6, .inl (fun _ => 0))), (r 2, .inl (G.2.1, 6, .inl (fun _ => 0))), (r 3, .inl (G.2.1, 6, .inl (fun _ => 0))), (r 4, .inl (G.2.1, 6, .inl (fun _ => 0))), (r 5, .inl (G.2.1, 6, .inl (fun _ => 0)))] := by
  have hz : ∀ j, 1 ≤ j → j ≤ 6 → mA A n (n + j) = fun _ => 0 := by
    intro j h1 h2
    have h6 : j = 1 ∨ j = 2 ∨ j = 3 ∨ j = 4 ∨ j = 5 ∨ j = 6 := by omega
    rcases h6 with rfl | rfl | rfl | rfl | rfl | rfl <;> (unfold mA nA; simp)
  have ha : ∀ j, j < 6 → adM ad n q r (n + 1 + j) = r j := by
    intro j h2
    have h6 : j = 0 ∨ j = 1 ∨ j = 2 ∨ j = 3 ∨ j = 4 ∨ j = 5 := by omega
    rcases h6 with rfl | rfl | rfl | rfl | rfl | rfl <;> (unfold adM adU; simp)
  have haq : adM ad n q r n = q := by unfold adM adU; simp
  have hal : ∀ k, k < n → adM ad n q r k = ad k := by
    intro k hk
    unfold adM adU
    rw [if_neg (by omega), if_neg (by omega), if_neg (by omega), if_neg (by omega), if_neg (by omega), if_neg (by omega), if_neg (by omega)]
  have hAl : ∀ k, k ≤ n → mA A n k = A k := by
    intro k hk
    unfold mA nA
    rw [if_neg (by omega), if_neg (by omega), if_neg (by omega), if_neg (by omega), if_neg (by omega), if_neg (by omega)]
  have hkd : ∀ j, 1 ≤ j → j ≤ 6 → (mU (K, n)).1 (n + j) = (0, 6) := by
    intro j h1 h2
    have h6 : j = 1 ∨ j = 2 ∨ j = 3 ∨ j = 4 ∨ j = 5 ∨ j = 6 := by omega
    rcases h6 with rfl | rfl | rfl | rfl | rfl | rfl <;> (unfold mU kU; simp)
  have hk0 : (mU (K, n)).1 n = (3, 6) := by
    show (if n = n + 6 then ((0, 6) : Nat × Nat) else if n = n + 5 then (0, 6) else if n = n + 4 then (0, 6) else if n = n + 3 then (0, 6) else if n = n + 2 then (0, 6) else if n = n + 1 then (0, 6) else if n = n then (3, 6) else K n) = (3, 6)
    rw [if_neg (by omega), if_neg (by omega), if_neg (by omega), if_neg (by omega), if_neg (by omega), if_neg (by omega), if_pos rfl]
  have hkl : ∀ k, k < n → (mU (K, n)).1 k = K k := by
    intro k hk
    show (if k = n + 6 then _ else if k = n + 5 then _ else if k = n + 4 then _ else if k = n + 3 then _ else if k = n + 2 then _ else if k = n + 1 then _ else if k = n then _ else K k) = K k
    rw [if_neg (by omega), if_neg (by omega), if_neg (by omega), if_neg (by omega), if_neg (by omega), if_neg (by omega), if_neg (by omega)]
  have hrow : ∀ j, 1 ≤ j → j ≤ 6 → (adM ad n q r (n + j), cellOf G (adM ad n q r) ((mU (K, n)).1 (n + j)) (mF F n (n + j)) (mA A n (n + j))) = (r (j - 1), .inl (G.2.1, 6, .inl (fun _ => 0))) := by
    intro j h1 h2
    rw [hkd j h1 h2, hz j h1 h2, show n + j = n + 1 + (j - 1) by omega, ha (j - 1) (by omega)]
    rfl
  have h0row : (adM ad n q r n, cellOf G (adM ad n q r) ((mU (K, n)).1 n) (mF F n n) (mA A n n)) = (q, .inl (G.2.2.2.2, 6, .inr (.inr (.inr (.inr (fun i => if i < 6 then some (r i) else none)))))) := by
    rw [hk0, haq]
    show (q, (.inl (G.2.2.2.2, 6, .inr (.inr (.inr (.inr (fun i => rfo (adM ad n q r) (mF F n n i)))))) : va_E)) = _
    have hfun : (fun i => rfo (adM ad n q r) (mF F n n i)) = fun i => if i < 6 then some (r i) else none := by
      funext i
      rw [show mF F n n = fun i => if i < 6 then vA (n + 1 + i) else vN from if_pos rfl]
      by_cases hi : i < 6
      · show rfo _ (if i < 6 then vA (n + 1 + i) else vN) = _
        rw [if_pos hi, if_pos hi]
        show some (adM ad n q r (n + 1 + i)) = _
        rw [ha i hi]
      · show rfo _ (if i < 6 then vA (n + 1 + i) else vN) = _
        rw [if_neg hi, if_neg hi]
        rfl
    rw [hfun]
  have hKeq : mU (K, n) = ((mU (K, n)).1, n + 7) := rfl
  rw [hKeq]
  generalize hKd : (mU (K, n)).1 = K' at *
  rw [show n + 7 = n + 6 + 1 by omega, wl_push (K := K') (F := mF F n) (A := mA A n) (by omega) (fun _ _ => rfl) (fun _ _ => rfl) (fun _ _ => rfl),
    wl_push (K := K') (F := mF F n) (A := mA A n) (show 0 < n + 5 by omega) (fun _ _ => rfl) (fun _ _ => rfl) (fun _ _ => rfl),
    wl_push (K := K') (F := mF F n) (A := mA A n) (show 0 < n + 4 by omega) (fun _ _ => rfl) (fun _ _ => rfl) (fun _ _ => rfl),
    wl_push (K := K') (F := mF F n) (A := mA A n) (show 0 < n + 3 by omega) (fun _ _ => rfl) (fun _ _ => rfl) (fun _ _ => rfl),
    wl_push (K := K') (F := mF F n) (A := mA A n) (show 0 < n + 2 by omega) (fun _ _ => rfl) (fun _ _ => rfl) (fun _ _ => rfl),
    wl_push (K := K') (F := mF F n) (A := mA A n) (show 0 < n + 1 by omega) (fun _ _ => rfl) (fun _ _ => rfl) (fun _ _ => rfl),
    wl_push (K := K) (K' := K') (F := F) (F' := mF F n) (A := A) (A' := mA A n) hn (fun k hk => hkl k hk) (fun k hk => if_neg (by omega)) (fun k hk => hAl k (by omega)),
    wl_ext (ad := ad) hal hf, h0row, hrow 1 (by decide) (by decide), hrow 2 (by decide) (by decide), hrow 3 (by decide) (by decide), hrow 4 (by decide) (by decide), hrow 5 (by decide) (by decide), hrow 6 (by decide) (by decide)]
  simp
theorem q_mna (hM : M.1.cls = "RootedRing$Galois") (hd : decode M.2.1 pc = .ok (.multianewarray 43 2, 4)) (hm1 : nc + 7 ≤ mc) (hm2 : ns + 42 ≤ ms)
    (k : QW M d mc ms Post (nc + 7) (ns + 42) (pc + 4) L (vA n :: st) (mF F n) (mA A n) (mU (K, n))) : QW M d mc ms Post nc ns pc L (vI 6 :: vI 6 :: st) F A (K, n) := by
  intro p l e R s m args below meth c G P ad0 N0 hc ad H locs ls hs hst
  obtain ⟨hf1, hf2, hf3, hf4⟩ := hc.2.2.2.2.2.2.2.2.2.2.2.2.2.2
  have hKK : KK G s := hc.2.2.2.2.2.2.2.2.2.2.2.1
  have hXW : XW s := hc.2.2.2.2.2.2.2.2.2.2.1
  have hown := hc.2.2.2.2.1
  rw [hM] at hown
  have hn0 : 0 < n := hs.1.2.2.2.2.1
  have hP0 : va_P G.1 vwCl (wl G ad F A (K, n) ++ va_pl [] (fun _ => .inr (0, []))) H := by
    show va_P _ _ (_ ++ []) _
    rw [List.append_nil]; exact hs.1.1
  have hD0 : va_D P (wl G ad F A (K, n) ++ va_pl [] (fun _ => .inr (0, []))) := by
    show va_D _ (_ ++ [])
    rw [List.append_nil]; exact hs.1.2.1
  refine va_mna (ty := .int) (own := "RootedRing$Galois") (index := 43) (N' := 6) (K' := 6) (z := (6, .inl (fun _ => 0))) hc.1 hc.2.2.1 hown (hc.2.2.2.2.2.1 _ cl_mna) hXW.2.2.2 (hc.2.2.2.2.2.1 _ ac_I) (cy := G.2.1) (hKK.2 0 (G.2.1, .int) rfl).2 hKK hP0 hD0 hs.2.1 hc.2.2.2.2.2.2.2.2.2.2.2.2.2.1
    (by decide) (by decide) (by decide) (by decide) (by decide) (by decide) (by decide) (by decide) (by decide) (by omega) (by omega) (fun cA => arrV_new cA 6 (.int 0)) hd (fun q r cA H1 hinj hnl hK1 hP1 hD1 hS1 => ?_)
  have hcA : cA = G.2.2.2.2 := by
    have h1 : va_RA s cA (.array .int) := (hK1.2 4 (cA, .array .int) rfl).2
    have h2 : va_RA s G.2.2.2.2 (.array .int) := (hKK.2 3 (G.2.2.2.2, .array .int) rfl).2
    have h3 : some cA = some G.2.2.2.2 := (show s.vm.findClass _ = some cA from h1).symm.trans h2
    exact Option.some.inj h3
  subst hcA
  have hl : va_pl ([] ++ (List.range 6).map r) (vr_up (fun _ => (.inr (0, []) : va_E)) ((List.range 6).map r) (.inl (G.2.1, (6, .inl (fun _ => 0))))) = [(r 0, .inl (G.2.1, 6, .inl (fun _ => 0))), (r 1, .inl (G.2.1, 6, .inl (fun _ => 0))), (r 2, .inl (G.2.1, 6, .inl (fun _ => 0))), (r 3, .inl (G.2.1, 6, .inl (fun _ => 0))), (r 4, .inl (G.2.1, 6, .inl (fun _ => 0))), (r 5, .inl (G.2.1, 6, .inl (fun _ => 0)))] := by
    unfold va_pl
    rw [List.nil_append]
    have : ∀ a ∈ (List.range 6).map r, (a, vr_up (fun _ => (.inr (0, []) : va_E)) ((List.range 6).map r) (.inl (G.2.1, (6, .inl (fun _ => 0)))) a) = (a, (.inl (G.2.1, (6, .inl (fun _ => 0))) : va_E)) := fun a ha => by rw [vr_up_in ha]
    rw [List.map_congr_left this]
    rfl
  rw [hl, List.append_assoc] at hP1 hD1
  have hw := wl_mna (G := G) (ad := ad) (F := F) (A := A) (K := K) (n := n) (q := q) (r := r) hn0 hs.1.2.2.1
  have hP2 : va_P G.1 vwCl (wl G (adM ad n q r) (mF F n) (mA A n) (mU (K, n))) H1 := by rw [hw]; exact hP1
  have hD2 : va_D P (wl G (adM ad n q r) (mF F n) (mA A n) (mU (K, n))) := by rw [hw]; exact hD1
  have hal : ∀ k, k < n → adM ad n q r k = ad k := by
    intro k hk
    unfold adM adU
    rw [if_neg (by omega), if_neg (by omega), if_neg (by omega), if_neg (by omega), if_neg (by omega), if_neg (by omega), if_neg (by omega)]
  have hkl : ∀ k, (mU (K, n)).1 k = if k = n + 6 then (0, 6) else if k = n + 5 then (0, 6) else if k = n + 4 then (0, 6) else if k = n + 3 then (0, 6) else if k = n + 2 then (0, 6) else if k = n + 1 then (0, 6) else if k = n then (3, 6) else K k := fun k => rfl
  have hA0 : mA A n 0 = A 0 := by
    unfold mA nA
    rw [if_neg (by omega), if_neg (by omega), if_neg (by omega), if_neg (by omega), if_neg (by omega), if_neg (by omega)]
  have hK0 : (mU (K, n)).1 0 = K 0 := by
    rw [hkl, if_neg (by omega), if_neg (by omega), if_neg (by omega), if_neg (by omega), if_neg (by omega), if_neg (by omega), if_neg (by omega)]
  have hkeep := va_S_same hs.2.1 hS1 hs.2.2.2.2.2 hs.1.2.2.2.2.2.2.2.1
  have hR1 : REP G (adM ad n q r) (mF F n) (mA A n) (mU (K, n)) P s H1 := by
    refine ⟨hP2, hD2, fun a i => ?_, fun k hk => ?_, Nat.succ_pos _, by rw [hK0]; exact hs.1.2.2.2.2.2.1, ?_, by rw [hal 0 hn0]; exact hs.1.2.2.2.2.2.2.2.1, fun k => ?_⟩
    · show okv (n + 7) _
      unfold mF
      split
      · dsimp only
        split
        · show n + 1 + i < n + 7; omega
        · trivial
      · exact okv_mono (show n ≤ n + 7 by omega) (hs.1.2.2.1 a i)
    · have hk2 : n + 7 ≤ k := hk
      rw [hkl, if_neg (by omega), if_neg (by omega), if_neg (by omega), if_neg (by omega), if_neg (by omega), if_neg (by omega), if_neg (by omega)]
      exact hs.1.2.2.2.1 k (by show n ≤ k; omega)
    · rw [hal 0 hn0, hK0, hA0]; exact hs.1.2.2.2.2.2.2.1.kept hkeep
    · rw [hkl]
      have := hs.1.2.2.2.2.2.2.2.2 k
      repeat' split
      all_goals first | decide | exact this
  have hq := k p l e R s m args below meth c G P ad0 N0 hc (adM ad n q r) H1 locs ls (hs.push hR1 hS1 (show n ≤ n + 7 by omega) hal) ⟨by show n < n + 7; omega, okst_mono (show n ≤ n + 7 by omega) hst.2.2⟩
  have e9 : (vA n :: st).map (tr (adM ad n q r)) = Value.ref q :: st.map (tr ad) := by
    rw [List.map_cons, map_tr_ext hal hst.2.2]
    show Value.ref (adM ad n q r n) :: _ = _
    rw [show adM ad n q r n = q by unfold adM adU; simp]
  rw [e9] at hq
  have e7 : nc + 7 = nc + 1 + 6 := by omega
  have e8 : ns + 42 = ns + 6 + 6 * 6 := by omega
  rw [e7, e8] at hq
  exact hq
theorem oi_1 : Cond.instanceMethod Lib.objectInit ∈ TBg := tb_i (List.mem_of_getElem? (i := 41) (by decide +kernel)) (by decide +kernel)
theorem oi_2 : Cond.code Lib.objectInit ⟨#[0xb1]⟩ 1 none ∈ TBg := tb_i (List.mem_of_getElem? (i := 42) (by decide +kernel)) (by decide +kernel)
theorem q_obj {idx a : Nat} {al : AL} (hd : decode M.2.1 pc = .ok (.invokespecial idx, 3)) (hw : Cond.methodLink M.1.cls idx Lib.objectInit ∈ TBg) (hd1 : 1 ≤ d) (hr : catS st ≤ 8)
    (k : QW M d mc ms Post nc ns (pc + 3) L st F A al) : QW M d mc ms Post nc ns pc L (vA a :: st) F A al := by
  intro p l e R s m args below meth c G P ad0 N0 hc ad H locs ls hs hst
  obtain ⟨hf1, hf2, hf3, hf4⟩ := hc.2.2.2.2.2.2.2.2.2.2.2.2.2.2
  have hro := room_st (ad := ad) (m := m) (pc := pc) (ls := ls) (stk := (vA a :: st).map (tr ad)) hr
  refine W.objInit (g := F0 m pc ls ((vA a :: st).map (tr ad))) hc.1 hc.2.2.1 hc.2.2.2.2.1 (hc.2.2.2.2.2.1 _ hw) (hc.2.2.2.2.2.1 _ oi_1) (hc.2.2.2.2.2.1 _ oi_2) rfl (by rw [hc.2.2.2.1]; exact hs.2.2.2.2.1.1) rfl hd (by omega) (by omega) ?_
  exact k p l e R s m args below meth c G P ad0 N0 hc ad H locs ls hs hst.2
end QNew
theorem vx_of_va {p : Program} {l : Launch} {e : Env} {R : Room} {s : State} {m : MethodId} {args : Array Value} {below : List Frame} {meth : Method} {c : Code} {H : Heap} {locs : List Loc} {cells slots mc ms : Nat} {g : JFrame} {rest : List Value} {Qa : State → Outcome → State → Prop} {XC : String → State → State → Prop} {free : Addr → Prop}
    (h : va_Run p l e R s m args below meth c H locs cells slots mc ms g rest Qa free) : vx_Run p l e R s m args below meth c H locs cells slots mc ms g rest Qa XC free := fun T hT X => Or.inl (h T hT X)
section QInit
variable {M : MT} {d mc ms : Nat} {Post : PO} {nc ns pc : Nat} {L : List (Option LV)} {st : List LV} {F : HF} {A : HA} {al : AL}
variable {M1 : MT} {d1 mc1 ms1 idx : Nat} {Post1 : PO}
theorem q_callI (as : List LV) {b : Nat} (hd : decode M.2.1 pc = .ok (.invokespecial idx, 3)) (hm : MF M1 as.length) (hw : CI M.1.cls idx M1) (ev : QE d1 mc1 ms1 M1 (vA b :: as) F A al Post1) (hnt : NT Post1) (hd1 : d1 < d) (hm1 : nc + mc1 ≤ mc) (hm2 : ns + ms1 ≤ ms) (hr : catS st ≤ 8)
    {st0 : List LV} (hst0 : st0 = as.reverse ++ vA b :: st)
    (k : ∀ (v : Option Int) (F' : HF) (A' : HA) (al' : AL), Post1 (.inl v) F' A' al' → QW M d mc ms Post (nc + mc1) (ns + ms1) (pc + 3) L (retL v ++ st) F' A' al') : QW M d mc ms Post nc ns pc L st0 F A al := by
  intro p l e R s m args below meth c G P ad0 N0 hc ad H locs ls hs hst
  subst hst0
  have h1 := okst_r hst
  have h2 : okst al.2 (vA b :: as) := ⟨h1.1, okst_of fun v hv => okst_mem hst (List.mem_append_left _ (List.mem_reverse.mpr hv))⟩
  have hts := hc.2.2.2.2.2.1
  obtain ⟨hn1, hn2, hn3, hn4⟩ := hm
  obtain ⟨w1, w2, w3, w4, w5, w6⟩ := hw
  obtain ⟨hf1, hf2, hf3, hf4⟩ := hc.2.2.2.2.2.2.2.2.2.2.2.2.2.2
  have hE := ev l hc.2.1 G ad H.size
  rw [cdw_nil hn4, w6] at hE
  refine q_after (mc1 := mc1) (ms1 := ms1) (Post1 := Post1) (a := ((vA b :: as).map (tr ad)).toArray) hc hs h1.2 (vx_of_va (va_runI (b := ad b) (n := as.length) (ws := Cond.code M1.1 M1.2.1 M1.2.2.1 none :: TBg) (rm := rmq d1 mc1 ms1) (As := as.map (tr ad)) (bytes := M1.2.1) (maxL := M1.2.2.1) (Ts := TBg) ⟨hc.1, hc.2.2.1, hc.2.2.2.1, hc.2.2.2.2.1, hts⟩ (met_of_vx hE hnt.qx)
    ⟨⟨rfl, rfl, (show d1 + 1 ≤ R.frames by omega), (show 8 + (M1.2.2.1 + 11) + 40 * d1 ≤ R.locals by omega), pay_tb hc (by rw [← w6]; exact w1), List.mem_cons_self, hts _ (by rw [← w6]; exact w1), hts _ w2, hn1, fun sig h => ?_, hts _ w3⟩, w5, hts _ w4⟩
    ⟨PCq_blind, fun U hU hW => pc_of hc hs h2 U hU hW⟩ rfl (by rw [List.length_map]) hs.2.2.2.2.1.1 (by rw [List.map_append, List.map_reverse]; rfl) (room_st hr) hd ⟨Nat.le_trans hm1 hf3, Nat.le_trans hm2 hf4⟩))
    (fun v F' A' al' ad' H' locs' hp hq ho => k v F' A' al' hp p l e R s m args below meth c G P ad0 N0 hc ad' H' locs' ls hq (okst_app (retL_ok v) ho))
    (fun E F' A' al' _ _ _ _ _ hp => absurd hp (hnt E F' A' al'))
  rw [h] at hn2
  exact (Option.some.inj hn2).symm
theorem q_callN (as : List LV) {b : Nat} (hd : decode M.2.1 pc = .ok (.invokespecial idx, 3)) (hm : MF M1 as.length) (hw : CN M.1.cls idx M1) (ev : QE d1 mc1 ms1 M1 (vA b :: as) F A al Post1) (hnt : NT Post1) (hd1 : d1 < d) (hm1 : nc + mc1 ≤ mc) (hm2 : ns + ms1 ≤ ms) (hr : catS st ≤ 8)
    {st0 : List LV} (hst0 : st0 = as.reverse ++ vA b :: st)
    (k : ∀ (v : Option Int) (F' : HF) (A' : HA) (al' : AL), Post1 (.inl v) F' A' al' → QW M d mc ms Post (nc + mc1) (ns + ms1) (pc + 3) L (retL v ++ st) F' A' al') : QW M d mc ms Post nc ns pc L st0 F A al := by
  intro p l e R s m args below meth c G P ad0 N0 hc ad H locs ls hs hst
  subst hst0
  have h1 := okst_r hst
  have h2 : okst al.2 (vA b :: as) := ⟨h1.1, okst_of fun v hv => okst_mem hst (List.mem_append_left _ (List.mem_reverse.mpr hv))⟩
  have hts := hc.2.2.2.2.2.1
  obtain ⟨hn1, hn2, hn3, hn4⟩ := hm
  obtain ⟨w1, w2, w3, w4, w5, w6⟩ := hw
  obtain ⟨hf1, hf2, hf3, hf4⟩ := hc.2.2.2.2.2.2.2.2.2.2.2.2.2.2
  have hE := ev l hc.2.1 G ad H.size
  rw [cdw_nil hn4, w6] at hE
  have hXW : XW s := hc.2.2.2.2.2.2.2.2.2.2.1
  refine q_after (mc1 := mc1) (ms1 := ms1) (Post1 := Post1) (a := ((vA b :: as).map (tr ad)).toArray) hc hs h1.2 (vx_of_va (va_runIN (b := ad b) (n := as.length) (host := "RootedRing") (ws := Cond.code M1.1 M1.2.1 M1.2.2.1 none :: TBg) (rm := rmq d1 mc1 ms1) (As := as.map (tr ad)) (bytes := M1.2.1) (maxL := M1.2.2.1) (Ts := TBg) ⟨hc.1, hc.2.2.1, hc.2.2.2.1, hc.2.2.2.2.1, hts⟩ (met_of_vx hE hnt.qx)
    ⟨⟨⟨rfl, rfl, (show d1 + 1 ≤ R.frames by omega), (show 8 + (M1.2.2.1 + 11) + 40 * d1 ≤ R.locals by omega), pay_tb hc (by rw [← w6]; exact w1), List.mem_cons_self⟩, hts _ (by rw [← w6]; exact w1), hts _ w2, hn1, fun sig h => ?_, va_Nw.use rfl (hXW.2.1 _ w3)⟩, w5, hts _ w4⟩
    ⟨PCq_blind, fun U hU hW => pc_of hc hs h2 U hU hW⟩ rfl (by rw [List.length_map]) hs.2.2.2.2.1.1 (by rw [List.map_append, List.map_reverse]; rfl) (room_st hr) hd ⟨Nat.le_trans hm1 hf3, Nat.le_trans hm2 hf4⟩))
    (fun v F' A' al' ad' H' locs' hp hq ho => k v F' A' al' hp p l e R s m args below meth c G P ad0 N0 hc ad' H' locs' ls hq (okst_app (retL_ok v) ho))
    (fun E F' A' al' _ _ _ _ _ hp => absurd hp (hnt E F' A' al'))
  rw [h] at hn2
  exact (Option.some.inj hn2).symm
end QInit
