/-! the law: its world between calls, its calls -/
def WHX (p e r q : Nat) (m : Int) (f : Nat → Int) (g : Int) : Prop := ∀ x d0 d1 d2 d3 : Int, El m r x → (∀ i : Nat, i < 4 → whD d0 d1 d2 d3 i = if i < e then rl p r m (lgR p r m q f g) (dlE p r m f g (lgR p r m q f g) x i) else -1) →
  ((d0 = -1 ∨ 0 < (e : Int) ∧ 0 ≤ d0 ∧ d0 ≤ (q : Int) - 2) ∧ (d1 = -1 ∨ 1 < (e : Int) ∧ 0 ≤ d1 ∧ d1 ≤ (q : Int) - 2) ∧ (d2 = -1 ∨ 2 < (e : Int) ∧ 0 ≤ d2 ∧ d2 ≤ (q : Int) - 2) ∧ (d3 = -1 ∨ 3 < (e : Int) ∧ 0 ≤ d3 ∧ d3 ≤ (q : Int) - 2)) ∧ whE p r m f g d0 d1 d2 d3 = x
def RG (p e r q N : Nat) (m : Int) (f : Nat → Int) (g : Int) : Prop := RK p e r m q f g ∧ prm p ∧ N = p ^ (e * r) ∧ (N : Int) = m ^ r ∧ e ≤ 4 ∧ r ≤ 6 ∧ N ≤ 4096 ∧ q ≤ 4096 ∧ m ≤ 4096 ∧ (∀ n, 1 ≤ n → n ≤ 63 → (q - 1) % n = 0 → (p, n) ∈ prL) ∧ WHX p e r q m f g
theorem rg_of {p e r : Nat} (hv : RV p e r) (hc : Cer p e r) : RG p e r (p ^ r) (p ^ (e * r)) ((p : Int) ^ e) (rF p e r) (rG p e r) := by
  have hk := (rkr_of hv hc).1
  have hn := hv.n4
  have hq := hv.q4
  have he := hv.er
  have hN := hv.N
  have hm := hk.m2
  have h1 := pow_ge (m := (p : Int) ^ e) (by omega) he.2.2.1
  refine ⟨hk, prm_sm hv.p4, rfl, hN, he.2.1, he.2.2.2, hn, hq, ?_, fun n a b c => hv.mem a b c, fun x d0 d1 d2 d3 hx hd => whx hk he.2.1 hx hd⟩
  rw [← hN] at h1
  omega
section World
variable {p e r q N : Nat} {m : Int} {f : Nat → Int} {g : Int} {n dg : Nat} {set : Int} {mk ck : Nat → Int} {B : HA} {F F' : HF} {A A' : HA} {al : AL} {nc ns pc : Nat} {L : List (Option LV)} {st : List LV} {x y v : Int}
theorem RG.inN (h : RG p e r q N m f g) (hx : El m r x) : (0 ≤ x ∧ x < (N : Int)) ∧ InR x := by
  obtain ⟨-, -, -, h4, -, -, h7, -⟩ := h
  obtain ⟨a, b⟩ := hx
  rw [← h4] at b
  exact ⟨⟨a, b⟩, by omega, by omega⟩
theorem RG.elN (h : RG p e r q N m f g) (hx : 0 ≤ x ∧ x < (N : Int)) : El m r x := by
  obtain ⟨-, -, -, h4, -⟩ := h
  exact ⟨hx.1, by rw [← h4]; exact hx.2⟩
abbrev LQw (nc ns pc : Nat) (L : List (Option LV)) (st : List LV) (F : HF) (A : HA) (al : AL) : Prop := QW mL_law 9 600086 7301442 PL1 nc ns pc L st F A al
def LW (p e r q N : Nat) (m : Int) (f : Nat → Int) (g : Int) (n : Nat) (set : Int) (dg : Nat) (mk ck : Nat → Int) (B : HA) (F : HF) (A : HA) : Prop :=
  XI p e r q N m f g (lgR p r m q f g) (fun _ => 0) 0 (fun _ => 0) (-1) n set dg mk ck none [] F A ∧ ∀ b, b = 0 ∨ 44 ≤ b → A b = B b
theorem LW.s4 (h : LW p e r q N m f g n set dg mk ck B F A) (ho : Off [13, 14, 15, 18] A A') : LW p e r q N m f g n set dg mk ck B F A' := by
  refine ⟨h.1.s4 ho, fun b hb => ?_⟩
  rw [← h.2 b hb]
  refine ho b (fun hm => ?_)
  simp only [List.mem_cons, List.not_mem_nil, or_false] at hm
  omega
theorem LW.nA (h : LW p e r q N m f g n set dg mk ck B F A) {a : Nat} (ha : 44 ≤ a) : LW p e r q N m f g n set dg mk ck (nA B a) F (nA A a) := by
  refine ⟨h.1.lo (fun _ _ _ => rfl) (fun b hb => if_neg (by omega)), fun b hb => ?_⟩
  show (if b = a then fun _ => 0 else A b) = if b = a then fun _ => 0 else B b
  rw [h.2 b hb]
theorem LW.up (h : LW p e r q N m f g n set dg mk ck B F A) {a k : Nat} {v : Int} (ha : 44 ≤ a) : LW p e r q N m f g n set dg mk ck (up2 B a k v) F (up2 A a k v) := by
  refine ⟨h.1.lo (fun _ _ _ => rfl) (fun b hb => up2_row (by omega)), fun b hb => ?_⟩
  funext j
  rw [up2_all, up2_all, h.2 b hb]
-- (hw : LW p e r q N m f g n set dg mk ck B F A) (hK : KX al)
theorem c_cnt {what : Int} (hx : InR what) (hw : LW p e r q N m f g n set dg mk ck B F A) (hK : KX al) (hd : decode mL_law.2.1 pc = .ok (.invokevirtual 14, 3)) (hR : cntE p e r q N m f g (lgR p r m q f g) 0 n dg what = some v) (h1 : nc + 1 ≤ 600086) (h2 : ns + 6 ≤ 7301442) (hs : catS st ≤ 8)
    (k : ∀ A' : HA, LW p e r q N m f g n set dg mk ck B F A' → LQw (nc + 1) (ns + 6) (pc + 3) L (vI v :: st) F A' al) : LQw nc ns pc L (vI what :: vA 1 :: st) F A al :=
  q_px [vI what] hd mf_X11_count lk_L_14 hK (ev_cnt hK hw.1 hx) hR (by decide) h1 h2 hs rfl (fun A2 ho => k A2 (hw.s4 ho))
theorem c_dig {i : Int} (hx : InR x) (hi : InR i) (hw : LW p e r q N m f g n set dg mk ck B F A) (hK : KX al) (hd : decode mL_law.2.1 pc = .ok (.invokevirtual 39, 3)) (hR : (if (0 ≤ x ∧ x < (N : Int)) ∧ 0 ≤ i ∧ i < (e : Int) then some (rl p r m (lgR p r m q f g) (dlE p r m f g (lgR p r m q f g) x i.toNat)) else none) = some v) (h1 : nc + 1 ≤ 600086) (h2 : ns + 6 ≤ 7301442) (hs : catS st ≤ 8)
    (k : ∀ A' : HA, LW p e r q N m f g n set dg mk ck B F A' → LQw (nc + 1) (ns + 6) (pc + 3) L (vI v :: st) F A' al) : LQw nc ns pc L (vI i :: vI x :: vA 1 :: st) F A al :=
  q_px [vI x, vI i] hd mf_X11_digit lk_L_39 hK (ev_digit hK hw.1 hx hi) hR (by decide) h1 h2 hs rfl (fun A2 ho => k A2 (hw.s4 ho))
theorem c_wh {d0 d1 d2 d3 : Int} (a0 : InR d0) (a1 : InR d1) (a2 : InR d2) (a3 : InR d3) (hw : LW p e r q N m f g n set dg mk ck B F A) (hK : KX al) (hd : decode mL_law.2.1 pc = .ok (.invokevirtual 42, 3)) (hR : (if (d0 = -1 ∨ 0 < (e : Int) ∧ 0 ≤ d0 ∧ d0 ≤ (q : Int) - 2) ∧ (d1 = -1 ∨ 1 < (e : Int) ∧ 0 ≤ d1 ∧ d1 ≤ (q : Int) - 2) ∧ (d2 = -1 ∨ 2 < (e : Int) ∧ 0 ≤ d2 ∧ d2 ≤ (q : Int) - 2) ∧ (d3 = -1 ∨ 3 < (e : Int) ∧ 0 ≤ d3 ∧ d3 ≤ (q : Int) - 2) then some (whE p r m f g d0 d1 d2 d3) else none) = some v) (h1 : nc + 1 ≤ 600086) (h2 : ns + 6 ≤ 7301442) (hs : catS st ≤ 8)
    (k : ∀ A' : HA, LW p e r q N m f g n set dg mk ck B F A' → LQw (nc + 1) (ns + 6) (pc + 3) L (vI v :: st) F A' al) : LQw nc ns pc L (vI d3 :: vI d2 :: vI d1 :: vI d0 :: vA 1 :: st) F A al :=
  q_px [vI d0, vI d1, vI d2, vI d3] hd mf_X11_whole lk_L_42 hK (ev_whole hK hw.1 a0 a1 a2 a3) hR (by decide) h1 h2 hs rfl (fun A2 ho => k A2 (hw.s4 ho))
theorem c_of {what : Int} (hx : InR x) (hi : InR what) (hw : LW p e r q N m f g n set dg mk ck B F A) (hK : KX al) (hd : decode mL_law.2.1 pc = .ok (.invokevirtual 46, 3)) (hR : ofR p e r q N m f g (lgR p r m q f g) x what = some v) (h1 : nc + 2 ≤ 600086) (h2 : ns + 12 ≤ 7301442) (hs : catS st ≤ 8)
    (k : ∀ A' : HA, LW p e r q N m f g n set dg mk ck B F A' → LQw (nc + 2) (ns + 12) (pc + 3) L (vI v :: st) F A' al) : LQw nc ns pc L (vI what :: vI x :: vA 1 :: st) F A al :=
  q_px [vI x, vI what] hd mf_X11_of lk_L_46 hK (ev_of hK hw.1 hx hi) hR (by decide) h1 h2 hs rfl (fun A2 ho => k A2 (hw.s4 ho))
theorem c_el {how : Int} (hi : InR how) (hx : InR x) (hy : InR y) (hw : LW p e r q N m f g n set dg mk ck B F A) (hK : KX al) (hd : decode mL_law.2.1 pc = .ok (.invokevirtual 49, 3)) (hR : elmE p e r q N m f (lgR p r m q f g) how x y = some v) (h1 : nc + 2 ≤ 600086) (h2 : ns + 12 ≤ 7301442) (hs : catS st ≤ 8)
    (k : ∀ A' : HA, LW p e r q N m f g n set dg mk ck B F A' → LQw (nc + 2) (ns + 12) (pc + 3) L (vI v :: st) F A' al) : LQw nc ns pc L (vI y :: vI x :: vI how :: vA 1 :: st) F A al :=
  q_px [vI how, vI x, vI y] hd mf_X11_element lk_L_49 hK (ev_element hK hw.1 hi hx hy) hR (by decide) h1 h2 hs rfl (fun A2 ho => k A2 (hw.s4 ho))
theorem c_sum {i : Int} (hx : InR x) (hi : InR i) (hw : LW p e r q N m f g n set dg mk ck B F A) (hK : KX al) (hd : decode mL_law.2.1 pc = .ok (.invokevirtual 55, 3)) (hR : (if (0 ≤ x ∧ x ≤ (q : Int) - 2) ∧ 0 ≤ i ∧ i < (e : Int) then some (rl p r m (lgR p r m q f g) (dlE p r m f g (lgR p r m q f g) (pl m r 1 (pw m r f g x.toNat)) i.toNat)) else none) = some v) (h1 : nc + 1 ≤ 600086) (h2 : ns + 6 ≤ 7301442) (hs : catS st ≤ 8)
    (k : ∀ A' : HA, LW p e r q N m f g n set dg mk ck B F A' → LQw (nc + 1) (ns + 6) (pc + 3) L (vI v :: st) F A' al) : LQw nc ns pc L (vI i :: vI x :: vA 1 :: st) F A al :=
  q_px [vI x, vI i] hd mf_X11_sum lk_L_55 hK (ev_sum hK hw.1 hx hi) hR (by decide) h1 h2 hs rfl (fun A2 ho => k A2 (hw.s4 ho))
theorem c_coe {i : Int} (hx : InR x) (hi : InR i) (hw : LW p e r q N m f g n set dg mk ck B F A) (hK : KX al) (hd : decode mL_law.2.1 pc = .ok (.invokevirtual 67, 3)) (hR : coeE n dg mk ck x i = some v) (h1 : nc + 2 ≤ 600086) (h2 : ns + 12 ≤ 7301442) (hs : catS st ≤ 8)
    (k : ∀ A' : HA, LW p e r q N m f g n set dg mk ck B F A' → LQw (nc + 2) (ns + 12) (pc + 3) L (vI v :: st) F A' al) : LQw nc ns pc L (vI i :: vI x :: vA 1 :: st) F A al :=
  q_px [vI x, vI i] hd mf_X11_coefficient lk_L_67 hK (ev_coefficient hK hw.1 hx hi) hR (by decide) h1 h2 hs rfl (fun A2 ho => k A2 (hw.s4 ho))
theorem c_cls {a i k0 : Int} (ha : InR a) (hi : InR i) (hk0 : InR k0) (hw : LW p e r q N m f g n set dg mk ck B F A) (hK : KX al) (hd : decode mL_law.2.1 pc = .ok (.invokevirtual 61, 3)) (hR : (if (1 ≤ a ∧ a ≤ 63 ∧ ((q : Int) - 1) % a = 0) then clsE p a.toNat i k0 else none) = some v) (h1 : nc + 3 ≤ 600086) (h2 : ns + 18 ≤ 7301442) (hs : catS st ≤ 8)
    (k : ∀ (F' : HF) (A' : HA), LW p e r q N m f g n set dg mk ck B F' A' → LQw (nc + 3) (ns + 18) (pc + 3) L (vI v :: st) F' A' al) : LQw nc ns pc L (vI k0 :: vI i :: vI a :: vA 1 :: st) F A al :=
  q_pr [vI a, vI i, vI k0] hd mf_X11_classes lk_L_61 hK (ev_classes hK hw.1 ha hi hk0) hR (by decide) h1 h2 hs rfl (fun F2 A2 e1 hX => k F2 A2 ⟨hX, fun b hb => (e1 b hb).trans (hw.2 b hb)⟩)
theorem c_cod {a s : Int} (ha : InR a) (hs0 : InR s) (hw : LW p e r q N m f g n set dg mk ck B F A) (hK : KX al) (hd : decode mL_law.2.1 pc = .ok (.invokevirtual 64, 3)) (hc : codOk p q a s) (h1 : nc + 0 ≤ 600086) (h2 : ns + 0 ≤ 7301442) (hs : catS st ≤ 8)
    (k : ∀ (F' : HF) (A' : HA), LW p e r q N m f g a.toNat s (cyE m r q a.toNat f g (paE p a.toNat a.toNat).1 s a.toNat).1 (cyE m r q a.toNat f g (paE p a.toNat a.toNat).1 s a.toNat).2.1 (cyE m r q a.toNat f g (paE p a.toNat a.toNat).1 s a.toNat).2.2 B F' A' → LQw (nc + 0) (ns + 0) (pc + 3) L (vI ((a.toNat - (cyE m r q a.toNat f g (paE p a.toNat a.toNat).1 s a.toNat).1 : Nat) : Int) :: st) F' A' al) : LQw nc ns pc L (vI s :: vI a :: vA 1 :: st) F A al :=
  q_pr [vI a, vI s] hd mf_X11_code lk_L_64 hK (ev_code hK hw.1 ha hs0) (congrArg some (if_pos hc)) (by decide) h1 h2 hs rfl (fun F2 A2 e1 hX => by
    rw [if_pos hc] at hX
    exact k F2 A2 ⟨hX, fun b hb => (e1 b hb).trans (hw.2 b hb)⟩)
end World
section Answers
variable {p e r q N : Nat} {m : Int} {f : Nat → Int} {g : Int} {x y : Int} {lg : Nat → Int}
theorem of_0 (hx : 0 ≤ x ∧ x < (N : Int)) : ofR p e r q N m f g lg x 0 = some (lvE p r m lg x 0 e) := (if_pos hx).trans rfl
theorem of_1 (hx : 0 ≤ x ∧ x < (N : Int)) : ofR p e r q N m f g lg x 1 = some (ro p r m f g lg x) := (if_pos hx).trans rfl
theorem of_2 (hx : 0 ≤ x ∧ x < (N : Int)) : ofR p e r q N m f g lg x 2 = some (mv p r m f x) := (if_pos hx).trans rfl
theorem of_3 (hx : 0 ≤ x ∧ x < (N : Int)) : ofR p e r q N m f g lg x 3 = some (trE p r m f x r) := (if_pos hx).trans rfl
theorem of_4 (hx : 0 ≤ x ∧ x < (N : Int)) : ofR p e r q N m f g lg x 4 = some (nmE p r m f x r) := (if_pos hx).trans rfl
theorem of_6 (hx : 0 ≤ x ∧ x < (N : Int)) : ofR p e r q N m f g lg x 6 = some (if rl p r m lg x = -1 then -1 else obl p e r q m f g lg x) := (if_pos hx).trans rfl
theorem of_7 (hx : 0 ≤ x ∧ x < (N : Int)) : ofR p e r q N m f g lg x 7 = some (if rl p r m lg x = -1 then (-1 : Int) else ((ordE p e r q m f g lg x : Nat) : Int)) := (if_pos hx).trans rfl
theorem of_8 (hx : 0 ≤ x ∧ x < (N : Int)) : ofR p e r q N m f g lg x 8 = some (if rl p r m lg x = -1 then -1 else pw m r f x (ivN p e q)) := (if_pos hx).trans rfl
theorem el_0 (hx : 0 ≤ x ∧ x < (N : Int)) (hy : 0 ≤ y ∧ y < (N : Int)) : elmE p e r q N m f lg 0 x y = some (pl m r x y) := (if_pos ⟨hx, hy⟩).trans rfl
theorem el_2 (hx : 0 ≤ x ∧ x < (N : Int)) (hy : 0 ≤ y ∧ y < (N : Int)) : elmE p e r q N m f lg 2 x y = some (tm m r f x y) := (if_pos ⟨hx, hy⟩).trans rfl
theorem el_3 (hx : 0 ≤ x ∧ x < (N : Int)) (hy : 0 ≤ y ∧ y < (N : Int)) (hu : rl p r m lg y ≠ -1) : elmE p e r q N m f lg 3 x y = some (tm m r f x (pw m r f y (ivN p e q))) := (if_pos ⟨hx, hy⟩).trans (if_neg hu)
end Answers
