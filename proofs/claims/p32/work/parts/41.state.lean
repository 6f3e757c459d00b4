/-! RootedRing: need, the state between calls -/
abbrev eN : String := "java/util/NoSuchElementException"
def PN (b : Int) (F : HF) (A : HA) (al : AL) : PO := fun o F' A' al' => F' = F ∧ A' = A ∧ al' = al ∧ ((b ≠ 0 ∧ o = .inl none) ∨ (b = 0 ∧ o = .inr eN))
set_option maxRecDepth 20000 in
theorem ev_need {b : Int} {F : HF} {A : HA} {al : AL} (hb : InR b) : QE 6 1 6 mX11_need [vI b] F A al (PN b F A al) := by
  refine QE.mk (by decide +kernel) (Nat.le_of_ble_eq_true rfl) ?_
  refine q_iload_n eX11_need_0 rfl ?_
  refine q_if_ne (tgt := 12) eX11_need_1 (by decide) (by first | assumption | exact ⟨by omega, by omega⟩) (fun c1 => ?_) (fun c1 => ?_)
  · refine q_retV eX11_need_12 rfl (by decide) (by decide) ?_
    exact ⟨rfl, rfl, rfl, Or.inl ⟨c1, rfl⟩⟩
  · refine q_throw0 rfl rfl (by decide +kernel) cl_n in_n th_n th_ot_n (by decide) eX11_need_4 eX11_need_7 eX11_need_8 eX11_need_11 (by decide) (by decide) (by decide) ?_
    exact ⟨rfl, rfl, rfl, Or.inr ⟨by omega, rfl⟩⟩
section Need
variable {M : MT} {d mc ms nc ns pc idx : Nat} {Post : PO} {L : List (Option LV)} {st : List LV} {F : HF} {A : HA} {al : AL}
theorem q_need {b : Int} (hh : M.2.2.2.2 = []) (hd : decode M.2.1 pc = .ok (.invokestatic idx, 3)) (hw : CS M.1.cls idx mX11_need) (hd1 : 6 < d) (hm1 : nc + 1 ≤ mc) (hm2 : ns + 6 ≤ ms) (hb : InR b)
    (hx : b = 0 → Post (.inr eN) F A al) (k : b ≠ 0 → QW M d mc ms Post (nc + 1) (ns + 6) (pc + 3) L [] F A al) : QW M d mc ms Post nc ns pc L [vI b] F A al := by
  refine q_callSX [vI b] hh hd mf_X11_need hw (ev_need hb) hd1 hm1 hm2 (Nat.le_of_ble_eq_true rfl) (st := []) rfl (fun E F' A' al' h => ?_) (fun v F' A' al' h => ?_)
  · obtain ⟨rfl, rfl, rfl, ⟨-, h⟩ | ⟨hb0, h⟩⟩ := h
    · cases h
    · cases h; exact hx hb0
  · obtain ⟨rfl, rfl, rfl, ⟨hb0, h⟩ | ⟨-, h⟩⟩ := h
    · cases h; exact k hb0
    · cases h
theorem q_need1 (hh : M.2.2.2.2 = []) (hd : decode M.2.1 pc = .ok (.invokestatic idx, 3)) (hw : CS M.1.cls idx mX11_need) (hd1 : 6 < d) (hm1 : nc + 1 ≤ mc) (hm2 : ns + 6 ≤ ms)
    (k : QW M d mc ms Post (nc + 1) (ns + 6) (pc + 3) L [] F A al) : QW M d mc ms Post nc ns pc L [vI 1] F A al :=
  q_need hh hd hw hd1 hm1 hm2 ⟨by decide, by decide⟩ (fun h => absurd h (by decide)) (fun _ => k)
theorem q_need0 (hh : M.2.2.2.2 = []) (hd : decode M.2.1 pc = .ok (.invokestatic idx, 3)) (hw : CS M.1.cls idx mX11_need) (hd1 : 6 < d) (hm1 : nc + 1 ≤ mc) (hm2 : ns + 6 ≤ ms)
    (hx : Post (.inr eN) F A al) : QW M d mc ms Post nc ns pc L [vI 0] F A al :=
  q_need hh hd hw hd1 hm1 hm2 ⟨by decide, by decide⟩ (fun _ => hx) (fun h => absurd rfl h)
end Need
/-- an answer, or none: then E is thrown -/
def lo (E : String) : Option Int → LO
  | some a => .inl (some a)
  | none => .inr E
/-- a call that changes no field, and of the rows no more than those that are worked with -/
def PXP (E : String) (R : Option Int) (F : HF) (A : HA) (al : AL) : PO := fun o F' A' al' => o = lo E R ∧ al' = al ∧ F' = F ∧ Off [13, 14, 15, 18] A A'
/-- fields and rows that stay -/
def FE (l : List (Nat × Nat)) (F F' : HF) : Prop := ∀ q ∈ l, F' q.1 q.2 = F q.1 q.2
def AE (l : List Nat) (A A' : HA) : Prop := ∀ a ∈ l, A' a = A a
theorem FOff.fe {l l2 : List (Nat × Nat)} {F F' : HF} (h : FOff l F F') (hl : (l2.all fun q => !(l.contains q)) = true) : FE l2 F F' := by
  intro q hq
  have h1 := List.all_eq_true.mp hl q hq
  refine h q.1 q.2 (fun hm => ?_)
  simp at h1
  exact h1 hm
theorem Off.ae {l l2 : List Nat} {A A' : HA} (h : Off l A A') (hl : (l2.all fun q => !(l.contains q)) = true) : AE l2 A A' := by
  intro q hq
  have h1 := List.all_eq_true.mp hl q hq
  refine h q (fun hm => ?_)
  simp at h1
  exact h1 hm
theorem FE.rfl' {l : List (Nat × Nat)} {F : HF} : FE l F F := fun _ _ => rfl
theorem AE.rfl' {l : List Nat} {A : HA} : AE l A A := fun _ _ => rfl
theorem FE.at {l : List (Nat × Nat)} {F F' : HF} (h : FE l F F') {a k : Nat} (hm : (a, k) ∈ l) : F' a k = F a k := h (a, k) hm
theorem AE.at {l : List Nat} {A A' : HA} (h : AE l A A') {a : Nat} (hm : a ∈ l) : A' a = A a := h a hm
/-- the ring and what holds of it -/
def MKok (p r q : Nat) (m : Int) (f : Nat → Int) (g : Int) : Prop := ∀ (n : Nat) (set : Int), 1 ≤ n → n ≤ 63 → (q - 1) % n = 0 → 0 ≤ set → set < 2147483648 → ∀ i, i ≤ (cyE m r q n f g (paE p n n).1 set n).1 → 0 ≤ (cyE m r q n f g (paE p n n).1 set n).2.1 i ∧ (cyE m r q n f g (paE p n n).1 set n).2.1 i < m
def X1 (p e r q N : Nat) (m : Int) (f : Nat → Int) (g : Int) (lg : Nat → Int) (F : HF) (A : HA) : Prop := XF F ∧ GT p e r q N m f g lg F A ∧ A 3 r = 1 ∧ MKok p r q m f g
def X2 (m : Int) (r : Nat) (pl_ : Nat → Int) (A : HA) : Prop := ∀ j, j < 8 → A 17 j = pl_ j ∧ El m r (pl_ j)
def X3 (len : Nat) (tp : Nat → Int) (F : HF) (A : HA) : Prop := F 19 0 = vI len ∧ len ≤ 200 ∧ TA tp A
def X4 (fp : Int) (F : HF) : Prop := ∃ rs, RD rs F ∧ rs 1 = fp ∧ 0 ≤ rs 9 ∧ rs 9 ≤ 10000
def X5 (p r q : Nat) (m : Int) (f : Nat → Int) (g : Int) (n : Nat) (set : Int) (dg : Nat) (mk ck : Nat → Int) (F : HF) (A : HA) : Prop :=
  (F 27 1 = vI n ∧ F 27 2 = vI dg ∧ F 27 3 = vI (n - dg : Nat) ∧ F 27 4 = vI (swE m (n - dg))) ∧ (∀ j, j < 64 → A 28 j = mk j) ∧ (∀ j, j < 64 → A 29 j = ck j) ∧ (1 ≤ n ∧ n ≤ 63 ∧ (q - 1) % n = 0 ∧ 0 ≤ set ∧ set < 2147483648) ∧ cyE m r q n f g (paE p n n).1 set n = (dg, mk, ck)
def ws_ (m : Int) (n dg : Nat) : Nat := (swE m (n - dg)).toNat
def X6 (m : Int) (n dg : Nat) (mk : Nat → Int) (F : HF) (A : HA) : Prop :=
  F 30 0 = vI 0 ∨ (F 30 0 = vI 1 ∧ (∀ j, j < 64 → A 31 j = (ctn (fun t => decide (wtE (wkE m dg (n - dg) mk t).1 63 = j)) (ws_ m n dg) : Nat)) ∧ ∀ j : Nat, j < 7201 → A 32 j = (ctn (fun t => decide (leE m (wkE m dg (n - dg) mk t).1 63 = j)) (ws_ m n dg) : Nat))
def lfE (m : Int) (n dg : Nat) (mk bt : Nat → Int) : Nat → Int := rsE m dg mk (n - dg) (nbE n bt)
def X7 (m : Int) (n dg : Nat) (mk : Nat → Int) (w : Option (Nat → Int)) (F : HF) (A : HA) : Prop :=
  (∃ c0 : Nat → Int, ∀ j, j < 63 → A 39 j = c0 j ∧ InR (c0 j)) ∧ match w with
  | none => F 36 0 = vI 0
  | some bt => F 36 0 = vI 1 ∧ (∀ j, j < n → 0 ≤ bt j ∧ bt j < m) ∧ (∀ j, j < 63 → A 37 j = nbE n bt j) ∧ (∀ j, j < 63 → A 38 j = lfE m n dg mk bt j) ∧ (F 36 4 = vI (mdsE m dg n mk (lfE m n dg mk bt)).1 ∧ F 36 5 = vI (mdsE m dg n mk (lfE m n dg mk bt)).2.1 ∧ F 36 6 = vI (mdsE m dg n mk (lfE m n dg mk bt)).2.2) ∧
    (F 36 9 = vI 0 ∨ F 36 9 = vI 1 ∧ ∃ c0 : Nat → Int, F 36 7 = vI (skE m dg (n - dg) mk (nbE n bt) c0 (ws_ m n dg)).1 ∧ ∀ j, j < 63 → A 39 j = (skE m dg (n - dg) mk (nbE n bt) c0 (ws_ m n dg)).2 j)
def X8 (S : List Int) (F : HF) (A : HA) : Prop := SP S F A ∧ S.length ≤ 200
def L1F : List (Nat × Nat) := [(2, 0), (2, 1), (2, 2), (2, 3), (2, 4), (2, 5), (2, 6)]
def L1A : List Nat := [3, 4, 5, 7, 8, 9, 10, 11, 12]
theorem X1.pres {p e r q N : Nat} {m : Int} {f : Nat → Int} {g : Int} {lg : Nat → Int} {F F' : HF} {A A' : HA} (h : X1 p e r q N m f g lg F A) (hX : XF F') (hF : FE L1F F F') (hA : AE L1A A A') : X1 p e r q N m f g lg F' A' := by
  obtain ⟨h0, ⟨⟨a1, a2, a3, a4, a5, a6, a7⟩, b1, b2, b3, b4, b5, b6, b7, b8, b9⟩, h3, h2⟩ := h
  refine ⟨hX, ⟨⟨?_, ?_, fun i hi => ?_, a4, a5, a6, a7⟩, ?_, ?_, ?_, ?_, ?_, b6, fun k hk => ?_, fun j hj => ?_, fun j i hj hi => ?_⟩, by rw [hA.at (by decide)]; exact h3, h2⟩
  · rw [hF.at (by decide)]; exact a1
  · rw [hF.at (by decide)]; exact a2
  · rw [hA.at (by decide)]; exact a3 i hi
  · rw [hF.at (by decide)]; exact b1
  · rw [hF.at (by decide)]; exact b2
  · rw [hF.at (by decide)]; exact b3
  · rw [hF.at (by decide)]; exact b4
  · rw [hF.at (by decide)]; exact b5
  · rw [hA.at (by decide)]; exact b7 k hk
  · rw [hA.at (by decide)]; exact b8 j hj
  · have e : A' (7 + j) = A (7 + j) := by
      have hj6 : j = 0 ∨ j = 1 ∨ j = 2 ∨ j = 3 ∨ j = 4 ∨ j = 5 := by omega
      rcases hj6 with rfl | rfl | rfl | rfl | rfl | rfl <;> exact hA.at (by decide)
    rw [e]; exact b9 j i hj hi
theorem X2.pres {m : Int} {r : Nat} {pl_ : Nat → Int} {A A' : HA} (h : X2 m r pl_ A) (hA : AE [17] A A') : X2 m r pl_ A' := fun j hj => by rw [hA.at (by decide)]; exact h j hj
theorem X3.pres {len : Nat} {tp : Nat → Int} {F F' : HF} {A A' : HA} (h : X3 len tp F A) (hF : FE [(19, 0)] F F') (hA : AE [20] A A') : X3 len tp F' A' := ⟨by rw [hF.at (by decide)]; exact h.1, h.2.1, fun j hj => by rw [hA.at (by decide)]; exact h.2.2 j hj⟩
def L4F : List (Nat × Nat) := [(26, 0), (26, 1), (26, 2), (26, 6), (26, 7), (26, 8), (26, 9), (26, 10)]
theorem X4.pres {fp : Int} {F F' : HF} (h : X4 fp F) (hF : FE L4F F F') : X4 fp F' := by
  obtain ⟨rs, h1, h2⟩ := h
  refine ⟨rs, fun k hk => ?_, h2⟩
  rw [← h1 k hk]
  refine hF (26, k) ?_
  simp only [List.mem_cons, List.not_mem_nil, or_false] at hk
  rcases hk with rfl | rfl | rfl | rfl | rfl | rfl | rfl | rfl <;> decide
def L5F : List (Nat × Nat) := [(27, 1), (27, 2), (27, 3), (27, 4)]
theorem X5.pres {p r q : Nat} {m : Int} {f : Nat → Int} {g : Int} {n : Nat} {set : Int} {dg : Nat} {mk ck : Nat → Int} {F F' : HF} {A A' : HA} (h : X5 p r q m f g n set dg mk ck F A) (hF : FE L5F F F') (hA : AE [28, 29] A A') : X5 p r q m f g n set dg mk ck F' A' := by
  obtain ⟨⟨a1, a2, a3, a4⟩, h2, h3, h4⟩ := h
  refine ⟨⟨?_, ?_, ?_, ?_⟩, fun j hj => ?_, fun j hj => ?_, h4⟩
  · rw [hF.at (by decide)]; exact a1
  · rw [hF.at (by decide)]; exact a2
  · rw [hF.at (by decide)]; exact a3
  · rw [hF.at (by decide)]; exact a4
  · rw [hA.at (by decide)]; exact h2 j hj
  · rw [hA.at (by decide)]; exact h3 j hj
theorem X6.pres {m : Int} {n dg : Nat} {mk : Nat → Int} {F F' : HF} {A A' : HA} (h : X6 m n dg mk F A) (hF : FE [(30, 0)] F F') (hA : AE [31, 32] A A') : X6 m n dg mk F' A' := by
  rcases h with h | ⟨h1, h2, h3⟩
  · exact Or.inl (by rw [hF.at (by decide)]; exact h)
  · exact Or.inr ⟨by rw [hF.at (by decide)]; exact h1, fun j hj => by rw [hA.at (by decide)]; exact h2 j hj, fun j hj => by rw [hA.at (by decide)]; exact h3 j hj⟩
def L7F : List (Nat × Nat) := [(36, 0), (36, 4), (36, 5), (36, 6), (36, 7), (36, 9)]
theorem X7.pres {m : Int} {n dg : Nat} {mk : Nat → Int} {w : Option (Nat → Int)} {F F' : HF} {A A' : HA} (h : X7 m n dg mk w F A) (hF : FE L7F F F') (hA : AE [37, 38, 39] A A') : X7 m n dg mk w F' A' := by
  have e0 : F' 36 0 = F 36 0 := hF.at (by decide)
  have e4 : F' 36 4 = F 36 4 := hF.at (by decide)
  have e5 : F' 36 5 = F 36 5 := hF.at (by decide)
  have e6 : F' 36 6 = F 36 6 := hF.at (by decide)
  have e7 : F' 36 7 = F 36 7 := hF.at (by decide)
  have e9 : F' 36 9 = F 36 9 := hF.at (by decide)
  have g7 : A' 37 = A 37 := hA.at (by decide)
  have g8 : A' 38 = A 38 := hA.at (by decide)
  have g9 : A' 39 = A 39 := hA.at (by decide)
  unfold X7 at h ⊢
  rw [e0, e4, e5, e6, e7, e9, g7, g8, g9]
  exact h
theorem X8.pres {S : List Int} {F F' : HF} {A A' : HA} (h : X8 S F A) (hF : FE [(21, 0)] F F') (hA : AE [22] A A') : X8 S F' A' := by
  obtain ⟨⟨h1, h2⟩, h3⟩ := h
  exact ⟨⟨by rw [hF.at (by decide)]; exact h1, fun j hj => by rw [hA.at (by decide)]; exact h2 j hj⟩, h3⟩
/-- what holds between calls -/
def XI (p e r q N : Nat) (m : Int) (f : Nat → Int) (g : Int) (lg pl_ : Nat → Int) (len : Nat) (tp : Nat → Int) (fp : Int) (n : Nat) (set : Int) (dg : Nat) (mk ck : Nat → Int) (w : Option (Nat → Int)) (S : List Int) (F : HF) (A : HA) : Prop :=
  X1 p e r q N m f g lg F A ∧ X2 m r pl_ A ∧ X3 len tp F A ∧ X4 fp F ∧ X5 p r q m f g n set dg mk ck F A ∧ X6 m n dg mk F A ∧ X7 m n dg mk w F A ∧ X8 S F A
theorem XI.s4 {p e r q N : Nat} {m : Int} {f : Nat → Int} {g : Int} {lg pl_ : Nat → Int} {len : Nat} {tp : Nat → Int} {fp : Int} {n : Nat} {set : Int} {dg : Nat} {mk ck : Nat → Int} {w : Option (Nat → Int)} {S : List Int} {F : HF} {A A' : HA}
    (h : XI p e r q N m f g lg pl_ len tp fp n set dg mk ck w S F A) (hA : Off [13, 14, 15, 18] A A') : XI p e r q N m f g lg pl_ len tp fp n set dg mk ck w S F A' := by
  obtain ⟨h1, h2, h3, h4, h5, h6, h7, h8⟩ := h
  exact ⟨h1.pres h1.1 FE.rfl' (hA.ae (by decide)), h2.pres (hA.ae (by decide)), h3.pres FE.rfl' (hA.ae (by decide)), h4, h5.pres FE.rfl' (hA.ae (by decide)), h6.pres FE.rfl' (hA.ae (by decide)), h7.pres FE.rfl' (hA.ae (by decide)), h8.pres FE.rfl' (hA.ae (by decide))⟩
