/-! fields, rows, new cells, calls, throws -/
def up2 {β : Type} (F : Nat → Nat → β) (a k : Nat) (v : β) : Nat → Nat → β := fun a' => if a' = a then (fun k' => if k' = k then v else F a k') else F a'
theorem up2_eq {β : Type} (F : Nat → Nat → β) (a k : Nat) (v : β) : up2 F a k v a k = v := by simp [up2]
theorem up2_row {β : Type} {F : Nat → Nat → β} {a k : Nat} {v : β} {a' : Nat} (h : a' ≠ a) : up2 F a k v a' = F a' := by simp [up2, h]
theorem up2_ne {β : Type} {F : Nat → Nat → β} {a k : Nat} {v : β} {k' : Nat} (h : k' ≠ k) : up2 F a k v a k' = F a k' := by simp [up2, h]
theorem up2_at {β : Type} (F : Nat → Nat → β) (a k : Nat) (v : β) (k' : Nat) : up2 F a k v a k' = if k' = k then v else F a k' := by simp [up2]
theorem up2_all {β : Type} (F : Nat → Nat → β) (a k : Nat) (v : β) (a' k' : Nat) : up2 F a k v a' k' = if a' = a ∧ k' = k then v else F a' k' := by
  unfold up2
  by_cases h : a' = a
  · subst h
    by_cases h2 : k' = k <;> simp [h2]
  · simp [h]
def tyOf (ci : Nat) : Nat → FieldType := ([tyX1, tyX2, tyX3, tyX4, tyX5, tyX6, tyX8, tyX9, tyX10, tyX11 ] : List (Nat → FieldType)).getD ci (fun _ => .int)
theorem cl_w1 : (∀ w ∈ wsX10, goodWord w = true) ∧ (∀ w ∈ wsX20, goodWord w = true) ∧ (∀ w ∈ wsX30, goodWord w = true) ∧ (∀ w ∈ wsX40, goodWord w = true) ∧ (∀ w ∈ wsX50, goodWord w = true) ∧ (∀ w ∈ wsX60, goodWord w = true) ∧ (∀ w ∈ wsX80, goodWord w = true) ∧ (∀ w ∈ wsX90, goodWord w = true) ∧ (∀ w ∈ wsX100, goodWord w = true) ∧ (∀ w ∈ wsX110, goodWord w = true) := by decide +kernel
theorem cl_all {ci : Nat} {C : String} {T : u_T} {N : Nat} (h : vwCl[ci]? = some (C, T, N)) :
    (∀ w ∈ u_ws C T N, w ∈ TBg) ∧ (∀ k, k < N → parseFieldDescriptor (T k).2.2.1 = some (tyOf ci k)) ∧ (∀ a, a < N → ∀ b, b < N → a ≠ b → (T a).2.1 ≠ (T b).2.1) := by
  obtain ⟨g1, g2, g3, g4, g5, g6, g8, g9, g10, g11⟩ := cl_w1
  match ci, h with
  | 0, h => cases h; exact ⟨fun w hw => tb_i (inX1 w hw) (g1 w hw), tyX1_ok, nmX1⟩
  | 1, h => cases h; exact ⟨fun w hw => tb_i (inX2 w hw) (g2 w hw), tyX2_ok, nmX2⟩
  | 2, h => cases h; exact ⟨fun w hw => tb_i (inX3 w hw) (g3 w hw), tyX3_ok, nmX3⟩
  | 3, h => cases h; exact ⟨fun w hw => tb_i (inX4 w hw) (g4 w hw), tyX4_ok, nmX4⟩
  | 4, h => cases h; exact ⟨fun w hw => tb_i (inX5 w hw) (g5 w hw), tyX5_ok, nmX5⟩
  | 5, h => cases h; exact ⟨fun w hw => tb_i (inX6 w hw) (g6 w hw), tyX6_ok, nmX6⟩
  | 6, h => cases h; exact ⟨fun w hw => tb_i (inX8 w hw) (g8 w hw), tyX8_ok, nmX8⟩
  | 7, h => cases h; exact ⟨fun w hw => tb_i (inX9 w hw) (g9 w hw), tyX9_ok, nmX9⟩
  | 8, h => cases h; exact ⟨fun w hw => tb_i (inX10 w hw) (g10 w hw), tyX10_ok, nmX10⟩
  | 9, h => cases h; exact ⟨fun w hw => tb_i (inX11 w hw) (g11 w hw), tyX11_ok, nmX11⟩
  | n + 10, h => simp [vwCl] at h
def GF (own : String) (idx ci k : Nat) : Prop := ∃ (C : String) (T : u_T) (N : Nat), vwCl[ci]? = some (C, T, N) ∧ k < N ∧ (T k).1 = C ∧ Cond.fieldLink own idx C (T k).2.1 (T k).2.2.1 ∈ TBg
def PF (own : String) (idx ci k : Nat) (fin : Bool) : Prop := ∃ (C : String) (T : u_T) (N : Nat), vwCl[ci]? = some (C, T, N) ∧ k < N ∧ (T k).1 = C ∧ Cond.fieldLink own idx C (T k).2.1 (T k).2.2.1 ∈ TBg ∧ (T k).2.2.2 = fin ∧ (fin = true → C = own)
def FT (ci k : Nat) (v : LV) : Prop := ∀ ad : Nat → Nat, narrow (tyOf ci k) (tr ad v) = tr ad v ∧ fits (tyOf ci k) (tr ad v) = true
theorem FT_i {ci k : Nat} {x : Int} (h : tyOf ci k = .int) : FT ci k (vI x) := by intro ad; rw [h]; exact ⟨rfl, rfl⟩
theorem FT_z {ci k : Nat} {x : Int} (h : tyOf ci k = .boolean) (hx : x = 0 ∨ x = 1) : FT ci k (vI x) := by
  intro ad; rw [h]
  rcases hx with rfl | rfl <;> exact ⟨rfl, rfl⟩
theorem FT_a {ci k a : Nat} (h : (∃ n, tyOf ci k = .object n) ∨ ∃ t, tyOf ci k = .array t) : FT ci k (vA a) := by
  intro ad
  rcases h with ⟨n, h⟩ | ⟨t, h⟩ <;> rw [h] <;> exact ⟨rfl, rfl⟩
theorem cellOf_obj {G : GG} {ad : Nat → Nat} {ci n : Nat} {f : Nat → LV} {a : Nat → Int} : cellOf G ad (ci + 10, n) f a = .inr (ci, (List.range n).map (fun i => tr ad (f i))) := rfl
theorem fs_get {ad : Nat → Nat} {n k : Nat} {f : Nat → LV} (h : k < n) : ((List.range n).map (fun i => tr ad (f i)))[k]? = some (tr ad (f k)) := by
  rw [List.getElem?_map, List.getElem?_range h]; rfl
theorem fs_set {ad : Nat → Nat} {n k : Nat} {f g : Nat → LV} {v : LV} (hg : ∀ i, g i = if i = k then v else f i) : ((List.range n).map (fun i => tr ad (f i))).set k (tr ad v) = (List.range n).map (fun i => tr ad (g i)) := by
  apply List.ext_getElem?
  intro j
  by_cases hj : j < n
  · rw [fs_get hj, hg j]
    by_cases hk : j = k
    · subst hk
      rw [List.getElem?_set_self (by simpa using hj), if_pos rfl]
    · rw [List.getElem?_set_ne (Ne.symm hk), fs_get hj, if_neg hk]
  · rw [List.getElem?_eq_none (by simpa using hj), List.getElem?_eq_none (by simpa using hj)]
theorem va_S_same {A : Nat → Prop} {H0 H H1 : Heap} {l l1 : List Loc} (h : va_S A H0 H l) (h1 : va_S A H0 H1 l1) {q : Nat} (hq : q < H0.size) (hA : ¬ A q) : H1[q]? = H[q]? := (h1.2.1 q hq hA).trans (h.2.1 q hq hA).symm
/-- the picture behind a write into a cell that was there -/
theorem REP.put {G : GG} {ad : Nat → Nat} {F F' : HF} {A A' : HA} {al : AL} {P : Nat → Prop} {U : State} {H H1 : Heap} (h : REP G ad F A al P U H) (hP : va_P G.1 vwCl (wl G ad F' A' al) H1) (hD : va_D P (wl G ad F' A' al))
    (hF : ∀ a i, okv al.2 (F' a i)) (hA : A' 0 = A 0) (h0 : H1[ad 0]? = H[ad 0]?) : REP G ad F' A' al P U H1 :=
  ⟨hP, hD, hF, h.2.2.2.1, h.2.2.2.2.1, h.2.2.2.2.2.1, by rw [hA]; exact h.2.2.2.2.2.2.1.kept h0, h.2.2.2.2.2.2.2⟩
section QHeap
variable {M : MT} {d mc ms : Nat} {Post : PO} {nc ns pc : Nat} {L : List (Option LV)} {st : List LV} {F : HF} {A : HA} {al : AL}
theorem q_getfield {idx ci j n a : Nat} {v : LV} (hd : decode M.2.1 pc = .ok (.getfield idx, 3)) (hg : GF M.1.cls idx ci j) (hk : al.1 a = (ci + 10, n)) (hj : j < n) (hv : F a j = v) (k : QW M d mc ms Post nc ns (pc + 3) L (v :: st) F A al) :
    QW M d mc ms Post nc ns pc L (vA a :: st) F A al := by
  intro p l e R s m args below meth c G P ad0 N0 hc ad H locs ls hs hst
  obtain ⟨C, T, N, hc1, hk1, hT, hw⟩ := hg
  obtain ⟨hin, -, -⟩ := cl_all hc1
  have ha := hs.1.get hk (by omega) (by omega)
  rw [cellOf_obj] at ha
  subst hv
  exact va_get (ref := C) hc.1 hc.2.2.1 hc.2.2.2.2.2.1 hin hc.2.2.2.2.1 hc.2.2.2.2.2.2.2.2.2.2.2.1 hs.1.1 (a - 1) ha hc1 j hk1 (hc.2.2.2.2.2.1 _ hw) (fun x h => by rw [hT] at h; exact h) (fs_get hj) hd
    (k p l e R s m args below meth c G P ad0 N0 hc ad H locs ls hs ⟨hs.1.2.2.1 a j, hst.2⟩)
theorem q_putfield {idx ci j n a : Nat} {v : LV} (hd : decode M.2.1 pc = .ok (.putfield idx, 3)) (hg : PF M.1.cls idx ci j false) (hk : al.1 a = (ci + 10, n)) (hj : j < n) (hv : FT ci j v) (k : QW M d mc ms Post nc ns (pc + 3) L st (up2 F a j v) A al) :
    QW M d mc ms Post nc ns pc L (v :: vA a :: st) F A al := by
  intro p l e R s m args below meth c G P ad0 N0 hc ad H locs ls hs hst
  obtain ⟨C, T, N, hc1, hk1, hT, hw, hfin, -⟩ := hg
  obtain ⟨hin, hty, hnm⟩ := cl_all hc1
  have ha := hs.1.get hk (by omega) (by omega)
  rw [cellOf_obj] at ha
  refine va_put (ref := C) hc.1 hc.2.2.1 hc.2.2.2.2.2.1 hin (tyOf ci) hty hnm hc.2.2.2.2.1 hc.2.2.2.2.2.2.2.2.2.2.2.1 hs.1.1 hs.1.2.1 hs.2.1 (a - 1) ha hc1 j hk1 (hc.2.2.2.2.2.1 _ hw) (fun x h => by rw [hT] at h; exact h) hfin (hty j hk1) (hv ad).1 (hv ad).2 (by simpa using hj) hd
    (fun H1 locs1 hP1 hD1 hS1 => ?_)
  have e9 := wl_set (G := G) (ad := ad) (F := F) (F' := up2 F a j v) (A := A) (A' := A) (al := al) (hs.1.pos hk (by omega)) (fun b hb => ⟨up2_row hb, rfl⟩) (z := (ad a, .inr (ci, ((List.range n).map (fun i => tr ad (F a i))).set j (tr ad v))))
    (by rw [hk, cellOf_obj, fs_set (g := up2 F a j v a) (fun i => up2_at F a j v i)])
  rw [e9] at hP1 hD1
  refine k p l e R s m args below meth c G P ad0 N0 hc ad H1 locs1 ls ⟨hs.1.put hP1 hD1 (fun b i => ?_) rfl (va_S_same hs.2.1 hS1 hs.2.2.2.2.2 hs.1.2.2.2.2.2.2.2.1), hS1, hs.2.2⟩ hst.2.2
  rw [up2_all]
  split
  · exact hst.1
  · exact hs.1.2.2.1 b i
theorem q_putF {idx ci j n a : Nat} {v : LV} (hd : decode M.2.1 pc = .ok (.putfield idx, 3)) (hg : PF M.1.cls idx ci j true) (hi : M.1.name = "<init>") (hk : al.1 a = (ci + 10, n)) (hj : j < n) (hv : FT ci j v) (k : QW M d mc ms Post nc ns (pc + 3) L st (up2 F a j v) A al) :
    QW M d mc ms Post nc ns pc L (v :: vA a :: st) F A al := by
  intro p l e R s m args below meth c G P ad0 N0 hc ad H locs ls hs hst
  obtain ⟨C, T, N, hc1, hk1, hT, hw, hfin, hown⟩ := hg
  obtain ⟨hin, hty, hnm⟩ := cl_all hc1
  have ha := hs.1.get hk (by omega) (by omega)
  rw [cellOf_obj] at ha
  refine va_putF (ref := C) hc.1 hc.2.2.1 hc.2.2.2.2.2.1 hin (tyOf ci) hty hnm hc.2.2.2.2.1 hc.2.2.2.2.2.2.2.2.2.2.2.1 hs.1.1 hs.1.2.1 hs.2.1 (a - 1) ha hc1 j hk1 (hc.2.2.2.2.2.1 _ hw) (fun x h => by rw [hT] at h; exact h) hfin (hc.2.2.2.2.2.2.2.2.1.trans hi) (hT.trans (hown rfl)) (hty j hk1) (hv ad).1 (hv ad).2 (by simpa using hj) hd
    (fun H1 locs1 hP1 hD1 hS1 => ?_)
  have e9 := wl_set (G := G) (ad := ad) (F := F) (F' := up2 F a j v) (A := A) (A' := A) (al := al) (hs.1.pos hk (by omega)) (fun b hb => ⟨up2_row hb, rfl⟩) (z := (ad a, .inr (ci, ((List.range n).map (fun i => tr ad (F a i))).set j (tr ad v))))
    (by rw [hk, cellOf_obj, fs_set (g := up2 F a j v a) (fun i => up2_at F a j v i)])
  rw [e9] at hP1 hD1
  refine k p l e R s m args below meth c G P ad0 N0 hc ad H1 locs1 ls ⟨hs.1.put hP1 hD1 (fun b i => ?_) rfl (va_S_same hs.2.1 hS1 hs.2.2.2.2.2 hs.1.2.2.2.2.2.2.2.1), hS1, hs.2.2⟩ hst.2.2
  rw [up2_all]
  split
  · exact hst.1
  · exact hs.1.2.2.1 b i
theorem REP.small {G : GG} {ad : Nat → Nat} {P : Nat → Prop} {U : State} {H : Heap} (h : REP G ad F A al P U H) {k t n : Nat} (hk : al.1 k = (t, n)) : n < 2147483648 := by
  have := h.2.2.2.2.2.2.2.2 k
  rw [hk] at this
  exact this
theorem i_in {i : Int} {n : Nat} (hn : n < 2147483648) (h0 : 0 ≤ i) (h1 : i < n) : vp_in (Int32.ofInt i) n ∧ (Int32.ofInt i).toNatClampNeg = i.toNat := by
  have hr : InR i := ⟨by omega, by omega⟩
  refine ⟨?_, i_nat hr⟩
  rintro (h | h)
  · have := (i_lt0 hr).mp h; omega
  · rw [i_nat hr] at h; omega
theorem q_iald {a n : Nat} {i : Int} (hd : decode M.2.1 pc = .ok (.iaload, 1)) (hk : al.1 a = (0, n)) (h0 : 0 ≤ i) (h1 : i < n) (k : QW M d mc ms Post nc ns (pc + 1) L (vI (A a i.toNat) :: st) F A al) : QW M d mc ms Post nc ns pc L (vI i :: vA a :: st) F A al := by
  intro p l e R s m args below meth c G P ad0 N0 hc ad H locs ls hs hst
  obtain ⟨hin, hi⟩ := i_in (hs.1.small hk) h0 h1
  refine va_iald hc.1 hc.2.2.1 hc.2.2.2.2.2.2.2.2.2.2.2.1 hs.1.1 (a - 1) 0 (hs.1.get hk (by omega) (by omega)) rfl hin hd ?_
  rw [hi]
  exact k p l e R s m args below meth c G P ad0 N0 hc ad H locs ls hs ⟨trivial, hst.2.2⟩
theorem q_aald {a n b : Nat} {i : Int} (hd : decode M.2.1 pc = .ok (.aaload, 1)) (hk : al.1 a = (3, n)) (h0 : 0 ≤ i) (h1 : i < n) (hv : F a i.toNat = vA b) (k : QW M d mc ms Post nc ns (pc + 1) L (vA b :: st) F A al) : QW M d mc ms Post nc ns pc L (vI i :: vA a :: st) F A al := by
  intro p l e R s m args below meth c G P ad0 N0 hc ad H locs ls hs hst
  obtain ⟨hin, hi⟩ := i_in (hs.1.small hk) h0 h1
  have hlt : (Int32.ofInt i).toNatClampNeg < n := by rw [hi]; omega
  have hK : KK G s := hc.2.2.2.2.2.2.2.2.2.2.2.1
  have hok := hs.1.2.2.1 a i.toNat
  rw [hv] at hok
  refine W.aald (v := .ref (ad b)) (ty := .array .int) hc.1 hc.2.2.1 (hs.1.1 (a - 1) _ (hs.1.get hk (by omega) (by omega))) ((hK.2 3 _ rfl).1 n (fun j => va_rf (rfo ad (F a j)))) rfl (fun q => by cases q) (by show ¬ (_ < 0 ∨ (arrV _ _ _).slots.size ≤ _); rw [arrV_size]; exact hin)
    (by show (arrV _ _ _).slots[_]? = _; rw [arrV_read _ _ hlt, hi]; show some (va_rf (rfo ad (F a i.toNat))) = _; rw [hv]; rfl) rfl rfl hd ?_
  exact k p l e R s m args below meth c G P ad0 N0 hc ad H locs ls hs ⟨hok, hst.2.2⟩
theorem q_sld {i : Int} {n : Nat} (hd : decode M.2.1 pc = .ok (.iaload, 1)) (hk : al.1 0 = (4, n)) (h0 : 0 ≤ i) (h1 : i < n) (k : QW M d mc ms Post nc ns (pc + 1) L (vI (A 0 i.toNat) :: st) F A al) : QW M d mc ms Post nc ns pc L (vI i :: vA 0 :: st) F A al := by
  intro p l e R s m args below meth c G P ad0 N0 hc ad H locs ls hs hst
  obtain ⟨hin, hi⟩ := i_in (hs.1.small hk) h0 h1
  obtain ⟨scr, g1, g2, g3, g4, g5⟩ := hs.1.2.2.2.2.2.2.1
  rw [hk] at g4 g5
  have hlt : (Int32.ofInt i).toNatClampNeg < n := by rw [hi]; omega
  refine W.iald (v := .int (Int32.ofInt (A 0 i.toNat))) hc.1 hc.2.2.1 g1 g2 g3 (by rw [g4]; exact hin) (by rw [hi]; exact g5 _ (by rw [hi] at hlt; exact hlt)) rfl rfl hd ?_
  exact k p l e R s m args below meth c G P ad0 N0 hc ad H locs ls hs ⟨trivial, hst.2.2⟩
theorem q_slen {n : Nat} (hd : decode M.2.1 pc = .ok (.arraylength, 1)) (hk : al.1 0 = (4, n)) (k : QW M d mc ms Post nc ns (pc + 1) L (vI n :: st) F A al) : QW M d mc ms Post nc ns pc L (vA 0 :: st) F A al := by
  intro p l e R s m args below meth c G P ad0 N0 hc ad H locs ls hs hst
  obtain ⟨scr, g1, g2, g3, g4, g5⟩ := hs.1.2.2.2.2.2.2.1
  rw [hk] at g4
  refine W.alen (n := Int32.ofInt n) hc.1 hc.2.2.1 g1 g2 (by rw [g4, Int32.ofInt_eq_ofNat]) rfl rfl hd ?_
  exact k p l e R s m args below meth c G P ad0 N0 hc ad H locs ls hs ⟨trivial, hst.2⟩
theorem q_alen {a n : Nat} (hd : decode M.2.1 pc = .ok (.arraylength, 1)) (hk : al.1 a = (0, n)) (k : QW M d mc ms Post nc ns (pc + 1) L (vI n :: st) F A al) : QW M d mc ms Post nc ns pc L (vA a :: st) F A al := by
  intro p l e R s m args below meth c G P ad0 N0 hc ad H locs ls hs hst
  exact va_alen (v := Int32.ofInt n) hc.1 hc.2.2.1 hc.2.2.2.2.2.2.2.2.2.2.2.1 hs.1.1 (a - 1) 0 (hs.1.get hk (by omega) (by omega)) rfl (Int32.ofInt_eq_ofNat.symm) hd
    (k p l e R s m args below meth c G P ad0 N0 hc ad H locs ls hs ⟨trivial, hst.2⟩)
theorem q_alenM {a n : Nat} (hd : decode M.2.1 pc = .ok (.arraylength, 1)) (hk : al.1 a = (3, n)) (k : QW M d mc ms Post nc ns (pc + 1) L (vI n :: st) F A al) : QW M d mc ms Post nc ns pc L (vA a :: st) F A al := by
  intro p l e R s m args below meth c G P ad0 N0 hc ad H locs ls hs hst
  exact va_alen (v := Int32.ofInt n) hc.1 hc.2.2.1 hc.2.2.2.2.2.2.2.2.2.2.2.1 hs.1.1 (a - 1) 3 (hs.1.get hk (by omega) (by omega)) rfl (Int32.ofInt_eq_ofNat.symm) hd
    (k p l e R s m args below meth c G P ad0 N0 hc ad H locs ls hs ⟨trivial, hst.2⟩)
theorem q_iast {a n : Nat} {i x : Int} (hd : decode M.2.1 pc = .ok (.iastore, 1)) (hk : al.1 a = (0, n)) (h0 : 0 ≤ i) (h1 : i < n) (k : QW M d mc ms Post nc ns (pc + 1) L st F (up2 A a i.toNat x) al) : QW M d mc ms Post nc ns pc L (vI x :: vI i :: vA a :: st) F A al := by
  intro p l e R s m args below meth c G P ad0 N0 hc ad H locs ls hs hst
  obtain ⟨hin, hi⟩ := i_in (hs.1.small hk) h0 h1
  have hpos := hs.1.pos hk (by omega)
  refine va_iast hc.1 hc.2.2.1 hc.2.2.2.2.2.2.2.2.2.2.2.1 hs.1.1 hs.1.2.1 hs.2.1 (a - 1) 0 (hs.1.get hk (by omega) (by omega)) rfl hin hd (fun H1 locs1 hP1 hD1 hS1 => ?_)
  have e9 := wl_set (G := G) (ad := ad) (F := F) (F' := F) (A := A) (A' := up2 A a i.toNat x) (al := al) hpos (fun b hb => ⟨rfl, up2_row hb⟩) (z := (ad a, .inl (G.2.1, n, .inl (upd (fun j => Int32.ofInt (A a j)) (Int32.ofInt i).toNatClampNeg (Int32.ofInt x)))))
    (by rw [hk]; show _ = (ad a, (Sum.inl (G.2.1, n, Sum.inl fun j => Int32.ofInt (up2 A a i.toNat x a j)) : va_E)); rw [hi]; congr 5; funext j; rw [up2_at]; unfold upd; split <;> rfl)
  rw [e9] at hP1 hD1
  exact k p l e R s m args below meth c G P ad0 N0 hc ad H1 locs1 ls ⟨hs.1.put hP1 hD1 hs.1.2.2.1 (up2_row (Nat.ne_of_lt hpos)) (va_S_same hs.2.1 hS1 hs.2.2.2.2.2 hs.1.2.2.2.2.2.2.2.1), hS1, hs.2.2⟩ hst.2.2.2
end QHeap
