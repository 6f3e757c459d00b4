/-! throw new E() -/
theorem REP.grow {G : GG} {ad : Nat → Nat} {F : HF} {A : HA} {al : AL} {P : Nat → Prop} {U : State} {H H1 : Heap} (h : REP G ad F A al P U H) (hk : ∀ q : Nat, q < H.size → H1[q]? = H[q]?) : REP G ad F A al P U H1 :=
  ⟨h.1.kept (fun k q hq => hk q.1 (h.1 k q hq).lt), h.2.1, h.2.2.1, h.2.2.2.1, h.2.2.2.2.1, h.2.2.2.2.2.1, h.2.2.2.2.2.2.1.kept (hk _ h.s0), h.2.2.2.2.2.2.2⟩
def thN : List String := ["java/lang/RuntimeException", "java/lang/Exception"]
def okW (X : String) (w : Cond) : Bool := (lw_tbl.contains w && goodWord w) || decide (w = .castable X X) || xwD.any (fun x => decide (w = .declares x))
set_option maxRecDepth 100000 in
theorem th_n : ((vx_at0 "RootedRing" 168 "java/util/NoSuchElementException" thN).all (okW "java/util/NoSuchElementException")) = true := by decide +kernel
theorem th_ot_n : ((Jvm.Cond.classLink "RootedRing" 166 "java/util/NoSuchElementException" :: Jvm.Cond.initialized "java/util/NoSuchElementException" :: vx_at0 "RootedRing" 168 "java/util/NoSuchElementException" thN).all vx_ot) = true := by decide +kernel
theorem cl_n : Jvm.Cond.classLink "RootedRing" 166 "java/util/NoSuchElementException" ∈ TBg := tb_i (List.mem_of_getElem? (i := 514) (by decide +kernel)) (by decide +kernel)
theorem in_n : Jvm.Cond.initialized "java/util/NoSuchElementException" ∈ TBg := tb_i (List.mem_of_getElem? (i := 34) (by decide +kernel)) (by decide +kernel)
section Throw
variable {M : MT} {d mc ms nc ns pc : Nat} {Post : PO} {L : List (Option LV)} {F : HF} {A : HA} {al : AL}
theorem q_throw0 {E : String} {ik ic : Nat} (hM : M.1.cls = "RootedRing") (hh : M.2.2.2.2 = []) (hfit : Bundle.fit E = true) (hcl : Jvm.Cond.classLink "RootedRing" ik E ∈ TBg) (hin : Jvm.Cond.initialized E ∈ TBg) (hat : ((vx_at0 "RootedRing" ic E thN).all (okW E)) = true) (hot : ((Jvm.Cond.classLink "RootedRing" ik E :: Jvm.Cond.initialized E :: vx_at0 "RootedRing" ic E thN).all vx_ot) = true) (hxw : (E, E) ∈ xwC)
    (d0 : decode M.2.1 pc = .ok (.new ik, 3)) (d3 : decode M.2.1 (pc + 3) = .ok (.dup, 1)) (d4 : decode M.2.1 (pc + 4) = .ok (.invokespecial ic, 3)) (d7 : decode M.2.1 (pc + 7) = .ok (.athrow, 1))
    (hd : 6 ≤ d) (hmc : nc + 1 ≤ mc) (hms : ns + 6 ≤ ms) (hp : Post (.inr E) F A al) : QW M d mc ms Post nc ns pc L [] F A al := by
  intro p l e R s m args below meth c G P ad0 N0 hc ad H locs ls hs hst
  obtain ⟨c1, c2, c3, c4, c5, c6, c7, c8, c9, c10, c11, c12, c13, c14, c15, c16, c17, c18⟩ := id hc
  rw [hM] at c5
  rw [hh] at c10
  have hb : ∀ w ∈ vx_at0 "RootedRing" ic E thN, w.before args s = true := by
    intro w hw
    have h1 := List.all_eq_true.mp hat w hw
    unfold okW at h1
    rw [Bool.or_eq_true, Bool.or_eq_true, Bool.and_eq_true, decide_eq_true_eq] at h1
    rcases h1 with (h1 | h1) | h1
    · exact c6 w (tb_i (by simpa using h1.1) h1.2)
    · subst h1
      exact va_Nw.use rfl (c11.1 (E, E) hxw)
    · obtain ⟨x, hx, h2⟩ := List.any_eq_true.mp h1
      rw [decide_eq_true_eq] at h2
      subst h2
      exact va_Nw.use rfl (c11.2.2.1 x hx)
  refine vx_throw0 (names := thN) c1 c3 c2 c5 hfit (by decide) (c6 _ hcl) (c6 _ hin) hb (fun w hw => List.all_eq_true.mp hot w hw) c13.1 c13.2 hs.2.1 (by rw [c4]; exact hs.2.2.2.2.1.1) d0 d3 d4 d7 (fun x hx => by rw [c10] at hx; cases hx)
    (by show 2 + 3 < R.frames; omega) (by show 0 + (13 * (2 + 1) + 42) ≤ R.locals; omega) (by omega) (by omega) c8
    (fun t hal hsz hk => ⟨⟨F, A, al, ad, hp, (hs.1.grow hk).moved hal, hs.2.2.1, hs.2.2.2.1⟩, ?_⟩) hs.2.1.2.2 hmc hms
  have h1 := hs.2.1
  exact ⟨Nat.le_trans h1.1 hsz, fun q hq hP => (hk q (Nat.lt_of_lt_of_le hq h1.1)).trans (h1.2.1 q hq hP)⟩
end Throw
