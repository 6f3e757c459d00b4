/-! the readings, side by side: what is opened, atoms, the whole -/
def PCx (p e r : Nat) (m : Int) (q : Nat) (f : Nat → Int) (g : Int) (n : Nat) (tp pl_ : Nat → Int) : Prop := RK p e r m q f g ∧ El m r g ∧ (∀ j, j < 200 → 0 ≤ tp j ∧ tp j < 256) ∧ n ≤ 200 ∧ ∀ j, j < 8 → El m r (pl_ j)
theorem St.up {n l : Nat} {c : Int} {a b : Nat → Int} (h : St n c l a b) : St n c (l + 1) a (upD b) := by
  obtain ⟨h1, h2, h3, h4, h5, h6⟩ := h
  exact ⟨h1, h2, by show b 25 - 1 + ((l + 1 : Nat) : Int) = 8; omega, h4, h5, h6⟩
theorem St.dn {n l : Nat} {c : Int} {a b : Nat → Int} (h : St n c (l + 1) a b) : St n c l a (upc b 25 (b 25 + 1)) := by
  obtain ⟨h1, h2, h3, h4, h5, h6⟩ := h
  exact ⟨h1, h2, by show b 25 + 1 + (l : Int) = 8; omega, h4, h5, h6⟩
theorem Fa.up {x y : Nat → Int} (h : Fa x y) : Fa x (upD y) := h
theorem mu_up {n : Nat} {b : Nat → Int} : mu n (upD b) = mu n b := rfl
theorem en_f {p e r q N : Nat} {m : Int} {f : Nat → Int} {g : Int} {rt lg : Nat → Int} {c x : Int} {y : Nat → Int} (h : y 26 ≠ 0) : enM p e r q N m f g rt lg c x y = (0, upD y) := if_neg fun q => h q.1
section Op
variable {p e r q n l : Nat} {m : Int} {f : Nat → Int} {g : Int} {c : Int} {tp pl_ a b : Nat → Int} {E M : (Nat → Int) → Int × (Nat → Int)}
/-- what is done to a value -/
theorem ch_sim (h : PCx p e r m q f g n tp pl_) {o : Int} (ho : o = 45 ∨ o = 109 ∨ o = 114 ∨ o = 105) {x y : Int × (Nat → Int)} (hx : Rs n c l m r a b x y) : Rs n c (l + 1) m r a b (chE p e r q m f g (lgR p r m q f g) o x.1 x.2) (enM p e r q (p ^ (e * r)) m f g (rtR p e r q m f) (lgR p r m q f g) o y.1 y.2) := by
  obtain ⟨hk, hg, -⟩ := h
  have hm := hk.m2
  have hr := hk.2.2.1
  rcases hx with ⟨hs, hmu, h2, hv⟩ | hF
  · have hs1 := hs.up
    by_cases hc : c = 0
    · have e1 : enM p e r q (p ^ (e * r)) m f g (rtR p e r q m f) (lgR p r m q f g) o y.1 y.2 = (0, upD y.2) := if_neg fun z => z.2 (hs1.2.2.2.1.trans hc)
      rw [e1]
      have key : ∀ v : Int, Rs n c (l + 1) m r a b (v, x.2) (0, upD y.2) := fun v => Or.inl ⟨hs1, hmu, h2, fun z => absurd hc z⟩
      unfold chE
      split
      · exact key _
      · split
        · exact key _
        · split
          · exact key _
          · split
            · refine Or.inl ⟨?_, hmu, fun z => absurd (show (1 : Int) = 0 from z) (by decide), fun z => absurd hc z⟩
              obtain ⟨g1, g2, g3, g4, g5, g6⟩ := hs1
              exact ⟨g1, g2, g3, g4, fun z => absurd hc z, Or.inr rfl⟩
            · exact key _
    · have e1 : enM p e r q (p ^ (e * r)) m f g (rtR p e r q m f) (lgR p r m q f g) o y.1 y.2 = dnM p e r q (p ^ (e * r)) m f g (rtR p e r q m f) (lgR p r m q f g) o y.1 (upD y.2) := if_pos ⟨hs1.2.1.2.1, fun z => hc (hs1.2.2.2.1.symm.trans z)⟩
      rw [e1]
      have h29 : x.2 2 = y.2 29 := hs.2.2.2.2.1 hc
      have h01 := hs.2.2.2.2.2
      have key : ∀ v w : Int, (x.2 2 = 0 → v = w ∧ El m r v) → Rs n c (l + 1) m r a b (v, x.2) (w, upD y.2) := fun v w z => Or.inl ⟨hs1, hmu, h2, fun _ => z⟩
      by_cases o1 : o = 45
      · have e2 : chE p e r q m f g (lgR p r m q f g) o x.1 x.2 = (mi m r 0 x.1, x.2) := if_pos o1
        have e3 : dnM p e r q (p ^ (e * r)) m f g (rtR p e r q m f) (lgR p r m q f g) o y.1 (upD y.2) = (mi m r 0 y.1, upD y.2) := if_pos o1
        rw [e2, e3]
        exact key _ _ fun z => ⟨by rw [(hv hc z).1], mi_el (by omega) _ _⟩
      by_cases o2 : o = 109
      · have e2 : chE p e r q m f g (lgR p r m q f g) o x.1 x.2 = (mv p r m f x.1, x.2) := (if_neg o1).trans (if_pos o2)
        have e3 : dnM p e r q (p ^ (e * r)) m f g (rtR p e r q m f) (lgR p r m q f g) o y.1 (upD y.2) = (mvM p e r q m f g (rtR p e r q m f) (lgR p r m q f g) y.1, upD y.2) := (if_neg o1).trans (if_pos o2)
        rw [e2, e3]
        exact key _ _ fun z => by
          have hz := hv hc z
          rw [← hz.1]
          exact ⟨hk.mv_eq hz.2, mv_el (by omega)⟩
      by_cases o3 : o = 114
      · have e2 : chE p e r q m f g (lgR p r m q f g) o x.1 x.2 = (ro p r m f g (lgR p r m q f g) x.1, x.2) := (if_neg o1).trans ((if_neg o2).trans (if_pos o3))
        have e3 : dnM p e r q (p ^ (e * r)) m f g (rtR p e r q m f) (lgR p r m q f g) o y.1 (upD y.2) = (tcE p e r q m f (low p r m y.1), upD y.2) := (if_neg o1).trans ((if_neg o2).trans (if_pos o3))
        rw [e2, e3]
        exact key _ _ fun z => by
          have hz := hv hc z
          rw [← hz.1, hk.ro_tc]
          exact ⟨rfl, tc_el hm hr _⟩
      have o4 : o = 105 := by omega
      have e2 : chE p e r q m f g (lgR p r m q f g) o x.1 x.2 = if rl p r m (lgR p r m q f g) x.1 = -1 then (0, upc x.2 2 1) else (pw m r f x.1 (ivN p e q), x.2) := (if_neg o1).trans ((if_neg o2).trans (if_neg o3))
      have e3 : dnM p e r q (p ^ (e * r)) m f g (rtR p e r q m f) (lgR p r m q f g) o y.1 (upD y.2) = ((if y.2 29 ≠ 0 ∨ low p r m y.1 = 0 then 0 else pw m r f y.1 (umE (p ^ (e * r)) q - 1)), upc (upD y.2) 29 (if y.2 29 ≠ 0 ∨ low p r m y.1 = 0 then 1 else 0)) := (if_neg o1).trans ((if_neg o2).trans ((if_neg o3).trans (if_pos o4)))
      rw [e2, e3]
      obtain ⟨g1, g2, g3, g4, g5, g6⟩ := hs1
      by_cases hz : x.2 2 = 0
      · have hz2 := hv hc hz
        by_cases hl : low p r m x.1 = 0
        · rw [if_pos (hk.rl_no.mpr hl), if_pos (show y.2 29 ≠ 0 ∨ low p r m y.1 = 0 from Or.inr (by rw [← hz2.1]; exact hl)), if_pos (show y.2 29 ≠ 0 ∨ low p r m y.1 = 0 from Or.inr (by rw [← hz2.1]; exact hl))]
          exact Or.inl ⟨⟨g1, g2, g3, g4, fun _ => rfl, Or.inr rfl⟩, hmu, fun z => absurd (show (1 : Int) = 0 from z) (by decide), fun _ z => absurd (show (1 : Int) = 0 from z) (by decide)⟩
        · have hno : ¬ (y.2 29 ≠ 0 ∨ low p r m y.1 = 0) := fun z => by
            rcases z with z | z
            · omega
            · exact hl (by rw [hz2.1]; exact z)
          rw [if_neg (fun z => hl (hk.rl_no.mp z)), if_neg hno, if_neg hno]
          refine Or.inl ⟨⟨g1, g2, g3, g4, fun _ => hz, g6⟩, hmu, h2, fun _ _ => ⟨?_, pw_el hm hr _ _⟩⟩
          show pw m r f x.1 (ivN p e q) = pw m r f y.1 (umE (p ^ (e * r)) q - 1)
          rw [hk.iv_eq hz2.2 hl, hz2.1]
      · have h1 : x.2 2 = 1 := by omega
        have hyes : y.2 29 ≠ 0 ∨ low p r m y.1 = 0 := Or.inl (by omega)
        rw [if_pos hyes, if_pos hyes]
        split
        · exact Or.inl ⟨⟨g1, g2, g3, g4, fun _ => rfl, Or.inr rfl⟩, hmu, fun z => absurd (show (1 : Int) = 0 from z) (by decide), fun _ z => absurd (show (1 : Int) = 0 from z) (by decide)⟩
        · exact Or.inl ⟨⟨g1, g2, g3, g4, fun _ => h1, g6⟩, hmu, h2, fun _ z => absurd z hz⟩
  · rw [en_f hF.m]
    have key : ∀ v : Int, Rs n c (l + 1) m r a b (v, x.2) (0, upD y.2) := fun v => Or.inr hF.up
    unfold chE
    split
    · exact key _
    · split
      · exact key _
      · split
        · exact key _
        · split
          · exact Or.inr hF.up
          · exact key _
/-- a bracket is closed -/
theorem cl_sim (h : PCx p e r m q f g n tp pl_) {x y : Int × (Nat → Int)} (hx : Rs n c l m r a b x y) : Rs n c (l + 1) m r a b (clE n tp x) (enM p e r q (p ^ (e * r)) m f g (rtR p e r q m f) (lgR p r m q f g) 40 y.1 (clR n tp 40 y.2)) := by
  obtain ⟨hk, hg, htp, hn, -⟩ := h
  have e0 : clR n tp 40 y.2 = if chM (if y.2 23 = 41 then 1 else 0) 1 y.2 26 = 0 then gxM n tp (chM (if y.2 23 = 41 then 1 else 0) 1 y.2) else chM (if y.2 23 = 41 then 1 else 0) 1 y.2 := if_pos rfl
  rw [e0]
  unfold clE
  rcases hx with ⟨hs, hmu, h2, hv⟩ | hF
  · have h26 := hs.2.1.2.1
    rw [if_pos hs.2.1.1]
    have hkk := hs.1.is.2.2 41 (by decide)
    by_cases c1 : y.2 23 = 41
    · have e1 : chM (if y.2 23 = 41 then 1 else 0) 1 y.2 = y.2 := by rw [if_pos c1]; exact chm_id (by decide)
      rw [e1, if_pos h26, if_pos (hkk.mpr c1)]
      have x1 := hs.nx (tp := tp) htp hn (by omega)
      have x2 := x1.1.up
      by_cases hc : c = 0
      · have e2 : enM p e r q (p ^ (e * r)) m f g (rtR p e r q m f) (lgR p r m q f g) 40 y.1 (gxM n tp y.2) = (0, upD (gxM n tp y.2)) := if_neg fun z => z.2 (x2.2.2.2.1.trans hc)
        rw [e2]
        exact Or.inl ⟨x2, by show mu n (upD (gxM n tp y.2)) ≤ _; rw [mu_up]; omega, fun z => h2 (by rw [← x1.2.2]; exact z), fun z => absurd hc z⟩
      · have e2 : enM p e r q (p ^ (e * r)) m f g (rtR p e r q m f) (lgR p r m q f g) 40 y.1 (gxM n tp y.2) = (y.1, upD (gxM n tp y.2)) := if_pos ⟨x2.2.1.2.1, fun z => hc (x2.2.2.2.1.symm.trans z)⟩
        rw [e2]
        exact Or.inl ⟨x2, by show mu n (upD (gxM n tp y.2)) ≤ _; rw [mu_up]; omega, fun z => h2 (by rw [← x1.2.2]; exact z), fun _ z => hv hc (by rw [← x1.2.2]; exact z)⟩
    · have e1 : chM (if y.2 23 = 41 then 1 else 0) 1 y.2 = chM 0 1 y.2 := by rw [if_neg c1]
      have h9 : chM 0 1 y.2 26 ≠ 0 := by rw [ch0_26 h26]; decide
      rw [e1, if_neg h9, if_neg (fun z => c1 (hkk.mp z)), en_f h9]
      exact Or.inr (hs.fail (by decide)).up
  · rw [chm_f hF.m, if_neg hF.m, if_neg hF.e, en_f hF.m]
    exact Or.inr hF.up
theorem op_sim (h : PCx p e r m q f g n tp pl_) (hT : SPr n c l m r E M) (hs : St n c (l + 1) a b) (ho : isO (b 23)) : Rs n c (l + 1) m r a b (opSE p e r q n m f g (lgR p r m q f g) tp E a) (opM p e r q (p ^ (e * r)) n m f g (rtR p e r q m f) (lgR p r m q f g) tp M (b 23) b) := by
  obtain ⟨hk, hg, htp, hn, -⟩ := id h
  have hm := hk.m2
  have hr := hk.2.2.1
  have h26 := hs.2.1.2.1
  have e1 : chM (if isO (b 23) then 1 else 0) 1 b = b := by rw [if_pos ho]; exact chm_id (by decide)
  have h25 : b 25 < 8 := by have := hs.2.2.1; omega
  have e2 : giM n tp b = (1, gxM n tp (upc b 25 (b 25 + 1))) := by
    unfold giM
    have e3 : chM (if b 25 < 8 then 1 else 0) 3 b = b := by rw [if_pos h25]; exact chm_id (by decide)
    rw [e3, if_pos h26]
  have hd := hs.dn
  have hiso : isS (b 23) := by unfold isO at ho; unfold isS; omega
  have h7 : a 7 = b 23 := (hs.1.is.2.2 _ hiso).mpr rfl
  have x1 := hd.nx (tp := tp) htp hn (by show b 23 ≠ 1002; unfold isO at ho; omega)
  have hmu : mu n (upc b 25 (b 25 + 1)) = mu n b := rfl
  have lift : ∀ x y, Rs n c l m r (nxE n tp a) (gxM n tp (upc b 25 (b 25 + 1))) x y → Rs n c l m r a b x y := fun x y z => by
    rcases z with ⟨z1, z2, z3, z4⟩ | z
    · exact Or.inl ⟨z1, by omega, fun z5 => by rw [← x1.2.2]; exact z3 z5, z4⟩
    · exact Or.inr z
  unfold opSE opM
  rw [e1, if_pos h26, e2, if_neg (show ¬ (1 : Int) = 0 by decide)]
  by_cases c1 : b 23 = 40
  · rw [if_pos (h7.trans c1), if_pos c1, c1]
    exact cl_sim h (lift _ _ (tms_sim (f := f) htp hn hm hr hT _ _ x1.1))
  · rw [if_neg (fun z => c1 (h7.symm.trans z)), if_neg c1, h7]
    have e4 : clR n tp (b 23) (M (gxM n tp (upc b 25 (b 25 + 1)))).2 = (M (gxM n tp (upc b 25 (b 25 + 1)))).2 := if_neg c1
    show Rs n c (l + 1) m r a b _ (enM p e r q (p ^ (e * r)) m f g (rtR p e r q m f) (lgR p r m q f g) (b 23) (M (gxM n tp (upc b 25 (b 25 + 1)))).1 (clR n tp (b 23) (M (gxM n tp (upc b 25 (b 25 + 1)))).2))
    rw [e4]
    exact ch_sim h (by unfold isO at ho; omega) (lift _ _ (hT _ _ x1.1))
theorem op0_sim (hs : St n c 0 a b) (ho : isO (b 23)) {N : Nat} {rt lg : Nat → Int} : Rs n c 0 m r a b (op0E a) (opM p e r q N n m f g rt lg tp M (b 23) b) := by
  have h26 := hs.2.1.2.1
  have e1 : chM (if isO (b 23) then 1 else 0) 1 b = b := by rw [if_pos ho]; exact chm_id (by decide)
  have h25 : ¬ b 25 < 8 := by have := hs.2.2.1; omega
  have e3 : chM (if b 25 < 8 then 1 else 0) 3 b = chM 0 3 b := by rw [if_neg h25]
  have e2 : giM n tp b = (0, chM 0 3 b) := by
    unfold giM
    rw [e3, if_neg (by rw [ch0_26 h26]; decide)]
  unfold opM
  rw [e1, if_pos h26, e2, if_pos rfl]
  exact Or.inr (hs.fail (by decide))
theorem a_sim (h : PCx p e r m q f g n tp pl_) {O : (Nat → Int) → Int × (Nat → Int)} (hO : ∀ a b, St n c l a b → isO (b 23) → Rs n c l m r a b (O a) (opM p e r q (p ^ (e * r)) n m f g (rtR p e r q m f) (lgR p r m q f g) tp M (b 23) b)) : SPr n c l m r (aE p n tp m r g pl_ O) (aM p e r q (p ^ (e * r)) n m f g (rtR p e r q m f) (lgR p r m q f g) tp pl_ M) := by
  obtain ⟨hk, hg, htp, hn, hpl⟩ := id h
  have hm := hk.m2
  have hr := hk.2.2.1
  have hmr := pow_ge (m := m) (by omega) hr
  have hmod : ∀ x : Int, El m r (x % m) := fun x => ⟨Int.emod_nonneg _ (by omega), by have := Int.emod_lt_of_pos x (show 0 < m by omega); omega⟩
  intro a b hs
  have hkk := hs.1.is
  have k116 := hkk.2.2 116 (by decide)
  have k103 := hkk.2.2 103 (by decide)
  have k112 := hkk.2.2 112 (by decide)
  have k35 := hkk.2.2 35 (by decide)
  have k40 := hkk.2.2 40 (by decide)
  have k45 := hkk.2.2 45 (by decide)
  have k109 := hkk.2.2 109 (by decide)
  have k114 := hkk.2.2 114 (by decide)
  have k105 := hkk.2.2 105 (by decide)
  have k256 := hkk.2.1
  unfold aE aM
  by_cases c1 : b 23 = 1000
  · rw [if_pos (k256.mpr c1), if_pos c1]
    rcases fig_sim (most := 9999) htp hn hs (by decide) with ⟨y1, y2, y3, y4, y5, y6⟩ | yF
    · exact Or.inl ⟨y1, Nat.le_of_lt y2, fun z => by rw [← y3]; exact z, fun _ _ => ⟨by show _ % m = _ % m; rw [y4], hmod _⟩⟩
    · exact Or.inr yF
  rw [if_neg (fun z => c1 (k256.mp z)), if_neg c1]
  by_cases c2 : b 23 = 116 ∨ b 23 = 103 ∨ b 23 = 112
  · rw [if_pos c2]
    have x1 := hs.nx (tp := tp) htp hn (by omega)
    have key : ∀ v w : Int, v = w → El m r v → Rs n c l m r a b (v, nxE n tp a) (w, gxM n tp b) := fun v w e9 h9 => Or.inl ⟨x1.1, Nat.le_of_lt x1.2.1, fun z => by rw [← x1.2.2]; exact z, fun _ _ => ⟨e9, h9⟩⟩
    by_cases c3 : b 23 = 116
    · rw [if_pos (k116.mpr c3), if_pos c3]
      exact key _ _ rfl (tE_el hm hr)
    rw [if_neg (fun z => c3 (k116.mp z)), if_neg c3]
    by_cases c4 : b 23 = 103
    · rw [if_pos (k103.mpr c4), if_pos c4]
      exact key _ _ rfl hg
    rw [if_neg (fun z => c4 (k103.mp z)), if_neg c4, if_pos (k112.mpr (by omega))]
    exact key _ _ rfl (hmod _)
  rw [if_neg c2, if_neg (fun z => c2 (Or.inl (k116.mp z))), if_neg (fun z => c2 (Or.inr (Or.inl (k103.mp z)))), if_neg (fun z => c2 (Or.inr (Or.inr (k112.mp z))))]
  by_cases c5 : b 23 = 35
  · rw [if_pos (k35.mpr c5), if_pos c5]
    have x1 := hs.nx (tp := tp) htp hn (by omega)
    rcases fig_sim (most := 7) htp hn x1.1 (by decide) with ⟨y1, y2, y3, y4, y5, y6⟩ | yF
    · exact Or.inl ⟨y1, by show mu n (fiM n tp 7 (gxM n tp b)).2 ≤ _; omega, fun z => by rw [← x1.2.2, ← y3]; exact z, fun _ _ => ⟨by show pl_ _ = pl_ _; rw [y4], hpl _ (by omega)⟩⟩
    · exact Or.inr yF
  rw [if_neg (fun z => c5 (k35.mp z)), if_neg c5]
  by_cases c6 : isO (b 23)
  · rw [if_pos (by unfold isO at c6; omega)]
    exact hO a b hs c6
  · rw [if_neg (by unfold isO at c6; omega)]
    have h26 := hs.2.1.2.1
    have e1 : chM (if isO (b 23) then 1 else 0) 1 b = chM 0 1 b := by rw [if_neg c6]
    have h9 : ¬ chM 0 1 b 26 = 0 := by rw [ch0_26 h26]; decide
    unfold opM
    rw [e1, if_neg h9]
    exact Or.inr (hs.fail (by decide))
theorem at_sim (h : PCx p e r m q f g n tp pl_) : ∀ l : Nat, SPr n c l m r (atE p e r q n m f g (lgR p r m q f g) tp pl_ l) (atM p e r q (p ^ (e * r)) n m f g (rtR p e r q m f) (lgR p r m q f g) tp pl_ l)
  | 0 => a_sim h fun _ _ hs ho => op0_sim hs ho
  | l + 1 => a_sim h fun _ _ hs ho => op_sim h (at_sim h l) hs ho
theorem rd_sim (h : PCx p e r m q f g n tp pl_) {rs : Nat → Int} {wo : Int} : ∃ a b, Rs n c 8 m r a b (reE p e r q n m f g (lgR p r m q f g) tp pl_ rs) (rdsM p e r q (p ^ (e * r)) n m f g (rtR p e r q m f) (lgR p r m q f g) tp pl_ c wo) := by
  obtain ⟨hk, hg, htp, hn, hpl⟩ := id h
  have hm := hk.m2
  have hr := hk.2.2.1
  obtain ⟨t1, ⟨t2, t3, t4⟩, ⟨t5, t6, t7, t8, t9⟩, t10⟩ := nx_core (a := rsE0 n rs) (b := rs0M n c wo) htp hn (show (0 : Int) = 0 from rfl) (show (0 : Int) ≤ 0 by decide) (show (0 : Int) ≤ n by omega)
  have h0 : St n c 8 (nxE n tp (rsE0 n rs)) (gxM n tp (rs0M n c wo)) := ⟨t1, ⟨t2, t6, t3, t7⟩, by rw [t5]; rfl, t8, fun _ => by rw [t4, t9]; rfl, Or.inl t4⟩
  exact ⟨_, _, tms_sim (f := f) htp hn hm hr (at_sim h 8) _ _ h0⟩
theorem rdx_sim (h : PCx p e r m q f g n tp pl_) {rs : Nat → Int} {wo : Int} {s t : Int × (Nat → Int)} (es : rdE p e r q n m f g (lgR p r m q f g) tp pl_ rs = s) (et : rdM p e r q (p ^ (e * r)) n m f g (rtR p e r q m f) (lgR p r m q f g) tp pl_ c wo = t) : (s.2 0 = 0 ∧ t.2 26 = 0 ∧ s.2 1 = -1 ∧ t.2 27 = -1 ∧ (c ≠ 0 → s.2 2 = t.2 29 ∧ (s.2 2 = 0 → s.1 = t.1))) ∨ Fa s.2 t.2 := by
  obtain ⟨a, b, hR⟩ := rd_sim (c := c) h (rs := rs) (wo := wo)
  unfold rdE at es
  unfold rdM at et
  generalize reE p e r q n m f g (lgR p r m q f g) tp pl_ rs = X at hR es
  generalize rdsM p e r q (p ^ (e * r)) n m f g (rtR p e r q m f) (lgR p r m q f g) tp pl_ c wo = Y at hR et
  rcases hR with ⟨hs, hmu, h2, hv⟩ | hF
  · have hkk := hs.1.is.1
    have h26 := hs.2.1.2.1
    rw [if_pos h26] at et
    by_cases c1 : Y.2 23 = 1002
    · rw [if_pos (hkk.mpr c1)] at es
      rw [if_pos c1, chm_id (by decide)] at et
      subst es
      subst et
      exact Or.inl ⟨hs.2.1.1, h26, hs.2.1.2.2.1, hs.2.1.2.2.2, fun hc => ⟨hs.2.2.2.2.1 hc, fun z => (hv hc z).1⟩⟩
    · rw [if_neg (fun z => c1 (hkk.mp z))] at es
      rw [if_neg c1] at et
      subst es
      subst et
      exact Or.inr (hs.fail (by decide))
  · rw [if_neg hF.m] at et
    subst et
    have e9 : failE X.2 1 = X.2 := if_neg hF.e
    rw [e9] at es
    have e8 : s = X := by
      rw [← es]
      split <;> rfl
    subst e8
    exact Or.inr hF
end Op
theorem tel_of {p e r : Nat} (hk : RKr p e r) : Q_tel p e r := by
  intro z tp pl_ rs wo hz htp hpl _ _ _ _ s t1 t2 es e1 e2
  have hP : PCx p e r ((p : Int) ^ e) (p ^ r) (rF p e r) (rG p e r) z tp pl_ := ⟨hk, hk.2.2.2.2.2.1, htp, hz, hpl⟩
  have r1 := rdx_sim hP es e1
  have r2 := rdx_sim hP es e2
  rcases r1 with ⟨a1, a2, a3, a4, a5⟩ | hF
  · rcases r2 with ⟨b1, b2, b3, b4, b5⟩ | hF2
    · obtain ⟨c1, c2⟩ := b5 (by decide)
      unfold tlA tlP
      rw [if_neg (show ¬ 0 < s.2 0 by omega), if_neg (show ¬ t1.2 26 ≠ 0 from fun q => q a2), if_neg (show ¬ t1.2 26 ≠ 0 from fun q => q a2)]
      refine ⟨?_, fun i => ?_, b3.trans b4.symm⟩
      · by_cases c3 : s.2 2 = 0
        · rw [if_pos c3, if_neg (show ¬ t2.2 29 ≠ 0 by omega)]
          exact c2 c3
        · rw [if_neg c3, if_pos (show t2.2 29 ≠ 0 by omega)]
      · rw [if_neg (show ¬ 0 < s.2 0 by omega), if_neg (show ¬ t1.2 26 ≠ 0 from fun q => q a2)]
        by_cases c3 : s.2 2 = 0
        · rw [if_pos c3, if_neg (show ¬ t2.2 29 ≠ 0 by omega), c2 c3]
        · rw [if_neg c3, if_pos (show t2.2 29 ≠ 0 by omega)]
    · exact absurd a1 hF2.e
  · unfold tlA tlP
    rw [if_pos hF.1, if_pos hF.m, if_pos hF.m]
    refine ⟨by rw [hF.2.1], fun i => ?_, hF.2.2⟩
    rw [if_pos hF.1, if_pos hF.m]
