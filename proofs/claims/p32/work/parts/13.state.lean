/-! where the cells lie: kinds of the logical addresses, the fields that hold rows and objects -/
def kl : List (Nat × Nat) := [(4, 0), (19, 10), (11, 15), (0, 7), (0, 3125), (0, 3125), (3, 6), (0, 6), (0, 6), (0, 6), (0, 6), (0, 6), (0, 6), (0, 6), (0, 6), (0, 12), (0, 7), (0, 8), (0, 4096), (16, 2), (0, 200), (15, 3), (0, 200), (0, 6), (13, 3), (0, 63), (14, 11), (10, 7), (0, 64), (0, 64), (18, 5), (0, 64), (0, 7201), (17, 3), (0, 63), (0, 63), (12, 13), (0, 63), (0, 63), (0, 63), (0, 63), (17, 3), (0, 63), (0, 63), (20, 54), (0, 7), (0, 4096), (0, 4096), (0, 4096), (0, 8), (0, 8), (0, 6), (0, 6), (0, 12), (0, 4), (1, 200), (0, 65), (0, 65), (0, 1088), (0, 64), (0, 8192), (0, 64), (0, 64), (0, 64), (0, 64), (1, 128), (0, 6)]
def klf (a : Nat) : Nat × Nat := kl.getD a (9, 0)
def KX (al : AL) : Prop := ∀ a, 1 ≤ a → a < 44 → al.1 a = klf a
def xrefs : List (Nat × Nat × Nat) := [(1, 0, 2), (1, 1, 17), (1, 2, 18), (1, 3, 19), (1, 4, 26), (1, 5, 21), (1, 6, 24), (1, 7, 27), (1, 8, 30), (1, 9, 36), (2, 7, 3), (2, 8, 4), (2, 9, 5), (2, 10, 6), (2, 11, 13), (2, 12, 14), (2, 13, 15), (2, 14, 16), (6, 0, 7), (6, 1, 8), (6, 2, 9), (6, 3, 10), (6, 4, 11), (6, 5, 12), (19, 1, 20), (21, 1, 22), (21, 2, 23), (24, 2, 25), (26, 3, 2), (26, 4, 17), (26, 5, 19), (27, 0, 2), (27, 5, 28), (27, 6, 29), (30, 1, 31), (30, 2, 32), (30, 3, 27), (30, 4, 33), (33, 0, 34), (33, 1, 35), (33, 2, 27), (36, 2, 37), (36, 3, 38), (36, 8, 39), (36, 10, 40), (36, 11, 27), (36, 12, 41), (41, 0, 42), (41, 1, 43), (41, 2, 27)]
def mrefs : List (Nat × Nat × Nat) := [(44, 7, 45), (44, 8, 46), (44, 9, 47), (44, 10, 48), (44, 12, 49), (44, 13, 50), (44, 14, 51), (44, 15, 52), (44, 16, 53), (44, 17, 54), (44, 18, 55), (44, 36, 56), (44, 37, 57), (44, 38, 58), (44, 39, 59), (44, 40, 60), (44, 42, 61), (44, 44, 62), (44, 46, 63), (44, 50, 64), (44, 51, 65), (44, 53, 66)]
def XF (F : HF) : Prop := ∀ q ∈ xrefs, F q.1 q.2.1 = vA q.2.2
def MR (F : HF) : Prop := ∀ q ∈ mrefs, F q.1 q.2.1 = vA q.2.2
theorem xf_1_0 {F : HF} (h : XF F) : F 1 0 = vA 2 := h (1, 0, 2) (by decide)
theorem xf_1_1 {F : HF} (h : XF F) : F 1 1 = vA 17 := h (1, 1, 17) (by decide)
theorem xf_1_3 {F : HF} (h : XF F) : F 1 3 = vA 19 := h (1, 3, 19) (by decide)
theorem xf_1_6 {F : HF} (h : XF F) : F 1 6 = vA 24 := h (1, 6, 24) (by decide)
theorem xf_1_7 {F : HF} (h : XF F) : F 1 7 = vA 27 := h (1, 7, 27) (by decide)
theorem xf_1_8 {F : HF} (h : XF F) : F 1 8 = vA 30 := h (1, 8, 30) (by decide)
theorem xf_1_9 {F : HF} (h : XF F) : F 1 9 = vA 36 := h (1, 9, 36) (by decide)
theorem xf_2_7 {F : HF} (h : XF F) : F 2 7 = vA 3 := h (2, 7, 3) (by decide)
theorem xf_2_8 {F : HF} (h : XF F) : F 2 8 = vA 4 := h (2, 8, 4) (by decide)
theorem xf_2_9 {F : HF} (h : XF F) : F 2 9 = vA 5 := h (2, 9, 5) (by decide)
theorem xf_2_10 {F : HF} (h : XF F) : F 2 10 = vA 6 := h (2, 10, 6) (by decide)
theorem xf_2_11 {F : HF} (h : XF F) : F 2 11 = vA 13 := h (2, 11, 13) (by decide)
theorem xf_2_12 {F : HF} (h : XF F) : F 2 12 = vA 14 := h (2, 12, 14) (by decide)
theorem xf_2_13 {F : HF} (h : XF F) : F 2 13 = vA 15 := h (2, 13, 15) (by decide)
theorem xf_2_14 {F : HF} (h : XF F) : F 2 14 = vA 16 := h (2, 14, 16) (by decide)
theorem xf_6_0 {F : HF} (h : XF F) : F 6 0 = vA 7 := h (6, 0, 7) (by decide)
theorem xf_6_1 {F : HF} (h : XF F) : F 6 1 = vA 8 := h (6, 1, 8) (by decide)
theorem xf_6_2 {F : HF} (h : XF F) : F 6 2 = vA 9 := h (6, 2, 9) (by decide)
theorem xf_6_3 {F : HF} (h : XF F) : F 6 3 = vA 10 := h (6, 3, 10) (by decide)
theorem xf_6_4 {F : HF} (h : XF F) : F 6 4 = vA 11 := h (6, 4, 11) (by decide)
theorem xf_6_5 {F : HF} (h : XF F) : F 6 5 = vA 12 := h (6, 5, 12) (by decide)
theorem xf_24_2 {F : HF} (h : XF F) : F 24 2 = vA 25 := h (24, 2, 25) (by decide)
theorem xf_27_0 {F : HF} (h : XF F) : F 27 0 = vA 2 := h (27, 0, 2) (by decide)
theorem xf_27_5 {F : HF} (h : XF F) : F 27 5 = vA 28 := h (27, 5, 28) (by decide)
theorem xf_27_6 {F : HF} (h : XF F) : F 27 6 = vA 29 := h (27, 6, 29) (by decide)
/-- a field that holds no row and no object -/
def plainF (l : List (Nat × Nat × Nat)) (a k : Nat) : Bool := l.all fun q => !(q.1 == a && q.2.1 == k)
theorem refs_up {l : List (Nat × Nat × Nat)} {F : HF} {a k : Nat} {v : LV} (h : ∀ q ∈ l, F q.1 q.2.1 = vA q.2.2) (hp : plainF l a k = true) : ∀ q ∈ l, up2 F a k v q.1 q.2.1 = vA q.2.2 := by
  intro q hq
  have h1 := List.all_eq_true.mp hp q hq
  rw [up2_all, if_neg]
  · exact h q hq
  · rintro ⟨e1, e2⟩
    simp [e1, e2] at h1
theorem XF.up {F : HF} {a k : Nat} {v : LV} (h : XF F) (hp : plainF xrefs a k = true) : XF (up2 F a k v) := refs_up h hp
theorem MR.up {F : HF} {a k : Nat} {v : LV} (h : MR F) (hp : plainF mrefs a k = true) : MR (up2 F a k v) := refs_up h hp
