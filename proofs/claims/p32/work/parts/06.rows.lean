theorem i_toInt {a : Int} (h : InR a) : (Int32.ofInt a).toInt = a := Int32.toInt_ofInt_of_le (by have := h.1; omega) (by have := h.2; omega)
theorem l_toInt {a : Int} (h : InL a) : (Int64.ofInt a).toInt = a := Int64.toInt_ofInt_of_le (by have := h.1; omega) (by have := h.2; omega)
theorem i_lt {a b : Int} (ha : InR a) (hb : InR b) : Int32.ofInt a < Int32.ofInt b ↔ a < b := by rw [Int32.lt_iff_toInt_lt, i_toInt ha, i_toInt hb]
theorem i_le {a b : Int} (ha : InR a) (hb : InR b) : Int32.ofInt a ≤ Int32.ofInt b ↔ a ≤ b := by rw [Int32.le_iff_toInt_le, i_toInt ha, i_toInt hb]
theorem i_eq {a b : Int} (ha : InR a) (hb : InR b) : Int32.ofInt a = Int32.ofInt b ↔ a = b := by rw [← Int32.toInt_inj, i_toInt ha, i_toInt hb]
theorem inR0 : InR 0 := ⟨by decide, by decide⟩
theorem i_lt0 {a : Int} (ha : InR a) : Int32.ofInt a < 0 ↔ a < 0 := i_lt ha inR0
theorem i_0lt {a : Int} (ha : InR a) : 0 < Int32.ofInt a ↔ 0 < a := i_lt inR0 ha
theorem i_le0 {a : Int} (ha : InR a) : Int32.ofInt a ≤ 0 ↔ a ≤ 0 := i_le ha inR0
theorem i_0le {a : Int} (ha : InR a) : 0 ≤ Int32.ofInt a ↔ 0 ≤ a := i_le inR0 ha
theorem i_eq0 {a : Int} (ha : InR a) : Int32.ofInt a = 0 ↔ a = 0 := i_eq ha inR0
theorem i_nat {a : Int} (ha : InR a) : (Int32.ofInt a).toNatClampNeg = a.toNat := by
  show (Int32.ofInt a).toInt.toNat = _
  rw [i_toInt ha]
theorem i_tdiv {a b : Int} (ha : InR a) (hb : InR b) : Int32.ofInt (a.tdiv b) = Int32.ofInt a / Int32.ofInt b := Int32.ofInt_tdiv (by have := ha.1; exact this) (by have := ha.2; exact Int.le_of_lt_add_one this) (by have := hb.1; exact this) (by have := hb.2; exact Int.le_of_lt_add_one this)
theorem i_tmod {a b : Int} (ha : InR a) (hb : InR b) : Int32.ofInt (a.tmod b) = Int32.ofInt a - Int32.ofInt a / Int32.ofInt b * Int32.ofInt b := by
  rw [← i_tdiv ha hb, ← Int32.ofInt_mul, ← Int32.ofInt_sub, Int.tmod_def, Int.mul_comm]
theorem l_tdiv {a b : Int} (ha : InL a) (hb : InL b) : Int64.ofInt (a.tdiv b) = Int64.ofInt a / Int64.ofInt b := Int64.ofInt_tdiv (by have := ha.1; exact this) (by have := ha.2; exact Int.le_of_lt_add_one this) (by have := hb.1; exact this) (by have := hb.2; exact Int.le_of_lt_add_one this)
theorem l_tmod {a b : Int} (ha : InL a) (hb : InL b) : Int64.ofInt (a.tmod b) = Int64.ofInt a - Int64.ofInt a / Int64.ofInt b * Int64.ofInt b := by
  rw [← l_tdiv ha hb, ← Int64.ofInt_mul, ← Int64.ofInt_sub, Int.tmod_def, Int.mul_comm]
theorem l_eq0 {a : Int} (ha : InL a) : Int64.ofInt a = 0 ↔ a = 0 := by
  rw [← Int64.toInt_inj, l_toInt ha]
  exact Iff.rfl
/-- masks -/
theorem i_and {a : Int} {k : Nat} (hk : k < 31) : Int32.ofInt a &&& Int32.ofInt (2 ^ k - 1) = Int32.ofInt (a % 2 ^ k) := by
  apply Int32.toBitVec.inj
  have hp : (2:Int) ^ k = ((2 ^ k : Nat) : Int) := by simp
  have h1 : 2 ^ k < 2 ^ 31 := Nat.pow_lt_pow_right (by decide) hk
  have h0 : 0 < 2 ^ k := Nat.pow_pos (by decide)
  show BitVec.ofInt 32 a &&& BitVec.ofInt 32 (2 ^ k - 1) = BitVec.ofInt 32 (a % 2 ^ k)
  apply BitVec.eq_of_toNat_eq
  rw [BitVec.toNat_and, BitVec.toNat_ofInt, BitVec.toNat_ofInt, BitVec.toNat_ofInt]
  have e1 : ((2:Int) ^ k - 1) % ((2 ^ 32 : Nat) : Int) = ((2 ^ k - 1 : Nat) : Int) := by
    rw [Int.emod_eq_of_lt (by rw [hp]; omega) (by rw [hp]; omega), hp]
    omega
  rw [e1, Int.toNat_natCast, Nat.and_two_pow_sub_one_eq_mod]
  have e2 : a % 2 ^ k % ((2 ^ 32 : Nat) : Int) = a % 2 ^ k := Int.emod_eq_of_lt (Int.emod_nonneg _ (by rw [hp]; omega)) (Int.lt_trans (Int.emod_lt_of_pos _ (by rw [hp]; omega)) (by rw [hp]; omega))
  rw [e2]
  have e3 : (a % ((2 ^ 32 : Nat) : Int)) % (2 ^ k) = a % 2 ^ k := by
    apply Int.emod_emod_of_dvd
    rw [hp]
    exact Int.natCast_dvd_natCast.mpr (Nat.pow_dvd_pow 2 (by omega))
  rw [← e3]
  obtain ⟨b, hb⟩ : ∃ b : Nat, a % ((2 ^ 32 : Nat) : Int) = (b : Int) := ⟨(a % ((2 ^ 32 : Nat) : Int)).toNat, (Int.toNat_of_nonneg (Int.emod_nonneg _ (by decide))).symm⟩
  rw [hb, hp, ← Int.natCast_emod, Int.toNat_natCast, Int.toNat_natCast]
theorem i_and1 (a : Int) : Int32.ofInt a &&& Int32.ofInt 1 = Int32.ofInt (a % 2) := i_and (k := 1) (by decide)
theorem i_and31 (a : Int) : Int32.ofInt a &&& Int32.ofInt 31 = Int32.ofInt (a % 32) := i_and (k := 5) (by decide)
theorem i_and255 (a : Int) : Int32.ofInt a &&& Int32.ofInt 255 = Int32.ofInt (a % 256) := i_and (k := 8) (by decide)
theorem i_shr {a : Int} {k : Nat} (ha : InR a) (hk : k < 32) : Int32.ofInt a >>> (Int32.ofInt k &&& 31) = Int32.ofInt (a / 2 ^ k) := by
  have e0 : Int32.ofInt k &&& 31 = Int32.ofInt k := by
    have := i_and31 k
    rw [Int.emod_eq_of_lt (by omega) (by omega)] at this
    exact this
  rw [e0]
  apply Int32.toInt_inj.mp
  have hp : (0:Int) < 2 ^ k := Int.pow_pos (by decide)
  have h1 : InR (a / 2 ^ k) := by
    obtain ⟨h1, h2⟩ := ha
    have hp1 : (1:Int) ≤ 2 ^ k := hp
    constructor
    · have h3 : (-2147483648 : Int) * 2 ^ k ≤ a := by
        have : (-2147483648 : Int) * 2 ^ k ≤ -2147483648 * 1 := Int.mul_le_mul_of_nonpos_left (by decide) hp1
        omega
      exact (Int.le_ediv_iff_mul_le hp).mpr h3
    · apply Int.ediv_lt_of_lt_mul hp
      have : (2147483648 : Int) * 1 ≤ 2147483648 * 2 ^ k := Int.mul_le_mul_of_nonneg_left hp1 (by decide)
      omega
  rw [i_toInt h1]
  show ((Int32.ofInt a).toBitVec.sshiftRight' ((Int32.ofInt k).toBitVec.smod 32)).toInt = _
  have e1 : ((Int32.ofInt (k:Int)).toBitVec.smod 32) = BitVec.ofNat 32 k := by
    have : ∀ j : Fin 32, (BitVec.ofInt 32 ((j.val : Nat) : Int)).smod 32 = BitVec.ofNat 32 j.val := by decide +kernel
    exact this ⟨k, hk⟩
  rw [e1, BitVec.toInt_sshiftRight']
  rw [BitVec.toNat_ofNat, Nat.mod_eq_of_lt (by omega)]
  show (Int32.ofInt a).toInt >>> k = _
  rw [i_toInt ha, Int.shiftRight_eq_div_pow]
  simp
theorem i_i2l {a : Int} (ha : InR a) : (Int32.ofInt a).toInt64 = Int64.ofInt a := by
  apply Int64.toInt_inj.mp
  rw [Int32.toInt_toInt64, i_toInt ha, l_toInt ⟨by have := ha.1; omega, by have := ha.2; omega⟩]
def cmpL (a b : Int) : Int := if b < a then 1 else if a = b then 0 else -1
theorem cmpL_R (a b : Int) : InR (cmpL a b) := by
  unfold cmpL
  constructor <;> split <;> first | decide | (split <;> decide)
theorem cmpL_ge {a b : Int} : 0 ≤ cmpL a b ↔ b ≤ a := by unfold cmpL; split <;> first | omega | (split <;> omega)
theorem cmpL_le {a b : Int} : cmpL a b ≤ 0 ↔ a ≤ b := by unfold cmpL; split <;> first | omega | (split <;> omega)
theorem cmpL_gt {a b : Int} : 0 < cmpL a b ↔ b < a := by unfold cmpL; split <;> first | omega | (split <;> omega)
theorem cmpL_lt {a b : Int} : cmpL a b < 0 ↔ a < b := by unfold cmpL; split <;> first | omega | (split <;> omega)
theorem cmpL_eq {a b : Int} : cmpL a b = 0 ↔ a = b := by unfold cmpL; split <;> first | omega | (split <;> omega)
theorem l_cmp {a b : Int} (ha : InL a) (hb : InL b) : lg_cmp (Int64.ofInt a) (Int64.ofInt b) = Int32.ofInt (cmpL a b) := by
  unfold lg_cmp cmpL
  simp only [gt_iff_lt, Int64.lt_iff_toInt_lt, ← Int64.toInt_inj, l_toInt ha, l_toInt hb]
  repeat' split
  all_goals first | rfl | omega
section QRows
variable {M : MT} {d mc ms : Nat} {Post : PO} {nc ns pc : Nat} {L : List (Option LV)} {st : List LV} {F : HF} {A : HA} {al : AL}
theorem q_iadd {a b : Int} (hd : decode M.2.1 pc = .ok (.iadd, 1)) (k : QW M d mc ms Post nc ns (pc + 1) L (vI (a + b) :: st) F A al) : QW M d mc ms Post nc ns pc L (vI b :: vI a :: st) F A al := by
  intro p l e R s m args below meth c G P ad0 N0 hc ad H locs ls hs hst
  refine lv_iadd hc.1 hc.2.2.1 hd ?_
  rw [← Int32.ofInt_add]
  exact k p l e R s m args below meth c G P ad0 N0 hc ad H locs ls hs ⟨trivial, hst.2.2⟩
theorem q_isub {a b : Int} (hd : decode M.2.1 pc = .ok (.isub, 1)) (k : QW M d mc ms Post nc ns (pc + 1) L (vI (a - b) :: st) F A al) : QW M d mc ms Post nc ns pc L (vI b :: vI a :: st) F A al := by
  intro p l e R s m args below meth c G P ad0 N0 hc ad H locs ls hs hst
  refine lv_isub hc.1 hc.2.2.1 hd ?_
  rw [← Int32.ofInt_sub]
  exact k p l e R s m args below meth c G P ad0 N0 hc ad H locs ls hs ⟨trivial, hst.2.2⟩
theorem q_imul {a b : Int} (hd : decode M.2.1 pc = .ok (.imul, 1)) (k : QW M d mc ms Post nc ns (pc + 1) L (vI (a * b) :: st) F A al) : QW M d mc ms Post nc ns pc L (vI b :: vI a :: st) F A al := by
  intro p l e R s m args below meth c G P ad0 N0 hc ad H locs ls hs hst
  refine lv_imul hc.1 hc.2.2.1 hd ?_
  rw [← Int32.ofInt_mul]
  exact k p l e R s m args below meth c G P ad0 N0 hc ad H locs ls hs ⟨trivial, hst.2.2⟩
theorem q_ladd {a b : Int} (hd : decode M.2.1 pc = .ok (.ladd, 1)) (k : QW M d mc ms Post nc ns (pc + 1) L (vJ (a + b) :: st) F A al) : QW M d mc ms Post nc ns pc L (vJ b :: vJ a :: st) F A al := by
  intro p l e R s m args below meth c G P ad0 N0 hc ad H locs ls hs hst
  refine lv_ladd hc.1 hc.2.2.1 hd ?_
  rw [← Int64.ofInt_add]
  exact k p l e R s m args below meth c G P ad0 N0 hc ad H locs ls hs ⟨trivial, hst.2.2⟩
theorem q_lsub {a b : Int} (hd : decode M.2.1 pc = .ok (.lsub, 1)) (k : QW M d mc ms Post nc ns (pc + 1) L (vJ (a - b) :: st) F A al) : QW M d mc ms Post nc ns pc L (vJ b :: vJ a :: st) F A al := by
  intro p l e R s m args below meth c G P ad0 N0 hc ad H locs ls hs hst
  refine lv_lsub hc.1 hc.2.2.1 hd ?_
  rw [← Int64.ofInt_sub]
  exact k p l e R s m args below meth c G P ad0 N0 hc ad H locs ls hs ⟨trivial, hst.2.2⟩
theorem q_lmul {a b : Int} (hd : decode M.2.1 pc = .ok (.lmul, 1)) (k : QW M d mc ms Post nc ns (pc + 1) L (vJ (a * b) :: st) F A al) : QW M d mc ms Post nc ns pc L (vJ b :: vJ a :: st) F A al := by
  intro p l e R s m args below meth c G P ad0 N0 hc ad H locs ls hs hst
  refine lv_lmul hc.1 hc.2.2.1 hd ?_
  rw [← Int64.ofInt_mul]
  exact k p l e R s m args below meth c G P ad0 N0 hc ad H locs ls hs ⟨trivial, hst.2.2⟩
theorem q_ineg {a : Int} (hd : decode M.2.1 pc = .ok (.ineg, 1)) (k : QW M d mc ms Post nc ns (pc + 1) L (vI (-a) :: st) F A al) : QW M d mc ms Post nc ns pc L (vI a :: st) F A al := by
  intro p l e R s m args below meth c G P ad0 N0 hc ad H locs ls hs hst
  refine lv_ineg hc.1 hc.2.2.1 hd ?_
  rw [← Int32.ofInt_neg]
  exact k p l e R s m args below meth c G P ad0 N0 hc ad H locs ls hs ⟨trivial, hst.2⟩
theorem q_idivT {a b : Int} (hd : decode M.2.1 pc = .ok (.idiv, 1)) (ha : InR a) (hb : InR b) (hne : b ≠ 0) (k : QW M d mc ms Post nc ns (pc + 1) L (vI (a.tdiv b) :: st) F A al) : QW M d mc ms Post nc ns pc L (vI b :: vI a :: st) F A al := by
  intro p l e R s m args below meth c G P ad0 N0 hc ad H locs ls hs hst
  refine lv_idiv hc.1 hc.2.2.1 hd (fun h => hne ((i_eq0 hb).mp h)) ?_
  rw [← i_tdiv ha hb]
  exact k p l e R s m args below meth c G P ad0 N0 hc ad H locs ls hs ⟨trivial, hst.2.2⟩
theorem q_idiv {a b : Int} (hd : decode M.2.1 pc = .ok (.idiv, 1)) (ha : 0 ≤ a) (ha2 : a < 2147483648) (hb : 0 < b) (hb2 : b < 2147483648) (k : QW M d mc ms Post nc ns (pc + 1) L (vI (a / b) :: st) F A al) : QW M d mc ms Post nc ns pc L (vI b :: vI a :: st) F A al := by
  intro p l e R s m args below meth c G P ad0 N0 hc ad H locs ls hs hst
  refine lv_idiv hc.1 hc.2.2.1 hd (fun h => by have := (i_eq0 (a := b) ⟨by omega, by omega⟩).mp h; omega) ?_
  rw [← i_tdiv ⟨by omega, by omega⟩ ⟨by omega, by omega⟩, Int.tdiv_eq_ediv_of_nonneg ha]
  exact k p l e R s m args below meth c G P ad0 N0 hc ad H locs ls hs ⟨trivial, hst.2.2⟩
theorem q_iremT {a b : Int} (hd : decode M.2.1 pc = .ok (.irem, 1)) (ha : InR a) (hb : InR b) (hne : b ≠ 0) (k : QW M d mc ms Post nc ns (pc + 1) L (vI (a.tmod b) :: st) F A al) : QW M d mc ms Post nc ns pc L (vI b :: vI a :: st) F A al := by
  intro p l e R s m args below meth c G P ad0 N0 hc ad H locs ls hs hst
  refine lv_irem hc.1 hc.2.2.1 hd (fun h => hne ((i_eq0 hb).mp h)) ?_
  rw [← i_tmod ha hb]
  exact k p l e R s m args below meth c G P ad0 N0 hc ad H locs ls hs ⟨trivial, hst.2.2⟩
theorem q_irem {a b : Int} (hd : decode M.2.1 pc = .ok (.irem, 1)) (ha : 0 ≤ a) (ha2 : a < 2147483648) (hb : 0 < b) (hb2 : b < 2147483648) (k : QW M d mc ms Post nc ns (pc + 1) L (vI (a % b) :: st) F A al) : QW M d mc ms Post nc ns pc L (vI b :: vI a :: st) F A al := by
  intro p l e R s m args below meth c G P ad0 N0 hc ad H locs ls hs hst
  refine lv_irem hc.1 hc.2.2.1 hd (fun h => by have := (i_eq0 (a := b) ⟨by omega, by omega⟩).mp h; omega) ?_
  rw [← i_tmod ⟨by omega, by omega⟩ ⟨by omega, by omega⟩, Int.tmod_eq_emod_of_nonneg ha]
  exact k p l e R s m args below meth c G P ad0 N0 hc ad H locs ls hs ⟨trivial, hst.2.2⟩
theorem q_ldiv {a b : Int} (hd : decode M.2.1 pc = .ok (.ldiv, 1)) (ha : 0 ≤ a) (ha2 : a < 9223372036854775808) (hb : 0 < b) (hb2 : b < 9223372036854775808) (k : QW M d mc ms Post nc ns (pc + 1) L (vJ (a / b) :: st) F A al) : QW M d mc ms Post nc ns pc L (vJ b :: vJ a :: st) F A al := by
  intro p l e R s m args below meth c G P ad0 N0 hc ad H locs ls hs hst
  refine lv_ldiv hc.1 hc.2.2.1 hd (fun h => by have := (l_eq0 (a := b) ⟨by omega, by omega⟩).mp h; omega) ?_
  rw [← l_tdiv ⟨by omega, by omega⟩ ⟨by omega, by omega⟩, Int.tdiv_eq_ediv_of_nonneg ha]
  exact k p l e R s m args below meth c G P ad0 N0 hc ad H locs ls hs ⟨trivial, hst.2.2⟩
theorem q_lrem {a b : Int} (hd : decode M.2.1 pc = .ok (.lrem, 1)) (ha : 0 ≤ a) (ha2 : a < 9223372036854775808) (hb : 0 < b) (hb2 : b < 9223372036854775808) (k : QW M d mc ms Post nc ns (pc + 1) L (vJ (a % b) :: st) F A al) : QW M d mc ms Post nc ns pc L (vJ b :: vJ a :: st) F A al := by
  intro p l e R s m args below meth c G P ad0 N0 hc ad H locs ls hs hst
  refine lv_lrem hc.1 hc.2.2.1 hd (fun h => by have := (l_eq0 (a := b) ⟨by omega, by omega⟩).mp h; omega) ?_
  rw [← l_tmod ⟨by omega, by omega⟩ ⟨by omega, by omega⟩, Int.tmod_eq_emod_of_nonneg ha]
  exact k p l e R s m args below meth c G P ad0 N0 hc ad H locs ls hs ⟨trivial, hst.2.2⟩
theorem q_iand1 {a : Int} (hd : decode M.2.1 pc = .ok (.iand, 1)) (k : QW M d mc ms Post nc ns (pc + 1) L (vI (a % 2) :: st) F A al) : QW M d mc ms Post nc ns pc L (vI 1 :: vI a :: st) F A al := by
  intro p l e R s m args below meth c G P ad0 N0 hc ad H locs ls hs hst
  refine lv_iand hc.1 hc.2.2.1 hd ?_
  rw [i_and1]
  exact k p l e R s m args below meth c G P ad0 N0 hc ad H locs ls hs ⟨trivial, hst.2.2⟩
theorem q_iand31 {a : Int} (hd : decode M.2.1 pc = .ok (.iand, 1)) (k : QW M d mc ms Post nc ns (pc + 1) L (vI (a % 32) :: st) F A al) : QW M d mc ms Post nc ns pc L (vI 31 :: vI a :: st) F A al := by
  intro p l e R s m args below meth c G P ad0 N0 hc ad H locs ls hs hst
  refine lv_iand hc.1 hc.2.2.1 hd ?_
  rw [i_and31]
  exact k p l e R s m args below meth c G P ad0 N0 hc ad H locs ls hs ⟨trivial, hst.2.2⟩
theorem q_iand255 {a : Int} (hd : decode M.2.1 pc = .ok (.iand, 1)) (k : QW M d mc ms Post nc ns (pc + 1) L (vI (a % 256) :: st) F A al) : QW M d mc ms Post nc ns pc L (vI 255 :: vI a :: st) F A al := by
  intro p l e R s m args below meth c G P ad0 N0 hc ad H locs ls hs hst
  refine lv_iand hc.1 hc.2.2.1 hd ?_
  rw [i_and255]
  exact k p l e R s m args below meth c G P ad0 N0 hc ad H locs ls hs ⟨trivial, hst.2.2⟩
theorem q_ishr {a b : Int} {n : Nat} (hd : decode M.2.1 pc = .ok (.ishr, 1)) (ha : InR a) (hb : b = n) (hn : n < 32) (k : QW M d mc ms Post nc ns (pc + 1) L (vI (a / 2 ^ n) :: st) F A al) : QW M d mc ms Post nc ns pc L (vI b :: vI a :: st) F A al := by
  intro p l e R s m args below meth c G P ad0 N0 hc ad H locs ls hs hst
  subst hb
  refine lv_ishr hc.1 hc.2.2.1 hd ?_
  rw [i_shr ha hn]
  exact k p l e R s m args below meth c G P ad0 N0 hc ad H locs ls hs ⟨trivial, hst.2.2⟩
theorem q_ixor {a b : Int} (hd : decode M.2.1 pc = .ok (.ixor, 1)) (k : QW M d mc ms Post nc ns (pc + 1) L (vI (Int32.ofInt a ^^^ Int32.ofInt b).toInt :: st) F A al) : QW M d mc ms Post nc ns pc L (vI b :: vI a :: st) F A al := by
  intro p l e R s m args below meth c G P ad0 N0 hc ad H locs ls hs hst
  refine lv_ixor hc.1 hc.2.2.1 hd ?_
  rw [show Int32.ofInt a ^^^ Int32.ofInt b = Int32.ofInt (Int32.ofInt a ^^^ Int32.ofInt b).toInt from (Int32.ofInt_toInt _).symm]
  exact k p l e R s m args below meth c G P ad0 N0 hc ad H locs ls hs ⟨trivial, hst.2.2⟩
theorem q_i2l {a : Int} (hd : decode M.2.1 pc = .ok (.i2l, 1)) (ha : InR a) (k : QW M d mc ms Post nc ns (pc + 1) L (vJ a :: st) F A al) : QW M d mc ms Post nc ns pc L (vI a :: st) F A al := by
  intro p l e R s m args below meth c G P ad0 N0 hc ad H locs ls hs hst
  refine lv_i2l (v := Int64.ofInt a) hc.1 hc.2.2.1 hd (i_i2l ha) ?_
  exact k p l e R s m args below meth c G P ad0 N0 hc ad H locs ls hs ⟨trivial, hst.2⟩
theorem q_i2b {a : Int} (hd : decode M.2.1 pc = .ok (.i2b, 1)) (k : QW M d mc ms Post nc ns (pc + 1) L (vI (a.bmod 256) :: st) F A al) : QW M d mc ms Post nc ns pc L (vI a :: st) F A al := by
  intro p l e R s m args below meth c G P ad0 N0 hc ad H locs ls hs hst
  refine lv_i2b (v := Int32.ofInt (a.bmod 256)) hc.1 hc.2.2.1 hd (by apply Int32.toInt_inj.mp; rw [Int8.toInt_toInt32, Int32.toInt_toInt8, Int32.toInt_ofInt]; have h1 := Int.le_bmod (x := a) (m := 256) (by decide); have h2 := Int.bmod_lt (x := a) (m := 256) (by decide); rw [i_toInt ⟨by omega, by omega⟩]; exact Int.bmod_bmod_of_dvd (by decide)) ?_
  exact k p l e R s m args below meth c G P ad0 N0 hc ad H locs ls hs ⟨trivial, hst.2⟩
theorem q_lcmp {a b : Int} (hd : decode M.2.1 pc = .ok (.lcmp, 1)) (ha : InL a) (hb : InL b) (k : QW M d mc ms Post nc ns (pc + 1) L (vI (cmpL a b) :: st) F A al) : QW M d mc ms Post nc ns pc L (vJ b :: vJ a :: st) F A al := by
  intro p l e R s m args below meth c G P ad0 N0 hc ad H locs ls hs hst
  refine W.lcmp hc.1 hc.2.2.1 hd ?_
  rw [l_cmp ha hb]
  exact k p l e R s m args below meth c G P ad0 N0 hc ad H locs ls hs ⟨trivial, hst.2.2⟩
theorem q_iconst {n : Int} (hd : decode M.2.1 pc = .ok (.iconst n, 1)) (k : QW M d mc ms Post nc ns (pc + 1) L (vI n :: st) F A al) : QW M d mc ms Post nc ns pc L st F A al := by
  intro p l e R s m args below meth c G P ad0 N0 hc ad H locs ls hs hst
  exact lv_iconst hc.1 hc.2.2.1 hd rfl (k p l e R s m args below meth c G P ad0 N0 hc ad H locs ls hs ⟨trivial, hst⟩)
theorem q_bipush {n : Int} (hd : decode M.2.1 pc = .ok (.bipush n, 2)) (hn : (Int8.ofInt n).toInt32 = Int32.ofInt n) (k : QW M d mc ms Post nc ns (pc + 2) L (vI n :: st) F A al) : QW M d mc ms Post nc ns pc L st F A al := by
  intro p l e R s m args below meth c G P ad0 N0 hc ad H locs ls hs hst
  exact lv_bipush hc.1 hc.2.2.1 hd hn (k p l e R s m args below meth c G P ad0 N0 hc ad H locs ls hs ⟨trivial, hst⟩)
theorem q_sipush {n : Int} (hd : decode M.2.1 pc = .ok (.sipush n, 3)) (hn : (Int16.ofInt n).toInt32 = Int32.ofInt n) (k : QW M d mc ms Post nc ns (pc + 3) L (vI n :: st) F A al) : QW M d mc ms Post nc ns pc L st F A al := by
  intro p l e R s m args below meth c G P ad0 N0 hc ad H locs ls hs hst
  exact lv_sipush hc.1 hc.2.2.1 hd hn (k p l e R s m args below meth c G P ad0 N0 hc ad H locs ls hs ⟨trivial, hst⟩)
theorem q_lconst {n : Fin 2} {v : Int} (hd : decode M.2.1 pc = .ok (.lconst n, 1)) (hv : Int64.ofNat (n : Nat) = Int64.ofInt v) (k : QW M d mc ms Post nc ns (pc + 1) L (vJ v :: st) F A al) : QW M d mc ms Post nc ns pc L st F A al := by
  intro p l e R s m args below meth c G P ad0 N0 hc ad H locs ls hs hst
  exact lv_lconst hc.1 hc.2.2.1 hd hv (k p l e R s m args below meth c G P ad0 N0 hc ad H locs ls hs ⟨trivial, hst⟩)
theorem q_ldc {i : Nat} {v : Int} (hd : decode M.2.1 pc = .ok (.ldc i, 2)) (hw : Cond.constant M.1.cls i (Int32.ofInt v) ∈ TBg) (k : QW M d mc ms Post nc ns (pc + 2) L (vI v :: st) F A al) : QW M d mc ms Post nc ns pc L st F A al := by
  intro p l e R s m args below meth c G P ad0 N0 hc ad H locs ls hs hst
  exact lv_ldc hc.1 hc.2.2.1 hc.2.2.2.2.1 (hc.2.2.2.2.2.1 _ hw) hd (k p l e R s m args below meth c G P ad0 N0 hc ad H locs ls hs ⟨trivial, hst⟩)
theorem q_ldcw {i : Nat} {v : Int} (hd : decode M.2.1 pc = .ok (.ldc_w i, 3)) (hw : Cond.constant M.1.cls i (Int32.ofInt v) ∈ TBg) (k : QW M d mc ms Post nc ns (pc + 3) L (vI v :: st) F A al) : QW M d mc ms Post nc ns pc L st F A al := by
  intro p l e R s m args below meth c G P ad0 N0 hc ad H locs ls hs hst
  exact lv_ldcw hc.1 hc.2.2.1 hc.2.2.2.2.1 (hc.2.2.2.2.2.1 _ hw) hd (k p l e R s m args below meth c G P ad0 N0 hc ad H locs ls hs ⟨trivial, hst⟩)
theorem q_ldc2 {i : Nat} {v : Int} (hd : decode M.2.1 pc = .ok (.ldc2_w i, 3)) (hw : Cond.constantLong M.1.cls i (Int64.ofInt v) ∈ TBg) (k : QW M d mc ms Post nc ns (pc + 3) L (vJ v :: st) F A al) : QW M d mc ms Post nc ns pc L st F A al := by
  intro p l e R s m args below meth c G P ad0 N0 hc ad H locs ls hs hst
  exact lv_ldc2 hc.1 hc.2.2.1 hc.2.2.2.2.1 (hc.2.2.2.2.2.1 _ hw) hd (k p l e R s m args below meth c G P ad0 N0 hc ad H locs ls hs ⟨trivial, hst⟩)
theorem q_iload_n {j : Fin 4} {x : Int} (hd : decode M.2.1 pc = .ok (.iload_n j, 1)) (hl : L[(j : Nat)]? = some (some (vI x))) (k : QW M d mc ms Post nc ns (pc + 1) L (vI x :: st) F A al) : QW M d mc ms Post nc ns pc L st F A al := by
  intro p l e R s m args below meth c G P ad0 N0 hc ad H locs ls hs hst
  exact lv_iload_n hc.1 hc.2.2.1 hd rfl (hs.2.2.2.2.1.2.2 _ _ hl).2 (k p l e R s m args below meth c G P ad0 N0 hc ad H locs ls hs ⟨(hs.2.2.2.2.1.2.2 _ _ hl).1, hst⟩)
theorem q_iload {j : Nat} {x : Int} (hd : decode M.2.1 pc = .ok (.iload j, 2)) (hl : L[j]? = some (some (vI x))) (k : QW M d mc ms Post nc ns (pc + 2) L (vI x :: st) F A al) : QW M d mc ms Post nc ns pc L st F A al := by
  intro p l e R s m args below meth c G P ad0 N0 hc ad H locs ls hs hst
  exact lv_iload hc.1 hc.2.2.1 hd (hs.2.2.2.2.1.2.2 _ _ hl).2 (k p l e R s m args below meth c G P ad0 N0 hc ad H locs ls hs ⟨(hs.2.2.2.2.1.2.2 _ _ hl).1, hst⟩)
theorem q_lload_n {j : Fin 4} {x : Int} (hd : decode M.2.1 pc = .ok (.lload_n j, 1)) (hl : L[(j : Nat)]? = some (some (vJ x))) (k : QW M d mc ms Post nc ns (pc + 1) L (vJ x :: st) F A al) : QW M d mc ms Post nc ns pc L st F A al := by
  intro p l e R s m args below meth c G P ad0 N0 hc ad H locs ls hs hst
  exact lv_lload_n hc.1 hc.2.2.1 hd rfl (hs.2.2.2.2.1.2.2 _ _ hl).2 (k p l e R s m args below meth c G P ad0 N0 hc ad H locs ls hs ⟨(hs.2.2.2.2.1.2.2 _ _ hl).1, hst⟩)
theorem q_lload {j : Nat} {x : Int} (hd : decode M.2.1 pc = .ok (.lload j, 2)) (hl : L[j]? = some (some (vJ x))) (k : QW M d mc ms Post nc ns (pc + 2) L (vJ x :: st) F A al) : QW M d mc ms Post nc ns pc L st F A al := by
  intro p l e R s m args below meth c G P ad0 N0 hc ad H locs ls hs hst
  exact lv_lload hc.1 hc.2.2.1 hd (hs.2.2.2.2.1.2.2 _ _ hl).2 (k p l e R s m args below meth c G P ad0 N0 hc ad H locs ls hs ⟨(hs.2.2.2.2.1.2.2 _ _ hl).1, hst⟩)
theorem q_aload_n {j : Fin 4} {x : Nat} (hd : decode M.2.1 pc = .ok (.aload_n j, 1)) (hl : L[(j : Nat)]? = some (some (vA x))) (k : QW M d mc ms Post nc ns (pc + 1) L (vA x :: st) F A al) : QW M d mc ms Post nc ns pc L st F A al := by
  intro p l e R s m args below meth c G P ad0 N0 hc ad H locs ls hs hst
  exact lv_aload_n hc.1 hc.2.2.1 hd rfl (hs.2.2.2.2.1.2.2 _ _ hl).2 (k p l e R s m args below meth c G P ad0 N0 hc ad H locs ls hs ⟨(hs.2.2.2.2.1.2.2 _ _ hl).1, hst⟩)
theorem q_aload {j : Nat} {x : Nat} (hd : decode M.2.1 pc = .ok (.aload j, 2)) (hl : L[j]? = some (some (vA x))) (k : QW M d mc ms Post nc ns (pc + 2) L (vA x :: st) F A al) : QW M d mc ms Post nc ns pc L st F A al := by
  intro p l e R s m args below meth c G P ad0 N0 hc ad H locs ls hs hst
  exact lv_aload hc.1 hc.2.2.1 hd (hs.2.2.2.2.1.2.2 _ _ hl).2 (k p l e R s m args below meth c G P ad0 N0 hc ad H locs ls hs ⟨(hs.2.2.2.2.1.2.2 _ _ hl).1, hst⟩)
theorem q_istore_n {j : Fin 4} {x : Int} (hd : decode M.2.1 pc = .ok (.istore_n j, 1)) (hj : (j : Nat) < M.2.2.1) (ho : okS L j = true) (k : QW M d mc ms Post nc ns (pc + 1) (L.set j (some (vI x))) st F A al) : QW M d mc ms Post nc ns pc L (vI x :: st) F A al := by
  intro p l e R s m args below meth c G P ad0 N0 hc ad H locs ls hs hst
  exact lv_istore_n hc.1 hc.2.2.1 hd rfl hs.2.2.2.2.1.to hj rfl fun ls9 h9 => k p l e R s m args below meth c G P ad0 N0 hc ad H locs ls9 ⟨hs.1, hs.2.1, hs.2.2.1, hs.2.2.2.1, hs.2.2.2.2.1.of1 ho trivial h9, hs.2.2.2.2.2⟩ hst.2
theorem q_istore {j : Nat} {x : Int} (hd : decode M.2.1 pc = .ok (.istore j, 2)) (hj : j < M.2.2.1) (ho : okS L j = true) (k : QW M d mc ms Post nc ns (pc + 2) (L.set j (some (vI x))) st F A al) : QW M d mc ms Post nc ns pc L (vI x :: st) F A al := by
  intro p l e R s m args below meth c G P ad0 N0 hc ad H locs ls hs hst
  exact lv_istore hc.1 hc.2.2.1 hd hs.2.2.2.2.1.to hj rfl fun ls9 h9 => k p l e R s m args below meth c G P ad0 N0 hc ad H locs ls9 ⟨hs.1, hs.2.1, hs.2.2.1, hs.2.2.2.1, hs.2.2.2.2.1.of1 ho trivial h9, hs.2.2.2.2.2⟩ hst.2
theorem q_astore_n {j : Fin 4} {x : Nat} (hd : decode M.2.1 pc = .ok (.astore_n j, 1)) (hj : (j : Nat) < M.2.2.1) (ho : okS L j = true) (k : QW M d mc ms Post nc ns (pc + 1) (L.set j (some (vA x))) st F A al) : QW M d mc ms Post nc ns pc L (vA x :: st) F A al := by
  intro p l e R s m args below meth c G P ad0 N0 hc ad H locs ls hs hst
  exact lv_astore_n hc.1 hc.2.2.1 hd rfl hs.2.2.2.2.1.to hj rfl fun ls9 h9 => k p l e R s m args below meth c G P ad0 N0 hc ad H locs ls9 ⟨hs.1, hs.2.1, hs.2.2.1, hs.2.2.2.1, hs.2.2.2.2.1.of1 ho hst.1 h9, hs.2.2.2.2.2⟩ hst.2
theorem q_astore {j : Nat} {x : Nat} (hd : decode M.2.1 pc = .ok (.astore j, 2)) (hj : j < M.2.2.1) (ho : okS L j = true) (k : QW M d mc ms Post nc ns (pc + 2) (L.set j (some (vA x))) st F A al) : QW M d mc ms Post nc ns pc L (vA x :: st) F A al := by
  intro p l e R s m args below meth c G P ad0 N0 hc ad H locs ls hs hst
  exact lv_astore hc.1 hc.2.2.1 hd hs.2.2.2.2.1.to hj rfl fun ls9 h9 => k p l e R s m args below meth c G P ad0 N0 hc ad H locs ls9 ⟨hs.1, hs.2.1, hs.2.2.1, hs.2.2.2.1, hs.2.2.2.2.1.of1 ho hst.1 h9, hs.2.2.2.2.2⟩ hst.2
theorem q_ostore_n {j : Fin 4} {x : Nat} (hd : decode M.2.1 pc = .ok (.astore_n j, 1)) (hj : (j : Nat) < M.2.2.1) (ho : okS L j = true) (k : QW M d mc ms Post nc ns (pc + 1) (L.set j (some (vO x))) st F A al) : QW M d mc ms Post nc ns pc L (vO x :: st) F A al := by
  intro p l e R s m args below meth c G P ad0 N0 hc ad H locs ls hs hst
  exact lv_astore_n hc.1 hc.2.2.1 hd rfl hs.2.2.2.2.1.to hj rfl fun ls9 h9 => k p l e R s m args below meth c G P ad0 N0 hc ad H locs ls9 ⟨hs.1, hs.2.1, hs.2.2.1, hs.2.2.2.1, hs.2.2.2.2.1.of1 ho trivial h9, hs.2.2.2.2.2⟩ hst.2
theorem q_ostore {j : Nat} {x : Nat} (hd : decode M.2.1 pc = .ok (.astore j, 2)) (hj : j < M.2.2.1) (ho : okS L j = true) (k : QW M d mc ms Post nc ns (pc + 2) (L.set j (some (vO x))) st F A al) : QW M d mc ms Post nc ns pc L (vO x :: st) F A al := by
  intro p l e R s m args below meth c G P ad0 N0 hc ad H locs ls hs hst
  exact lv_astore hc.1 hc.2.2.1 hd hs.2.2.2.2.1.to hj rfl fun ls9 h9 => k p l e R s m args below meth c G P ad0 N0 hc ad H locs ls9 ⟨hs.1, hs.2.1, hs.2.2.1, hs.2.2.2.1, hs.2.2.2.2.1.of1 ho trivial h9, hs.2.2.2.2.2⟩ hst.2
theorem q_lstore_n {j : Fin 4} {x : Int} (hd : decode M.2.1 pc = .ok (.lstore_n j, 1)) (hj : (j : Nat) + 1 < M.2.2.1) (ho : okS L j = true) (k : QW M d mc ms Post nc ns (pc + 1) ((L.set j (some (vJ x))).set (j + 1) none) st F A al) : QW M d mc ms Post nc ns pc L (vJ x :: st) F A al := by
  intro p l e R s m args below meth c G P ad0 N0 hc ad H locs ls hs hst
  exact lv_lstore_n hc.1 hc.2.2.1 hd rfl hs.2.2.2.2.1.to hj rfl fun ls9 h9 => k p l e R s m args below meth c G P ad0 N0 hc ad H locs ls9 ⟨hs.1, hs.2.1, hs.2.2.1, hs.2.2.2.1, hs.2.2.2.2.1.of2 ho trivial h9, hs.2.2.2.2.2⟩ hst.2
theorem q_lstore {j : Nat} {x : Int} (hd : decode M.2.1 pc = .ok (.lstore j, 2)) (hj : j + 1 < M.2.2.1) (ho : okS L j = true) (k : QW M d mc ms Post nc ns (pc + 2) ((L.set j (some (vJ x))).set (j + 1) none) st F A al) : QW M d mc ms Post nc ns pc L (vJ x :: st) F A al := by
  intro p l e R s m args below meth c G P ad0 N0 hc ad H locs ls hs hst
  exact lv_lstore hc.1 hc.2.2.1 hd hs.2.2.2.2.1.to hj rfl fun ls9 h9 => k p l e R s m args below meth c G P ad0 N0 hc ad H locs ls9 ⟨hs.1, hs.2.1, hs.2.2.1, hs.2.2.2.1, hs.2.2.2.2.1.of2 ho trivial h9, hs.2.2.2.2.2⟩ hst.2
theorem lof_at {ad : Nat → Nat} {L : List (Option LV)} {j : Nat} {v : LV} (h : L[j]? = some (some v)) : ∃ i : Nat, (lof ad L)[i]? = some (j, tr ad v) := by
  have h1 : (j, tr ad v) ∈ lof ad L := lof_mem.mpr ⟨v, h, rfl⟩
  exact List.getElem?_of_mem h1
theorem q_iinc {j : Nat} {n x : Int} (hd : decode M.2.1 pc = .ok (.iinc j n, 3)) (hl : L[j]? = some (some (vI x))) (hj : j < M.2.2.1) (ho : okS L j = true) (k : QW M d mc ms Post nc ns (pc + 3) (L.set j (some (vI (x + n)))) st F A al) : QW M d mc ms Post nc ns pc L st F A al := by
  intro p l e R s m args below meth c G P ad0 N0 hc ad H locs ls hs hst
  obtain ⟨i, hi⟩ := lof_at (ad := ad) hl
  exact lv_iinc (v := Int32.ofInt (x + n)) hc.1 hc.2.2.1 hd hs.2.2.2.2.1.to hi (Int32.ofInt_add x n).symm hj rfl fun ls9 h9 => k p l e R s m args below meth c G P ad0 N0 hc ad H locs ls9 ⟨hs.1, hs.2.1, hs.2.2.1, hs.2.2.2.1, hs.2.2.2.2.1.of1 (v := vI (x + n)) ho trivial h9, hs.2.2.2.2.2⟩ hst
theorem q_dup {v : LV} (hd : decode M.2.1 pc = .ok (.dup, 1)) (hv : c2 v = false) (k : QW M d mc ms Post nc ns (pc + 1) L (v :: v :: st) F A al) : QW M d mc ms Post nc ns pc L (v :: st) F A al := by
  intro p l e R s m args below meth c G P ad0 N0 hc ad H locs ls hs hst
  exact lv_dup hc.1 hc.2.2.1 hd (by rw [tr_cat, hv]; rfl) (k p l e R s m args below meth c G P ad0 N0 hc ad H locs ls hs ⟨hst.1, hst⟩)
theorem q_pop {v : LV} (hd : decode M.2.1 pc = .ok (.pop, 1)) (hv : c2 v = false) (k : QW M d mc ms Post nc ns (pc + 1) L st F A al) : QW M d mc ms Post nc ns pc L (v :: st) F A al := by
  intro p l e R s m args below meth c G P ad0 N0 hc ad H locs ls hs hst
  exact lv_pop hc.1 hc.2.2.1 hd (by rw [tr_cat, hv]; rfl) (k p l e R s m args below meth c G P ad0 N0 hc ad H locs ls hs hst.2)
theorem q_dup2 {v w : LV} (hd : decode M.2.1 pc = .ok (.dup2, 1)) (hv : c2 v = false) (hw : c2 w = false) (k : QW M d mc ms Post nc ns (pc + 1) L (v :: w :: v :: w :: st) F A al) : QW M d mc ms Post nc ns pc L (v :: w :: st) F A al := by
  intro p l e R s m args below meth c G P ad0 N0 hc ad H locs ls hs hst
  exact lv_dup2_11 hc.1 hc.2.2.1 hd (by rw [tr_cat, hv]; rfl) (by rw [tr_cat, hw]; rfl) (k p l e R s m args below meth c G P ad0 N0 hc ad H locs ls hs ⟨hst.1, hst.2.1, hst⟩)
theorem q_goto {off : Int} {tgt : Nat} (hd : decode M.2.1 pc = .ok (.goto off, 3)) (ht : (pc : Int) + off = (tgt : Int)) (k : QW M d mc ms Post nc ns tgt L st F A al) : QW M d mc ms Post nc ns pc L st F A al := by
  intro p l e R s m args below meth c G P ad0 N0 hc ad H locs ls hs hst
  exact lv_goto hc.1 hc.2.2.1 hd ht (k p l e R s m args below meth c G P ad0 N0 hc ad H locs ls hs hst)
theorem q_if_ne {a : Int} {off : Int} {tgt : Nat} (hd : decode M.2.1 pc = .ok (.ifCond .ne off, 3)) (ht : (pc : Int) + off = (tgt : Int)) (ha : InR a) (kt : ¬ a = 0 → QW M d mc ms Post nc ns tgt L st F A al) (kf : a = 0 → QW M d mc ms Post nc ns (pc + 3) L st F A al) : QW M d mc ms Post nc ns pc L (vI a :: st) F A al := by
  intro p l e R s m args below meth c G P ad0 N0 hc ad H locs ls hs hst
  exact lv_if_ne hc.1 hc.2.2.1 hd ht (fun h => kt (fun h9 => h ((i_eq0 ha).mpr h9)) p l e R s m args below meth c G P ad0 N0 hc ad H locs ls hs hst.2) (fun h => kf ((i_eq0 ha).mp h) p l e R s m args below meth c G P ad0 N0 hc ad H locs ls hs hst.2)
theorem q_icmp_ne {a b : Int} {off : Int} {tgt : Nat} (hd : decode M.2.1 pc = .ok (.if_icmp .ne off, 3)) (ht : (pc : Int) + off = (tgt : Int)) (ha : InR a) (hb : InR b) (kt : ¬ a = b → QW M d mc ms Post nc ns tgt L st F A al) (kf : a = b → QW M d mc ms Post nc ns (pc + 3) L st F A al) : QW M d mc ms Post nc ns pc L (vI b :: vI a :: st) F A al := by
  intro p l e R s m args below meth c G P ad0 N0 hc ad H locs ls hs hst
  exact lv_icmp_ne hc.1 hc.2.2.1 hd ht (fun h => kt (fun h9 => h ((i_eq ha hb).mpr h9)) p l e R s m args below meth c G P ad0 N0 hc ad H locs ls hs hst.2.2) (fun h => kf ((i_eq ha hb).mp h) p l e R s m args below meth c G P ad0 N0 hc ad H locs ls hs hst.2.2)
theorem q_if_eq {a : Int} {off : Int} {tgt : Nat} (hd : decode M.2.1 pc = .ok (.ifCond .eq off, 3)) (ht : (pc : Int) + off = (tgt : Int)) (ha : InR a) (kt : a = 0 → QW M d mc ms Post nc ns tgt L st F A al) (kf : ¬ a = 0 → QW M d mc ms Post nc ns (pc + 3) L st F A al) : QW M d mc ms Post nc ns pc L (vI a :: st) F A al := by
  intro p l e R s m args below meth c G P ad0 N0 hc ad H locs ls hs hst
  exact lv_if_eq hc.1 hc.2.2.1 hd ht (fun h => kt ((i_eq0 ha).mp h) p l e R s m args below meth c G P ad0 N0 hc ad H locs ls hs hst.2) (fun h => kf (fun h9 => h ((i_eq0 ha).mpr h9)) p l e R s m args below meth c G P ad0 N0 hc ad H locs ls hs hst.2)
theorem q_if_lt {a : Int} {off : Int} {tgt : Nat} (hd : decode M.2.1 pc = .ok (.ifCond .lt off, 3)) (ht : (pc : Int) + off = (tgt : Int)) (ha : InR a) (kt : a < 0 → QW M d mc ms Post nc ns tgt L st F A al) (kf : ¬ a < 0 → QW M d mc ms Post nc ns (pc + 3) L st F A al) : QW M d mc ms Post nc ns pc L (vI a :: st) F A al := by
  intro p l e R s m args below meth c G P ad0 N0 hc ad H locs ls hs hst
  exact lv_if_lt hc.1 hc.2.2.1 hd ht (fun h => kt ((i_lt0 ha).mp h) p l e R s m args below meth c G P ad0 N0 hc ad H locs ls hs hst.2) (fun h => kf (fun h9 => h ((i_lt0 ha).mpr h9)) p l e R s m args below meth c G P ad0 N0 hc ad H locs ls hs hst.2)
theorem q_if_ge {a : Int} {off : Int} {tgt : Nat} (hd : decode M.2.1 pc = .ok (.ifCond .ge off, 3)) (ht : (pc : Int) + off = (tgt : Int)) (ha : InR a) (kt : 0 ≤ a → QW M d mc ms Post nc ns tgt L st F A al) (kf : ¬ 0 ≤ a → QW M d mc ms Post nc ns (pc + 3) L st F A al) : QW M d mc ms Post nc ns pc L (vI a :: st) F A al := by
  intro p l e R s m args below meth c G P ad0 N0 hc ad H locs ls hs hst
  exact lv_if_ge hc.1 hc.2.2.1 hd ht (fun h => kt ((i_0le ha).mp h) p l e R s m args below meth c G P ad0 N0 hc ad H locs ls hs hst.2) (fun h => kf (fun h9 => h ((i_0le ha).mpr h9)) p l e R s m args below meth c G P ad0 N0 hc ad H locs ls hs hst.2)
theorem q_if_gt {a : Int} {off : Int} {tgt : Nat} (hd : decode M.2.1 pc = .ok (.ifCond .gt off, 3)) (ht : (pc : Int) + off = (tgt : Int)) (ha : InR a) (kt : 0 < a → QW M d mc ms Post nc ns tgt L st F A al) (kf : ¬ 0 < a → QW M d mc ms Post nc ns (pc + 3) L st F A al) : QW M d mc ms Post nc ns pc L (vI a :: st) F A al := by
  intro p l e R s m args below meth c G P ad0 N0 hc ad H locs ls hs hst
  exact lv_if_gt hc.1 hc.2.2.1 hd ht (fun h => kt ((i_0lt ha).mp h) p l e R s m args below meth c G P ad0 N0 hc ad H locs ls hs hst.2) (fun h => kf (fun h9 => h ((i_0lt ha).mpr h9)) p l e R s m args below meth c G P ad0 N0 hc ad H locs ls hs hst.2)
theorem q_if_le {a : Int} {off : Int} {tgt : Nat} (hd : decode M.2.1 pc = .ok (.ifCond .le off, 3)) (ht : (pc : Int) + off = (tgt : Int)) (ha : InR a) (kt : a ≤ 0 → QW M d mc ms Post nc ns tgt L st F A al) (kf : ¬ a ≤ 0 → QW M d mc ms Post nc ns (pc + 3) L st F A al) : QW M d mc ms Post nc ns pc L (vI a :: st) F A al := by
  intro p l e R s m args below meth c G P ad0 N0 hc ad H locs ls hs hst
  exact lv_if_le hc.1 hc.2.2.1 hd ht (fun h => kt ((i_le0 ha).mp h) p l e R s m args below meth c G P ad0 N0 hc ad H locs ls hs hst.2) (fun h => kf (fun h9 => h ((i_le0 ha).mpr h9)) p l e R s m args below meth c G P ad0 N0 hc ad H locs ls hs hst.2)
theorem q_icmp_eq {a b : Int} {off : Int} {tgt : Nat} (hd : decode M.2.1 pc = .ok (.if_icmp .eq off, 3)) (ht : (pc : Int) + off = (tgt : Int)) (ha : InR a) (hb : InR b) (kt : a = b → QW M d mc ms Post nc ns tgt L st F A al) (kf : ¬ a = b → QW M d mc ms Post nc ns (pc + 3) L st F A al) : QW M d mc ms Post nc ns pc L (vI b :: vI a :: st) F A al := by
  intro p l e R s m args below meth c G P ad0 N0 hc ad H locs ls hs hst
  exact lv_icmp_eq hc.1 hc.2.2.1 hd ht (fun h => kt ((i_eq ha hb).mp h) p l e R s m args below meth c G P ad0 N0 hc ad H locs ls hs hst.2.2) (fun h => kf (fun h9 => h ((i_eq ha hb).mpr h9)) p l e R s m args below meth c G P ad0 N0 hc ad H locs ls hs hst.2.2)
theorem q_icmp_lt {a b : Int} {off : Int} {tgt : Nat} (hd : decode M.2.1 pc = .ok (.if_icmp .lt off, 3)) (ht : (pc : Int) + off = (tgt : Int)) (ha : InR a) (hb : InR b) (kt : a < b → QW M d mc ms Post nc ns tgt L st F A al) (kf : ¬ a < b → QW M d mc ms Post nc ns (pc + 3) L st F A al) : QW M d mc ms Post nc ns pc L (vI b :: vI a :: st) F A al := by
  intro p l e R s m args below meth c G P ad0 N0 hc ad H locs ls hs hst
  exact lv_icmp_lt hc.1 hc.2.2.1 hd ht (fun h => kt ((i_lt ha hb).mp h) p l e R s m args below meth c G P ad0 N0 hc ad H locs ls hs hst.2.2) (fun h => kf (fun h9 => h ((i_lt ha hb).mpr h9)) p l e R s m args below meth c G P ad0 N0 hc ad H locs ls hs hst.2.2)
theorem q_icmp_ge {a b : Int} {off : Int} {tgt : Nat} (hd : decode M.2.1 pc = .ok (.if_icmp .ge off, 3)) (ht : (pc : Int) + off = (tgt : Int)) (ha : InR a) (hb : InR b) (kt : b ≤ a → QW M d mc ms Post nc ns tgt L st F A al) (kf : ¬ b ≤ a → QW M d mc ms Post nc ns (pc + 3) L st F A al) : QW M d mc ms Post nc ns pc L (vI b :: vI a :: st) F A al := by
  intro p l e R s m args below meth c G P ad0 N0 hc ad H locs ls hs hst
  exact lv_icmp_ge hc.1 hc.2.2.1 hd ht (fun h => kt ((i_le hb ha).mp h) p l e R s m args below meth c G P ad0 N0 hc ad H locs ls hs hst.2.2) (fun h => kf (fun h9 => h ((i_le hb ha).mpr h9)) p l e R s m args below meth c G P ad0 N0 hc ad H locs ls hs hst.2.2)
theorem q_icmp_gt {a b : Int} {off : Int} {tgt : Nat} (hd : decode M.2.1 pc = .ok (.if_icmp .gt off, 3)) (ht : (pc : Int) + off = (tgt : Int)) (ha : InR a) (hb : InR b) (kt : b < a → QW M d mc ms Post nc ns tgt L st F A al) (kf : ¬ b < a → QW M d mc ms Post nc ns (pc + 3) L st F A al) : QW M d mc ms Post nc ns pc L (vI b :: vI a :: st) F A al := by
  intro p l e R s m args below meth c G P ad0 N0 hc ad H locs ls hs hst
  exact lv_icmp_gt hc.1 hc.2.2.1 hd ht (fun h => kt ((i_lt hb ha).mp h) p l e R s m args below meth c G P ad0 N0 hc ad H locs ls hs hst.2.2) (fun h => kf (fun h9 => h ((i_lt hb ha).mpr h9)) p l e R s m args below meth c G P ad0 N0 hc ad H locs ls hs hst.2.2)
theorem q_icmp_le {a b : Int} {off : Int} {tgt : Nat} (hd : decode M.2.1 pc = .ok (.if_icmp .le off, 3)) (ht : (pc : Int) + off = (tgt : Int)) (ha : InR a) (hb : InR b) (kt : a ≤ b → QW M d mc ms Post nc ns tgt L st F A al) (kf : ¬ a ≤ b → QW M d mc ms Post nc ns (pc + 3) L st F A al) : QW M d mc ms Post nc ns pc L (vI b :: vI a :: st) F A al := by
  intro p l e R s m args below meth c G P ad0 N0 hc ad H locs ls hs hst
  exact lv_icmp_le hc.1 hc.2.2.1 hd ht (fun h => kt ((i_le ha hb).mp h) p l e R s m args below meth c G P ad0 N0 hc ad H locs ls hs hst.2.2) (fun h => kf (fun h9 => h ((i_le ha hb).mpr h9)) p l e R s m args below meth c G P ad0 N0 hc ad H locs ls hs hst.2.2)
theorem q_tableIn {a dflt lo hi : Int} {offs : Array Int} {len : Nat} {off : Int} {tgt : Nat} (hd : decode M.2.1 pc = .ok (.tableswitch dflt lo hi offs, len)) (ha : InR a) (h1 : lo ≤ a) (h2 : a ≤ hi) (ho : offs[(a - lo).toNat]? = some off) (ht : (pc : Int) + off = (tgt : Int)) (k : QW M d mc ms Post nc ns tgt L st F A al) : QW M d mc ms Post nc ns pc L (vI a :: st) F A al := by
  intro p l e R s m args below meth c G P ad0 N0 hc ad H locs ls hs hst
  refine lv_tableIn hc.1 hc.2.2.1 hd (by rw [i_toInt ha]; omega) (by rw [i_toInt ha]; omega) (by rw [i_toInt ha]; exact ho) ht ?_
  exact k p l e R s m args below meth c G P ad0 N0 hc ad H locs ls hs hst.2
theorem q_tableOut {a dflt lo hi : Int} {offs : Array Int} {len : Nat} {tgt : Nat} (hd : decode M.2.1 pc = .ok (.tableswitch dflt lo hi offs, len)) (ha : InR a) (h : a < lo ∨ hi < a) (ht : (pc : Int) + dflt = (tgt : Int)) (k : QW M d mc ms Post nc ns tgt L st F A al) : QW M d mc ms Post nc ns pc L (vI a :: st) F A al := by
  intro p l e R s m args below meth c G P ad0 N0 hc ad H locs ls hs hst
  refine lv_tableOut hc.1 hc.2.2.1 hd (by rw [i_toInt ha]; exact h) ht ?_
  exact k p l e R s m args below meth c G P ad0 N0 hc ad H locs ls hs hst.2
theorem q_lookup {a dflt off : Int} {ps : Array (Int × Int)} {len : Nat} {tgt : Nat} (hd : decode M.2.1 pc = .ok (.lookupswitch dflt ps, len)) (ha : InR a) (hp : (ps.toList.zip (ps.toList.drop 1)).all (fun (a, next) => a.1 < next.1) = true) (ho : Op.lookupswitch.offset ps.toList dflt a = off) (ht : (pc : Int) + off = (tgt : Int)) (k : QW M d mc ms Post nc ns tgt L st F A al) : QW M d mc ms Post nc ns pc L (vI a :: st) F A al := by
  intro p l e R s m args below meth c G P ad0 N0 hc ad H locs ls hs hst
  refine lv_lookup hc.1 hc.2.2.1 hd hp (by rw [i_toInt ha]; exact ho) ht ?_
  exact k p l e R s m args below meth c G P ad0 N0 hc ad H locs ls hs hst.2
theorem q_retI {a : Int} (hd : decode M.2.1 pc = .ok (.ireturn, 1)) (hr : M.2.2.2.1 = some .int) (hn : nc ≤ mc) (hm : ns ≤ ms) (hp : Post (.inl (some a)) F A al) : QW M d mc ms Post nc ns pc L [vI a] F A al := by
  intro p l e R s m args below meth c G P ad0 N0 hc ad H locs ls hs hst
  refine vx_ret (W.widen hn hm ?_)
  refine W.iret hc.1 hc.2.2.1 (hc.2.2.2.2.2.2.1.trans hr) (fun t ht hW => ⟨⟨some a, F, A, al, ad, rfl, hp, by rw [ht]; exact hs.1.moved hW.alike, hs.2.2.1, hs.2.2.2.1⟩, hs.2.1.F ht⟩) hs.2.1.2.2 hd hc.2.2.2.2.2.2.2.1
theorem q_retZ {a : Int} (hd : decode M.2.1 pc = .ok (.ireturn, 1)) (hr : M.2.2.2.1 = some .boolean) (ha : a = 0 ∨ a = 1) (hn : nc ≤ mc) (hm : ns ≤ ms) (hp : Post (.inl (some a)) F A al) : QW M d mc ms Post nc ns pc L [vI a] F A al := by
  intro p l e R s m args below meth c G P ad0 N0 hc ad H locs ls hs hst
  refine vx_ret (W.widen hn hm ?_)
  refine W.zret (ty := .boolean) hc.1 hc.2.2.1 (hc.2.2.2.2.2.2.1.trans hr) (by rcases ha with rfl | rfl <;> rfl) (fun t ht hW => ⟨⟨some a, F, A, al, ad, rfl, hp, by rw [ht]; exact hs.1.moved hW.alike, hs.2.2.1, hs.2.2.2.1⟩, hs.2.1.F ht⟩) hs.2.1.2.2 hd hc.2.2.2.2.2.2.2.1
theorem q_retV (hd : decode M.2.1 pc = .ok (.return_, 1)) (hr : M.2.2.2.1 = none) (hn : nc ≤ mc) (hm : ns ≤ ms) (hp : Post (.inl none) F A al) : QW M d mc ms Post nc ns pc L [] F A al := by
  intro p l e R s m args below meth c G P ad0 N0 hc ad H locs ls hs hst
  refine vx_ret (W.widen hn hm ?_)
  refine W.vret hc.1 hc.2.2.1 (hc.2.2.2.2.2.2.1.trans hr) (fun t ht hW => ⟨⟨none, F, A, al, ad, rfl, hp, by rw [ht]; exact hs.1.moved hW.alike, hs.2.2.1, hs.2.2.2.1⟩, hs.2.1.F ht⟩) hs.2.1.2.2 hd hc.2.2.2.2.2.2.2.1
end QRows
