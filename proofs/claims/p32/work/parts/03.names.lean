theorem pin_i {ws : List Cond} (ps : List Nat) (hp : ws = ps.filterMap (fun i => lw_tbl[i]?)) : ∀ w ∈ ws, w ∈ lw_tbl := by
  intro w hw
  rw [hp] at hw
  obtain ⟨i, -, hi⟩ := List.mem_filterMap.mp hw
  exact List.mem_of_getElem? hi
def RX0 : String := "RootedRing$Below"
def TX0 : u_T := fun k => match k with
  | _ => ("", "", "", false)
def tyX0 : Nat → FieldType := fun k => match k with
  | _ => .int
abbrev wsX00 : List Cond := u_ws RX0 TX0 0
theorem nmX0 : ∀ a, a < 0 → ∀ b, b < 0 → a ≠ b → (TX0 a).2.1 ≠ (TX0 b).2.1 := by decide +kernel
theorem tyX0_ok : ∀ k, k < 0 → parseFieldDescriptor (TX0 k).2.2.1 = some (tyX0 k) := by decide +kernel
abbrev cX0_leastPrime : ByteArray := prog_2_method_2_code
def yX0_leastPrime : MethodName := ⟨RX0, "leastPrime", "(II)I"⟩
abbrev cX0_isPrime : ByteArray := prog_2_method_3_code
def yX0_isPrime : MethodName := ⟨RX0, "isPrime", "(III)Z"⟩
abbrev cX0_leftBy : ByteArray := prog_2_method_4_code
def yX0_leftBy : MethodName := ⟨RX0, "leftBy", "(IIIII)I"⟩
def RX1 : String := "RootedRing$CyclicCode"
def TX1 : u_T := fun k => match k with
  | 0 => ("RootedRing$CyclicCode", "galois", "LRootedRing$Galois;", true)
  | 1 => ("RootedRing$CyclicCode", "n", "I", false)
  | 2 => ("RootedRing$CyclicCode", "degree", "I", false)
  | 3 => ("RootedRing$CyclicCode", "chosen", "I", false)
  | 4 => ("RootedRing$CyclicCode", "words", "I", false)
  | 5 => ("RootedRing$CyclicCode", "maker", "[I", true)
  | _ => ("RootedRing$CyclicCode", "check", "[I", true)
def tyX1 : Nat → FieldType := fun k => match k with
  | 0 => .object "RootedRing$Galois"
  | 1 => .int
  | 2 => .int
  | 3 => .int
  | 4 => .int
  | 5 => .array .int
  | _ => .array .int
abbrev wsX10 : List Cond := u_ws RX1 TX1 7
theorem nmX1 : ∀ a, a < 7 → ∀ b, b < 7 → a ≠ b → (TX1 a).2.1 ≠ (TX1 b).2.1 := by decide +kernel
theorem tyX1_ok : ∀ k, k < 7 → parseFieldDescriptor (TX1 k).2.2.1 = some (tyX1 k) := by decide +kernel
abbrev cX1_init : ByteArray := prog_3_method_1_code
def yX1_init : MethodName := ⟨RX1, "<init>", "(LRootedRing$Galois;)V"⟩
abbrev cX1_become : ByteArray := prog_3_method_2_code
def yX1_become : MethodName := ⟨RX1, "become", "(LRootedRing$Partition;I)V"⟩
abbrev cX1_smallWords : ByteArray := prog_3_method_3_code
def yX1_smallWords : MethodName := ⟨RX1, "smallWords", "()I"⟩
def RX2 : String := "RootedRing$Galois"
def TX2 : u_T := fun k => match k with
  | 0 => ("RootedRing$Galois", "p", "I", false)
  | 1 => ("RootedRing$Galois", "e", "I", false)
  | 2 => ("RootedRing$Galois", "r", "I", false)
  | 3 => ("RootedRing$Galois", "m", "I", false)
  | 4 => ("RootedRing$Galois", "q", "I", false)
  | 5 => ("RootedRing$Galois", "size", "I", false)
  | 6 => ("RootedRing$Galois", "generator", "I", false)
  | 7 => ("RootedRing$Galois", "lifted", "[I", true)
  | 8 => ("RootedRing$Galois", "powers", "[I", true)
  | 9 => ("RootedRing$Galois", "logs", "[I", true)
  | 10 => ("RootedRing$Galois", "images", "[[I", true)
  | 11 => ("RootedRing$Galois", "left", "[I", true)
  | 12 => ("RootedRing$Galois", "right", "[I", true)
  | 13 => ("RootedRing$Galois", "product", "[I", true)
  | _ => ("RootedRing$Galois", "grown", "[I", true)
def tyX2 : Nat → FieldType := fun k => match k with
  | 0 => .int
  | 1 => .int
  | 2 => .int
  | 3 => .int
  | 4 => .int
  | 5 => .int
  | 6 => .int
  | 7 => .array .int
  | 8 => .array .int
  | 9 => .array .int
  | 10 => .array (.array .int)
  | 11 => .array .int
  | 12 => .array .int
  | 13 => .array .int
  | _ => .array .int
abbrev wsX20 : List Cond := u_ws RX2 TX2 15
theorem nmX2 : ∀ a, a < 15 → ∀ b, b < 15 → a ≠ b → (TX2 a).2.1 ≠ (TX2 b).2.1 := by decide +kernel
theorem tyX2_ok : ∀ k, k < 15 → parseFieldDescriptor (TX2 k).2.2.1 = some (tyX2 k) := by decide +kernel
abbrev cX2_init : ByteArray := prog_4_method_1_code
def yX2_init : MethodName := ⟨RX2, "<init>", "()V"⟩
abbrev cX2_become : ByteArray := prog_4_method_2_code
def yX2_become : MethodName := ⟨RX2, "become", "(III)Z"⟩
abbrev cX2_exists : ByteArray := prog_4_method_3_code
def yX2_exists : MethodName := ⟨RX2, "exists", "(III)Z"⟩
abbrev cX2_liftModulus : ByteArray := prog_4_method_4_code
def yX2_liftModulus : MethodName := ⟨RX2, "liftModulus", "()V"⟩
abbrev cX2_fillImages : ByteArray := prog_4_method_5_code
def yX2_fillImages : MethodName := ⟨RX2, "fillImages", "()V"⟩
abbrev cX2_findGenerator : ByteArray := prog_4_method_6_code
def yX2_findGenerator : MethodName := ⟨RX2, "findGenerator", "()V"⟩
abbrev cX2_makesAllRoots : ByteArray := prog_4_method_7_code
def yX2_makesAllRoots : MethodName := ⟨RX2, "makesAllRoots", "(I)Z"⟩
abbrev cX2_fillLogs : ByteArray := prog_4_method_8_code
def yX2_fillLogs : MethodName := ⟨RX2, "fillLogs", "()V"⟩
abbrev cX2_toRoot : ByteArray := prog_4_method_9_code
def yX2_toRoot : MethodName := ⟨RX2, "toRoot", "()I"⟩
abbrev cX2_t : ByteArray := prog_4_method_10_code
def yX2_t : MethodName := ⟨RX2, "t", "()I"⟩
abbrev cX2_has : ByteArray := prog_4_method_11_code
def yX2_has : MethodName := ⟨RX2, "has", "(I)Z"⟩
abbrev cX2_hasRootsOfOne : ByteArray := prog_4_method_12_code
def yX2_hasRootsOfOne : MethodName := ⟨RX2, "hasRootsOfOne", "(I)Z"⟩
abbrev cX2_plus : ByteArray := prog_4_method_13_code
def yX2_plus : MethodName := ⟨RX2, "plus", "(II)I"⟩
abbrev cX2_minus : ByteArray := prog_4_method_14_code
def yX2_minus : MethodName := ⟨RX2, "minus", "(II)I"⟩
abbrev cX2_times : ByteArray := prog_4_method_15_code
def yX2_times : MethodName := ⟨RX2, "times", "(II)I"⟩
abbrev cX2_power : ByteArray := prog_4_method_16_code
def yX2_power : MethodName := ⟨RX2, "power", "(II)I"⟩
abbrev cX2_grow : ByteArray := prog_4_method_17_code
def yX2_grow : MethodName := ⟨RX2, "grow", "([III)V"⟩
abbrev cX2_spread : ByteArray := prog_4_method_19_code
def yX2_spread : MethodName := ⟨RX2, "spread", "(I[I)V"⟩
abbrev cX2_gather : ByteArray := prog_4_method_20_code
def yX2_gather : MethodName := ⟨RX2, "gather", "([I)I"⟩
abbrev cX2_rebase : ByteArray := prog_4_method_21_code
def yX2_rebase : MethodName := ⟨RX2, "rebase", "(III)I"⟩
abbrev cX2_byP : ByteArray := prog_4_method_22_code
def yX2_byP : MethodName := ⟨RX2, "byP", "(I)I"⟩
abbrev cX2_rootLog : ByteArray := prog_4_method_23_code
def yX2_rootLog : MethodName := ⟨RX2, "rootLog", "(I)I"⟩
abbrev cX2_rootOf : ByteArray := prog_4_method_24_code
def yX2_rootOf : MethodName := ⟨RX2, "rootOf", "(I)I"⟩
abbrev cX2_isUnit : ByteArray := prog_4_method_25_code
def yX2_isUnit : MethodName := ⟨RX2, "isUnit", "(I)Z"⟩
abbrev cX2_digitLog : ByteArray := prog_4_method_27_code
def yX2_digitLog : MethodName := ⟨RX2, "digitLog", "(II)I"⟩
abbrev cX2_withDigit : ByteArray := prog_4_method_28_code
def yX2_withDigit : MethodName := ⟨RX2, "withDigit", "(III)I"⟩
abbrev cX2_level : ByteArray := prog_4_method_29_code
def yX2_level : MethodName := ⟨RX2, "level", "(I)I"⟩
abbrev cX2_moved : ByteArray := prog_4_method_30_code
def yX2_moved : MethodName := ⟨RX2, "moved", "(I)I"⟩
abbrev cX2_trace : ByteArray := prog_4_method_31_code
def yX2_trace : MethodName := ⟨RX2, "trace", "(I)I"⟩
abbrev cX2_norm : ByteArray := prog_4_method_32_code
def yX2_norm : MethodName := ⟨RX2, "norm", "(I)I"⟩
abbrev cX2_isWithin : ByteArray := prog_4_method_33_code
def yX2_isWithin : MethodName := ⟨RX2, "isWithin", "(II)Z"⟩
abbrev cX2_leastWithin : ByteArray := prog_4_method_34_code
def yX2_leastWithin : MethodName := ⟨RX2, "leastWithin", "(I)I"⟩
abbrev cX2_oneBelow : ByteArray := prog_4_method_35_code
def yX2_oneBelow : MethodName := ⟨RX2, "oneBelow", "(I)I"⟩
abbrev cX2_inverse : ByteArray := prog_4_method_36_code
def yX2_inverse : MethodName := ⟨RX2, "inverse", "(I)I"⟩
abbrev cX2_order : ByteArray := prog_4_method_37_code
def yX2_order : MethodName := ⟨RX2, "order", "(I)I"⟩
abbrev cX2_orderOneBelow : ByteArray := prog_4_method_38_code
def yX2_orderOneBelow : MethodName := ⟨RX2, "orderOneBelow", "(I)I"⟩
abbrev cX2_commonOrder : ByteArray := prog_4_method_39_code
def yX2_commonOrder : MethodName := ⟨RX2, "commonOrder", "()I"⟩
def RX3 : String := "RootedRing$Latest"
def TX3 : u_T := fun k => match k with
  | 0 => ("RootedRing$Latest", "known", "Z", false)
  | 1 => ("RootedRing$Latest", "off", "Z", false)
  | 2 => ("RootedRing$Latest", "numbers", "[I", true)
  | 3 => ("RootedRing$Latest", "left", "[I", true)
  | 4 => ("RootedRing$Latest", "ways", "I", false)
  | 5 => ("RootedRing$Latest", "mendPlace", "I", false)
  | 6 => ("RootedRing$Latest", "mendValue", "I", false)
  | 7 => ("RootedRing$Latest", "fewest", "I", false)
  | 8 => ("RootedRing$Latest", "closest", "[I", true)
  | 9 => ("RootedRing$Latest", "sought", "Z", false)
  | 10 => ("RootedRing$Latest", "shifted", "[I", true)
  | 11 => ("RootedRing$Latest", "cyclic", "LRootedRing$CyclicCode;", true)
  | _ => ("RootedRing$Latest", "walk", "LRootedRing$Walk;", true)
def tyX3 : Nat → FieldType := fun k => match k with
  | 0 => .boolean
  | 1 => .boolean
  | 2 => .array .int
  | 3 => .array .int
  | 4 => .int
  | 5 => .int
  | 6 => .int
  | 7 => .int
  | 8 => .array .int
  | 9 => .boolean
  | 10 => .array .int
  | 11 => .object "RootedRing$CyclicCode"
  | _ => .object "RootedRing$Walk"
abbrev wsX30 : List Cond := u_ws RX3 TX3 13
theorem nmX3 : ∀ a, a < 13 → ∀ b, b < 13 → a ≠ b → (TX3 a).2.1 ≠ (TX3 b).2.1 := by decide +kernel
theorem tyX3_ok : ∀ k, k < 13 → parseFieldDescriptor (TX3 k).2.2.1 = some (tyX3 k) := by decide +kernel
abbrev cX3_init : ByteArray := prog_5_method_1_code
def yX3_init : MethodName := ⟨RX3, "<init>", "(LRootedRing$CyclicCode;)V"⟩
def RX4 : String := "RootedRing$Partition"
def TX4 : u_T := fun k => match k with
  | 0 => ("RootedRing$Partition", "n", "I", false)
  | 1 => ("RootedRing$Partition", "parts", "I", false)
  | _ => ("RootedRing$Partition", "partOf", "[I", true)
def tyX4 : Nat → FieldType := fun k => match k with
  | 0 => .int
  | 1 => .int
  | _ => .array .int
abbrev wsX40 : List Cond := u_ws RX4 TX4 3
theorem nmX4 : ∀ a, a < 3 → ∀ b, b < 3 → a ≠ b → (TX4 a).2.1 ≠ (TX4 b).2.1 := by decide +kernel
theorem tyX4_ok : ∀ k, k < 3 → parseFieldDescriptor (TX4 k).2.2.1 = some (tyX4 k) := by decide +kernel
abbrev cX4_init : ByteArray := prog_6_method_1_code
def yX4_init : MethodName := ⟨RX4, "<init>", "()V"⟩
abbrev cX4_become : ByteArray := prog_6_method_2_code
def yX4_become : MethodName := ⟨RX4, "become", "(II)V"⟩
abbrev cX4_join : ByteArray := prog_6_method_3_code
def yX4_join : MethodName := ⟨RX4, "join", "(II)V"⟩
abbrev cX4_part : ByteArray := prog_6_method_4_code
def yX4_part : MethodName := ⟨RX4, "part", "(I)I"⟩
abbrev cX4_sizeOf : ByteArray := prog_6_method_5_code
def yX4_sizeOf : MethodName := ⟨RX4, "sizeOf", "(I)I"⟩
abbrev cX4_member : ByteArray := prog_6_method_6_code
def yX4_member : MethodName := ⟨RX4, "member", "(II)I"⟩
def RX5 : String := "RootedRing$Reader"
def TX5 : u_T := fun k => match k with
  | 0 => ("RootedRing$Reader", "wrong", "I", false)
  | 1 => ("RootedRing$Reader", "wrongPlace", "I", false)
  | 2 => ("RootedRing$Reader", "refused", "Z", false)
  | 3 => ("RootedRing$Reader", "galois", "LRootedRing$Galois;", true)
  | 4 => ("RootedRing$Reader", "places", "[I", true)
  | 5 => ("RootedRing$Reader", "tape", "LRootedRing$Tape;", true)
  | 6 => ("RootedRing$Reader", "end", "I", false)
  | 7 => ("RootedRing$Reader", "sign", "I", false)
  | 8 => ("RootedRing$Reader", "first", "I", false)
  | 9 => ("RootedRing$Reader", "worth", "I", false)
  | _ => ("RootedRing$Reader", "behind", "I", false)
def tyX5 : Nat → FieldType := fun k => match k with
  | 0 => .int
  | 1 => .int
  | 2 => .boolean
  | 3 => .object "RootedRing$Galois"
  | 4 => .array .int
  | 5 => .object "RootedRing$Tape"
  | 6 => .int
  | 7 => .int
  | 8 => .int
  | 9 => .int
  | _ => .int
abbrev wsX50 : List Cond := u_ws RX5 TX5 11
theorem nmX5 : ∀ a, a < 11 → ∀ b, b < 11 → a ≠ b → (TX5 a).2.1 ≠ (TX5 b).2.1 := by decide +kernel
theorem tyX5_ok : ∀ k, k < 11 → parseFieldDescriptor (TX5 k).2.2.1 = some (tyX5 k) := by decide +kernel
abbrev cX5_init : ByteArray := prog_7_method_1_code
def yX5_init : MethodName := ⟨RX5, "<init>", "(LRootedRing$Galois;[ILRootedRing$Tape;)V"⟩
def RX6 : String := "RootedRing$Speech"
def TX6 : u_T := fun k => match k with
  | 0 => ("RootedRing$Speech", "length", "I", false)
  | 1 => ("RootedRing$Speech", "bytes", "[I", true)
  | _ => ("RootedRing$Speech", "coefficients", "[I", true)
def tyX6 : Nat → FieldType := fun k => match k with
  | 0 => .int
  | 1 => .array .int
  | _ => .array .int
abbrev wsX60 : List Cond := u_ws RX6 TX6 3
theorem nmX6 : ∀ a, a < 3 → ∀ b, b < 3 → a ≠ b → (TX6 a).2.1 ≠ (TX6 b).2.1 := by decide +kernel
theorem tyX6_ok : ∀ k, k < 3 → parseFieldDescriptor (TX6 k).2.2.1 = some (tyX6 k) := by decide +kernel
abbrev cX6_init : ByteArray := prog_8_method_1_code
def yX6_init : MethodName := ⟨RX6, "<init>", "()V"⟩
def RX7 : String := "RootedRing$Sure"
def TX7 : u_T := fun k => match k with
  | _ => ("", "", "", false)
def tyX7 : Nat → FieldType := fun k => match k with
  | _ => .int
abbrev wsX70 : List Cond := u_ws RX7 TX7 0
theorem nmX7 : ∀ a, a < 0 → ∀ b, b < 0 → a ≠ b → (TX7 a).2.1 ≠ (TX7 b).2.1 := by decide +kernel
theorem tyX7_ok : ∀ k, k < 0 → parseFieldDescriptor (TX7 k).2.2.1 = some (tyX7 k) := by decide +kernel
abbrev cX7_at : ByteArray := prog_9_method_2_code
def yX7_at : MethodName := ⟨RX7, "at", "([II)I"⟩
abbrev cX7_set : ByteArray := prog_9_method_3_code
def yX7_set : MethodName := ⟨RX7, "set", "([III)V"⟩
abbrev cX7_add : ByteArray := prog_9_method_4_code
def yX7_add : MethodName := ⟨RX7, "add", "([III)V"⟩
abbrev cX7_quotient : ByteArray := prog_9_method_5_code
def yX7_quotient : MethodName := ⟨RX7, "quotient", "(II)I"⟩
abbrev cX7_remainder : ByteArray := prog_9_method_6_code
def yX7_remainder : MethodName := ⟨RX7, "remainder", "(II)I"⟩
abbrev cX7_raise : ByteArray := prog_9_method_7_code
def yX7_raise : MethodName := ⟨RX7, "raise", "(II)I"⟩
abbrev cX7_common : ByteArray := prog_9_method_8_code
def yX7_common : MethodName := ⟨RX7, "common", "(II)I"⟩
abbrev cX7_mix : ByteArray := prog_9_method_9_code
def yX7_mix : MethodName := ⟨RX7, "mix", "(IIII)I"⟩
def RX8 : String := "RootedRing$Tape"
def TX8 : u_T := fun k => match k with
  | 0 => ("RootedRing$Tape", "length", "I", false)
  | _ => ("RootedRing$Tape", "bytes", "[I", true)
def tyX8 : Nat → FieldType := fun k => match k with
  | 0 => .int
  | _ => .array .int
abbrev wsX80 : List Cond := u_ws RX8 TX8 2
theorem nmX8 : ∀ a, a < 2 → ∀ b, b < 2 → a ≠ b → (TX8 a).2.1 ≠ (TX8 b).2.1 := by decide +kernel
theorem tyX8_ok : ∀ k, k < 2 → parseFieldDescriptor (TX8 k).2.2.1 = some (tyX8 k) := by decide +kernel
abbrev cX8_init : ByteArray := prog_10_method_1_code
def yX8_init : MethodName := ⟨RX8, "<init>", "()V"⟩
def RX9 : String := "RootedRing$Walk"
def TX9 : u_T := fun k => match k with
  | 0 => ("RootedRing$Walk", "numbers", "[I", true)
  | 1 => ("RootedRing$Walk", "factors", "[I", true)
  | _ => ("RootedRing$Walk", "cyclic", "LRootedRing$CyclicCode;", true)
def tyX9 : Nat → FieldType := fun k => match k with
  | 0 => .array .int
  | 1 => .array .int
  | _ => .object "RootedRing$CyclicCode"
abbrev wsX90 : List Cond := u_ws RX9 TX9 3
theorem nmX9 : ∀ a, a < 3 → ∀ b, b < 3 → a ≠ b → (TX9 a).2.1 ≠ (TX9 b).2.1 := by decide +kernel
theorem tyX9_ok : ∀ k, k < 3 → parseFieldDescriptor (TX9 k).2.2.1 = some (tyX9 k) := by decide +kernel
abbrev cX9_init : ByteArray := prog_11_method_1_code
def yX9_init : MethodName := ⟨RX9, "<init>", "(LRootedRing$CyclicCode;)V"⟩
def RX10 : String := "RootedRing$Weights"
def TX10 : u_T := fun k => match k with
  | 0 => ("RootedRing$Weights", "known", "Z", false)
  | 1 => ("RootedRing$Weights", "plain", "[I", true)
  | 2 => ("RootedRing$Weights", "lees", "[I", true)
  | 3 => ("RootedRing$Weights", "cyclic", "LRootedRing$CyclicCode;", true)
  | _ => ("RootedRing$Weights", "walk", "LRootedRing$Walk;", true)
def tyX10 : Nat → FieldType := fun k => match k with
  | 0 => .boolean
  | 1 => .array .int
  | 2 => .array .int
  | 3 => .object "RootedRing$CyclicCode"
  | _ => .object "RootedRing$Walk"
abbrev wsX100 : List Cond := u_ws RX10 TX10 5
theorem nmX10 : ∀ a, a < 5 → ∀ b, b < 5 → a ≠ b → (TX10 a).2.1 ≠ (TX10 b).2.1 := by decide +kernel
theorem tyX10_ok : ∀ k, k < 5 → parseFieldDescriptor (TX10 k).2.2.1 = some (tyX10 k) := by decide +kernel
abbrev cX10_init : ByteArray := prog_12_method_1_code
def yX10_init : MethodName := ⟨RX10, "<init>", "(LRootedRing$CyclicCode;)V"⟩
def RX11 : String := "RootedRing"
def TX11 : u_T := fun k => match k with
  | 0 => ("RootedRing", "galois", "LRootedRing$Galois;", true)
  | 1 => ("RootedRing", "places", "[I", true)
  | 2 => ("RootedRing", "found", "[I", true)
  | 3 => ("RootedRing", "tape", "LRootedRing$Tape;", true)
  | 4 => ("RootedRing", "reader", "LRootedRing$Reader;", true)
  | 5 => ("RootedRing", "speech", "LRootedRing$Speech;", true)
  | 6 => ("RootedRing", "partition", "LRootedRing$Partition;", true)
  | 7 => ("RootedRing", "cyclic", "LRootedRing$CyclicCode;", true)
  | 8 => ("RootedRing", "weights", "LRootedRing$Weights;", true)
  | _ => ("RootedRing", "latest", "LRootedRing$Latest;", true)
def tyX11 : Nat → FieldType := fun k => match k with
  | 0 => .object "RootedRing$Galois"
  | 1 => .array .int
  | 2 => .array .int
  | 3 => .object "RootedRing$Tape"
  | 4 => .object "RootedRing$Reader"
  | 5 => .object "RootedRing$Speech"
  | 6 => .object "RootedRing$Partition"
  | 7 => .object "RootedRing$CyclicCode"
  | 8 => .object "RootedRing$Weights"
  | _ => .object "RootedRing$Latest"
abbrev wsX110 : List Cond := u_ws RX11 TX11 10
theorem nmX11 : ∀ a, a < 10 → ∀ b, b < 10 → a ≠ b → (TX11 a).2.1 ≠ (TX11 b).2.1 := by decide +kernel
theorem tyX11_ok : ∀ k, k < 10 → parseFieldDescriptor (TX11 k).2.2.1 = some (tyX11 k) := by decide +kernel
abbrev cX11_init : ByteArray := prog_1_method_1_code
def yX11_init : MethodName := ⟨RX11, "<init>", "()V"⟩
abbrev cX11_ring : ByteArray := prog_1_method_2_code
def yX11_ring : MethodName := ⟨RX11, "ring", "(III)I"⟩
abbrev cX11_count : ByteArray := prog_1_method_7_code
def yX11_count : MethodName := ⟨RX11, "count", "(I)I"⟩
abbrev cX11_element : ByteArray := prog_1_method_9_code
def yX11_element : MethodName := ⟨RX11, "element", "(III)I"⟩
abbrev cX11_of : ByteArray := prog_1_method_10_code
def yX11_of : MethodName := ⟨RX11, "of", "(II)I"⟩
abbrev cX11_digit : ByteArray := prog_1_method_11_code
def yX11_digit : MethodName := ⟨RX11, "digit", "(II)I"⟩
abbrev cX11_whole : ByteArray := prog_1_method_12_code
def yX11_whole : MethodName := ⟨RX11, "whole", "(IIII)I"⟩
abbrev cX11_sum : ByteArray := prog_1_method_13_code
def yX11_sum : MethodName := ⟨RX11, "sum", "(II)I"⟩
abbrev cX11_classes : ByteArray := prog_1_method_19_code
def yX11_classes : MethodName := ⟨RX11, "classes", "(III)I"⟩
abbrev cX11_code : ByteArray := prog_1_method_20_code
def yX11_code : MethodName := ⟨RX11, "code", "(II)I"⟩
abbrev cX11_coefficient : ByteArray := prog_1_method_21_code
def yX11_coefficient : MethodName := ⟨RX11, "coefficient", "(II)I"⟩
abbrev cX11_need : ByteArray := prog_1_method_31_code
def yX11_need : MethodName := ⟨RX11, "need", "(Z)V"⟩
abbrev cX11_canStand : ByteArray := prog_1_method_33_code
def yX11_canStand : MethodName := ⟨RX11, "canStand", "(II)Z"⟩
abbrev cX11_clear : ByteArray := prog_1_method_34_code
def yX11_clear : MethodName := ⟨RX11, "clear", "()V"⟩
abbrev cX11_choose : ByteArray := prog_1_method_35_code
def yX11_choose : MethodName := ⟨RX11, "choose", "(I)V"⟩
abbrev cX11_divisors : ByteArray := prog_1_method_36_code
def yX11_divisors : MethodName := ⟨RX11, "divisors", "(I)I"⟩
def RX12 : String := "RootedRingModel"
def TX12 : u_T := fun k => match k with
  | _ => ("", "", "", false)
def tyX12 : Nat → FieldType := fun k => match k with
  | _ => .int
abbrev wsX120 : List Cond := u_ws RX12 TX12 0
theorem nmX12 : ∀ a, a < 0 → ∀ b, b < 0 → a ≠ b → (TX12 a).2.1 ≠ (TX12 b).2.1 := by decide +kernel
theorem tyX12_ok : ∀ k, k < 0 → parseFieldDescriptor (TX12 k).2.2.1 = some (tyX12 k) := by decide +kernel
def RJx145de : String := "java/io/Serializable"
def TJx145de : u_T := fun k => match k with
  | _ => ("", "", "", false)
def tyJx145de : Nat → FieldType := fun k => match k with
  | _ => .int
abbrev wsJx145de0 : List Cond := u_ws RJx145de TJx145de 0
theorem nmJx145de : ∀ a, a < 0 → ∀ b, b < 0 → a ≠ b → (TJx145de a).2.1 ≠ (TJx145de b).2.1 := by decide +kernel
theorem tyJx145de_ok : ∀ k, k < 0 → parseFieldDescriptor (TJx145de k).2.2.1 = some (tyJx145de k) := by decide +kernel
def RJ9 : String := "java/lang/Math"
def TJ9 : u_T := fun k => match k with
  | _ => ("", "", "", false)
def tyJ9 : Nat → FieldType := fun k => match k with
  | _ => .int
abbrev wsJ90 : List Cond := u_ws RJ9 TJ9 0
theorem nmJ9 : ∀ a, a < 0 → ∀ b, b < 0 → a ≠ b → (TJ9 a).2.1 ≠ (TJ9 b).2.1 := by decide +kernel
theorem tyJ9_ok : ∀ k, k < 0 → parseFieldDescriptor (TJ9 k).2.2.1 = some (tyJ9 k) := by decide +kernel
abbrev cJ9_max_7cf53 : ByteArray := prog_17_method_65_code
def yJ9_max_7cf53 : MethodName := ⟨RJ9, "max", "(II)I"⟩
abbrev cJ9_min_7cf53 : ByteArray := prog_17_method_69_code
def yJ9_min_7cf53 : MethodName := ⟨RJ9, "min", "(II)I"⟩
def RJ7 : String := "java/util/Arrays"
def TJ7 : u_T := fun k => match k with
  | _ => ("", "", "", false)
def tyJ7 : Nat → FieldType := fun k => match k with
  | _ => .int
abbrev wsJ70 : List Cond := u_ws RJ7 TJ7 0
theorem nmJ7 : ∀ a, a < 0 → ∀ b, b < 0 → a ≠ b → (TJ7 a).2.1 ≠ (TJ7 b).2.1 := by decide +kernel
theorem tyJ7_ok : ∀ k, k < 0 → parseFieldDescriptor (TJ7 k).2.2.1 = some (tyJ7 k) := by decide +kernel
abbrev cJ7_fill_53178 : ByteArray := prog_20_method_103_code
def yJ7_fill_53178 : MethodName := ⟨RJ7, "fill", "([II)V"⟩
def RL : String := "RootedRingLaw"
abbrev cL_cell : ByteArray := method_2_code
def yL_cell : MethodName := ⟨RL, "cell", "([II)I"⟩
abbrev cL_rings : ByteArray := method_3_code
def yL_rings : MethodName := ⟨RL, "rings", "(LRootedRing;I)I"⟩
abbrev cL_length : ByteArray := method_4_code
def yL_length : MethodName := ⟨RL, "length", "(LRootedRing;I)I"⟩
abbrev cL_law : ByteArray := code
def yL_law : MethodName := ⟨RL, "law", "([I)Z"⟩
theorem inX0 : ∀ w ∈ wsX00, w ∈ lw_tbl := by decide +kernel
theorem inX1 : ∀ w ∈ wsX10, w ∈ lw_tbl := pin_i [215, 217, 219, 221, 223, 225, 227] (by decide +kernel)
theorem inX2 : ∀ w ∈ wsX20, w ∈ lw_tbl := pin_i [77, 79, 81, 83, 85, 87, 89, 91, 93, 95, 97, 99, 101, 103, 105] (by decide +kernel)
theorem inX3 : ∀ w ∈ wsX30, w ∈ lw_tbl := pin_i [291, 293, 295, 297, 299, 301, 303, 305, 307, 309, 311, 313, 315] (by decide +kernel)
theorem inX4 : ∀ w ∈ wsX40, w ∈ lw_tbl := pin_i [150, 152, 154] (by decide +kernel)
theorem inX5 : ∀ w ∈ wsX50, w ∈ lw_tbl := pin_i [174, 176, 178, 180, 182, 184, 186, 188, 190, 192, 194] (by decide +kernel)
theorem inX6 : ∀ w ∈ wsX60, w ∈ lw_tbl := pin_i [132, 134, 136] (by decide +kernel)
theorem inX7 : ∀ w ∈ wsX70, w ∈ lw_tbl := by decide +kernel
theorem inX8 : ∀ w ∈ wsX80, w ∈ lw_tbl := pin_i [118, 120] (by decide +kernel)
theorem inX9 : ∀ w ∈ wsX90, w ∈ lw_tbl := pin_i [245, 247, 249] (by decide +kernel)
theorem inX10 : ∀ w ∈ wsX100, w ∈ lw_tbl := pin_i [258, 260, 262, 264, 266] (by decide +kernel)
theorem inX11 : ∀ w ∈ wsX110, w ∈ lw_tbl := pin_i [469, 471, 473, 475, 477, 479, 481, 483, 485, 487] (by decide +kernel)
theorem inX12 : ∀ w ∈ wsX120, w ∈ lw_tbl := by decide +kernel
theorem inJx145de : ∀ w ∈ wsJx145de0, w ∈ lw_tbl := by decide +kernel
theorem inJ9 : ∀ w ∈ wsJ90, w ∈ lw_tbl := by decide +kernel
theorem inJ7 : ∀ w ∈ wsJ70, w ∈ lw_tbl := by decide +kernel
abbrev vwCl : List vw_C := [(RX1, TX1, 7), (RX2, TX2, 15), (RX3, TX3, 13), (RX4, TX4, 3), (RX5, TX5, 11), (RX6, TX6, 3), (RX8, TX8, 2), (RX9, TX9, 3), (RX10, TX10, 5), (RX11, TX11, 10)]
