def RX0 : String := "PathProofs$Empty"
def TX0 : u_T := fun k => match k with
  | _ => ("PathProofs$Node", "digest", "J", true)
def tyX0 : Nat → FieldType := fun k => match k with
  | _ => .long
abbrev wsX00 : List Cond := u_ws RX0 TX0 1
theorem nmX0 : ∀ a, a < 1 → ∀ b, b < 1 → a ≠ b → (TX0 a).2.1 ≠ (TX0 b).2.1 := by decide +kernel
theorem tyX0_ok : ∀ k, k < 1 → parseFieldDescriptor (TX0 k).2.2.1 = some (tyX0 k) := by decide +kernel
abbrev cX0_init : ByteArray := prog_2_method_1_code
def yX0_init : MethodName := ⟨RX0, "<init>", "()V"⟩
def RX1 : String := "PathProofs$Fork"
def TX1 : u_T := fun k => match k with
  | 0 => ("PathProofs$Node", "digest", "J", true)
  | 1 => ("PathProofs$Fork", "bit", "I", true)
  | 2 => ("PathProofs$Fork", "stem", "I", true)
  | 3 => ("PathProofs$Fork", "low", "LPathProofs$Node;", true)
  | _ => ("PathProofs$Fork", "high", "LPathProofs$Node;", true)
def tyX1 : Nat → FieldType := fun k => match k with
  | 0 => .long
  | 1 => .int
  | 2 => .int
  | 3 => .object "PathProofs$Node"
  | _ => .object "PathProofs$Node"
abbrev wsX10 : List Cond := u_ws RX1 TX1 5
theorem nmX1 : ∀ a, a < 5 → ∀ b, b < 5 → a ≠ b → (TX1 a).2.1 ≠ (TX1 b).2.1 := by decide +kernel
theorem tyX1_ok : ∀ k, k < 5 → parseFieldDescriptor (TX1 k).2.2.1 = some (tyX1 k) := by decide +kernel
abbrev cX1_init : ByteArray := prog_3_method_1_code
def yX1_init : MethodName := ⟨RX1, "<init>", "(IILPathProofs$Node;LPathProofs$Node;)V"⟩
abbrev cX1_takesIn : ByteArray := prog_3_method_2_code
def yX1_takesIn : MethodName := ⟨RX1, "takesIn", "(I)Z"⟩
abbrev cX1_middle : ByteArray := prog_3_method_3_code
def yX1_middle : MethodName := ⟨RX1, "middle", "()I"⟩
abbrev cX1_last : ByteArray := prog_3_method_4_code
def yX1_last : MethodName := ⟨RX1, "last", "()I"⟩
abbrev cX1_toward : ByteArray := prog_3_method_5_code
def yX1_toward : MethodName := ⟨RX1, "toward", "(I)LPathProofs$Node;"⟩
abbrev cX1_besides : ByteArray := prog_3_method_6_code
def yX1_besides : MethodName := ⟨RX1, "besides", "(I)LPathProofs$Node;"⟩
abbrev cX1_with : ByteArray := prog_3_method_7_code
def yX1_with : MethodName := ⟨RX1, "with", "(ILPathProofs$Node;)LPathProofs$Fork;"⟩
def RX2 : String := "PathProofs$Hidden"
def TX2 : u_T := fun k => match k with
  | _ => ("PathProofs$Node", "digest", "J", true)
def tyX2 : Nat → FieldType := fun k => match k with
  | _ => .long
abbrev wsX20 : List Cond := u_ws RX2 TX2 1
theorem nmX2 : ∀ a, a < 1 → ∀ b, b < 1 → a ≠ b → (TX2 a).2.1 ≠ (TX2 b).2.1 := by decide +kernel
theorem tyX2_ok : ∀ k, k < 1 → parseFieldDescriptor (TX2 k).2.2.1 = some (tyX2 k) := by decide +kernel
abbrev cX2_init : ByteArray := prog_4_method_1_code
def yX2_init : MethodName := ⟨RX2, "<init>", "(J)V"⟩
def RX3 : String := "PathProofs$Leaf"
def TX3 : u_T := fun k => match k with
  | 0 => ("PathProofs$Node", "digest", "J", true)
  | 1 => ("PathProofs$Leaf", "path", "I", true)
  | _ => ("PathProofs$Leaf", "value", "J", true)
def tyX3 : Nat → FieldType := fun k => match k with
  | 0 => .long
  | 1 => .int
  | _ => .long
abbrev wsX30 : List Cond := u_ws RX3 TX3 3
theorem nmX3 : ∀ a, a < 3 → ∀ b, b < 3 → a ≠ b → (TX3 a).2.1 ≠ (TX3 b).2.1 := by decide +kernel
theorem tyX3_ok : ∀ k, k < 3 → parseFieldDescriptor (TX3 k).2.2.1 = some (tyX3 k) := by decide +kernel
abbrev cX3_init : ByteArray := prog_5_method_1_code
def yX3_init : MethodName := ⟨RX3, "<init>", "(IJ)V"⟩
def RX4 : String := "PathProofs$Node"
def TX4 : u_T := fun k => match k with
  | _ => ("", "", "", false)
def tyX4 : Nat → FieldType := fun k => match k with
  | _ => .int
abbrev wsX40 : List Cond := u_ws RX4 TX4 0
theorem nmX4 : ∀ a, a < 0 → ∀ b, b < 0 → a ≠ b → (TX4 a).2.1 ≠ (TX4 b).2.1 := by decide +kernel
theorem tyX4_ok : ∀ k, k < 0 → parseFieldDescriptor (TX4 k).2.2.1 = some (tyX4 k) := by decide +kernel
abbrev cX4_init : ByteArray := prog_6_method_1_code
def yX4_init : MethodName := ⟨RX4, "<init>", "(J)V"⟩
def RX5 : String := "PathProofs$Ranges"
def TX5 : u_T := fun k => match k with
  | 0 => ("PathProofs$Ranges", "firsts", "[I", true)
  | 1 => ("PathProofs$Ranges", "lasts", "[I", true)
  | _ => ("PathProofs$Ranges", "size", "I", false)
def tyX5 : Nat → FieldType := fun k => match k with
  | 0 => .array .int
  | 1 => .array .int
  | _ => .int
abbrev wsX50 : List Cond := u_ws RX5 TX5 3
theorem nmX5 : ∀ a, a < 3 → ∀ b, b < 3 → a ≠ b → (TX5 a).2.1 ≠ (TX5 b).2.1 := by decide +kernel
theorem tyX5_ok : ∀ k, k < 3 → parseFieldDescriptor (TX5 k).2.2.1 = some (tyX5 k) := by decide +kernel
abbrev cX5_init : ByteArray := prog_7_method_1_code
def yX5_init : MethodName := ⟨RX5, "<init>", "()V"⟩
abbrev cX5_add : ByteArray := prog_7_method_2_code
def yX5_add : MethodName := ⟨RX5, "add", "(II)Z"⟩
abbrev cX5_meet : ByteArray := prog_7_method_3_code
def yX5_meet : MethodName := ⟨RX5, "meet", "(II)Z"⟩
def RX6 : String := "PathProofs$Reading"
def TX6 : u_T := fun k => match k with
  | 0 => ("PathProofs$Reading", "tape", "LPathProofs$Tape;", true)
  | 1 => ("PathProofs$Reading", "at", "I", false)
  | 2 => ("PathProofs$Reading", "fault", "I", false)
  | _ => ("PathProofs$Reading", "faultPlace", "I", false)
def tyX6 : Nat → FieldType := fun k => match k with
  | 0 => .object "PathProofs$Tape"
  | 1 => .int
  | 2 => .int
  | _ => .int
abbrev wsX60 : List Cond := u_ws RX6 TX6 4
theorem nmX6 : ∀ a, a < 4 → ∀ b, b < 4 → a ≠ b → (TX6 a).2.1 ≠ (TX6 b).2.1 := by decide +kernel
theorem tyX6_ok : ∀ k, k < 4 → parseFieldDescriptor (TX6 k).2.2.1 = some (tyX6 k) := by decide +kernel
abbrev cX6_init : ByteArray := prog_8_method_1_code
def yX6_init : MethodName := ⟨RX6, "<init>", "(LPathProofs$Tape;)V"⟩
abbrev cX6_wholeWith : ByteArray := prog_8_method_2_code
def yX6_wholeWith : MethodName := ⟨RX6, "wholeWith", "(J)LPathProofs$Node;"⟩
abbrev cX6_readNode : ByteArray := prog_8_method_3_code
def yX6_readNode : MethodName := ⟨RX6, "readNode", "(III)LPathProofs$Node;"⟩
abbrev cX6_readLeaf : ByteArray := prog_8_method_4_code
def yX6_readLeaf : MethodName := ⟨RX6, "readLeaf", "(II)LPathProofs$Node;"⟩
abbrev cX6_readFork : ByteArray := prog_8_method_5_code
def yX6_readFork : MethodName := ⟨RX6, "readFork", "(III)LPathProofs$Node;"⟩
abbrev cX6_lacks : ByteArray := prog_8_method_6_code
def yX6_lacks : MethodName := ⟨RX6, "lacks", "(I)Z"⟩
abbrev cX6_number : ByteArray := prog_8_method_7_code
def yX6_number : MethodName := ⟨RX6, "number", "(I)J"⟩
abbrev cX6_refuse : ByteArray := prog_8_method_8_code
def yX6_refuse : MethodName := ⟨RX6, "refuse", "(II)LPathProofs$Node;"⟩
def RX7 : String := "PathProofs$Tape"
def TX7 : u_T := fun k => match k with
  | 0 => ("PathProofs$Tape", "octets", "[I", true)
  | _ => ("PathProofs$Tape", "length", "I", false)
def tyX7 : Nat → FieldType := fun k => match k with
  | 0 => .array .int
  | _ => .int
abbrev wsX70 : List Cond := u_ws RX7 TX7 2
theorem nmX7 : ∀ a, a < 2 → ∀ b, b < 2 → a ≠ b → (TX7 a).2.1 ≠ (TX7 b).2.1 := by decide +kernel
theorem tyX7_ok : ∀ k, k < 2 → parseFieldDescriptor (TX7 k).2.2.1 = some (tyX7 k) := by decide +kernel
abbrev cX7_init : ByteArray := prog_9_method_1_code
def yX7_init : MethodName := ⟨RX7, "<init>", "()V"⟩
abbrev cX7_has : ByteArray := prog_9_method_2_code
def yX7_has : MethodName := ⟨RX7, "has", "(I)Z"⟩
abbrev cX7_append : ByteArray := prog_9_method_3_code
def yX7_append : MethodName := ⟨RX7, "append", "(IJ)V"⟩
def RX8 : String := "PathProofs"
def TX8 : u_T := fun k => match k with
  | 0 => ("PathProofs", "kept", "[LPathProofs$Node;", true)
  | 1 => ("PathProofs", "wanted", "LPathProofs$Ranges;", true)
  | 2 => ("PathProofs", "tree", "LPathProofs$Node;", false)
  | 3 => ("PathProofs", "versions", "I", false)
  | 4 => ("PathProofs", "tape", "LPathProofs$Tape;", false)
  | 5 => ("PathProofs", "spare", "LPathProofs$Tape;", false)
  | 6 => ("PathProofs", "view", "LPathProofs$Node;", false)
  | 7 => ("PathProofs", "faultPlace", "I", false)
  | _ => ("PathProofs", "found", "J", false)
def tyX8 : Nat → FieldType := fun k => match k with
  | 0 => .array (.object "PathProofs$Node")
  | 1 => .object "PathProofs$Ranges"
  | 2 => .object "PathProofs$Node"
  | 3 => .int
  | 4 => .object "PathProofs$Tape"
  | 5 => .object "PathProofs$Tape"
  | 6 => .object "PathProofs$Node"
  | 7 => .int
  | _ => .long
abbrev wsX80 : List Cond := u_ws RX8 TX8 9
theorem nmX8 : ∀ a, a < 9 → ∀ b, b < 9 → a ≠ b → (TX8 a).2.1 ≠ (TX8 b).2.1 := by decide +kernel
theorem tyX8_ok : ∀ k, k < 9 → parseFieldDescriptor (TX8 k).2.2.1 = some (tyX8 k) := by decide +kernel
abbrev cX8_init : ByteArray := prog_1_method_1_code
def yX8_init : MethodName := ⟨RX8, "<init>", "()V"⟩
abbrev cX8_put : ByteArray := prog_1_method_2_code
def yX8_put : MethodName := ⟨RX8, "put", "(IJ)I"⟩
abbrev cX8_remove : ByteArray := prog_1_method_3_code
def yX8_remove : MethodName := ⟨RX8, "remove", "(I)I"⟩
abbrev cX8_keep : ByteArray := prog_1_method_4_code
def yX8_keep : MethodName := ⟨RX8, "keep", "()I"⟩
abbrev cX8_root : ByteArray := prog_1_method_5_code
def yX8_root : MethodName := ⟨RX8, "root", "(I)J"⟩
abbrev cX8_leaves : ByteArray := prog_1_method_6_code
def yX8_leaves : MethodName := ⟨RX8, "leaves", "(I)I"⟩
abbrev cX8_want : ByteArray := prog_1_method_7_code
def yX8_want : MethodName := ⟨RX8, "want", "(II)I"⟩
abbrev cX8_forget : ByteArray := prog_1_method_8_code
def yX8_forget : MethodName := ⟨RX8, "forget", "()I"⟩
abbrev cX8_show : ByteArray := prog_1_method_9_code
def yX8_show : MethodName := ⟨RX8, "show", "(I)I"⟩
abbrev cX8_pass : ByteArray := prog_1_method_10_code
def yX8_pass : MethodName := ⟨RX8, "pass", "()I"⟩
abbrev cX8_feed : ByteArray := prog_1_method_11_code
def yX8_feed : MethodName := ⟨RX8, "feed", "(IJ)I"⟩
abbrev cX8_cut : ByteArray := prog_1_method_12_code
def yX8_cut : MethodName := ⟨RX8, "cut", "(I)I"⟩
abbrev cX8_spoil : ByteArray := prog_1_method_13_code
def yX8_spoil : MethodName := ⟨RX8, "spoil", "(II)I"⟩
abbrev cX8_take : ByteArray := prog_1_method_14_code
def yX8_take : MethodName := ⟨RX8, "take", "(J)I"⟩
abbrev cX8_place : ByteArray := prog_1_method_15_code
def yX8_place : MethodName := ⟨RX8, "place", "()I"⟩
abbrev cX8_get : ByteArray := prog_1_method_16_code
def yX8_get : MethodName := ⟨RX8, "get", "(I)I"⟩
abbrev cX8_value : ByteArray := prog_1_method_17_code
def yX8_value : MethodName := ⟨RX8, "value", "()J"⟩
abbrev cX8_write : ByteArray := prog_1_method_18_code
def yX8_write : MethodName := ⟨RX8, "write", "(IJ)I"⟩
abbrev cX8_erase : ByteArray := prog_1_method_19_code
def yX8_erase : MethodName := ⟨RX8, "erase", "(I)I"⟩
abbrev cX8_view : ByteArray := prog_1_method_20_code
def yX8_view : MethodName := ⟨RX8, "view", "()J"⟩
abbrev cX8_count : ByteArray := prog_1_method_21_code
def yX8_count : MethodName := ⟨RX8, "count", "(II)I"⟩
abbrev cX8_next : ByteArray := prog_1_method_22_code
def yX8_next : MethodName := ⟨RX8, "next", "(I)I"⟩
abbrev cX8_told : ByteArray := prog_1_method_23_code
def yX8_told : MethodName := ⟨RX8, "told", "(I)I"⟩
abbrev cX8_octet : ByteArray := prog_1_method_24_code
def yX8_octet : MethodName := ⟨RX8, "octet", "(I)I"⟩
abbrev cX8_isPath : ByteArray := prog_1_method_25_code
def yX8_isPath : MethodName := ⟨RX8, "isPath", "(I)Z"⟩
abbrev cX8_isRange : ByteArray := prog_1_method_26_code
def yX8_isRange : MethodName := ⟨RX8, "isRange", "(II)Z"⟩
abbrev cX8_isHigh : ByteArray := prog_1_method_27_code
def yX8_isHigh : MethodName := ⟨RX8, "isHigh", "(II)Z"⟩
abbrev cX8_stemOf : ByteArray := prog_1_method_28_code
def yX8_stemOf : MethodName := ⟨RX8, "stemOf", "(II)I"⟩
abbrev cX8_firstOtherBit : ByteArray := prog_1_method_29_code
def yX8_firstOtherBit : MethodName := ⟨RX8, "firstOtherBit", "(II)I"⟩
abbrev cX8_mix : ByteArray := prog_1_method_30_code
def yX8_mix : MethodName := ⟨RX8, "mix", "(JJ)J"⟩
abbrev cX8_emptyDigest : ByteArray := prog_1_method_31_code
def yX8_emptyDigest : MethodName := ⟨RX8, "emptyDigest", "()J"⟩
abbrev cX8_leafDigest : ByteArray := prog_1_method_32_code
def yX8_leafDigest : MethodName := ⟨RX8, "leafDigest", "(IJ)J"⟩
abbrev cX8_forkDigest : ByteArray := prog_1_method_33_code
def yX8_forkDigest : MethodName := ⟨RX8, "forkDigest", "(IIJJ)J"⟩
abbrev cX8_wholeOf : ByteArray := prog_1_method_34_code
def yX8_wholeOf : MethodName := ⟨RX8, "wholeOf", "(I)LPathProofs$Node;"⟩
abbrev cX8_endOfWay : ByteArray := prog_1_method_35_code
def yX8_endOfWay : MethodName := ⟨RX8, "endOfWay", "(LPathProofs$Node;I)LPathProofs$Node;"⟩
abbrev cX8_isLeafOf : ByteArray := prog_1_method_36_code
def yX8_isLeafOf : MethodName := ⟨RX8, "isLeafOf", "(LPathProofs$Node;I)Z"⟩
abbrev cX8_written : ByteArray := prog_1_method_37_code
def yX8_written : MethodName := ⟨RX8, "written", "(LPathProofs$Node;LPathProofs$Leaf;I)LPathProofs$Node;"⟩
abbrev cX8_forkOf : ByteArray := prog_1_method_38_code
def yX8_forkOf : MethodName := ⟨RX8, "forkOf", "(LPathProofs$Node;ILPathProofs$Leaf;)LPathProofs$Node;"⟩
abbrev cX8_erased : ByteArray := prog_1_method_39_code
def yX8_erased : MethodName := ⟨RX8, "erased", "(LPathProofs$Node;II)LPathProofs$Node;"⟩
abbrev cX8_leavesWithin : ByteArray := prog_1_method_40_code
def yX8_leavesWithin : MethodName := ⟨RX8, "leavesWithin", "(LPathProofs$Node;III)I"⟩
abbrev cX8_nodesOf : ByteArray := prog_1_method_41_code
def yX8_nodesOf : MethodName := ⟨RX8, "nodesOf", "(LPathProofs$Node;I)I"⟩
abbrev cX8_mostForks : ByteArray := prog_1_method_42_code
def yX8_mostForks : MethodName := ⟨RX8, "mostForks", "(LPathProofs$Node;I)I"⟩
abbrev cX8_hiddenOver : ByteArray := prog_1_method_43_code
def yX8_hiddenOver : MethodName := ⟨RX8, "hiddenOver", "(LPathProofs$Node;IIIII)I"⟩
abbrev cX8_leastFrom : ByteArray := prog_1_method_44_code
def yX8_leastFrom : MethodName := ⟨RX8, "leastFrom", "(LPathProofs$Node;III)I"⟩
abbrev cX8_tapeBecomes : ByteArray := prog_1_method_45_code
def yX8_tapeBecomes : MethodName := ⟨RX8, "tapeBecomes", "(LPathProofs$Node;)I"⟩
abbrev cX8_appendShown : ByteArray := prog_1_method_46_code
def yX8_appendShown : MethodName := ⟨RX8, "appendShown", "(LPathProofs$Node;III)V"⟩
def RX9 : String := "PathProofsModel"
def TX9 : u_T := fun k => match k with
  | 0 => ("PathProofsModel", "path", "[I", true)
  | 1 => ("PathProofsModel", "value", "[J", true)
  | 2 => ("PathProofsModel", "size", "[I", true)
  | 3 => ("PathProofsModel", "versions", "I", false)
  | 4 => ("PathProofsModel", "from", "[I", true)
  | 5 => ("PathProofsModel", "to", "[I", true)
  | 6 => ("PathProofsModel", "wanted", "I", false)
  | 7 => ("PathProofsModel", "tape", "[I", true)
  | 8 => ("PathProofsModel", "taped", "I", false)
  | 9 => ("PathProofsModel", "waitDigest", "[J", true)
  | 10 => ("PathProofsModel", "waitBit", "[I", true)
  | 11 => ("PathProofsModel", "waitDeep", "[I", true)
  | 12 => ("PathProofsModel", "deepest", "I", false)
  | 13 => ("PathProofsModel", "out", "[I", true)
  | 14 => ("PathProofsModel", "laid", "I", false)
  | 15 => ("PathProofsModel", "oneOf", "[I", true)
  | 16 => ("PathProofsModel", "twoOf", "[I", true)
  | 17 => ("PathProofsModel", "placeFrom", "[I", true)
  | 18 => ("PathProofsModel", "placeTo", "[I", true)
  | 19 => ("PathProofsModel", "rests", "I", false)
  | 20 => ("PathProofsModel", "kind", "[I", true)
  | 21 => ("PathProofsModel", "bitOf", "[I", true)
  | 22 => ("PathProofsModel", "stem", "[I", true)
  | 23 => ("PathProofsModel", "held", "[J", true)
  | 24 => ("PathProofsModel", "low", "[I", true)
  | 25 => ("PathProofsModel", "high", "[I", true)
  | 26 => ("PathProofsModel", "sum", "[J", true)
  | 27 => ("PathProofsModel", "row", "[I", true)
  | 28 => ("PathProofsModel", "half", "I", false)
  | 29 => ("PathProofsModel", "nodes", "I", false)
  | 30 => ("PathProofsModel", "root", "I", false)
  | 31 => ("PathProofsModel", "free", "[I", true)
  | 32 => ("PathProofsModel", "freed", "I", false)
  | 33 => ("PathProofsModel", "faultAt", "I", false)
  | 34 => ("PathProofsModel", "at", "I", false)
  | 35 => ("PathProofsModel", "end", "I", false)
  | 36 => ("PathProofsModel", "above", "I", false)
  | 37 => ("PathProofsModel", "found", "J", false)
  | 38 => ("PathProofsModel", "counted", "I", false)
  | 39 => ("PathProofsModel", "leastLeaf", "I", false)
  | 40 => ("PathProofsModel", "leastHidden", "I", false)
  | _ => ("PathProofsModel", "hiddenMany", "I", false)
def tyX9 : Nat → FieldType := fun k => match k with
  | 0 => .array .int
  | 1 => .array .long
  | 2 => .array .int
  | 3 => .int
  | 4 => .array .int
  | 5 => .array .int
  | 6 => .int
  | 7 => .array .int
  | 8 => .int
  | 9 => .array .long
  | 10 => .array .int
  | 11 => .array .int
  | 12 => .int
  | 13 => .array .int
  | 14 => .int
  | 15 => .array .int
  | 16 => .array .int
  | 17 => .array .int
  | 18 => .array .int
  | 19 => .int
  | 20 => .array .int
  | 21 => .array .int
  | 22 => .array .int
  | 23 => .array .long
  | 24 => .array .int
  | 25 => .array .int
  | 26 => .array .long
  | 27 => .array .int
  | 28 => .int
  | 29 => .int
  | 30 => .int
  | 31 => .array .int
  | 32 => .int
  | 33 => .int
  | 34 => .int
  | 35 => .int
  | 36 => .int
  | 37 => .long
  | 38 => .int
  | 39 => .int
  | 40 => .int
  | _ => .int
abbrev wsX90 : List Cond := u_ws RX9 TX9 42
theorem nmX9 : ∀ a, a < 42 → ∀ b, b < 42 → a ≠ b → (TX9 a).2.1 ≠ (TX9 b).2.1 := by decide +kernel
theorem tyX9_ok : ∀ k, k < 42 → parseFieldDescriptor (TX9 k).2.2.1 = some (tyX9 k) := by decide +kernel
abbrev cX9_init : ByteArray := prog_11_method_1_code
def yX9_init : MethodName := ⟨RX9, "<init>", "()V"⟩
abbrev cX9_isPath : ByteArray := prog_11_method_2_code
def yX9_isPath : MethodName := ⟨RX9, "isPath", "(I)Z"⟩
abbrev cX9_firstBit : ByteArray := prog_11_method_3_code
def yX9_firstBit : MethodName := ⟨RX9, "firstBit", "(II)I"⟩
abbrev cX9_stemOf : ByteArray := prog_11_method_4_code
def yX9_stemOf : MethodName := ⟨RX9, "stemOf", "(II)I"⟩
abbrev cX9_mix : ByteArray := prog_11_method_5_code
def yX9_mix : MethodName := ⟨RX9, "mix", "(JJ)J"⟩
abbrev cX9_leafDigest : ByteArray := prog_11_method_6_code
def yX9_leafDigest : MethodName := ⟨RX9, "leafDigest", "(IJ)J"⟩
abbrev cX9_forkDigest : ByteArray := prog_11_method_7_code
def yX9_forkDigest : MethodName := ⟨RX9, "forkDigest", "(IIJJ)J"⟩
abbrev cX9_baseOf : ByteArray := prog_11_method_8_code
def yX9_baseOf : MethodName := ⟨RX9, "baseOf", "(I)I"⟩
abbrev cX9_sizeOf : ByteArray := prog_11_method_9_code
def yX9_sizeOf : MethodName := ⟨RX9, "sizeOf", "(I)I"⟩
abbrev cX9_find : ByteArray := prog_11_method_10_code
def yX9_find : MethodName := ⟨RX9, "find", "(I)I"⟩
abbrev cX9_put : ByteArray := prog_11_method_11_code
def yX9_put : MethodName := ⟨RX9, "put", "(IJ)I"⟩
abbrev cX9_remove : ByteArray := prog_11_method_12_code
def yX9_remove : MethodName := ⟨RX9, "remove", "(I)I"⟩
abbrev cX9_keep : ByteArray := prog_11_method_13_code
def yX9_keep : MethodName := ⟨RX9, "keep", "()I"⟩
abbrev cX9_digest : ByteArray := prog_11_method_14_code
def yX9_digest : MethodName := ⟨RX9, "digest", "(II)J"⟩
abbrev cX9_root : ByteArray := prog_11_method_15_code
def yX9_root : MethodName := ⟨RX9, "root", "(I)J"⟩
abbrev cX9_leaves : ByteArray := prog_11_method_16_code
def yX9_leaves : MethodName := ⟨RX9, "leaves", "(I)I"⟩
abbrev cX9_want : ByteArray := prog_11_method_17_code
def yX9_want : MethodName := ⟨RX9, "want", "(II)I"⟩
abbrev cX9_forget : ByteArray := prog_11_method_18_code
def yX9_forget : MethodName := ⟨RX9, "forget", "()I"⟩
abbrev cX9_isWanted : ByteArray := prog_11_method_19_code
def yX9_isWanted : MethodName := ⟨RX9, "isWanted", "(II)Z"⟩
abbrev cX9_lay : ByteArray := prog_11_method_20_code
def yX9_lay : MethodName := ⟨RX9, "lay", "(JI)V"⟩
abbrev cX9_laidOut : ByteArray := prog_11_method_21_code
def yX9_laidOut : MethodName := ⟨RX9, "laidOut", "()I"⟩
abbrev cX9_rest : ByteArray := prog_11_method_22_code
def yX9_rest : MethodName := ⟨RX9, "rest", "(IIII)V"⟩
abbrev cX9_show : ByteArray := prog_11_method_23_code
def yX9_show : MethodName := ⟨RX9, "show", "(I)I"⟩
abbrev cX9_feed : ByteArray := prog_11_method_24_code
def yX9_feed : MethodName := ⟨RX9, "feed", "(IJ)I"⟩
abbrev cX9_cut : ByteArray := prog_11_method_25_code
def yX9_cut : MethodName := ⟨RX9, "cut", "(I)I"⟩
abbrev cX9_spoil : ByteArray := prog_11_method_26_code
def yX9_spoil : MethodName := ⟨RX9, "spoil", "(II)I"⟩
abbrev cX9_octet : ByteArray := prog_11_method_27_code
def yX9_octet : MethodName := ⟨RX9, "octet", "(I)I"⟩
abbrev cX9_numeral : ByteArray := prog_11_method_28_code
def yX9_numeral : MethodName := ⟨RX9, "numeral", "(I)J"⟩
abbrev cX9_sumUp : ByteArray := prog_11_method_29_code
def yX9_sumUp : MethodName := ⟨RX9, "sumUp", "(I)J"⟩
abbrev cX9_taken : ByteArray := prog_11_method_30_code
def yX9_taken : MethodName := ⟨RX9, "taken", "(IZII)I"⟩
abbrev cX9_take : ByteArray := prog_11_method_31_code
def yX9_take : MethodName := ⟨RX9, "take", "(J)I"⟩
abbrev cX9_place : ByteArray := prog_11_method_32_code
def yX9_place : MethodName := ⟨RX9, "place", "()I"⟩
abbrev cX9_takesIn : ByteArray := prog_11_method_33_code
def yX9_takesIn : MethodName := ⟨RX9, "takesIn", "(III)Z"⟩
abbrev cX9_way : ByteArray := prog_11_method_34_code
def yX9_way : MethodName := ⟨RX9, "way", "(I)V"⟩
abbrev cX9_isThere : ByteArray := prog_11_method_35_code
def yX9_isThere : MethodName := ⟨RX9, "isThere", "(I)Z"⟩
abbrev cX9_get : ByteArray := prog_11_method_36_code
def yX9_get : MethodName := ⟨RX9, "get", "(I)I"⟩
abbrev cX9_value : ByteArray := prog_11_method_37_code
def yX9_value : MethodName := ⟨RX9, "value", "()J"⟩
abbrev cX9_fresh : ByteArray := prog_11_method_38_code
def yX9_fresh : MethodName := ⟨RX9, "fresh", "()I"⟩
abbrev cX9_stand : ByteArray := prog_11_method_39_code
def yX9_stand : MethodName := ⟨RX9, "stand", "(III)V"⟩
abbrev cX9_write : ByteArray := prog_11_method_40_code
def yX9_write : MethodName := ⟨RX9, "write", "(IJ)I"⟩
abbrev cX9_erase : ByteArray := prog_11_method_41_code
def yX9_erase : MethodName := ⟨RX9, "erase", "(I)I"⟩
abbrev cX9_view : ByteArray := prog_11_method_42_code
def yX9_view : MethodName := ⟨RX9, "view", "()J"⟩
abbrev cX9_goThrough : ByteArray := prog_11_method_43_code
def yX9_goThrough : MethodName := ⟨RX9, "goThrough", "(II)V"⟩
abbrev cX9_count : ByteArray := prog_11_method_44_code
def yX9_count : MethodName := ⟨RX9, "count", "(II)I"⟩
abbrev cX9_next : ByteArray := prog_11_method_45_code
def yX9_next : MethodName := ⟨RX9, "next", "(I)I"⟩
abbrev cX9_pass : ByteArray := prog_11_method_46_code
def yX9_pass : MethodName := ⟨RX9, "pass", "()I"⟩
abbrev cX9_told : ByteArray := prog_11_method_47_code
def yX9_told : MethodName := ⟨RX9, "told", "(I)I"⟩
def RJ9 : String := "java/lang/Math"
def TJ9 : u_T := fun k => match k with
  | _ => ("", "", "", false)
def tyJ9 : Nat → FieldType := fun k => match k with
  | _ => .int
abbrev wsJ90 : List Cond := u_ws RJ9 TJ9 0
theorem nmJ9 : ∀ a, a < 0 → ∀ b, b < 0 → a ≠ b → (TJ9 a).2.1 ≠ (TJ9 b).2.1 := by decide +kernel
theorem tyJ9_ok : ∀ k, k < 0 → parseFieldDescriptor (TJ9 k).2.2.1 = some (tyJ9 k) := by decide +kernel
abbrev cJ9_max_7cf53 : ByteArray := prog_12_method_65_code
def yJ9_max_7cf53 : MethodName := ⟨RJ9, "max", "(II)I"⟩
def RL : String := "PathProofsLaw"
abbrev cL_law : ByteArray := code
def yL_law : MethodName := ⟨RL, "law", "([I)Z"⟩
abbrev vwCl : List vw_C := [(RX0, TX0, 1), (RX1, TX1, 5), (RX2, TX2, 1), (RX3, TX3, 3), (RX5, TX5, 3), (RX6, TX6, 4), (RX7, TX7, 2), (RX8, TX8, 9), (RX9, TX9, 42)]
def tb : List Cond := lw_tbl.filter goodWord
theorem tbm {w : Cond} (i : Nat) (h : lw_tbl[i]? = some w) (g : goodWord w = true) : w ∈ tb := List.mem_filter.mpr ⟨List.mem_of_getElem? h, g⟩
theorem tb_good {w : Cond} (h : w ∈ tb) : goodWord w = true := (List.mem_filter.mp h).2
theorem tb_in {w : Cond} (h : w ∈ tb) : w ∈ lw_tbl := (List.mem_filter.mp h).1
theorem tbs (ws : List Cond) (ps : List Nat) (hp : ws = ps.filterMap (fun i => lw_tbl[i]?)) (h : ws.all goodWord = true) : ∀ w ∈ ws, w ∈ tb := by
  intro w hw
  have h1 := List.all_eq_true.mp h w hw
  rw [hp] at hw
  obtain ⟨i, -, hi⟩ := List.mem_filterMap.mp hw
  exact tbm i hi h1
/-- a callee's words among the caller's -/
theorem tb_gi {y : MethodName} {b : ByteArray} {m : Nat} {r : Option FieldType} (h : Cond.code y b m r ∈ tb) : GoodIn tb (Cond.code y b m r :: tb) := by
  intro w hw
  rcases List.mem_cons.mp hw with rfl | hw
  · exact ⟨h, good_of_word (tb_good h)⟩
  · exact ⟨hw, good_of_word (tb_good hw)⟩
set_option maxRecDepth 100000 in
theorem in_L : (Cond.initialized RL : Cond) ∈ tb := tbm 25 rfl rfl
set_option maxRecDepth 100000 in
theorem in_X8 : (Cond.initialized RX8 : Cond) ∈ tb := tbm 26 rfl rfl
set_option maxRecDepth 100000 in
theorem in_X5 : (Cond.initialized RX5 : Cond) ∈ tb := tbm 27 rfl rfl
set_option maxRecDepth 100000 in
theorem in_X4 : (Cond.initialized RX4 : Cond) ∈ tb := tbm 28 rfl rfl
set_option maxRecDepth 100000 in
theorem in_X0 : (Cond.initialized RX0 : Cond) ∈ tb := tbm 29 rfl rfl
set_option maxRecDepth 100000 in
theorem in_X7 : (Cond.initialized RX7 : Cond) ∈ tb := tbm 30 rfl rfl
set_option maxRecDepth 100000 in
theorem in_X9 : (Cond.initialized RX9 : Cond) ∈ tb := tbm 31 rfl rfl
set_option maxRecDepth 100000 in
theorem in_X3 : (Cond.initialized RX3 : Cond) ∈ tb := tbm 32 rfl rfl
set_option maxRecDepth 100000 in
theorem in_X1 : (Cond.initialized RX1 : Cond) ∈ tb := tbm 33 rfl rfl
set_option maxRecDepth 100000 in
theorem in_X6 : (Cond.initialized RX6 : Cond) ∈ tb := tbm 34 rfl rfl
set_option maxRecDepth 100000 in
theorem in_X2 : (Cond.initialized RX2 : Cond) ∈ tb := tbm 35 rfl rfl
set_option maxRecDepth 100000 in
theorem in_J9 : (Cond.initialized RJ9 : Cond) ∈ tb := tbm 36 rfl rfl
set_option maxRecDepth 100000 in
theorem kl_L_7 : (Cond.classLink RL 7 RX8 : Cond) ∈ tb := tbm 37 rfl rfl
set_option maxRecDepth 100000 in
theorem is_X8 : (Cond.instantiable RX8 9 : Cond) ∈ tb := tbm 38 rfl rfl
set_option maxRecDepth 100000 in
theorem ml_L_9 : (Cond.methodLink RL 9 yX8_init : Cond) ∈ tb := tbm 39 rfl rfl
set_option maxRecDepth 100000 in
theorem im_X8_init : (Cond.instanceMethod yX8_init : Cond) ∈ tb := tbm 40 rfl rfl
set_option maxRecDepth 100000 in
theorem cd_X8_init : (Cond.code yX8_init cX8_init 1 none : Cond) ∈ tb := tbm 41 rfl rfl
set_option maxRecDepth 100000 in
theorem ml_X8_1 : (Cond.methodLink RX8 1 objectInit : Cond) ∈ tb := tbm 42 rfl rfl
set_option maxRecDepth 100000 in
theorem im_objectInit : (Cond.instanceMethod objectInit : Cond) ∈ tb := tbm 43 rfl rfl
set_option maxRecDepth 100000 in
theorem cd_objectInit : (Cond.code objectInit ⟨#[0xb1]⟩ 1 none : Cond) ∈ tb := tbm 44 rfl rfl
set_option maxRecDepth 100000 in
theorem kl_X8_9 : (Cond.classLink RX8 9 RX4 : Cond) ∈ tb := tbm 45 rfl rfl
set_option maxRecDepth 100000 in
theorem kl_X8_15 : (Cond.classLink RX8 15 RX5 : Cond) ∈ tb := tbm 47 rfl rfl
set_option maxRecDepth 100000 in
theorem is_X5 : (Cond.instantiable RX5 3 : Cond) ∈ tb := tbm 48 rfl rfl
set_option maxRecDepth 100000 in
theorem im_X5_init : (Cond.instanceMethod yX5_init : Cond) ∈ tb := tbm 50 rfl rfl
set_option maxRecDepth 100000 in
theorem cd_X5_init : (Cond.code yX5_init cX5_init 1 none : Cond) ∈ tb := tbm 51 rfl rfl
set_option maxRecDepth 100000 in
theorem ml_X5_3 : (Cond.methodLink RX5 3 objectInit : Cond) ∈ tb := tbm 52 rfl rfl
set_option maxRecDepth 100000 in
theorem fl_X5_9 : (Cond.fieldLink RX5 9 "PathProofs$Ranges" "firsts" "[I" : Cond) ∈ tb := tbm 53 rfl rfl
set_option maxRecDepth 100000 in
theorem fl_X5_15 : (Cond.fieldLink RX5 15 "PathProofs$Ranges" "lasts" "[I" : Cond) ∈ tb := tbm 54 rfl rfl
set_option maxRecDepth 100000 in
theorem fl_X5_18 : (Cond.fieldLink RX5 18 "PathProofs$Ranges" "size" "I" : Cond) ∈ tb := tbm 55 rfl rfl
set_option maxRecDepth 100000 in
theorem fl_X8_97 : (Cond.fieldLink RX8 97 "PathProofs$Ranges" "size" "I" : Cond) ∈ tb := tbm 56 rfl rfl
set_option maxRecDepth 100000 in
theorem ac_int : (Cond.arrayClass .int : Cond) ∈ tb := tbm 64 rfl rfl
set_option maxRecDepth 100000 in
theorem kl_X8_22 : (Cond.classLink RX8 22 RX0 : Cond) ∈ tb := tbm 65 rfl rfl
set_option maxRecDepth 100000 in
theorem is_X0 : (Cond.instantiable RX0 1 : Cond) ∈ tb := tbm 66 rfl rfl
set_option maxRecDepth 100000 in
theorem ml_X8_24 : (Cond.methodLink RX8 24 yX0_init : Cond) ∈ tb := tbm 67 rfl rfl
set_option maxRecDepth 100000 in
theorem im_X0_init : (Cond.instanceMethod yX0_init : Cond) ∈ tb := tbm 68 rfl rfl
set_option maxRecDepth 100000 in
theorem cd_X0_init : (Cond.code yX0_init cX0_init 1 none : Cond) ∈ tb := tbm 69 rfl rfl
set_option maxRecDepth 100000 in
theorem sm_X8_emptyDigest : (Cond.static yX8_emptyDigest : Cond) ∈ tb := tbm 71 rfl rfl
set_option maxRecDepth 100000 in
theorem cd_X8_emptyDigest : (Cond.code yX8_emptyDigest cX8_emptyDigest 0 (some .long) : Cond) ∈ tb := tbm 72 rfl rfl
set_option maxRecDepth 100000 in
theorem co_X8_159 : (Cond.constantLong RX8 159 (3) : Cond) ∈ tb := tbm 73 rfl rfl
set_option maxRecDepth 100000 in
theorem ml_X8_161 : (Cond.methodLink RX8 161 yX8_mix : Cond) ∈ tb := tbm 74 rfl rfl
set_option maxRecDepth 100000 in
theorem sm_X8_mix : (Cond.static yX8_mix : Cond) ∈ tb := tbm 75 rfl rfl
set_option maxRecDepth 100000 in
theorem cd_X8_mix : (Cond.code yX8_mix cX8_mix 6 (some .long) : Cond) ∈ tb := tbm 76 rfl rfl
set_option maxRecDepth 100000 in
theorem co_X8_155 : (Cond.constantLong RX8 155 (-7046029254386353131) : Cond) ∈ tb := tbm 77 rfl rfl
set_option maxRecDepth 100000 in
theorem co_X8_157 : (Cond.constantLong RX8 157 (-4658895280553007687) : Cond) ∈ tb := tbm 78 rfl rfl
set_option maxRecDepth 100000 in
theorem ml_X0_7 : (Cond.methodLink RX0 7 yX4_init : Cond) ∈ tb := tbm 79 rfl rfl
set_option maxRecDepth 100000 in
theorem im_X4_init : (Cond.instanceMethod yX4_init : Cond) ∈ tb := tbm 80 rfl rfl
set_option maxRecDepth 100000 in
theorem cd_X4_init : (Cond.code yX4_init cX4_init 3 none : Cond) ∈ tb := tbm 81 rfl rfl
set_option maxRecDepth 100000 in
theorem ml_X4_1 : (Cond.methodLink RX4 1 objectInit : Cond) ∈ tb := tbm 82 rfl rfl
set_option maxRecDepth 100000 in
theorem fl_X1_3 : (Cond.fieldLink RX1 3 "PathProofs$Node" "digest" "J" : Cond) ∈ tb := tbm 83 rfl rfl
set_option maxRecDepth 100000 in
theorem fl_X4_7 : (Cond.fieldLink RX4 7 "PathProofs$Node" "digest" "J" : Cond) ∈ tb := tbm 84 rfl rfl
set_option maxRecDepth 100000 in
theorem fl_X6_39 : (Cond.fieldLink RX6 39 "PathProofs$Node" "digest" "J" : Cond) ∈ tb := tbm 85 rfl rfl
set_option maxRecDepth 100000 in
theorem fl_X8_87 : (Cond.fieldLink RX8 87 "PathProofs$Node" "digest" "J" : Cond) ∈ tb := tbm 86 rfl rfl
set_option maxRecDepth 100000 in
theorem kl_X8_33 : (Cond.classLink RX8 33 RX7 : Cond) ∈ tb := tbm 90 rfl rfl
set_option maxRecDepth 100000 in
theorem is_X7 : (Cond.instantiable RX7 2 : Cond) ∈ tb := tbm 91 rfl rfl
set_option maxRecDepth 100000 in
theorem im_X7_init : (Cond.instanceMethod yX7_init : Cond) ∈ tb := tbm 93 rfl rfl
set_option maxRecDepth 100000 in
theorem cd_X7_init : (Cond.code yX7_init cX7_init 1 none : Cond) ∈ tb := tbm 94 rfl rfl
set_option maxRecDepth 100000 in
theorem ml_X7_3 : (Cond.methodLink RX7 3 objectInit : Cond) ∈ tb := tbm 95 rfl rfl
set_option maxRecDepth 100000 in
theorem fl_X7_9 : (Cond.fieldLink RX7 9 "PathProofs$Tape" "octets" "[I" : Cond) ∈ tb := tbm 96 rfl rfl
set_option maxRecDepth 100000 in
theorem fl_X6_84 : (Cond.fieldLink RX6 84 "PathProofs$Tape" "octets" "[I" : Cond) ∈ tb := tbm 97 rfl rfl
set_option maxRecDepth 100000 in
theorem fl_X8_113 : (Cond.fieldLink RX8 113 "PathProofs$Tape" "octets" "[I" : Cond) ∈ tb := tbm 98 rfl rfl
set_option maxRecDepth 100000 in
theorem fl_X7_15 : (Cond.fieldLink RX7 15 "PathProofs$Tape" "length" "I" : Cond) ∈ tb := tbm 99 rfl rfl
set_option maxRecDepth 100000 in
theorem fl_X6_30 : (Cond.fieldLink RX6 30 "PathProofs$Tape" "length" "I" : Cond) ∈ tb := tbm 100 rfl rfl
set_option maxRecDepth 100000 in
theorem fl_X8_104 : (Cond.fieldLink RX8 104 "PathProofs$Tape" "length" "I" : Cond) ∈ tb := tbm 101 rfl rfl
set_option maxRecDepth 100000 in
theorem fl_X8_11 : (Cond.fieldLink RX8 11 "PathProofs" "kept" "[LPathProofs$Node;" : Cond) ∈ tb := tbm 107 rfl rfl
set_option maxRecDepth 100000 in
theorem fl_X8_18 : (Cond.fieldLink RX8 18 "PathProofs" "wanted" "LPathProofs$Ranges;" : Cond) ∈ tb := tbm 108 rfl rfl
set_option maxRecDepth 100000 in
theorem fl_X8_25 : (Cond.fieldLink RX8 25 "PathProofs" "tree" "LPathProofs$Node;" : Cond) ∈ tb := tbm 109 rfl rfl
set_option maxRecDepth 100000 in
theorem fl_X8_29 : (Cond.fieldLink RX8 29 "PathProofs" "versions" "I" : Cond) ∈ tb := tbm 110 rfl rfl
set_option maxRecDepth 100000 in
theorem fl_X8_36 : (Cond.fieldLink RX8 36 "PathProofs" "tape" "LPathProofs$Tape;" : Cond) ∈ tb := tbm 111 rfl rfl
set_option maxRecDepth 100000 in
theorem fl_X8_40 : (Cond.fieldLink RX8 40 "PathProofs" "spare" "LPathProofs$Tape;" : Cond) ∈ tb := tbm 112 rfl rfl
set_option maxRecDepth 100000 in
theorem fl_X8_43 : (Cond.fieldLink RX8 43 "PathProofs" "view" "LPathProofs$Node;" : Cond) ∈ tb := tbm 113 rfl rfl
set_option maxRecDepth 100000 in
theorem fl_X8_46 : (Cond.fieldLink RX8 46 "PathProofs" "faultPlace" "I" : Cond) ∈ tb := tbm 114 rfl rfl
set_option maxRecDepth 100000 in
theorem fl_X8_49 : (Cond.fieldLink RX8 49 "PathProofs" "found" "J" : Cond) ∈ tb := tbm 115 rfl rfl
set_option maxRecDepth 100000 in
theorem ml_L_15 : (Cond.methodLink RL 15 yX8_put : Cond) ∈ tb := tbm 135 rfl rfl
set_option maxRecDepth 100000 in
theorem im_X8_put : (Cond.instanceMethod yX8_put : Cond) ∈ tb := tbm 136 rfl rfl
set_option maxRecDepth 100000 in
theorem se_X8_put : (Cond.selects RX8 yX8_put yX8_put : Cond) ∈ tb := tbm 137 rfl rfl
set_option maxRecDepth 100000 in
theorem cd_X8_put : (Cond.code yX8_put cX8_put 6 (some .int) : Cond) ∈ tb := tbm 138 rfl rfl
set_option maxRecDepth 100000 in
theorem ml_X8_53 : (Cond.methodLink RX8 53 yX8_isPath : Cond) ∈ tb := tbm 139 rfl rfl
set_option maxRecDepth 100000 in
theorem sm_X8_isPath : (Cond.static yX8_isPath : Cond) ∈ tb := tbm 140 rfl rfl
set_option maxRecDepth 100000 in
theorem cd_X8_isPath : (Cond.code yX8_isPath cX8_isPath 1 (some .boolean) : Cond) ∈ tb := tbm 141 rfl rfl
set_option maxRecDepth 100000 in
theorem co_X8_74 : (Cond.constant RX8 74 65535 : Cond) ∈ tb := tbm 142 rfl rfl
set_option maxRecDepth 100000 in
theorem ml_X8_57 : (Cond.methodLink RX8 57 yX8_endOfWay : Cond) ∈ tb := tbm 143 rfl rfl
set_option maxRecDepth 100000 in
theorem sm_X8_endOfWay : (Cond.static yX8_endOfWay : Cond) ∈ tb := tbm 144 rfl rfl
set_option maxRecDepth 100000 in
theorem cd_X8_endOfWay : (Cond.code yX8_endOfWay cX8_endOfWay 5 (some (.object "PathProofs$Node")) : Cond) ∈ tb := tbm 145 rfl rfl
set_option maxRecDepth 100000 in
theorem kl_X8_167 : (Cond.classLink RX8 167 RX1 : Cond) ∈ tb := tbm 146 rfl rfl
set_option maxRecDepth 100000 in
theorem ml_X8_169 : (Cond.methodLink RX8 169 yX1_takesIn : Cond) ∈ tb := tbm 147 rfl rfl
set_option maxRecDepth 100000 in
theorem im_X1_takesIn : (Cond.instanceMethod yX1_takesIn : Cond) ∈ tb := tbm 148 rfl rfl
set_option maxRecDepth 100000 in
theorem se_X1_takesIn : (Cond.selects RX1 yX1_takesIn yX1_takesIn : Cond) ∈ tb := tbm 149 rfl rfl
set_option maxRecDepth 100000 in
theorem cd_X1_takesIn : (Cond.code yX1_takesIn cX1_takesIn 2 (some .boolean) : Cond) ∈ tb := tbm 150 rfl rfl
set_option maxRecDepth 100000 in
theorem sm_X8_stemOf : (Cond.static yX8_stemOf : Cond) ∈ tb := tbm 152 rfl rfl
set_option maxRecDepth 100000 in
theorem cd_X8_stemOf : (Cond.code yX8_stemOf cX8_stemOf 2 (some .int) : Cond) ∈ tb := tbm 153 rfl rfl
set_option maxRecDepth 100000 in
theorem ml_X8_172 : (Cond.methodLink RX8 172 yX1_toward : Cond) ∈ tb := tbm 154 rfl rfl
set_option maxRecDepth 100000 in
theorem im_X1_toward : (Cond.instanceMethod yX1_toward : Cond) ∈ tb := tbm 155 rfl rfl
set_option maxRecDepth 100000 in
theorem se_X1_toward : (Cond.selects RX1 yX1_toward yX1_toward : Cond) ∈ tb := tbm 156 rfl rfl
set_option maxRecDepth 100000 in
theorem cd_X1_toward : (Cond.code yX1_toward cX1_toward 2 (some (.object "PathProofs$Node")) : Cond) ∈ tb := tbm 157 rfl rfl
set_option maxRecDepth 100000 in
theorem sm_X8_isHigh : (Cond.static yX8_isHigh : Cond) ∈ tb := tbm 159 rfl rfl
set_option maxRecDepth 100000 in
theorem cd_X8_isHigh : (Cond.code yX8_isHigh cX8_isHigh 2 (some .boolean) : Cond) ∈ tb := tbm 160 rfl rfl
set_option maxRecDepth 100000 in
theorem ml_X8_61 : (Cond.methodLink RX8 61 yX8_isLeafOf : Cond) ∈ tb := tbm 161 rfl rfl
set_option maxRecDepth 100000 in
theorem sm_X8_isLeafOf : (Cond.static yX8_isLeafOf : Cond) ∈ tb := tbm 162 rfl rfl
set_option maxRecDepth 100000 in
theorem cd_X8_isLeafOf : (Cond.code yX8_isLeafOf cX8_isLeafOf 3 (some .boolean) : Cond) ∈ tb := tbm 163 rfl rfl
set_option maxRecDepth 100000 in
theorem kl_X8_65 : (Cond.classLink RX8 65 RX3 : Cond) ∈ tb := tbm 164 rfl rfl
set_option maxRecDepth 100000 in
theorem is_X3 : (Cond.instantiable RX3 3 : Cond) ∈ tb := tbm 165 rfl rfl
set_option maxRecDepth 100000 in
theorem ml_X8_67 : (Cond.methodLink RX8 67 yX3_init : Cond) ∈ tb := tbm 166 rfl rfl
set_option maxRecDepth 100000 in
theorem im_X3_init : (Cond.instanceMethod yX3_init : Cond) ∈ tb := tbm 167 rfl rfl
set_option maxRecDepth 100000 in
theorem cd_X3_init : (Cond.code yX3_init cX3_init 4 none : Cond) ∈ tb := tbm 168 rfl rfl
set_option maxRecDepth 100000 in
theorem sm_X8_leafDigest : (Cond.static yX8_leafDigest : Cond) ∈ tb := tbm 170 rfl rfl
set_option maxRecDepth 100000 in
theorem cd_X8_leafDigest : (Cond.code yX8_leafDigest cX8_leafDigest 3 (some .long) : Cond) ∈ tb := tbm 171 rfl rfl
set_option maxRecDepth 100000 in
theorem ml_X3_7 : (Cond.methodLink RX3 7 yX4_init : Cond) ∈ tb := tbm 172 rfl rfl
set_option maxRecDepth 100000 in
theorem fl_X3_13 : (Cond.fieldLink RX3 13 "PathProofs$Leaf" "path" "I" : Cond) ∈ tb := tbm 173 rfl rfl
set_option maxRecDepth 100000 in
theorem fl_X8_136 : (Cond.fieldLink RX8 136 "PathProofs$Leaf" "path" "I" : Cond) ∈ tb := tbm 174 rfl rfl
set_option maxRecDepth 100000 in
theorem fl_X3_19 : (Cond.fieldLink RX3 19 "PathProofs$Leaf" "value" "J" : Cond) ∈ tb := tbm 175 rfl rfl
set_option maxRecDepth 100000 in
theorem fl_X8_139 : (Cond.fieldLink RX8 139 "PathProofs$Leaf" "value" "J" : Cond) ∈ tb := tbm 176 rfl rfl
set_option maxRecDepth 100000 in
theorem ml_X8_70 : (Cond.methodLink RX8 70 yX8_written : Cond) ∈ tb := tbm 183 rfl rfl
set_option maxRecDepth 100000 in
theorem sm_X8_written : (Cond.static yX8_written : Cond) ∈ tb := tbm 184 rfl rfl
set_option maxRecDepth 100000 in
theorem cd_X8_written : (Cond.code yX8_written cX8_written 4 (some (.object "PathProofs$Node")) : Cond) ∈ tb := tbm 185 rfl rfl
set_option maxRecDepth 100000 in
theorem ml_X8_175 : (Cond.methodLink RX8 175 yX1_with : Cond) ∈ tb := tbm 186 rfl rfl
set_option maxRecDepth 100000 in
theorem im_X1_with : (Cond.instanceMethod yX1_with : Cond) ∈ tb := tbm 187 rfl rfl
set_option maxRecDepth 100000 in
theorem se_X1_with : (Cond.selects RX1 yX1_with yX1_with : Cond) ∈ tb := tbm 188 rfl rfl
set_option maxRecDepth 100000 in
theorem cd_X1_with : (Cond.code yX1_with cX1_with 3 (some (.object "PathProofs$Fork")) : Cond) ∈ tb := tbm 189 rfl rfl
set_option maxRecDepth 100000 in
theorem kl_X1_18 : (Cond.classLink RX1 18 RX1 : Cond) ∈ tb := tbm 190 rfl rfl
set_option maxRecDepth 100000 in
theorem is_X1 : (Cond.instantiable RX1 5 : Cond) ∈ tb := tbm 191 rfl rfl
set_option maxRecDepth 100000 in
theorem ml_X1_41 : (Cond.methodLink RX1 41 yX1_init : Cond) ∈ tb := tbm 192 rfl rfl
set_option maxRecDepth 100000 in
theorem im_X1_init : (Cond.instanceMethod yX1_init : Cond) ∈ tb := tbm 193 rfl rfl
set_option maxRecDepth 100000 in
theorem cd_X1_init : (Cond.code yX1_init cX1_init 5 none : Cond) ∈ tb := tbm 194 rfl rfl
set_option maxRecDepth 100000 in
theorem sm_X8_forkDigest : (Cond.static yX8_forkDigest : Cond) ∈ tb := tbm 196 rfl rfl
set_option maxRecDepth 100000 in
theorem cd_X8_forkDigest : (Cond.code yX8_forkDigest cX8_forkDigest 6 (some .long) : Cond) ∈ tb := tbm 197 rfl rfl
set_option maxRecDepth 100000 in
theorem co_X8_165 : (Cond.constantLong RX8 165 (2) : Cond) ∈ tb := tbm 198 rfl rfl
set_option maxRecDepth 100000 in
theorem ml_X1_13 : (Cond.methodLink RX1 13 yX4_init : Cond) ∈ tb := tbm 199 rfl rfl
set_option maxRecDepth 100000 in
theorem fl_X1_17 : (Cond.fieldLink RX1 17 "PathProofs$Fork" "bit" "I" : Cond) ∈ tb := tbm 200 rfl rfl
set_option maxRecDepth 100000 in
theorem fl_X8_224 : (Cond.fieldLink RX8 224 "PathProofs$Fork" "bit" "I" : Cond) ∈ tb := tbm 201 rfl rfl
set_option maxRecDepth 100000 in
theorem fl_X1_23 : (Cond.fieldLink RX1 23 "PathProofs$Fork" "stem" "I" : Cond) ∈ tb := tbm 202 rfl rfl
set_option maxRecDepth 100000 in
theorem fl_X8_179 : (Cond.fieldLink RX8 179 "PathProofs$Fork" "stem" "I" : Cond) ∈ tb := tbm 203 rfl rfl
set_option maxRecDepth 100000 in
theorem fl_X1_26 : (Cond.fieldLink RX1 26 "PathProofs$Fork" "low" "LPathProofs$Node;" : Cond) ∈ tb := tbm 204 rfl rfl
set_option maxRecDepth 100000 in
theorem fl_X8_199 : (Cond.fieldLink RX8 199 "PathProofs$Fork" "low" "LPathProofs$Node;" : Cond) ∈ tb := tbm 205 rfl rfl
set_option maxRecDepth 100000 in
theorem fl_X1_30 : (Cond.fieldLink RX1 30 "PathProofs$Fork" "high" "LPathProofs$Node;" : Cond) ∈ tb := tbm 206 rfl rfl
set_option maxRecDepth 100000 in
theorem fl_X8_202 : (Cond.fieldLink RX8 202 "PathProofs$Fork" "high" "LPathProofs$Node;" : Cond) ∈ tb := tbm 207 rfl rfl
set_option maxRecDepth 100000 in
theorem ml_X8_182 : (Cond.methodLink RX8 182 yX8_forkOf : Cond) ∈ tb := tbm 218 rfl rfl
set_option maxRecDepth 100000 in
theorem sm_X8_forkOf : (Cond.static yX8_forkOf : Cond) ∈ tb := tbm 219 rfl rfl
set_option maxRecDepth 100000 in
theorem cd_X8_forkOf : (Cond.code yX8_forkOf cX8_forkOf 5 (some (.object "PathProofs$Node")) : Cond) ∈ tb := tbm 220 rfl rfl
set_option maxRecDepth 100000 in
theorem ml_X8_186 : (Cond.methodLink RX8 186 yX8_firstOtherBit : Cond) ∈ tb := tbm 221 rfl rfl
set_option maxRecDepth 100000 in
theorem sm_X8_firstOtherBit : (Cond.static yX8_firstOtherBit : Cond) ∈ tb := tbm 222 rfl rfl
set_option maxRecDepth 100000 in
theorem cd_X8_firstOtherBit : (Cond.code yX8_firstOtherBit cX8_firstOtherBit 3 (some .int) : Cond) ∈ tb := tbm 223 rfl rfl
set_option maxRecDepth 100000 in
theorem ml_X8_152 : (Cond.methodLink RX8 152 yX8_isHigh : Cond) ∈ tb := tbm 224 rfl rfl
set_option maxRecDepth 100000 in
theorem ml_X8_190 : (Cond.methodLink RX8 190 yX8_stemOf : Cond) ∈ tb := tbm 225 rfl rfl
set_option maxRecDepth 100000 in
theorem ml_X8_193 : (Cond.methodLink RX8 193 yX1_init : Cond) ∈ tb := tbm 226 rfl rfl
set_option maxRecDepth 100000 in
theorem ml_X8_75 : (Cond.methodLink RX8 75 yX8_leavesWithin : Cond) ∈ tb := tbm 227 rfl rfl
set_option maxRecDepth 100000 in
theorem sm_X8_leavesWithin : (Cond.static yX8_leavesWithin : Cond) ∈ tb := tbm 228 rfl rfl
set_option maxRecDepth 100000 in
theorem cd_X8_leavesWithin : (Cond.code yX8_leavesWithin cX8_leavesWithin 5 (some .int) : Cond) ∈ tb := tbm 229 rfl rfl
set_option maxRecDepth 100000 in
theorem ml_L_20 : (Cond.methodLink RL 20 yX8_remove : Cond) ∈ tb := tbm 230 rfl rfl
set_option maxRecDepth 100000 in
theorem im_X8_remove : (Cond.instanceMethod yX8_remove : Cond) ∈ tb := tbm 231 rfl rfl
set_option maxRecDepth 100000 in
theorem se_X8_remove : (Cond.selects RX8 yX8_remove yX8_remove : Cond) ∈ tb := tbm 232 rfl rfl
set_option maxRecDepth 100000 in
theorem cd_X8_remove : (Cond.code yX8_remove cX8_remove 2 (some .int) : Cond) ∈ tb := tbm 233 rfl rfl
set_option maxRecDepth 100000 in
theorem ml_X8_79 : (Cond.methodLink RX8 79 yX8_erased : Cond) ∈ tb := tbm 234 rfl rfl
set_option maxRecDepth 100000 in
theorem sm_X8_erased : (Cond.static yX8_erased : Cond) ∈ tb := tbm 235 rfl rfl
set_option maxRecDepth 100000 in
theorem cd_X8_erased : (Cond.code yX8_erased cX8_erased 5 (some (.object "PathProofs$Node")) : Cond) ∈ tb := tbm 236 rfl rfl
set_option maxRecDepth 100000 in
theorem ml_X8_196 : (Cond.methodLink RX8 196 yX1_besides : Cond) ∈ tb := tbm 237 rfl rfl
set_option maxRecDepth 100000 in
theorem im_X1_besides : (Cond.instanceMethod yX1_besides : Cond) ∈ tb := tbm 238 rfl rfl
set_option maxRecDepth 100000 in
theorem se_X1_besides : (Cond.selects RX1 yX1_besides yX1_besides : Cond) ∈ tb := tbm 239 rfl rfl
set_option maxRecDepth 100000 in
theorem cd_X1_besides : (Cond.code yX1_besides cX1_besides 2 (some (.object "PathProofs$Node")) : Cond) ∈ tb := tbm 240 rfl rfl
set_option maxRecDepth 100000 in
theorem ml_L_25 : (Cond.methodLink RL 25 yX8_keep : Cond) ∈ tb := tbm 241 rfl rfl
set_option maxRecDepth 100000 in
theorem im_X8_keep : (Cond.instanceMethod yX8_keep : Cond) ∈ tb := tbm 242 rfl rfl
set_option maxRecDepth 100000 in
theorem se_X8_keep : (Cond.selects RX8 yX8_keep yX8_keep : Cond) ∈ tb := tbm 243 rfl rfl
set_option maxRecDepth 100000 in
theorem cd_X8_keep : (Cond.code yX8_keep cX8_keep 1 (some .int) : Cond) ∈ tb := tbm 244 rfl rfl
set_option maxRecDepth 100000 in
theorem ml_L_30 : (Cond.methodLink RL 30 yX8_root : Cond) ∈ tb := tbm 245 rfl rfl
set_option maxRecDepth 100000 in
theorem im_X8_root : (Cond.instanceMethod yX8_root : Cond) ∈ tb := tbm 246 rfl rfl
set_option maxRecDepth 100000 in
theorem se_X8_root : (Cond.selects RX8 yX8_root yX8_root : Cond) ∈ tb := tbm 247 rfl rfl
set_option maxRecDepth 100000 in
theorem cd_X8_root : (Cond.code yX8_root cX8_root 3 (some .long) : Cond) ∈ tb := tbm 248 rfl rfl
set_option maxRecDepth 100000 in
theorem ml_X8_83 : (Cond.methodLink RX8 83 yX8_wholeOf : Cond) ∈ tb := tbm 249 rfl rfl
set_option maxRecDepth 100000 in
theorem im_X8_wholeOf : (Cond.instanceMethod yX8_wholeOf : Cond) ∈ tb := tbm 251 rfl rfl
set_option maxRecDepth 100000 in
theorem cd_X8_wholeOf : (Cond.code yX8_wholeOf cX8_wholeOf 2 (some (.object "PathProofs$Node")) : Cond) ∈ tb := tbm 252 rfl rfl
set_option maxRecDepth 100000 in
theorem ml_L_35 : (Cond.methodLink RL 35 yX8_leaves : Cond) ∈ tb := tbm 253 rfl rfl
set_option maxRecDepth 100000 in
theorem im_X8_leaves : (Cond.instanceMethod yX8_leaves : Cond) ∈ tb := tbm 254 rfl rfl
set_option maxRecDepth 100000 in
theorem se_X8_leaves : (Cond.selects RX8 yX8_leaves yX8_leaves : Cond) ∈ tb := tbm 255 rfl rfl
set_option maxRecDepth 100000 in
theorem cd_X8_leaves : (Cond.code yX8_leaves cX8_leaves 3 (some .int) : Cond) ∈ tb := tbm 256 rfl rfl
set_option maxRecDepth 100000 in
theorem ml_L_39 : (Cond.methodLink RL 39 yX8_want : Cond) ∈ tb := tbm 257 rfl rfl
set_option maxRecDepth 100000 in
theorem im_X8_want : (Cond.instanceMethod yX8_want : Cond) ∈ tb := tbm 258 rfl rfl
set_option maxRecDepth 100000 in
theorem se_X8_want : (Cond.selects RX8 yX8_want yX8_want : Cond) ∈ tb := tbm 259 rfl rfl
set_option maxRecDepth 100000 in
theorem cd_X8_want : (Cond.code yX8_want cX8_want 3 (some .int) : Cond) ∈ tb := tbm 260 rfl rfl
set_option maxRecDepth 100000 in
theorem ml_X8_90 : (Cond.methodLink RX8 90 yX8_isRange : Cond) ∈ tb := tbm 261 rfl rfl
set_option maxRecDepth 100000 in
theorem sm_X8_isRange : (Cond.static yX8_isRange : Cond) ∈ tb := tbm 262 rfl rfl
set_option maxRecDepth 100000 in
theorem cd_X8_isRange : (Cond.code yX8_isRange cX8_isRange 2 (some .boolean) : Cond) ∈ tb := tbm 263 rfl rfl
set_option maxRecDepth 100000 in
theorem ml_X8_94 : (Cond.methodLink RX8 94 yX5_add : Cond) ∈ tb := tbm 264 rfl rfl
set_option maxRecDepth 100000 in
theorem im_X5_add : (Cond.instanceMethod yX5_add : Cond) ∈ tb := tbm 265 rfl rfl
set_option maxRecDepth 100000 in
theorem se_X5_add : (Cond.selects RX5 yX5_add yX5_add : Cond) ∈ tb := tbm 266 rfl rfl
set_option maxRecDepth 100000 in
theorem cd_X5_add : (Cond.code yX5_add cX5_add 3 (some .boolean) : Cond) ∈ tb := tbm 267 rfl rfl
set_option maxRecDepth 100000 in
theorem ml_L_44 : (Cond.methodLink RL 44 yX8_forget : Cond) ∈ tb := tbm 268 rfl rfl
set_option maxRecDepth 100000 in
theorem im_X8_forget : (Cond.instanceMethod yX8_forget : Cond) ∈ tb := tbm 269 rfl rfl
set_option maxRecDepth 100000 in
theorem se_X8_forget : (Cond.selects RX8 yX8_forget yX8_forget : Cond) ∈ tb := tbm 270 rfl rfl
set_option maxRecDepth 100000 in
theorem cd_X8_forget : (Cond.code yX8_forget cX8_forget 2 (some .int) : Cond) ∈ tb := tbm 271 rfl rfl
set_option maxRecDepth 100000 in
theorem ml_L_48 : (Cond.methodLink RL 48 yX8_show : Cond) ∈ tb := tbm 272 rfl rfl
set_option maxRecDepth 100000 in
theorem im_X8_show : (Cond.instanceMethod yX8_show : Cond) ∈ tb := tbm 273 rfl rfl
set_option maxRecDepth 100000 in
theorem se_X8_show : (Cond.selects RX8 yX8_show yX8_show : Cond) ∈ tb := tbm 274 rfl rfl
set_option maxRecDepth 100000 in
theorem cd_X8_show : (Cond.code yX8_show cX8_show 3 (some .int) : Cond) ∈ tb := tbm 275 rfl rfl
set_option maxRecDepth 100000 in
theorem ml_X8_100 : (Cond.methodLink RX8 100 yX8_tapeBecomes : Cond) ∈ tb := tbm 276 rfl rfl
set_option maxRecDepth 100000 in
theorem im_X8_tapeBecomes : (Cond.instanceMethod yX8_tapeBecomes : Cond) ∈ tb := tbm 278 rfl rfl
set_option maxRecDepth 100000 in
theorem cd_X8_tapeBecomes : (Cond.code yX8_tapeBecomes cX8_tapeBecomes 3 (some .int) : Cond) ∈ tb := tbm 279 rfl rfl
set_option maxRecDepth 100000 in
theorem ml_X8_217 : (Cond.methodLink RX8 217 yX8_appendShown : Cond) ∈ tb := tbm 280 rfl rfl
set_option maxRecDepth 100000 in
theorem im_X8_appendShown : (Cond.instanceMethod yX8_appendShown : Cond) ∈ tb := tbm 282 rfl rfl
set_option maxRecDepth 100000 in
theorem cd_X8_appendShown : (Cond.code yX8_appendShown cX8_appendShown 7 none : Cond) ∈ tb := tbm 283 rfl rfl
set_option maxRecDepth 100000 in
theorem kl_X8_134 : (Cond.classLink RX8 134 RX2 : Cond) ∈ tb := tbm 284 rfl rfl
set_option maxRecDepth 100000 in
theorem ml_X8_221 : (Cond.methodLink RX8 221 yX5_meet : Cond) ∈ tb := tbm 285 rfl rfl
set_option maxRecDepth 100000 in
theorem im_X5_meet : (Cond.instanceMethod yX5_meet : Cond) ∈ tb := tbm 286 rfl rfl
set_option maxRecDepth 100000 in
theorem se_X5_meet : (Cond.selects RX5 yX5_meet yX5_meet : Cond) ∈ tb := tbm 287 rfl rfl
set_option maxRecDepth 100000 in
theorem cd_X5_meet : (Cond.code yX5_meet cX5_meet 4 (some .boolean) : Cond) ∈ tb := tbm 288 rfl rfl
set_option maxRecDepth 100000 in
theorem ml_X8_107 : (Cond.methodLink RX8 107 yX7_append : Cond) ∈ tb := tbm 289 rfl rfl
set_option maxRecDepth 100000 in
theorem im_X7_append : (Cond.instanceMethod yX7_append : Cond) ∈ tb := tbm 290 rfl rfl
set_option maxRecDepth 100000 in
theorem se_X7_append : (Cond.selects RX7 yX7_append yX7_append : Cond) ∈ tb := tbm 291 rfl rfl
set_option maxRecDepth 100000 in
theorem cd_X7_append : (Cond.code yX7_append cX7_append 5 none : Cond) ∈ tb := tbm 292 rfl rfl
set_option maxRecDepth 100000 in
theorem ml_X8_210 : (Cond.methodLink RX8 210 yX1_middle : Cond) ∈ tb := tbm 293 rfl rfl
set_option maxRecDepth 100000 in
theorem im_X1_middle : (Cond.instanceMethod yX1_middle : Cond) ∈ tb := tbm 294 rfl rfl
set_option maxRecDepth 100000 in
theorem se_X1_middle : (Cond.selects RX1 yX1_middle yX1_middle : Cond) ∈ tb := tbm 295 rfl rfl
set_option maxRecDepth 100000 in
theorem cd_X1_middle : (Cond.code yX1_middle cX1_middle 1 (some .int) : Cond) ∈ tb := tbm 296 rfl rfl
set_option maxRecDepth 100000 in
theorem ml_X8_214 : (Cond.methodLink RX8 214 yX1_last : Cond) ∈ tb := tbm 297 rfl rfl
set_option maxRecDepth 100000 in
theorem im_X1_last : (Cond.instanceMethod yX1_last : Cond) ∈ tb := tbm 298 rfl rfl
set_option maxRecDepth 100000 in
theorem se_X1_last : (Cond.selects RX1 yX1_last yX1_last : Cond) ∈ tb := tbm 299 rfl rfl
set_option maxRecDepth 100000 in
theorem cd_X1_last : (Cond.code yX1_last cX1_last 1 (some .int) : Cond) ∈ tb := tbm 300 rfl rfl
set_option maxRecDepth 100000 in
theorem ml_L_52 : (Cond.methodLink RL 52 yX8_pass : Cond) ∈ tb := tbm 301 rfl rfl
set_option maxRecDepth 100000 in
theorem im_X8_pass : (Cond.instanceMethod yX8_pass : Cond) ∈ tb := tbm 302 rfl rfl
set_option maxRecDepth 100000 in
theorem se_X8_pass : (Cond.selects RX8 yX8_pass yX8_pass : Cond) ∈ tb := tbm 303 rfl rfl
set_option maxRecDepth 100000 in
theorem cd_X8_pass : (Cond.code yX8_pass cX8_pass 1 (some .int) : Cond) ∈ tb := tbm 304 rfl rfl
set_option maxRecDepth 100000 in
theorem ml_L_56 : (Cond.methodLink RL 56 yX8_feed : Cond) ∈ tb := tbm 305 rfl rfl
set_option maxRecDepth 100000 in
theorem im_X8_feed : (Cond.instanceMethod yX8_feed : Cond) ∈ tb := tbm 306 rfl rfl
set_option maxRecDepth 100000 in
theorem se_X8_feed : (Cond.selects RX8 yX8_feed yX8_feed : Cond) ∈ tb := tbm 307 rfl rfl
set_option maxRecDepth 100000 in
theorem cd_X8_feed : (Cond.code yX8_feed cX8_feed 4 (some .int) : Cond) ∈ tb := tbm 308 rfl rfl
set_option maxRecDepth 100000 in
theorem ml_L_60 : (Cond.methodLink RL 60 yX8_cut : Cond) ∈ tb := tbm 309 rfl rfl
set_option maxRecDepth 100000 in
theorem im_X8_cut : (Cond.instanceMethod yX8_cut : Cond) ∈ tb := tbm 310 rfl rfl
set_option maxRecDepth 100000 in
theorem se_X8_cut : (Cond.selects RX8 yX8_cut yX8_cut : Cond) ∈ tb := tbm 311 rfl rfl
set_option maxRecDepth 100000 in
theorem cd_X8_cut : (Cond.code yX8_cut cX8_cut 3 (some .int) : Cond) ∈ tb := tbm 312 rfl rfl
set_option maxRecDepth 100000 in
theorem ml_L_64 : (Cond.methodLink RL 64 yX8_spoil : Cond) ∈ tb := tbm 313 rfl rfl
set_option maxRecDepth 100000 in
theorem im_X8_spoil : (Cond.instanceMethod yX8_spoil : Cond) ∈ tb := tbm 314 rfl rfl
set_option maxRecDepth 100000 in
theorem se_X8_spoil : (Cond.selects RX8 yX8_spoil yX8_spoil : Cond) ∈ tb := tbm 315 rfl rfl
set_option maxRecDepth 100000 in
theorem cd_X8_spoil : (Cond.code yX8_spoil cX8_spoil 3 (some .int) : Cond) ∈ tb := tbm 316 rfl rfl
set_option maxRecDepth 100000 in
theorem ml_X8_110 : (Cond.methodLink RX8 110 yX7_has : Cond) ∈ tb := tbm 317 rfl rfl
set_option maxRecDepth 100000 in
theorem im_X7_has : (Cond.instanceMethod yX7_has : Cond) ∈ tb := tbm 318 rfl rfl
set_option maxRecDepth 100000 in
theorem se_X7_has : (Cond.selects RX7 yX7_has yX7_has : Cond) ∈ tb := tbm 319 rfl rfl
set_option maxRecDepth 100000 in
theorem cd_X7_has : (Cond.code yX7_has cX7_has 2 (some .boolean) : Cond) ∈ tb := tbm 320 rfl rfl
set_option maxRecDepth 100000 in
theorem ml_L_68 : (Cond.methodLink RL 68 yX8_take : Cond) ∈ tb := tbm 321 rfl rfl
set_option maxRecDepth 100000 in
theorem im_X8_take : (Cond.instanceMethod yX8_take : Cond) ∈ tb := tbm 322 rfl rfl
set_option maxRecDepth 100000 in
theorem se_X8_take : (Cond.selects RX8 yX8_take yX8_take : Cond) ∈ tb := tbm 323 rfl rfl
set_option maxRecDepth 100000 in
theorem cd_X8_take : (Cond.code yX8_take cX8_take 5 (some .int) : Cond) ∈ tb := tbm 324 rfl rfl
set_option maxRecDepth 100000 in
theorem kl_X8_117 : (Cond.classLink RX8 117 RX6 : Cond) ∈ tb := tbm 325 rfl rfl
set_option maxRecDepth 100000 in
theorem is_X6 : (Cond.instantiable RX6 4 : Cond) ∈ tb := tbm 326 rfl rfl
set_option maxRecDepth 100000 in
theorem ml_X8_119 : (Cond.methodLink RX8 119 yX6_init : Cond) ∈ tb := tbm 327 rfl rfl
set_option maxRecDepth 100000 in
theorem im_X6_init : (Cond.instanceMethod yX6_init : Cond) ∈ tb := tbm 328 rfl rfl
set_option maxRecDepth 100000 in
theorem cd_X6_init : (Cond.code yX6_init cX6_init 2 none : Cond) ∈ tb := tbm 329 rfl rfl
set_option maxRecDepth 100000 in
theorem ml_X6_3 : (Cond.methodLink RX6 3 objectInit : Cond) ∈ tb := tbm 330 rfl rfl
set_option maxRecDepth 100000 in
theorem fl_X6_21 : (Cond.fieldLink RX6 21 "PathProofs$Reading" "tape" "LPathProofs$Tape;" : Cond) ∈ tb := tbm 331 rfl rfl
set_option maxRecDepth 100000 in
theorem fl_X6_9 : (Cond.fieldLink RX6 9 "PathProofs$Reading" "at" "I" : Cond) ∈ tb := tbm 332 rfl rfl
set_option maxRecDepth 100000 in
theorem fl_X6_15 : (Cond.fieldLink RX6 15 "PathProofs$Reading" "fault" "I" : Cond) ∈ tb := tbm 333 rfl rfl
set_option maxRecDepth 100000 in
theorem fl_X8_127 : (Cond.fieldLink RX8 127 "PathProofs$Reading" "fault" "I" : Cond) ∈ tb := tbm 334 rfl rfl
set_option maxRecDepth 100000 in
theorem fl_X6_18 : (Cond.fieldLink RX6 18 "PathProofs$Reading" "faultPlace" "I" : Cond) ∈ tb := tbm 335 rfl rfl
set_option maxRecDepth 100000 in
theorem fl_X8_126 : (Cond.fieldLink RX8 126 "PathProofs$Reading" "faultPlace" "I" : Cond) ∈ tb := tbm 336 rfl rfl
set_option maxRecDepth 100000 in
theorem ml_X8_122 : (Cond.methodLink RX8 122 yX6_wholeWith : Cond) ∈ tb := tbm 346 rfl rfl
set_option maxRecDepth 100000 in
theorem im_X6_wholeWith : (Cond.instanceMethod yX6_wholeWith : Cond) ∈ tb := tbm 347 rfl rfl
set_option maxRecDepth 100000 in
theorem se_X6_wholeWith : (Cond.selects RX6 yX6_wholeWith yX6_wholeWith : Cond) ∈ tb := tbm 348 rfl rfl
set_option maxRecDepth 100000 in
theorem cd_X6_wholeWith : (Cond.code yX6_wholeWith cX6_wholeWith 4 (some (.object "PathProofs$Node")) : Cond) ∈ tb := tbm 349 rfl rfl
set_option maxRecDepth 100000 in
theorem co_X6_25 : (Cond.constant RX6 25 65535 : Cond) ∈ tb := tbm 350 rfl rfl
set_option maxRecDepth 100000 in
theorem ml_X6_26 : (Cond.methodLink RX6 26 yX6_readNode : Cond) ∈ tb := tbm 351 rfl rfl
set_option maxRecDepth 100000 in
theorem im_X6_readNode : (Cond.instanceMethod yX6_readNode : Cond) ∈ tb := tbm 353 rfl rfl
set_option maxRecDepth 100000 in
theorem cd_X6_readNode : (Cond.code yX6_readNode cX6_readNode 4 (some (.object "PathProofs$Node")) : Cond) ∈ tb := tbm 354 rfl rfl
set_option maxRecDepth 100000 in
theorem ml_X6_45 : (Cond.methodLink RX6 45 yX6_lacks : Cond) ∈ tb := tbm 355 rfl rfl
set_option maxRecDepth 100000 in
theorem im_X6_lacks : (Cond.instanceMethod yX6_lacks : Cond) ∈ tb := tbm 357 rfl rfl
set_option maxRecDepth 100000 in
theorem cd_X6_lacks : (Cond.code yX6_lacks cX6_lacks 2 (some .boolean) : Cond) ∈ tb := tbm 358 rfl rfl
set_option maxRecDepth 100000 in
theorem ml_X6_35 : (Cond.methodLink RX6 35 yX6_refuse : Cond) ∈ tb := tbm 359 rfl rfl
set_option maxRecDepth 100000 in
theorem im_X6_refuse : (Cond.instanceMethod yX6_refuse : Cond) ∈ tb := tbm 361 rfl rfl
set_option maxRecDepth 100000 in
theorem cd_X6_refuse : (Cond.code yX6_refuse cX6_refuse 3 (some (.object "PathProofs$Node")) : Cond) ∈ tb := tbm 362 rfl rfl
set_option maxRecDepth 100000 in
theorem ml_X6_49 : (Cond.methodLink RX6 49 yX6_number : Cond) ∈ tb := tbm 363 rfl rfl
set_option maxRecDepth 100000 in
theorem im_X6_number : (Cond.instanceMethod yX6_number : Cond) ∈ tb := tbm 365 rfl rfl
set_option maxRecDepth 100000 in
theorem cd_X6_number : (Cond.code yX6_number cX6_number 5 (some .long) : Cond) ∈ tb := tbm 366 rfl rfl
set_option maxRecDepth 100000 in
theorem ml_X6_81 : (Cond.methodLink RX6 81 yX7_has : Cond) ∈ tb := tbm 367 rfl rfl
set_option maxRecDepth 100000 in
theorem kl_X6_53 : (Cond.classLink RX6 53 RX2 : Cond) ∈ tb := tbm 368 rfl rfl
set_option maxRecDepth 100000 in
theorem is_X2 : (Cond.instantiable RX2 1 : Cond) ∈ tb := tbm 369 rfl rfl
set_option maxRecDepth 100000 in
theorem ml_X6_55 : (Cond.methodLink RX6 55 yX2_init : Cond) ∈ tb := tbm 370 rfl rfl
set_option maxRecDepth 100000 in
theorem im_X2_init : (Cond.instanceMethod yX2_init : Cond) ∈ tb := tbm 371 rfl rfl
set_option maxRecDepth 100000 in
theorem cd_X2_init : (Cond.code yX2_init cX2_init 3 none : Cond) ∈ tb := tbm 372 rfl rfl
set_option maxRecDepth 100000 in
theorem ml_X2_1 : (Cond.methodLink RX2 1 yX4_init : Cond) ∈ tb := tbm 373 rfl rfl
set_option maxRecDepth 100000 in
theorem ml_X6_58 : (Cond.methodLink RX6 58 yX6_readFork : Cond) ∈ tb := tbm 376 rfl rfl
set_option maxRecDepth 100000 in
theorem im_X6_readFork : (Cond.instanceMethod yX6_readFork : Cond) ∈ tb := tbm 378 rfl rfl
set_option maxRecDepth 100000 in
theorem cd_X6_readFork : (Cond.code yX6_readFork cX6_readFork 9 (some (.object "PathProofs$Node")) : Cond) ∈ tb := tbm 379 rfl rfl
set_option maxRecDepth 100000 in
theorem kl_X6_76 : (Cond.classLink RX6 76 RX1 : Cond) ∈ tb := tbm 381 rfl rfl
set_option maxRecDepth 100000 in
theorem ml_X6_78 : (Cond.methodLink RX6 78 yX1_init : Cond) ∈ tb := tbm 382 rfl rfl
set_option maxRecDepth 100000 in
theorem ml_X6_61 : (Cond.methodLink RX6 61 yX6_readLeaf : Cond) ∈ tb := tbm 383 rfl rfl
set_option maxRecDepth 100000 in
theorem im_X6_readLeaf : (Cond.instanceMethod yX6_readLeaf : Cond) ∈ tb := tbm 385 rfl rfl
set_option maxRecDepth 100000 in
theorem cd_X6_readLeaf : (Cond.code yX6_readLeaf cX6_readLeaf 4 (some (.object "PathProofs$Node")) : Cond) ∈ tb := tbm 386 rfl rfl
set_option maxRecDepth 100000 in
theorem kl_X6_67 : (Cond.classLink RX6 67 RX3 : Cond) ∈ tb := tbm 387 rfl rfl
set_option maxRecDepth 100000 in
theorem ml_X6_69 : (Cond.methodLink RX6 69 yX3_init : Cond) ∈ tb := tbm 388 rfl rfl
set_option maxRecDepth 100000 in
theorem kl_X6_64 : (Cond.classLink RX6 64 RX0 : Cond) ∈ tb := tbm 389 rfl rfl
set_option maxRecDepth 100000 in
theorem ml_X6_66 : (Cond.methodLink RX6 66 yX0_init : Cond) ∈ tb := tbm 390 rfl rfl
set_option maxRecDepth 100000 in
theorem ml_X8_130 : (Cond.methodLink RX8 130 yX8_nodesOf : Cond) ∈ tb := tbm 391 rfl rfl
set_option maxRecDepth 100000 in
theorem sm_X8_nodesOf : (Cond.static yX8_nodesOf : Cond) ∈ tb := tbm 392 rfl rfl
set_option maxRecDepth 100000 in
theorem cd_X8_nodesOf : (Cond.code yX8_nodesOf cX8_nodesOf 3 (some .int) : Cond) ∈ tb := tbm 393 rfl rfl
set_option maxRecDepth 100000 in
theorem ml_L_73 : (Cond.methodLink RL 73 yX8_place : Cond) ∈ tb := tbm 394 rfl rfl
set_option maxRecDepth 100000 in
theorem im_X8_place : (Cond.instanceMethod yX8_place : Cond) ∈ tb := tbm 395 rfl rfl
set_option maxRecDepth 100000 in
theorem se_X8_place : (Cond.selects RX8 yX8_place yX8_place : Cond) ∈ tb := tbm 396 rfl rfl
set_option maxRecDepth 100000 in
theorem cd_X8_place : (Cond.code yX8_place cX8_place 1 (some .int) : Cond) ∈ tb := tbm 397 rfl rfl
set_option maxRecDepth 100000 in
theorem ml_L_77 : (Cond.methodLink RL 77 yX8_get : Cond) ∈ tb := tbm 398 rfl rfl
set_option maxRecDepth 100000 in
theorem im_X8_get : (Cond.instanceMethod yX8_get : Cond) ∈ tb := tbm 399 rfl rfl
set_option maxRecDepth 100000 in
theorem se_X8_get : (Cond.selects RX8 yX8_get yX8_get : Cond) ∈ tb := tbm 400 rfl rfl
set_option maxRecDepth 100000 in
theorem cd_X8_get : (Cond.code yX8_get cX8_get 4 (some .int) : Cond) ∈ tb := tbm 401 rfl rfl
set_option maxRecDepth 100000 in
theorem ml_L_81 : (Cond.methodLink RL 81 yX8_value : Cond) ∈ tb := tbm 402 rfl rfl
set_option maxRecDepth 100000 in
theorem im_X8_value : (Cond.instanceMethod yX8_value : Cond) ∈ tb := tbm 403 rfl rfl
set_option maxRecDepth 100000 in
theorem se_X8_value : (Cond.selects RX8 yX8_value yX8_value : Cond) ∈ tb := tbm 404 rfl rfl
set_option maxRecDepth 100000 in
theorem cd_X8_value : (Cond.code yX8_value cX8_value 1 (some .long) : Cond) ∈ tb := tbm 405 rfl rfl
set_option maxRecDepth 100000 in
theorem ml_L_86 : (Cond.methodLink RL 86 yX8_write : Cond) ∈ tb := tbm 406 rfl rfl
set_option maxRecDepth 100000 in
theorem im_X8_write : (Cond.instanceMethod yX8_write : Cond) ∈ tb := tbm 407 rfl rfl
set_option maxRecDepth 100000 in
theorem se_X8_write : (Cond.selects RX8 yX8_write yX8_write : Cond) ∈ tb := tbm 408 rfl rfl
set_option maxRecDepth 100000 in
theorem cd_X8_write : (Cond.code yX8_write cX8_write 6 (some .int) : Cond) ∈ tb := tbm 409 rfl rfl
set_option maxRecDepth 100000 in
theorem ml_L_90 : (Cond.methodLink RL 90 yX8_erase : Cond) ∈ tb := tbm 410 rfl rfl
set_option maxRecDepth 100000 in
theorem im_X8_erase : (Cond.instanceMethod yX8_erase : Cond) ∈ tb := tbm 411 rfl rfl
set_option maxRecDepth 100000 in
theorem se_X8_erase : (Cond.selects RX8 yX8_erase yX8_erase : Cond) ∈ tb := tbm 412 rfl rfl
set_option maxRecDepth 100000 in
theorem cd_X8_erase : (Cond.code yX8_erase cX8_erase 3 (some .int) : Cond) ∈ tb := tbm 413 rfl rfl
set_option maxRecDepth 100000 in
theorem ml_L_94 : (Cond.methodLink RL 94 yX8_view : Cond) ∈ tb := tbm 414 rfl rfl
set_option maxRecDepth 100000 in
theorem im_X8_view : (Cond.instanceMethod yX8_view : Cond) ∈ tb := tbm 415 rfl rfl
set_option maxRecDepth 100000 in
theorem se_X8_view : (Cond.selects RX8 yX8_view yX8_view : Cond) ∈ tb := tbm 416 rfl rfl
set_option maxRecDepth 100000 in
theorem cd_X8_view : (Cond.code yX8_view cX8_view 1 (some .long) : Cond) ∈ tb := tbm 417 rfl rfl
set_option maxRecDepth 100000 in
theorem ml_L_98 : (Cond.methodLink RL 98 yX8_count : Cond) ∈ tb := tbm 418 rfl rfl
set_option maxRecDepth 100000 in
theorem im_X8_count : (Cond.instanceMethod yX8_count : Cond) ∈ tb := tbm 419 rfl rfl
set_option maxRecDepth 100000 in
theorem se_X8_count : (Cond.selects RX8 yX8_count yX8_count : Cond) ∈ tb := tbm 420 rfl rfl
set_option maxRecDepth 100000 in
theorem cd_X8_count : (Cond.code yX8_count cX8_count 3 (some .int) : Cond) ∈ tb := tbm 421 rfl rfl
set_option maxRecDepth 100000 in
theorem ml_X8_142 : (Cond.methodLink RX8 142 yX8_hiddenOver : Cond) ∈ tb := tbm 422 rfl rfl
set_option maxRecDepth 100000 in
theorem sm_X8_hiddenOver : (Cond.static yX8_hiddenOver : Cond) ∈ tb := tbm 423 rfl rfl
set_option maxRecDepth 100000 in
theorem cd_X8_hiddenOver : (Cond.code yX8_hiddenOver cX8_hiddenOver 7 (some .int) : Cond) ∈ tb := tbm 424 rfl rfl
set_option maxRecDepth 100000 in
theorem ml_L_102 : (Cond.methodLink RL 102 yX8_next : Cond) ∈ tb := tbm 425 rfl rfl
set_option maxRecDepth 100000 in
theorem im_X8_next : (Cond.instanceMethod yX8_next : Cond) ∈ tb := tbm 426 rfl rfl
set_option maxRecDepth 100000 in
theorem se_X8_next : (Cond.selects RX8 yX8_next yX8_next : Cond) ∈ tb := tbm 427 rfl rfl
set_option maxRecDepth 100000 in
theorem cd_X8_next : (Cond.code yX8_next cX8_next 2 (some .int) : Cond) ∈ tb := tbm 428 rfl rfl
set_option maxRecDepth 100000 in
theorem ml_X8_146 : (Cond.methodLink RX8 146 yX8_leastFrom : Cond) ∈ tb := tbm 429 rfl rfl
set_option maxRecDepth 100000 in
theorem sm_X8_leastFrom : (Cond.static yX8_leastFrom : Cond) ∈ tb := tbm 430 rfl rfl
set_option maxRecDepth 100000 in
theorem cd_X8_leastFrom : (Cond.code yX8_leastFrom cX8_leastFrom 6 (some .int) : Cond) ∈ tb := tbm 431 rfl rfl
set_option maxRecDepth 100000 in
theorem ml_L_106 : (Cond.methodLink RL 106 yX8_told : Cond) ∈ tb := tbm 432 rfl rfl
set_option maxRecDepth 100000 in
theorem im_X8_told : (Cond.instanceMethod yX8_told : Cond) ∈ tb := tbm 433 rfl rfl
set_option maxRecDepth 100000 in
theorem se_X8_told : (Cond.selects RX8 yX8_told yX8_told : Cond) ∈ tb := tbm 434 rfl rfl
set_option maxRecDepth 100000 in
theorem cd_X8_told : (Cond.code yX8_told cX8_told 2 (some .int) : Cond) ∈ tb := tbm 435 rfl rfl
set_option maxRecDepth 100000 in
theorem ml_X8_149 : (Cond.methodLink RX8 149 yX8_mostForks : Cond) ∈ tb := tbm 436 rfl rfl
set_option maxRecDepth 100000 in
theorem sm_X8_mostForks : (Cond.static yX8_mostForks : Cond) ∈ tb := tbm 437 rfl rfl
set_option maxRecDepth 100000 in
theorem cd_X8_mostForks : (Cond.code yX8_mostForks cX8_mostForks 3 (some .int) : Cond) ∈ tb := tbm 438 rfl rfl
set_option maxRecDepth 100000 in
theorem ml_X8_205 : (Cond.methodLink RX8 205 yJ9_max_7cf53 : Cond) ∈ tb := tbm 439 rfl rfl
set_option maxRecDepth 100000 in
theorem sm_J9_max_7cf53 : (Cond.static yJ9_max_7cf53 : Cond) ∈ tb := tbm 440 rfl rfl
set_option maxRecDepth 100000 in
theorem cd_J9_max_7cf53 : (Cond.code yJ9_max_7cf53 cJ9_max_7cf53 2 (some .int) : Cond) ∈ tb := tbm 441 rfl rfl
set_option maxRecDepth 100000 in
theorem ml_L_110 : (Cond.methodLink RL 110 yX8_octet : Cond) ∈ tb := tbm 442 rfl rfl
set_option maxRecDepth 100000 in
theorem im_X8_octet : (Cond.instanceMethod yX8_octet : Cond) ∈ tb := tbm 443 rfl rfl
set_option maxRecDepth 100000 in
theorem se_X8_octet : (Cond.selects RX8 yX8_octet yX8_octet : Cond) ∈ tb := tbm 444 rfl rfl
set_option maxRecDepth 100000 in
theorem cd_X8_octet : (Cond.code yX8_octet cX8_octet 2 (some .int) : Cond) ∈ tb := tbm 445 rfl rfl
set_option maxRecDepth 100000 in
theorem kl_L_10 : (Cond.classLink RL 10 RX9 : Cond) ∈ tb := tbm 446 rfl rfl
set_option maxRecDepth 100000 in
theorem is_X9 : (Cond.instantiable RX9 42 : Cond) ∈ tb := tbm 447 rfl rfl
set_option maxRecDepth 100000 in
theorem ml_L_12 : (Cond.methodLink RL 12 yX9_init : Cond) ∈ tb := tbm 448 rfl rfl
set_option maxRecDepth 100000 in
theorem im_X9_init : (Cond.instanceMethod yX9_init : Cond) ∈ tb := tbm 449 rfl rfl
set_option maxRecDepth 100000 in
theorem cd_X9_init : (Cond.code yX9_init cX9_init 1 none : Cond) ∈ tb := tbm 450 rfl rfl
set_option maxRecDepth 100000 in
theorem ml_X9_1 : (Cond.methodLink RX9 1 objectInit : Cond) ∈ tb := tbm 451 rfl rfl
set_option maxRecDepth 100000 in
theorem fl_X9_7 : (Cond.fieldLink RX9 7 "PathProofsModel" "path" "[I" : Cond) ∈ tb := tbm 452 rfl rfl
set_option maxRecDepth 100000 in
theorem fl_X9_13 : (Cond.fieldLink RX9 13 "PathProofsModel" "value" "[J" : Cond) ∈ tb := tbm 453 rfl rfl
set_option maxRecDepth 100000 in
theorem fl_X9_17 : (Cond.fieldLink RX9 17 "PathProofsModel" "size" "[I" : Cond) ∈ tb := tbm 454 rfl rfl
set_option maxRecDepth 100000 in
theorem fl_X9_98 : (Cond.fieldLink RX9 98 "PathProofsModel" "versions" "I" : Cond) ∈ tb := tbm 455 rfl rfl
set_option maxRecDepth 100000 in
theorem fl_X9_20 : (Cond.fieldLink RX9 20 "PathProofsModel" "from" "[I" : Cond) ∈ tb := tbm 456 rfl rfl
set_option maxRecDepth 100000 in
theorem fl_X9_23 : (Cond.fieldLink RX9 23 "PathProofsModel" "to" "[I" : Cond) ∈ tb := tbm 457 rfl rfl
set_option maxRecDepth 100000 in
theorem fl_X9_139 : (Cond.fieldLink RX9 139 "PathProofsModel" "wanted" "I" : Cond) ∈ tb := tbm 458 rfl rfl
set_option maxRecDepth 100000 in
theorem fl_X9_26 : (Cond.fieldLink RX9 26 "PathProofsModel" "tape" "[I" : Cond) ∈ tb := tbm 459 rfl rfl
set_option maxRecDepth 100000 in
theorem fl_X9_147 : (Cond.fieldLink RX9 147 "PathProofsModel" "taped" "I" : Cond) ∈ tb := tbm 460 rfl rfl
set_option maxRecDepth 100000 in
theorem fl_X9_29 : (Cond.fieldLink RX9 29 "PathProofsModel" "waitDigest" "[J" : Cond) ∈ tb := tbm 461 rfl rfl
set_option maxRecDepth 100000 in
theorem fl_X9_32 : (Cond.fieldLink RX9 32 "PathProofsModel" "waitBit" "[I" : Cond) ∈ tb := tbm 462 rfl rfl
set_option maxRecDepth 100000 in
theorem fl_X9_35 : (Cond.fieldLink RX9 35 "PathProofsModel" "waitDeep" "[I" : Cond) ∈ tb := tbm 463 rfl rfl
set_option maxRecDepth 100000 in
theorem fl_X9_109 : (Cond.fieldLink RX9 109 "PathProofsModel" "deepest" "I" : Cond) ∈ tb := tbm 464 rfl rfl
set_option maxRecDepth 100000 in
theorem fl_X9_38 : (Cond.fieldLink RX9 38 "PathProofsModel" "out" "[I" : Cond) ∈ tb := tbm 465 rfl rfl
set_option maxRecDepth 100000 in
theorem fl_X9_142 : (Cond.fieldLink RX9 142 "PathProofsModel" "laid" "I" : Cond) ∈ tb := tbm 466 rfl rfl
set_option maxRecDepth 100000 in
theorem fl_X9_41 : (Cond.fieldLink RX9 41 "PathProofsModel" "oneOf" "[I" : Cond) ∈ tb := tbm 467 rfl rfl
set_option maxRecDepth 100000 in
theorem fl_X9_44 : (Cond.fieldLink RX9 44 "PathProofsModel" "twoOf" "[I" : Cond) ∈ tb := tbm 468 rfl rfl
set_option maxRecDepth 100000 in
theorem fl_X9_47 : (Cond.fieldLink RX9 47 "PathProofsModel" "placeFrom" "[I" : Cond) ∈ tb := tbm 469 rfl rfl
set_option maxRecDepth 100000 in
theorem fl_X9_50 : (Cond.fieldLink RX9 50 "PathProofsModel" "placeTo" "[I" : Cond) ∈ tb := tbm 470 rfl rfl
set_option maxRecDepth 100000 in
theorem fl_X9_150 : (Cond.fieldLink RX9 150 "PathProofsModel" "rests" "I" : Cond) ∈ tb := tbm 471 rfl rfl
set_option maxRecDepth 100000 in
theorem fl_X9_53 : (Cond.fieldLink RX9 53 "PathProofsModel" "kind" "[I" : Cond) ∈ tb := tbm 472 rfl rfl
set_option maxRecDepth 100000 in
theorem fl_X9_56 : (Cond.fieldLink RX9 56 "PathProofsModel" "bitOf" "[I" : Cond) ∈ tb := tbm 473 rfl rfl
set_option maxRecDepth 100000 in
theorem fl_X9_59 : (Cond.fieldLink RX9 59 "PathProofsModel" "stem" "[I" : Cond) ∈ tb := tbm 474 rfl rfl
set_option maxRecDepth 100000 in
theorem fl_X9_62 : (Cond.fieldLink RX9 62 "PathProofsModel" "held" "[J" : Cond) ∈ tb := tbm 475 rfl rfl
set_option maxRecDepth 100000 in
theorem fl_X9_65 : (Cond.fieldLink RX9 65 "PathProofsModel" "low" "[I" : Cond) ∈ tb := tbm 476 rfl rfl
set_option maxRecDepth 100000 in
theorem fl_X9_68 : (Cond.fieldLink RX9 68 "PathProofsModel" "high" "[I" : Cond) ∈ tb := tbm 477 rfl rfl
set_option maxRecDepth 100000 in
theorem fl_X9_71 : (Cond.fieldLink RX9 71 "PathProofsModel" "sum" "[J" : Cond) ∈ tb := tbm 478 rfl rfl
set_option maxRecDepth 100000 in
theorem fl_X9_74 : (Cond.fieldLink RX9 74 "PathProofsModel" "row" "[I" : Cond) ∈ tb := tbm 479 rfl rfl
set_option maxRecDepth 100000 in
theorem fl_X9_176 : (Cond.fieldLink RX9 176 "PathProofsModel" "half" "I" : Cond) ∈ tb := tbm 480 rfl rfl
set_option maxRecDepth 100000 in
theorem fl_X9_186 : (Cond.fieldLink RX9 186 "PathProofsModel" "nodes" "I" : Cond) ∈ tb := tbm 481 rfl rfl
set_option maxRecDepth 100000 in
theorem fl_X9_77 : (Cond.fieldLink RX9 77 "PathProofsModel" "root" "I" : Cond) ∈ tb := tbm 482 rfl rfl
set_option maxRecDepth 100000 in
theorem fl_X9_81 : (Cond.fieldLink RX9 81 "PathProofsModel" "free" "[I" : Cond) ∈ tb := tbm 483 rfl rfl
set_option maxRecDepth 100000 in
theorem fl_X9_189 : (Cond.fieldLink RX9 189 "PathProofsModel" "freed" "I" : Cond) ∈ tb := tbm 484 rfl rfl
set_option maxRecDepth 100000 in
theorem fl_X9_84 : (Cond.fieldLink RX9 84 "PathProofsModel" "faultAt" "I" : Cond) ∈ tb := tbm 485 rfl rfl
set_option maxRecDepth 100000 in
theorem fl_X9_169 : (Cond.fieldLink RX9 169 "PathProofsModel" "at" "I" : Cond) ∈ tb := tbm 486 rfl rfl
set_option maxRecDepth 100000 in
theorem fl_X9_192 : (Cond.fieldLink RX9 192 "PathProofsModel" "end" "I" : Cond) ∈ tb := tbm 487 rfl rfl
set_option maxRecDepth 100000 in
theorem fl_X9_195 : (Cond.fieldLink RX9 195 "PathProofsModel" "above" "I" : Cond) ∈ tb := tbm 488 rfl rfl
set_option maxRecDepth 100000 in
theorem fl_X9_202 : (Cond.fieldLink RX9 202 "PathProofsModel" "found" "J" : Cond) ∈ tb := tbm 489 rfl rfl
set_option maxRecDepth 100000 in
theorem fl_X9_220 : (Cond.fieldLink RX9 220 "PathProofsModel" "counted" "I" : Cond) ∈ tb := tbm 490 rfl rfl
set_option maxRecDepth 100000 in
theorem fl_X9_224 : (Cond.fieldLink RX9 224 "PathProofsModel" "leastLeaf" "I" : Cond) ∈ tb := tbm 491 rfl rfl
set_option maxRecDepth 100000 in
theorem fl_X9_227 : (Cond.fieldLink RX9 227 "PathProofsModel" "leastHidden" "I" : Cond) ∈ tb := tbm 492 rfl rfl
set_option maxRecDepth 100000 in
theorem fl_X9_230 : (Cond.fieldLink RX9 230 "PathProofsModel" "hiddenMany" "I" : Cond) ∈ tb := tbm 493 rfl rfl
set_option maxRecDepth 100000 in
theorem ac_long : (Cond.arrayClass .long : Cond) ∈ tb := tbm 579 rfl rfl
set_option maxRecDepth 100000 in
theorem ml_L_19 : (Cond.methodLink RL 19 yX9_put : Cond) ∈ tb := tbm 580 rfl rfl
set_option maxRecDepth 100000 in
theorem im_X9_put : (Cond.instanceMethod yX9_put : Cond) ∈ tb := tbm 581 rfl rfl
set_option maxRecDepth 100000 in
theorem se_X9_put : (Cond.selects RX9 yX9_put yX9_put : Cond) ∈ tb := tbm 582 rfl rfl
set_option maxRecDepth 100000 in
theorem cd_X9_put : (Cond.code yX9_put cX9_put 6 (some .int) : Cond) ∈ tb := tbm 583 rfl rfl
set_option maxRecDepth 100000 in
theorem ml_X9_101 : (Cond.methodLink RX9 101 yX9_isPath : Cond) ∈ tb := tbm 584 rfl rfl
set_option maxRecDepth 100000 in
theorem sm_X9_isPath : (Cond.static yX9_isPath : Cond) ∈ tb := tbm 585 rfl rfl
set_option maxRecDepth 100000 in
theorem cd_X9_isPath : (Cond.code yX9_isPath cX9_isPath 1 (some .boolean) : Cond) ∈ tb := tbm 586 rfl rfl
set_option maxRecDepth 100000 in
theorem co_X9_87 : (Cond.constant RX9 87 65535 : Cond) ∈ tb := tbm 587 rfl rfl
set_option maxRecDepth 100000 in
theorem ml_X9_105 : (Cond.methodLink RX9 105 yX9_find : Cond) ∈ tb := tbm 588 rfl rfl
set_option maxRecDepth 100000 in
theorem im_X9_find : (Cond.instanceMethod yX9_find : Cond) ∈ tb := tbm 590 rfl rfl
set_option maxRecDepth 100000 in
theorem cd_X9_find : (Cond.code yX9_find cX9_find 3 (some .int) : Cond) ∈ tb := tbm 591 rfl rfl
set_option maxRecDepth 100000 in
theorem ml_L_24 : (Cond.methodLink RL 24 yX9_remove : Cond) ∈ tb := tbm 592 rfl rfl
set_option maxRecDepth 100000 in
theorem im_X9_remove : (Cond.instanceMethod yX9_remove : Cond) ∈ tb := tbm 593 rfl rfl
set_option maxRecDepth 100000 in
theorem se_X9_remove : (Cond.selects RX9 yX9_remove yX9_remove : Cond) ∈ tb := tbm 594 rfl rfl
set_option maxRecDepth 100000 in
theorem cd_X9_remove : (Cond.code yX9_remove cX9_remove 4 (some .int) : Cond) ∈ tb := tbm 595 rfl rfl
set_option maxRecDepth 100000 in
theorem ml_L_29 : (Cond.methodLink RL 29 yX9_keep : Cond) ∈ tb := tbm 596 rfl rfl
set_option maxRecDepth 100000 in
theorem im_X9_keep : (Cond.instanceMethod yX9_keep : Cond) ∈ tb := tbm 597 rfl rfl
set_option maxRecDepth 100000 in
theorem se_X9_keep : (Cond.selects RX9 yX9_keep yX9_keep : Cond) ∈ tb := tbm 598 rfl rfl
set_option maxRecDepth 100000 in
theorem cd_X9_keep : (Cond.code yX9_keep cX9_keep 2 (some .int) : Cond) ∈ tb := tbm 599 rfl rfl
set_option maxRecDepth 100000 in
theorem ml_L_34 : (Cond.methodLink RL 34 yX9_root : Cond) ∈ tb := tbm 600 rfl rfl
set_option maxRecDepth 100000 in
theorem im_X9_root : (Cond.instanceMethod yX9_root : Cond) ∈ tb := tbm 601 rfl rfl
set_option maxRecDepth 100000 in
theorem se_X9_root : (Cond.selects RX9 yX9_root yX9_root : Cond) ∈ tb := tbm 602 rfl rfl
set_option maxRecDepth 100000 in
theorem cd_X9_root : (Cond.code yX9_root cX9_root 3 (some .long) : Cond) ∈ tb := tbm 603 rfl rfl
set_option maxRecDepth 100000 in
theorem ml_X9_129 : (Cond.methodLink RX9 129 yX9_baseOf : Cond) ∈ tb := tbm 604 rfl rfl
set_option maxRecDepth 100000 in
theorem im_X9_baseOf : (Cond.instanceMethod yX9_baseOf : Cond) ∈ tb := tbm 606 rfl rfl
set_option maxRecDepth 100000 in
theorem cd_X9_baseOf : (Cond.code yX9_baseOf cX9_baseOf 2 (some .int) : Cond) ∈ tb := tbm 607 rfl rfl
set_option maxRecDepth 100000 in
theorem ml_X9_132 : (Cond.methodLink RX9 132 yX9_sizeOf : Cond) ∈ tb := tbm 608 rfl rfl
set_option maxRecDepth 100000 in
theorem im_X9_sizeOf : (Cond.instanceMethod yX9_sizeOf : Cond) ∈ tb := tbm 610 rfl rfl
set_option maxRecDepth 100000 in
theorem cd_X9_sizeOf : (Cond.code yX9_sizeOf cX9_sizeOf 2 (some .int) : Cond) ∈ tb := tbm 611 rfl rfl
set_option maxRecDepth 100000 in
theorem ml_X9_135 : (Cond.methodLink RX9 135 yX9_digest : Cond) ∈ tb := tbm 612 rfl rfl
set_option maxRecDepth 100000 in
theorem im_X9_digest : (Cond.instanceMethod yX9_digest : Cond) ∈ tb := tbm 614 rfl rfl
set_option maxRecDepth 100000 in
theorem cd_X9_digest : (Cond.code yX9_digest cX9_digest 9 (some .long) : Cond) ∈ tb := tbm 615 rfl rfl
set_option maxRecDepth 100000 in
theorem co_X9_112 : (Cond.constantLong RX9 112 (3) : Cond) ∈ tb := tbm 616 rfl rfl
set_option maxRecDepth 100000 in
theorem ml_X9_92 : (Cond.methodLink RX9 92 yX9_mix : Cond) ∈ tb := tbm 617 rfl rfl
set_option maxRecDepth 100000 in
theorem sm_X9_mix : (Cond.static yX9_mix : Cond) ∈ tb := tbm 618 rfl rfl
set_option maxRecDepth 100000 in
theorem cd_X9_mix : (Cond.code yX9_mix cX9_mix 6 (some .long) : Cond) ∈ tb := tbm 619 rfl rfl
set_option maxRecDepth 100000 in
theorem co_X9_88 : (Cond.constantLong RX9 88 (-7046029254386353131) : Cond) ∈ tb := tbm 620 rfl rfl
set_option maxRecDepth 100000 in
theorem co_X9_90 : (Cond.constantLong RX9 90 (-4658895280553007687) : Cond) ∈ tb := tbm 621 rfl rfl
set_option maxRecDepth 100000 in
theorem ml_X9_114 : (Cond.methodLink RX9 114 yX9_firstBit : Cond) ∈ tb := tbm 622 rfl rfl
set_option maxRecDepth 100000 in
theorem sm_X9_firstBit : (Cond.static yX9_firstBit : Cond) ∈ tb := tbm 623 rfl rfl
set_option maxRecDepth 100000 in
theorem cd_X9_firstBit : (Cond.code yX9_firstBit cX9_firstBit 3 (some .int) : Cond) ∈ tb := tbm 624 rfl rfl
set_option maxRecDepth 100000 in
theorem ml_X9_118 : (Cond.methodLink RX9 118 yX9_stemOf : Cond) ∈ tb := tbm 625 rfl rfl
set_option maxRecDepth 100000 in
theorem sm_X9_stemOf : (Cond.static yX9_stemOf : Cond) ∈ tb := tbm 626 rfl rfl
set_option maxRecDepth 100000 in
theorem cd_X9_stemOf : (Cond.code yX9_stemOf cX9_stemOf 2 (some .int) : Cond) ∈ tb := tbm 627 rfl rfl
set_option maxRecDepth 100000 in
theorem ml_X9_121 : (Cond.methodLink RX9 121 yX9_forkDigest : Cond) ∈ tb := tbm 628 rfl rfl
set_option maxRecDepth 100000 in
theorem sm_X9_forkDigest : (Cond.static yX9_forkDigest : Cond) ∈ tb := tbm 629 rfl rfl
set_option maxRecDepth 100000 in
theorem cd_X9_forkDigest : (Cond.code yX9_forkDigest cX9_forkDigest 6 (some .long) : Cond) ∈ tb := tbm 630 rfl rfl
set_option maxRecDepth 100000 in
theorem co_X9_96 : (Cond.constantLong RX9 96 (2) : Cond) ∈ tb := tbm 631 rfl rfl
set_option maxRecDepth 100000 in
theorem ml_X9_125 : (Cond.methodLink RX9 125 yX9_leafDigest : Cond) ∈ tb := tbm 632 rfl rfl
set_option maxRecDepth 100000 in
theorem sm_X9_leafDigest : (Cond.static yX9_leafDigest : Cond) ∈ tb := tbm 633 rfl rfl
set_option maxRecDepth 100000 in
theorem cd_X9_leafDigest : (Cond.code yX9_leafDigest cX9_leafDigest 3 (some .long) : Cond) ∈ tb := tbm 634 rfl rfl
set_option maxRecDepth 100000 in
theorem ml_L_38 : (Cond.methodLink RL 38 yX9_leaves : Cond) ∈ tb := tbm 635 rfl rfl
set_option maxRecDepth 100000 in
theorem im_X9_leaves : (Cond.instanceMethod yX9_leaves : Cond) ∈ tb := tbm 636 rfl rfl
set_option maxRecDepth 100000 in
theorem se_X9_leaves : (Cond.selects RX9 yX9_leaves yX9_leaves : Cond) ∈ tb := tbm 637 rfl rfl
set_option maxRecDepth 100000 in
theorem cd_X9_leaves : (Cond.code yX9_leaves cX9_leaves 2 (some .int) : Cond) ∈ tb := tbm 638 rfl rfl
set_option maxRecDepth 100000 in
theorem ml_L_43 : (Cond.methodLink RL 43 yX9_want : Cond) ∈ tb := tbm 639 rfl rfl
set_option maxRecDepth 100000 in
theorem im_X9_want : (Cond.instanceMethod yX9_want : Cond) ∈ tb := tbm 640 rfl rfl
set_option maxRecDepth 100000 in
theorem se_X9_want : (Cond.selects RX9 yX9_want yX9_want : Cond) ∈ tb := tbm 641 rfl rfl
set_option maxRecDepth 100000 in
theorem cd_X9_want : (Cond.code yX9_want cX9_want 3 (some .int) : Cond) ∈ tb := tbm 642 rfl rfl
set_option maxRecDepth 100000 in
theorem ml_L_47 : (Cond.methodLink RL 47 yX9_forget : Cond) ∈ tb := tbm 643 rfl rfl
set_option maxRecDepth 100000 in
theorem im_X9_forget : (Cond.instanceMethod yX9_forget : Cond) ∈ tb := tbm 644 rfl rfl
set_option maxRecDepth 100000 in
theorem se_X9_forget : (Cond.selects RX9 yX9_forget yX9_forget : Cond) ∈ tb := tbm 645 rfl rfl
set_option maxRecDepth 100000 in
theorem cd_X9_forget : (Cond.code yX9_forget cX9_forget 2 (some .int) : Cond) ∈ tb := tbm 646 rfl rfl
set_option maxRecDepth 100000 in
theorem ml_L_51 : (Cond.methodLink RL 51 yX9_show : Cond) ∈ tb := tbm 647 rfl rfl
set_option maxRecDepth 100000 in
theorem im_X9_show : (Cond.instanceMethod yX9_show : Cond) ∈ tb := tbm 648 rfl rfl
set_option maxRecDepth 100000 in
theorem se_X9_show : (Cond.selects RX9 yX9_show yX9_show : Cond) ∈ tb := tbm 649 rfl rfl
set_option maxRecDepth 100000 in
theorem cd_X9_show : (Cond.code yX9_show cX9_show 9 (some .int) : Cond) ∈ tb := tbm 650 rfl rfl
set_option maxRecDepth 100000 in
theorem ml_X9_153 : (Cond.methodLink RX9 153 yX9_rest : Cond) ∈ tb := tbm 651 rfl rfl
set_option maxRecDepth 100000 in
theorem im_X9_rest : (Cond.instanceMethod yX9_rest : Cond) ∈ tb := tbm 653 rfl rfl
set_option maxRecDepth 100000 in
theorem cd_X9_rest : (Cond.code yX9_rest cX9_rest 5 none : Cond) ∈ tb := tbm 654 rfl rfl
set_option maxRecDepth 100000 in
theorem ml_X9_157 : (Cond.methodLink RX9 157 yX9_isWanted : Cond) ∈ tb := tbm 655 rfl rfl
set_option maxRecDepth 100000 in
theorem im_X9_isWanted : (Cond.instanceMethod yX9_isWanted : Cond) ∈ tb := tbm 657 rfl rfl
set_option maxRecDepth 100000 in
theorem cd_X9_isWanted : (Cond.code yX9_isWanted cX9_isWanted 5 (some .boolean) : Cond) ∈ tb := tbm 658 rfl rfl
set_option maxRecDepth 100000 in
theorem ml_X9_161 : (Cond.methodLink RX9 161 yX9_lay : Cond) ∈ tb := tbm 659 rfl rfl
set_option maxRecDepth 100000 in
theorem im_X9_lay : (Cond.instanceMethod yX9_lay : Cond) ∈ tb := tbm 661 rfl rfl
set_option maxRecDepth 100000 in
theorem cd_X9_lay : (Cond.code yX9_lay cX9_lay 5 none : Cond) ∈ tb := tbm 662 rfl rfl
set_option maxRecDepth 100000 in
theorem co_X9_145 : (Cond.constantLong RX9 145 (255) : Cond) ∈ tb := tbm 663 rfl rfl
set_option maxRecDepth 100000 in
theorem ml_X9_165 : (Cond.methodLink RX9 165 yX9_laidOut : Cond) ∈ tb := tbm 664 rfl rfl
set_option maxRecDepth 100000 in
theorem im_X9_laidOut : (Cond.instanceMethod yX9_laidOut : Cond) ∈ tb := tbm 666 rfl rfl
set_option maxRecDepth 100000 in
theorem cd_X9_laidOut : (Cond.code yX9_laidOut cX9_laidOut 2 (some .int) : Cond) ∈ tb := tbm 667 rfl rfl
set_option maxRecDepth 100000 in
theorem ml_L_59 : (Cond.methodLink RL 59 yX9_feed : Cond) ∈ tb := tbm 668 rfl rfl
set_option maxRecDepth 100000 in
theorem im_X9_feed : (Cond.instanceMethod yX9_feed : Cond) ∈ tb := tbm 669 rfl rfl
set_option maxRecDepth 100000 in
theorem se_X9_feed : (Cond.selects RX9 yX9_feed yX9_feed : Cond) ∈ tb := tbm 670 rfl rfl
set_option maxRecDepth 100000 in
theorem cd_X9_feed : (Cond.code yX9_feed cX9_feed 5 (some .int) : Cond) ∈ tb := tbm 671 rfl rfl
set_option maxRecDepth 100000 in
theorem ml_L_63 : (Cond.methodLink RL 63 yX9_cut : Cond) ∈ tb := tbm 672 rfl rfl
set_option maxRecDepth 100000 in
theorem im_X9_cut : (Cond.instanceMethod yX9_cut : Cond) ∈ tb := tbm 673 rfl rfl
set_option maxRecDepth 100000 in
theorem se_X9_cut : (Cond.selects RX9 yX9_cut yX9_cut : Cond) ∈ tb := tbm 674 rfl rfl
set_option maxRecDepth 100000 in
theorem cd_X9_cut : (Cond.code yX9_cut cX9_cut 3 (some .int) : Cond) ∈ tb := tbm 675 rfl rfl
set_option maxRecDepth 100000 in
theorem ml_L_67 : (Cond.methodLink RL 67 yX9_spoil : Cond) ∈ tb := tbm 676 rfl rfl
set_option maxRecDepth 100000 in
theorem im_X9_spoil : (Cond.instanceMethod yX9_spoil : Cond) ∈ tb := tbm 677 rfl rfl
set_option maxRecDepth 100000 in
theorem se_X9_spoil : (Cond.selects RX9 yX9_spoil yX9_spoil : Cond) ∈ tb := tbm 678 rfl rfl
set_option maxRecDepth 100000 in
theorem cd_X9_spoil : (Cond.code yX9_spoil cX9_spoil 3 (some .int) : Cond) ∈ tb := tbm 679 rfl rfl
set_option maxRecDepth 100000 in
theorem ml_L_113 : (Cond.methodLink RL 113 yX9_octet : Cond) ∈ tb := tbm 680 rfl rfl
set_option maxRecDepth 100000 in
theorem im_X9_octet : (Cond.instanceMethod yX9_octet : Cond) ∈ tb := tbm 681 rfl rfl
set_option maxRecDepth 100000 in
theorem se_X9_octet : (Cond.selects RX9 yX9_octet yX9_octet : Cond) ∈ tb := tbm 682 rfl rfl
set_option maxRecDepth 100000 in
theorem cd_X9_octet : (Cond.code yX9_octet cX9_octet 2 (some .int) : Cond) ∈ tb := tbm 683 rfl rfl
set_option maxRecDepth 100000 in
theorem ml_L_72 : (Cond.methodLink RL 72 yX9_take : Cond) ∈ tb := tbm 684 rfl rfl
set_option maxRecDepth 100000 in
theorem im_X9_take : (Cond.instanceMethod yX9_take : Cond) ∈ tb := tbm 685 rfl rfl
set_option maxRecDepth 100000 in
theorem se_X9_take : (Cond.selects RX9 yX9_take yX9_take : Cond) ∈ tb := tbm 686 rfl rfl
set_option maxRecDepth 100000 in
theorem cd_X9_take : (Cond.code yX9_take cX9_take 8 (some .int) : Cond) ∈ tb := tbm 687 rfl rfl
set_option maxRecDepth 100000 in
theorem ml_X9_179 : (Cond.methodLink RX9 179 yX9_taken : Cond) ∈ tb := tbm 688 rfl rfl
set_option maxRecDepth 100000 in
theorem im_X9_taken : (Cond.instanceMethod yX9_taken : Cond) ∈ tb := tbm 690 rfl rfl
set_option maxRecDepth 100000 in
theorem cd_X9_taken : (Cond.code yX9_taken cX9_taken 6 (some .int) : Cond) ∈ tb := tbm 691 rfl rfl
set_option maxRecDepth 100000 in
theorem ml_X9_172 : (Cond.methodLink RX9 172 yX9_numeral : Cond) ∈ tb := tbm 692 rfl rfl
set_option maxRecDepth 100000 in
theorem im_X9_numeral : (Cond.instanceMethod yX9_numeral : Cond) ∈ tb := tbm 694 rfl rfl
set_option maxRecDepth 100000 in
theorem cd_X9_numeral : (Cond.code yX9_numeral cX9_numeral 5 (some .long) : Cond) ∈ tb := tbm 695 rfl rfl
set_option maxRecDepth 100000 in
theorem ml_X9_183 : (Cond.methodLink RX9 183 yX9_sumUp : Cond) ∈ tb := tbm 696 rfl rfl
set_option maxRecDepth 100000 in
theorem im_X9_sumUp : (Cond.instanceMethod yX9_sumUp : Cond) ∈ tb := tbm 698 rfl rfl
set_option maxRecDepth 100000 in
theorem cd_X9_sumUp : (Cond.code yX9_sumUp cX9_sumUp 5 (some .long) : Cond) ∈ tb := tbm 699 rfl rfl
set_option maxRecDepth 100000 in
theorem ml_L_76 : (Cond.methodLink RL 76 yX9_place : Cond) ∈ tb := tbm 700 rfl rfl
set_option maxRecDepth 100000 in
theorem im_X9_place : (Cond.instanceMethod yX9_place : Cond) ∈ tb := tbm 701 rfl rfl
set_option maxRecDepth 100000 in
theorem se_X9_place : (Cond.selects RX9 yX9_place yX9_place : Cond) ∈ tb := tbm 702 rfl rfl
set_option maxRecDepth 100000 in
theorem cd_X9_place : (Cond.code yX9_place cX9_place 1 (some .int) : Cond) ∈ tb := tbm 703 rfl rfl
set_option maxRecDepth 100000 in
theorem ml_L_80 : (Cond.methodLink RL 80 yX9_get : Cond) ∈ tb := tbm 704 rfl rfl
set_option maxRecDepth 100000 in
theorem im_X9_get : (Cond.instanceMethod yX9_get : Cond) ∈ tb := tbm 705 rfl rfl
set_option maxRecDepth 100000 in
theorem se_X9_get : (Cond.selects RX9 yX9_get yX9_get : Cond) ∈ tb := tbm 706 rfl rfl
set_option maxRecDepth 100000 in
theorem cd_X9_get : (Cond.code yX9_get cX9_get 2 (some .int) : Cond) ∈ tb := tbm 707 rfl rfl
set_option maxRecDepth 100000 in
theorem ml_X9_206 : (Cond.methodLink RX9 206 yX9_way : Cond) ∈ tb := tbm 708 rfl rfl
set_option maxRecDepth 100000 in
theorem im_X9_way : (Cond.instanceMethod yX9_way : Cond) ∈ tb := tbm 710 rfl rfl
set_option maxRecDepth 100000 in
theorem cd_X9_way : (Cond.code yX9_way cX9_way 2 none : Cond) ∈ tb := tbm 711 rfl rfl
set_option maxRecDepth 100000 in
theorem ml_X9_198 : (Cond.methodLink RX9 198 yX9_takesIn : Cond) ∈ tb := tbm 712 rfl rfl
set_option maxRecDepth 100000 in
theorem sm_X9_takesIn : (Cond.static yX9_takesIn : Cond) ∈ tb := tbm 713 rfl rfl
set_option maxRecDepth 100000 in
theorem cd_X9_takesIn : (Cond.code yX9_takesIn cX9_takesIn 3 (some .boolean) : Cond) ∈ tb := tbm 714 rfl rfl
set_option maxRecDepth 100000 in
theorem ml_X9_210 : (Cond.methodLink RX9 210 yX9_isThere : Cond) ∈ tb := tbm 715 rfl rfl
set_option maxRecDepth 100000 in
theorem im_X9_isThere : (Cond.instanceMethod yX9_isThere : Cond) ∈ tb := tbm 717 rfl rfl
set_option maxRecDepth 100000 in
theorem cd_X9_isThere : (Cond.code yX9_isThere cX9_isThere 2 (some .boolean) : Cond) ∈ tb := tbm 718 rfl rfl
set_option maxRecDepth 100000 in
theorem ml_L_85 : (Cond.methodLink RL 85 yX9_value : Cond) ∈ tb := tbm 719 rfl rfl
set_option maxRecDepth 100000 in
theorem im_X9_value : (Cond.instanceMethod yX9_value : Cond) ∈ tb := tbm 720 rfl rfl
set_option maxRecDepth 100000 in
theorem se_X9_value : (Cond.selects RX9 yX9_value yX9_value : Cond) ∈ tb := tbm 721 rfl rfl
set_option maxRecDepth 100000 in
theorem cd_X9_value : (Cond.code yX9_value cX9_value 1 (some .long) : Cond) ∈ tb := tbm 722 rfl rfl
set_option maxRecDepth 100000 in
theorem ml_L_89 : (Cond.methodLink RL 89 yX9_write : Cond) ∈ tb := tbm 723 rfl rfl
set_option maxRecDepth 100000 in
theorem im_X9_write : (Cond.instanceMethod yX9_write : Cond) ∈ tb := tbm 724 rfl rfl
set_option maxRecDepth 100000 in
theorem se_X9_write : (Cond.selects RX9 yX9_write yX9_write : Cond) ∈ tb := tbm 725 rfl rfl
set_option maxRecDepth 100000 in
theorem cd_X9_write : (Cond.code yX9_write cX9_write 8 (some .int) : Cond) ∈ tb := tbm 726 rfl rfl
set_option maxRecDepth 100000 in
theorem ml_X9_213 : (Cond.methodLink RX9 213 yX9_fresh : Cond) ∈ tb := tbm 727 rfl rfl
set_option maxRecDepth 100000 in
theorem im_X9_fresh : (Cond.instanceMethod yX9_fresh : Cond) ∈ tb := tbm 729 rfl rfl
set_option maxRecDepth 100000 in
theorem cd_X9_fresh : (Cond.code yX9_fresh cX9_fresh 1 (some .int) : Cond) ∈ tb := tbm 730 rfl rfl
set_option maxRecDepth 100000 in
theorem ml_X9_216 : (Cond.methodLink RX9 216 yX9_stand : Cond) ∈ tb := tbm 731 rfl rfl
set_option maxRecDepth 100000 in
theorem im_X9_stand : (Cond.instanceMethod yX9_stand : Cond) ∈ tb := tbm 733 rfl rfl
set_option maxRecDepth 100000 in
theorem cd_X9_stand : (Cond.code yX9_stand cX9_stand 4 none : Cond) ∈ tb := tbm 734 rfl rfl
set_option maxRecDepth 100000 in
theorem ml_L_93 : (Cond.methodLink RL 93 yX9_erase : Cond) ∈ tb := tbm 735 rfl rfl
set_option maxRecDepth 100000 in
theorem im_X9_erase : (Cond.instanceMethod yX9_erase : Cond) ∈ tb := tbm 736 rfl rfl
set_option maxRecDepth 100000 in
theorem se_X9_erase : (Cond.selects RX9 yX9_erase yX9_erase : Cond) ∈ tb := tbm 737 rfl rfl
set_option maxRecDepth 100000 in
theorem cd_X9_erase : (Cond.code yX9_erase cX9_erase 7 (some .int) : Cond) ∈ tb := tbm 738 rfl rfl
set_option maxRecDepth 100000 in
theorem ml_L_97 : (Cond.methodLink RL 97 yX9_view : Cond) ∈ tb := tbm 739 rfl rfl
set_option maxRecDepth 100000 in
theorem im_X9_view : (Cond.instanceMethod yX9_view : Cond) ∈ tb := tbm 740 rfl rfl
set_option maxRecDepth 100000 in
theorem se_X9_view : (Cond.selects RX9 yX9_view yX9_view : Cond) ∈ tb := tbm 741 rfl rfl
set_option maxRecDepth 100000 in
theorem cd_X9_view : (Cond.code yX9_view cX9_view 1 (some .long) : Cond) ∈ tb := tbm 742 rfl rfl
set_option maxRecDepth 100000 in
theorem ml_L_101 : (Cond.methodLink RL 101 yX9_count : Cond) ∈ tb := tbm 743 rfl rfl
set_option maxRecDepth 100000 in
theorem im_X9_count : (Cond.instanceMethod yX9_count : Cond) ∈ tb := tbm 744 rfl rfl
set_option maxRecDepth 100000 in
theorem se_X9_count : (Cond.selects RX9 yX9_count yX9_count : Cond) ∈ tb := tbm 745 rfl rfl
set_option maxRecDepth 100000 in
theorem cd_X9_count : (Cond.code yX9_count cX9_count 3 (some .int) : Cond) ∈ tb := tbm 746 rfl rfl
set_option maxRecDepth 100000 in
theorem ml_X9_233 : (Cond.methodLink RX9 233 yX9_goThrough : Cond) ∈ tb := tbm 747 rfl rfl
set_option maxRecDepth 100000 in
theorem im_X9_goThrough : (Cond.instanceMethod yX9_goThrough : Cond) ∈ tb := tbm 749 rfl rfl
set_option maxRecDepth 100000 in
theorem cd_X9_goThrough : (Cond.code yX9_goThrough cX9_goThrough 7 none : Cond) ∈ tb := tbm 750 rfl rfl
set_option maxRecDepth 100000 in
theorem co_X9_223 : (Cond.constant RX9 223 70000 : Cond) ∈ tb := tbm 751 rfl rfl
set_option maxRecDepth 100000 in
theorem ml_L_105 : (Cond.methodLink RL 105 yX9_next : Cond) ∈ tb := tbm 752 rfl rfl
set_option maxRecDepth 100000 in
theorem im_X9_next : (Cond.instanceMethod yX9_next : Cond) ∈ tb := tbm 753 rfl rfl
set_option maxRecDepth 100000 in
theorem se_X9_next : (Cond.selects RX9 yX9_next yX9_next : Cond) ∈ tb := tbm 754 rfl rfl
set_option maxRecDepth 100000 in
theorem cd_X9_next : (Cond.code yX9_next cX9_next 2 (some .int) : Cond) ∈ tb := tbm 755 rfl rfl
set_option maxRecDepth 100000 in
theorem ml_L_55 : (Cond.methodLink RL 55 yX9_pass : Cond) ∈ tb := tbm 756 rfl rfl
set_option maxRecDepth 100000 in
theorem im_X9_pass : (Cond.instanceMethod yX9_pass : Cond) ∈ tb := tbm 757 rfl rfl
set_option maxRecDepth 100000 in
theorem se_X9_pass : (Cond.selects RX9 yX9_pass yX9_pass : Cond) ∈ tb := tbm 758 rfl rfl
set_option maxRecDepth 100000 in
theorem cd_X9_pass : (Cond.code yX9_pass cX9_pass 6 (some .int) : Cond) ∈ tb := tbm 759 rfl rfl
set_option maxRecDepth 100000 in
theorem ml_L_109 : (Cond.methodLink RL 109 yX9_told : Cond) ∈ tb := tbm 760 rfl rfl
set_option maxRecDepth 100000 in
theorem im_X9_told : (Cond.instanceMethod yX9_told : Cond) ∈ tb := tbm 761 rfl rfl
set_option maxRecDepth 100000 in
theorem se_X9_told : (Cond.selects RX9 yX9_told yX9_told : Cond) ∈ tb := tbm 762 rfl rfl
set_option maxRecDepth 100000 in
theorem cd_X9_told : (Cond.code yX9_told cX9_told 4 (some .int) : Cond) ∈ tb := tbm 763 rfl rfl
set_option maxRecDepth 100000 in
theorem co_L_13 : (Cond.constantLong RL 13 (4294967295) : Cond) ∈ tb := tbm 764 rfl rfl
set_option maxRecDepth 100000 in
theorem se_X8_wholeOf : (Cond.selects RX8 yX8_wholeOf yX8_wholeOf : Cond) ∈ tb := tbm 0 rfl rfl
set_option maxRecDepth 100000 in
theorem se_X8_tapeBecomes : (Cond.selects RX8 yX8_tapeBecomes yX8_tapeBecomes : Cond) ∈ tb := tbm 1 rfl rfl
set_option maxRecDepth 100000 in
theorem se_X8_appendShown : (Cond.selects RX8 yX8_appendShown yX8_appendShown : Cond) ∈ tb := tbm 2 rfl rfl
set_option maxRecDepth 100000 in
theorem se_X6_readNode : (Cond.selects RX6 yX6_readNode yX6_readNode : Cond) ∈ tb := tbm 3 rfl rfl
set_option maxRecDepth 100000 in
theorem se_X6_lacks : (Cond.selects RX6 yX6_lacks yX6_lacks : Cond) ∈ tb := tbm 4 rfl rfl
set_option maxRecDepth 100000 in
theorem se_X6_refuse : (Cond.selects RX6 yX6_refuse yX6_refuse : Cond) ∈ tb := tbm 5 rfl rfl
set_option maxRecDepth 100000 in
theorem se_X6_number : (Cond.selects RX6 yX6_number yX6_number : Cond) ∈ tb := tbm 6 rfl rfl
set_option maxRecDepth 100000 in
theorem se_X6_readFork : (Cond.selects RX6 yX6_readFork yX6_readFork : Cond) ∈ tb := tbm 7 rfl rfl
set_option maxRecDepth 100000 in
theorem se_X6_readLeaf : (Cond.selects RX6 yX6_readLeaf yX6_readLeaf : Cond) ∈ tb := tbm 8 rfl rfl
set_option maxRecDepth 100000 in
theorem se_X9_find : (Cond.selects RX9 yX9_find yX9_find : Cond) ∈ tb := tbm 9 rfl rfl
set_option maxRecDepth 100000 in
theorem se_X9_baseOf : (Cond.selects RX9 yX9_baseOf yX9_baseOf : Cond) ∈ tb := tbm 10 rfl rfl
set_option maxRecDepth 100000 in
theorem se_X9_sizeOf : (Cond.selects RX9 yX9_sizeOf yX9_sizeOf : Cond) ∈ tb := tbm 11 rfl rfl
set_option maxRecDepth 100000 in
theorem se_X9_digest : (Cond.selects RX9 yX9_digest yX9_digest : Cond) ∈ tb := tbm 12 rfl rfl
set_option maxRecDepth 100000 in
theorem se_X9_rest : (Cond.selects RX9 yX9_rest yX9_rest : Cond) ∈ tb := tbm 13 rfl rfl
set_option maxRecDepth 100000 in
theorem se_X9_isWanted : (Cond.selects RX9 yX9_isWanted yX9_isWanted : Cond) ∈ tb := tbm 14 rfl rfl
set_option maxRecDepth 100000 in
theorem se_X9_lay : (Cond.selects RX9 yX9_lay yX9_lay : Cond) ∈ tb := tbm 15 rfl rfl
set_option maxRecDepth 100000 in
theorem se_X9_laidOut : (Cond.selects RX9 yX9_laidOut yX9_laidOut : Cond) ∈ tb := tbm 16 rfl rfl
set_option maxRecDepth 100000 in
theorem se_X9_taken : (Cond.selects RX9 yX9_taken yX9_taken : Cond) ∈ tb := tbm 17 rfl rfl
set_option maxRecDepth 100000 in
theorem se_X9_numeral : (Cond.selects RX9 yX9_numeral yX9_numeral : Cond) ∈ tb := tbm 18 rfl rfl
set_option maxRecDepth 100000 in
theorem se_X9_sumUp : (Cond.selects RX9 yX9_sumUp yX9_sumUp : Cond) ∈ tb := tbm 19 rfl rfl
set_option maxRecDepth 100000 in
theorem se_X9_way : (Cond.selects RX9 yX9_way yX9_way : Cond) ∈ tb := tbm 20 rfl rfl
set_option maxRecDepth 100000 in
theorem se_X9_isThere : (Cond.selects RX9 yX9_isThere yX9_isThere : Cond) ∈ tb := tbm 21 rfl rfl
set_option maxRecDepth 100000 in
theorem se_X9_fresh : (Cond.selects RX9 yX9_fresh yX9_fresh : Cond) ∈ tb := tbm 22 rfl rfl
set_option maxRecDepth 100000 in
theorem se_X9_stand : (Cond.selects RX9 yX9_stand yX9_stand : Cond) ∈ tb := tbm 23 rfl rfl
set_option maxRecDepth 100000 in
theorem se_X9_goThrough : (Cond.selects RX9 yX9_goThrough yX9_goThrough : Cond) ∈ tb := tbm 24 rfl rfl
theorem iw_X0 : ∀ w ∈ u_ws RX0 TX0 1, w ∈ tb := tbs _ [87] (by decide +kernel) (by decide +kernel)
theorem iw_X1 : ∀ w ∈ u_ws RX1 TX1 5, w ∈ tb := tbs _ [216, 208, 210, 212, 214] (by decide +kernel) (by decide +kernel)
theorem iw_X2 : ∀ w ∈ u_ws RX2 TX2 1, w ∈ tb := tbs _ [374] (by decide +kernel) (by decide +kernel)
theorem iw_X3 : ∀ w ∈ u_ws RX3 TX3 3, w ∈ tb := tbs _ [181, 177, 179] (by decide +kernel) (by decide +kernel)
theorem iw_X5 : ∀ w ∈ u_ws RX5 TX5 3, w ∈ tb := tbs _ [57, 59, 61] (by decide +kernel) (by decide +kernel)
theorem iw_X6 : ∀ w ∈ u_ws RX6 TX6 4, w ∈ tb := tbs _ [337, 339, 341, 343] (by decide +kernel) (by decide +kernel)
theorem iw_X7 : ∀ w ∈ u_ws RX7 TX7 2, w ∈ tb := tbs _ [102, 104] (by decide +kernel) (by decide +kernel)
theorem iw_X8 : ∀ w ∈ u_ws RX8 TX8 9, w ∈ tb := tbs _ [116, 118, 120, 122, 124, 126, 128, 130, 132] (by decide +kernel) (by decide +kernel)
theorem iw_X9 : ∀ w ∈ u_ws RX9 TX9 42, w ∈ tb := tbs _ [494, 496, 498, 500, 502, 504, 506, 508, 510, 512, 514, 516, 518, 520, 522, 524, 526, 528, 530, 532, 534, 536, 538, 540, 542, 544, 546, 548, 550, 552, 554, 556, 558, 560, 562, 564, 566, 568, 570, 572, 574, 576] (by decide +kernel) (by decide +kernel)
theorem hd_X0_init : yX0_init.cls ≠ "java/lang/invoke/MethodHandle" ∧ yX0_init.cls ≠ "java/lang/invoke/VarHandle" ∧ (parseMethodDescriptor yX0_init.desc).map (fun d => d.parameters.length) = some 0 := by decide +kernel
theorem hd_X1_init : yX1_init.cls ≠ "java/lang/invoke/MethodHandle" ∧ yX1_init.cls ≠ "java/lang/invoke/VarHandle" ∧ (parseMethodDescriptor yX1_init.desc).map (fun d => d.parameters.length) = some 4 := by decide +kernel
theorem hd_X1_takesIn : yX1_takesIn.cls ≠ "java/lang/invoke/MethodHandle" ∧ yX1_takesIn.cls ≠ "java/lang/invoke/VarHandle" ∧ (parseMethodDescriptor yX1_takesIn.desc).map (fun d => d.parameters.length) = some 1 := by decide +kernel
theorem hd_X1_middle : yX1_middle.cls ≠ "java/lang/invoke/MethodHandle" ∧ yX1_middle.cls ≠ "java/lang/invoke/VarHandle" ∧ (parseMethodDescriptor yX1_middle.desc).map (fun d => d.parameters.length) = some 0 := by decide +kernel
theorem hd_X1_last : yX1_last.cls ≠ "java/lang/invoke/MethodHandle" ∧ yX1_last.cls ≠ "java/lang/invoke/VarHandle" ∧ (parseMethodDescriptor yX1_last.desc).map (fun d => d.parameters.length) = some 0 := by decide +kernel
theorem hd_X1_toward : yX1_toward.cls ≠ "java/lang/invoke/MethodHandle" ∧ yX1_toward.cls ≠ "java/lang/invoke/VarHandle" ∧ (parseMethodDescriptor yX1_toward.desc).map (fun d => d.parameters.length) = some 1 := by decide +kernel
theorem hd_X1_besides : yX1_besides.cls ≠ "java/lang/invoke/MethodHandle" ∧ yX1_besides.cls ≠ "java/lang/invoke/VarHandle" ∧ (parseMethodDescriptor yX1_besides.desc).map (fun d => d.parameters.length) = some 1 := by decide +kernel
theorem hd_X1_with : yX1_with.cls ≠ "java/lang/invoke/MethodHandle" ∧ yX1_with.cls ≠ "java/lang/invoke/VarHandle" ∧ (parseMethodDescriptor yX1_with.desc).map (fun d => d.parameters.length) = some 2 := by decide +kernel
theorem hd_X2_init : yX2_init.cls ≠ "java/lang/invoke/MethodHandle" ∧ yX2_init.cls ≠ "java/lang/invoke/VarHandle" ∧ (parseMethodDescriptor yX2_init.desc).map (fun d => d.parameters.length) = some 1 := by decide +kernel
theorem hd_X3_init : yX3_init.cls ≠ "java/lang/invoke/MethodHandle" ∧ yX3_init.cls ≠ "java/lang/invoke/VarHandle" ∧ (parseMethodDescriptor yX3_init.desc).map (fun d => d.parameters.length) = some 2 := by decide +kernel
theorem hd_X4_init : yX4_init.cls ≠ "java/lang/invoke/MethodHandle" ∧ yX4_init.cls ≠ "java/lang/invoke/VarHandle" ∧ (parseMethodDescriptor yX4_init.desc).map (fun d => d.parameters.length) = some 1 := by decide +kernel
theorem hd_X5_init : yX5_init.cls ≠ "java/lang/invoke/MethodHandle" ∧ yX5_init.cls ≠ "java/lang/invoke/VarHandle" ∧ (parseMethodDescriptor yX5_init.desc).map (fun d => d.parameters.length) = some 0 := by decide +kernel
theorem hd_X5_add : yX5_add.cls ≠ "java/lang/invoke/MethodHandle" ∧ yX5_add.cls ≠ "java/lang/invoke/VarHandle" ∧ (parseMethodDescriptor yX5_add.desc).map (fun d => d.parameters.length) = some 2 := by decide +kernel
theorem hd_X5_meet : yX5_meet.cls ≠ "java/lang/invoke/MethodHandle" ∧ yX5_meet.cls ≠ "java/lang/invoke/VarHandle" ∧ (parseMethodDescriptor yX5_meet.desc).map (fun d => d.parameters.length) = some 2 := by decide +kernel
theorem hd_X6_init : yX6_init.cls ≠ "java/lang/invoke/MethodHandle" ∧ yX6_init.cls ≠ "java/lang/invoke/VarHandle" ∧ (parseMethodDescriptor yX6_init.desc).map (fun d => d.parameters.length) = some 1 := by decide +kernel
theorem hd_X6_wholeWith : yX6_wholeWith.cls ≠ "java/lang/invoke/MethodHandle" ∧ yX6_wholeWith.cls ≠ "java/lang/invoke/VarHandle" ∧ (parseMethodDescriptor yX6_wholeWith.desc).map (fun d => d.parameters.length) = some 1 := by decide +kernel
theorem hd_X6_readNode : yX6_readNode.cls ≠ "java/lang/invoke/MethodHandle" ∧ yX6_readNode.cls ≠ "java/lang/invoke/VarHandle" ∧ (parseMethodDescriptor yX6_readNode.desc).map (fun d => d.parameters.length) = some 3 := by decide +kernel
theorem hd_X6_readLeaf : yX6_readLeaf.cls ≠ "java/lang/invoke/MethodHandle" ∧ yX6_readLeaf.cls ≠ "java/lang/invoke/VarHandle" ∧ (parseMethodDescriptor yX6_readLeaf.desc).map (fun d => d.parameters.length) = some 2 := by decide +kernel
theorem hd_X6_readFork : yX6_readFork.cls ≠ "java/lang/invoke/MethodHandle" ∧ yX6_readFork.cls ≠ "java/lang/invoke/VarHandle" ∧ (parseMethodDescriptor yX6_readFork.desc).map (fun d => d.parameters.length) = some 3 := by decide +kernel
theorem hd_X6_lacks : yX6_lacks.cls ≠ "java/lang/invoke/MethodHandle" ∧ yX6_lacks.cls ≠ "java/lang/invoke/VarHandle" ∧ (parseMethodDescriptor yX6_lacks.desc).map (fun d => d.parameters.length) = some 1 := by decide +kernel
theorem hd_X6_number : yX6_number.cls ≠ "java/lang/invoke/MethodHandle" ∧ yX6_number.cls ≠ "java/lang/invoke/VarHandle" ∧ (parseMethodDescriptor yX6_number.desc).map (fun d => d.parameters.length) = some 1 := by decide +kernel
theorem hd_X6_refuse : yX6_refuse.cls ≠ "java/lang/invoke/MethodHandle" ∧ yX6_refuse.cls ≠ "java/lang/invoke/VarHandle" ∧ (parseMethodDescriptor yX6_refuse.desc).map (fun d => d.parameters.length) = some 2 := by decide +kernel
theorem hd_X7_init : yX7_init.cls ≠ "java/lang/invoke/MethodHandle" ∧ yX7_init.cls ≠ "java/lang/invoke/VarHandle" ∧ (parseMethodDescriptor yX7_init.desc).map (fun d => d.parameters.length) = some 0 := by decide +kernel
theorem hd_X7_has : yX7_has.cls ≠ "java/lang/invoke/MethodHandle" ∧ yX7_has.cls ≠ "java/lang/invoke/VarHandle" ∧ (parseMethodDescriptor yX7_has.desc).map (fun d => d.parameters.length) = some 1 := by decide +kernel
theorem hd_X7_append : yX7_append.cls ≠ "java/lang/invoke/MethodHandle" ∧ yX7_append.cls ≠ "java/lang/invoke/VarHandle" ∧ (parseMethodDescriptor yX7_append.desc).map (fun d => d.parameters.length) = some 2 := by decide +kernel
theorem hd_X8_init : yX8_init.cls ≠ "java/lang/invoke/MethodHandle" ∧ yX8_init.cls ≠ "java/lang/invoke/VarHandle" ∧ (parseMethodDescriptor yX8_init.desc).map (fun d => d.parameters.length) = some 0 := by decide +kernel
theorem hd_X8_put : yX8_put.cls ≠ "java/lang/invoke/MethodHandle" ∧ yX8_put.cls ≠ "java/lang/invoke/VarHandle" ∧ (parseMethodDescriptor yX8_put.desc).map (fun d => d.parameters.length) = some 2 := by decide +kernel
theorem hd_X8_remove : yX8_remove.cls ≠ "java/lang/invoke/MethodHandle" ∧ yX8_remove.cls ≠ "java/lang/invoke/VarHandle" ∧ (parseMethodDescriptor yX8_remove.desc).map (fun d => d.parameters.length) = some 1 := by decide +kernel
theorem hd_X8_keep : yX8_keep.cls ≠ "java/lang/invoke/MethodHandle" ∧ yX8_keep.cls ≠ "java/lang/invoke/VarHandle" ∧ (parseMethodDescriptor yX8_keep.desc).map (fun d => d.parameters.length) = some 0 := by decide +kernel
theorem hd_X8_root : yX8_root.cls ≠ "java/lang/invoke/MethodHandle" ∧ yX8_root.cls ≠ "java/lang/invoke/VarHandle" ∧ (parseMethodDescriptor yX8_root.desc).map (fun d => d.parameters.length) = some 1 := by decide +kernel
theorem hd_X8_leaves : yX8_leaves.cls ≠ "java/lang/invoke/MethodHandle" ∧ yX8_leaves.cls ≠ "java/lang/invoke/VarHandle" ∧ (parseMethodDescriptor yX8_leaves.desc).map (fun d => d.parameters.length) = some 1 := by decide +kernel
theorem hd_X8_want : yX8_want.cls ≠ "java/lang/invoke/MethodHandle" ∧ yX8_want.cls ≠ "java/lang/invoke/VarHandle" ∧ (parseMethodDescriptor yX8_want.desc).map (fun d => d.parameters.length) = some 2 := by decide +kernel
theorem hd_X8_forget : yX8_forget.cls ≠ "java/lang/invoke/MethodHandle" ∧ yX8_forget.cls ≠ "java/lang/invoke/VarHandle" ∧ (parseMethodDescriptor yX8_forget.desc).map (fun d => d.parameters.length) = some 0 := by decide +kernel
theorem hd_X8_show : yX8_show.cls ≠ "java/lang/invoke/MethodHandle" ∧ yX8_show.cls ≠ "java/lang/invoke/VarHandle" ∧ (parseMethodDescriptor yX8_show.desc).map (fun d => d.parameters.length) = some 1 := by decide +kernel
theorem hd_X8_pass : yX8_pass.cls ≠ "java/lang/invoke/MethodHandle" ∧ yX8_pass.cls ≠ "java/lang/invoke/VarHandle" ∧ (parseMethodDescriptor yX8_pass.desc).map (fun d => d.parameters.length) = some 0 := by decide +kernel
theorem hd_X8_feed : yX8_feed.cls ≠ "java/lang/invoke/MethodHandle" ∧ yX8_feed.cls ≠ "java/lang/invoke/VarHandle" ∧ (parseMethodDescriptor yX8_feed.desc).map (fun d => d.parameters.length) = some 2 := by decide +kernel
theorem hd_X8_cut : yX8_cut.cls ≠ "java/lang/invoke/MethodHandle" ∧ yX8_cut.cls ≠ "java/lang/invoke/VarHandle" ∧ (parseMethodDescriptor yX8_cut.desc).map (fun d => d.parameters.length) = some 1 := by decide +kernel
theorem hd_X8_spoil : yX8_spoil.cls ≠ "java/lang/invoke/MethodHandle" ∧ yX8_spoil.cls ≠ "java/lang/invoke/VarHandle" ∧ (parseMethodDescriptor yX8_spoil.desc).map (fun d => d.parameters.length) = some 2 := by decide +kernel
theorem hd_X8_take : yX8_take.cls ≠ "java/lang/invoke/MethodHandle" ∧ yX8_take.cls ≠ "java/lang/invoke/VarHandle" ∧ (parseMethodDescriptor yX8_take.desc).map (fun d => d.parameters.length) = some 1 := by decide +kernel
theorem hd_X8_place : yX8_place.cls ≠ "java/lang/invoke/MethodHandle" ∧ yX8_place.cls ≠ "java/lang/invoke/VarHandle" ∧ (parseMethodDescriptor yX8_place.desc).map (fun d => d.parameters.length) = some 0 := by decide +kernel
theorem hd_X8_get : yX8_get.cls ≠ "java/lang/invoke/MethodHandle" ∧ yX8_get.cls ≠ "java/lang/invoke/VarHandle" ∧ (parseMethodDescriptor yX8_get.desc).map (fun d => d.parameters.length) = some 1 := by decide +kernel
theorem hd_X8_value : yX8_value.cls ≠ "java/lang/invoke/MethodHandle" ∧ yX8_value.cls ≠ "java/lang/invoke/VarHandle" ∧ (parseMethodDescriptor yX8_value.desc).map (fun d => d.parameters.length) = some 0 := by decide +kernel
theorem hd_X8_write : yX8_write.cls ≠ "java/lang/invoke/MethodHandle" ∧ yX8_write.cls ≠ "java/lang/invoke/VarHandle" ∧ (parseMethodDescriptor yX8_write.desc).map (fun d => d.parameters.length) = some 2 := by decide +kernel
theorem hd_X8_erase : yX8_erase.cls ≠ "java/lang/invoke/MethodHandle" ∧ yX8_erase.cls ≠ "java/lang/invoke/VarHandle" ∧ (parseMethodDescriptor yX8_erase.desc).map (fun d => d.parameters.length) = some 1 := by decide +kernel
theorem hd_X8_view : yX8_view.cls ≠ "java/lang/invoke/MethodHandle" ∧ yX8_view.cls ≠ "java/lang/invoke/VarHandle" ∧ (parseMethodDescriptor yX8_view.desc).map (fun d => d.parameters.length) = some 0 := by decide +kernel
theorem hd_X8_count : yX8_count.cls ≠ "java/lang/invoke/MethodHandle" ∧ yX8_count.cls ≠ "java/lang/invoke/VarHandle" ∧ (parseMethodDescriptor yX8_count.desc).map (fun d => d.parameters.length) = some 2 := by decide +kernel
theorem hd_X8_next : yX8_next.cls ≠ "java/lang/invoke/MethodHandle" ∧ yX8_next.cls ≠ "java/lang/invoke/VarHandle" ∧ (parseMethodDescriptor yX8_next.desc).map (fun d => d.parameters.length) = some 1 := by decide +kernel
theorem hd_X8_told : yX8_told.cls ≠ "java/lang/invoke/MethodHandle" ∧ yX8_told.cls ≠ "java/lang/invoke/VarHandle" ∧ (parseMethodDescriptor yX8_told.desc).map (fun d => d.parameters.length) = some 1 := by decide +kernel
theorem hd_X8_octet : yX8_octet.cls ≠ "java/lang/invoke/MethodHandle" ∧ yX8_octet.cls ≠ "java/lang/invoke/VarHandle" ∧ (parseMethodDescriptor yX8_octet.desc).map (fun d => d.parameters.length) = some 1 := by decide +kernel
theorem hd_X8_isPath : yX8_isPath.cls ≠ "java/lang/invoke/MethodHandle" ∧ yX8_isPath.cls ≠ "java/lang/invoke/VarHandle" ∧ (parseMethodDescriptor yX8_isPath.desc).map (fun d => d.parameters.length) = some 1 := by decide +kernel
theorem hd_X8_isRange : yX8_isRange.cls ≠ "java/lang/invoke/MethodHandle" ∧ yX8_isRange.cls ≠ "java/lang/invoke/VarHandle" ∧ (parseMethodDescriptor yX8_isRange.desc).map (fun d => d.parameters.length) = some 2 := by decide +kernel
theorem hd_X8_isHigh : yX8_isHigh.cls ≠ "java/lang/invoke/MethodHandle" ∧ yX8_isHigh.cls ≠ "java/lang/invoke/VarHandle" ∧ (parseMethodDescriptor yX8_isHigh.desc).map (fun d => d.parameters.length) = some 2 := by decide +kernel
theorem hd_X8_stemOf : yX8_stemOf.cls ≠ "java/lang/invoke/MethodHandle" ∧ yX8_stemOf.cls ≠ "java/lang/invoke/VarHandle" ∧ (parseMethodDescriptor yX8_stemOf.desc).map (fun d => d.parameters.length) = some 2 := by decide +kernel
theorem hd_X8_firstOtherBit : yX8_firstOtherBit.cls ≠ "java/lang/invoke/MethodHandle" ∧ yX8_firstOtherBit.cls ≠ "java/lang/invoke/VarHandle" ∧ (parseMethodDescriptor yX8_firstOtherBit.desc).map (fun d => d.parameters.length) = some 2 := by decide +kernel
theorem hd_X8_mix : yX8_mix.cls ≠ "java/lang/invoke/MethodHandle" ∧ yX8_mix.cls ≠ "java/lang/invoke/VarHandle" ∧ (parseMethodDescriptor yX8_mix.desc).map (fun d => d.parameters.length) = some 2 := by decide +kernel
theorem hd_X8_emptyDigest : yX8_emptyDigest.cls ≠ "java/lang/invoke/MethodHandle" ∧ yX8_emptyDigest.cls ≠ "java/lang/invoke/VarHandle" ∧ (parseMethodDescriptor yX8_emptyDigest.desc).map (fun d => d.parameters.length) = some 0 := by decide +kernel
theorem hd_X8_leafDigest : yX8_leafDigest.cls ≠ "java/lang/invoke/MethodHandle" ∧ yX8_leafDigest.cls ≠ "java/lang/invoke/VarHandle" ∧ (parseMethodDescriptor yX8_leafDigest.desc).map (fun d => d.parameters.length) = some 2 := by decide +kernel
theorem hd_X8_forkDigest : yX8_forkDigest.cls ≠ "java/lang/invoke/MethodHandle" ∧ yX8_forkDigest.cls ≠ "java/lang/invoke/VarHandle" ∧ (parseMethodDescriptor yX8_forkDigest.desc).map (fun d => d.parameters.length) = some 4 := by decide +kernel
theorem hd_X8_wholeOf : yX8_wholeOf.cls ≠ "java/lang/invoke/MethodHandle" ∧ yX8_wholeOf.cls ≠ "java/lang/invoke/VarHandle" ∧ (parseMethodDescriptor yX8_wholeOf.desc).map (fun d => d.parameters.length) = some 1 := by decide +kernel
theorem hd_X8_endOfWay : yX8_endOfWay.cls ≠ "java/lang/invoke/MethodHandle" ∧ yX8_endOfWay.cls ≠ "java/lang/invoke/VarHandle" ∧ (parseMethodDescriptor yX8_endOfWay.desc).map (fun d => d.parameters.length) = some 2 := by decide +kernel
theorem hd_X8_isLeafOf : yX8_isLeafOf.cls ≠ "java/lang/invoke/MethodHandle" ∧ yX8_isLeafOf.cls ≠ "java/lang/invoke/VarHandle" ∧ (parseMethodDescriptor yX8_isLeafOf.desc).map (fun d => d.parameters.length) = some 2 := by decide +kernel
theorem hd_X8_written : yX8_written.cls ≠ "java/lang/invoke/MethodHandle" ∧ yX8_written.cls ≠ "java/lang/invoke/VarHandle" ∧ (parseMethodDescriptor yX8_written.desc).map (fun d => d.parameters.length) = some 3 := by decide +kernel
theorem hd_X8_forkOf : yX8_forkOf.cls ≠ "java/lang/invoke/MethodHandle" ∧ yX8_forkOf.cls ≠ "java/lang/invoke/VarHandle" ∧ (parseMethodDescriptor yX8_forkOf.desc).map (fun d => d.parameters.length) = some 3 := by decide +kernel
theorem hd_X8_erased : yX8_erased.cls ≠ "java/lang/invoke/MethodHandle" ∧ yX8_erased.cls ≠ "java/lang/invoke/VarHandle" ∧ (parseMethodDescriptor yX8_erased.desc).map (fun d => d.parameters.length) = some 3 := by decide +kernel
theorem hd_X8_leavesWithin : yX8_leavesWithin.cls ≠ "java/lang/invoke/MethodHandle" ∧ yX8_leavesWithin.cls ≠ "java/lang/invoke/VarHandle" ∧ (parseMethodDescriptor yX8_leavesWithin.desc).map (fun d => d.parameters.length) = some 4 := by decide +kernel
theorem hd_X8_nodesOf : yX8_nodesOf.cls ≠ "java/lang/invoke/MethodHandle" ∧ yX8_nodesOf.cls ≠ "java/lang/invoke/VarHandle" ∧ (parseMethodDescriptor yX8_nodesOf.desc).map (fun d => d.parameters.length) = some 2 := by decide +kernel
theorem hd_X8_mostForks : yX8_mostForks.cls ≠ "java/lang/invoke/MethodHandle" ∧ yX8_mostForks.cls ≠ "java/lang/invoke/VarHandle" ∧ (parseMethodDescriptor yX8_mostForks.desc).map (fun d => d.parameters.length) = some 2 := by decide +kernel
theorem hd_X8_hiddenOver : yX8_hiddenOver.cls ≠ "java/lang/invoke/MethodHandle" ∧ yX8_hiddenOver.cls ≠ "java/lang/invoke/VarHandle" ∧ (parseMethodDescriptor yX8_hiddenOver.desc).map (fun d => d.parameters.length) = some 6 := by decide +kernel
theorem hd_X8_leastFrom : yX8_leastFrom.cls ≠ "java/lang/invoke/MethodHandle" ∧ yX8_leastFrom.cls ≠ "java/lang/invoke/VarHandle" ∧ (parseMethodDescriptor yX8_leastFrom.desc).map (fun d => d.parameters.length) = some 4 := by decide +kernel
theorem hd_X8_tapeBecomes : yX8_tapeBecomes.cls ≠ "java/lang/invoke/MethodHandle" ∧ yX8_tapeBecomes.cls ≠ "java/lang/invoke/VarHandle" ∧ (parseMethodDescriptor yX8_tapeBecomes.desc).map (fun d => d.parameters.length) = some 1 := by decide +kernel
theorem hd_X8_appendShown : yX8_appendShown.cls ≠ "java/lang/invoke/MethodHandle" ∧ yX8_appendShown.cls ≠ "java/lang/invoke/VarHandle" ∧ (parseMethodDescriptor yX8_appendShown.desc).map (fun d => d.parameters.length) = some 4 := by decide +kernel
theorem hd_X9_init : yX9_init.cls ≠ "java/lang/invoke/MethodHandle" ∧ yX9_init.cls ≠ "java/lang/invoke/VarHandle" ∧ (parseMethodDescriptor yX9_init.desc).map (fun d => d.parameters.length) = some 0 := by decide +kernel
theorem hd_X9_isPath : yX9_isPath.cls ≠ "java/lang/invoke/MethodHandle" ∧ yX9_isPath.cls ≠ "java/lang/invoke/VarHandle" ∧ (parseMethodDescriptor yX9_isPath.desc).map (fun d => d.parameters.length) = some 1 := by decide +kernel
theorem hd_X9_firstBit : yX9_firstBit.cls ≠ "java/lang/invoke/MethodHandle" ∧ yX9_firstBit.cls ≠ "java/lang/invoke/VarHandle" ∧ (parseMethodDescriptor yX9_firstBit.desc).map (fun d => d.parameters.length) = some 2 := by decide +kernel
theorem hd_X9_stemOf : yX9_stemOf.cls ≠ "java/lang/invoke/MethodHandle" ∧ yX9_stemOf.cls ≠ "java/lang/invoke/VarHandle" ∧ (parseMethodDescriptor yX9_stemOf.desc).map (fun d => d.parameters.length) = some 2 := by decide +kernel
theorem hd_X9_mix : yX9_mix.cls ≠ "java/lang/invoke/MethodHandle" ∧ yX9_mix.cls ≠ "java/lang/invoke/VarHandle" ∧ (parseMethodDescriptor yX9_mix.desc).map (fun d => d.parameters.length) = some 2 := by decide +kernel
theorem hd_X9_leafDigest : yX9_leafDigest.cls ≠ "java/lang/invoke/MethodHandle" ∧ yX9_leafDigest.cls ≠ "java/lang/invoke/VarHandle" ∧ (parseMethodDescriptor yX9_leafDigest.desc).map (fun d => d.parameters.length) = some 2 := by decide +kernel
theorem hd_X9_forkDigest : yX9_forkDigest.cls ≠ "java/lang/invoke/MethodHandle" ∧ yX9_forkDigest.cls ≠ "java/lang/invoke/VarHandle" ∧ (parseMethodDescriptor yX9_forkDigest.desc).map (fun d => d.parameters.length) = some 4 := by decide +kernel
theorem hd_X9_baseOf : yX9_baseOf.cls ≠ "java/lang/invoke/MethodHandle" ∧ yX9_baseOf.cls ≠ "java/lang/invoke/VarHandle" ∧ (parseMethodDescriptor yX9_baseOf.desc).map (fun d => d.parameters.length) = some 1 := by decide +kernel
theorem hd_X9_sizeOf : yX9_sizeOf.cls ≠ "java/lang/invoke/MethodHandle" ∧ yX9_sizeOf.cls ≠ "java/lang/invoke/VarHandle" ∧ (parseMethodDescriptor yX9_sizeOf.desc).map (fun d => d.parameters.length) = some 1 := by decide +kernel
theorem hd_X9_find : yX9_find.cls ≠ "java/lang/invoke/MethodHandle" ∧ yX9_find.cls ≠ "java/lang/invoke/VarHandle" ∧ (parseMethodDescriptor yX9_find.desc).map (fun d => d.parameters.length) = some 1 := by decide +kernel
theorem hd_X9_put : yX9_put.cls ≠ "java/lang/invoke/MethodHandle" ∧ yX9_put.cls ≠ "java/lang/invoke/VarHandle" ∧ (parseMethodDescriptor yX9_put.desc).map (fun d => d.parameters.length) = some 2 := by decide +kernel
theorem hd_X9_remove : yX9_remove.cls ≠ "java/lang/invoke/MethodHandle" ∧ yX9_remove.cls ≠ "java/lang/invoke/VarHandle" ∧ (parseMethodDescriptor yX9_remove.desc).map (fun d => d.parameters.length) = some 1 := by decide +kernel
theorem hd_X9_keep : yX9_keep.cls ≠ "java/lang/invoke/MethodHandle" ∧ yX9_keep.cls ≠ "java/lang/invoke/VarHandle" ∧ (parseMethodDescriptor yX9_keep.desc).map (fun d => d.parameters.length) = some 0 := by decide +kernel
theorem hd_X9_digest : yX9_digest.cls ≠ "java/lang/invoke/MethodHandle" ∧ yX9_digest.cls ≠ "java/lang/invoke/VarHandle" ∧ (parseMethodDescriptor yX9_digest.desc).map (fun d => d.parameters.length) = some 2 := by decide +kernel
theorem hd_X9_root : yX9_root.cls ≠ "java/lang/invoke/MethodHandle" ∧ yX9_root.cls ≠ "java/lang/invoke/VarHandle" ∧ (parseMethodDescriptor yX9_root.desc).map (fun d => d.parameters.length) = some 1 := by decide +kernel
theorem hd_X9_leaves : yX9_leaves.cls ≠ "java/lang/invoke/MethodHandle" ∧ yX9_leaves.cls ≠ "java/lang/invoke/VarHandle" ∧ (parseMethodDescriptor yX9_leaves.desc).map (fun d => d.parameters.length) = some 1 := by decide +kernel
theorem hd_X9_want : yX9_want.cls ≠ "java/lang/invoke/MethodHandle" ∧ yX9_want.cls ≠ "java/lang/invoke/VarHandle" ∧ (parseMethodDescriptor yX9_want.desc).map (fun d => d.parameters.length) = some 2 := by decide +kernel
theorem hd_X9_forget : yX9_forget.cls ≠ "java/lang/invoke/MethodHandle" ∧ yX9_forget.cls ≠ "java/lang/invoke/VarHandle" ∧ (parseMethodDescriptor yX9_forget.desc).map (fun d => d.parameters.length) = some 0 := by decide +kernel
theorem hd_X9_isWanted : yX9_isWanted.cls ≠ "java/lang/invoke/MethodHandle" ∧ yX9_isWanted.cls ≠ "java/lang/invoke/VarHandle" ∧ (parseMethodDescriptor yX9_isWanted.desc).map (fun d => d.parameters.length) = some 2 := by decide +kernel
theorem hd_X9_lay : yX9_lay.cls ≠ "java/lang/invoke/MethodHandle" ∧ yX9_lay.cls ≠ "java/lang/invoke/VarHandle" ∧ (parseMethodDescriptor yX9_lay.desc).map (fun d => d.parameters.length) = some 2 := by decide +kernel
theorem hd_X9_laidOut : yX9_laidOut.cls ≠ "java/lang/invoke/MethodHandle" ∧ yX9_laidOut.cls ≠ "java/lang/invoke/VarHandle" ∧ (parseMethodDescriptor yX9_laidOut.desc).map (fun d => d.parameters.length) = some 0 := by decide +kernel
theorem hd_X9_rest : yX9_rest.cls ≠ "java/lang/invoke/MethodHandle" ∧ yX9_rest.cls ≠ "java/lang/invoke/VarHandle" ∧ (parseMethodDescriptor yX9_rest.desc).map (fun d => d.parameters.length) = some 4 := by decide +kernel
theorem hd_X9_show : yX9_show.cls ≠ "java/lang/invoke/MethodHandle" ∧ yX9_show.cls ≠ "java/lang/invoke/VarHandle" ∧ (parseMethodDescriptor yX9_show.desc).map (fun d => d.parameters.length) = some 1 := by decide +kernel
theorem hd_X9_feed : yX9_feed.cls ≠ "java/lang/invoke/MethodHandle" ∧ yX9_feed.cls ≠ "java/lang/invoke/VarHandle" ∧ (parseMethodDescriptor yX9_feed.desc).map (fun d => d.parameters.length) = some 2 := by decide +kernel
theorem hd_X9_cut : yX9_cut.cls ≠ "java/lang/invoke/MethodHandle" ∧ yX9_cut.cls ≠ "java/lang/invoke/VarHandle" ∧ (parseMethodDescriptor yX9_cut.desc).map (fun d => d.parameters.length) = some 1 := by decide +kernel
theorem hd_X9_spoil : yX9_spoil.cls ≠ "java/lang/invoke/MethodHandle" ∧ yX9_spoil.cls ≠ "java/lang/invoke/VarHandle" ∧ (parseMethodDescriptor yX9_spoil.desc).map (fun d => d.parameters.length) = some 2 := by decide +kernel
theorem hd_X9_octet : yX9_octet.cls ≠ "java/lang/invoke/MethodHandle" ∧ yX9_octet.cls ≠ "java/lang/invoke/VarHandle" ∧ (parseMethodDescriptor yX9_octet.desc).map (fun d => d.parameters.length) = some 1 := by decide +kernel
theorem hd_X9_numeral : yX9_numeral.cls ≠ "java/lang/invoke/MethodHandle" ∧ yX9_numeral.cls ≠ "java/lang/invoke/VarHandle" ∧ (parseMethodDescriptor yX9_numeral.desc).map (fun d => d.parameters.length) = some 1 := by decide +kernel
theorem hd_X9_sumUp : yX9_sumUp.cls ≠ "java/lang/invoke/MethodHandle" ∧ yX9_sumUp.cls ≠ "java/lang/invoke/VarHandle" ∧ (parseMethodDescriptor yX9_sumUp.desc).map (fun d => d.parameters.length) = some 1 := by decide +kernel
theorem hd_X9_taken : yX9_taken.cls ≠ "java/lang/invoke/MethodHandle" ∧ yX9_taken.cls ≠ "java/lang/invoke/VarHandle" ∧ (parseMethodDescriptor yX9_taken.desc).map (fun d => d.parameters.length) = some 4 := by decide +kernel
theorem hd_X9_take : yX9_take.cls ≠ "java/lang/invoke/MethodHandle" ∧ yX9_take.cls ≠ "java/lang/invoke/VarHandle" ∧ (parseMethodDescriptor yX9_take.desc).map (fun d => d.parameters.length) = some 1 := by decide +kernel
theorem hd_X9_place : yX9_place.cls ≠ "java/lang/invoke/MethodHandle" ∧ yX9_place.cls ≠ "java/lang/invoke/VarHandle" ∧ (parseMethodDescriptor yX9_place.desc).map (fun d => d.parameters.length) = some 0 := by decide +kernel
theorem hd_X9_takesIn : yX9_takesIn.cls ≠ "java/lang/invoke/MethodHandle" ∧ yX9_takesIn.cls ≠ "java/lang/invoke/VarHandle" ∧ (parseMethodDescriptor yX9_takesIn.desc).map (fun d => d.parameters.length) = some 3 := by decide +kernel
theorem hd_X9_way : yX9_way.cls ≠ "java/lang/invoke/MethodHandle" ∧ yX9_way.cls ≠ "java/lang/invoke/VarHandle" ∧ (parseMethodDescriptor yX9_way.desc).map (fun d => d.parameters.length) = some 1 := by decide +kernel
theorem hd_X9_isThere : yX9_isThere.cls ≠ "java/lang/invoke/MethodHandle" ∧ yX9_isThere.cls ≠ "java/lang/invoke/VarHandle" ∧ (parseMethodDescriptor yX9_isThere.desc).map (fun d => d.parameters.length) = some 1 := by decide +kernel
theorem hd_X9_get : yX9_get.cls ≠ "java/lang/invoke/MethodHandle" ∧ yX9_get.cls ≠ "java/lang/invoke/VarHandle" ∧ (parseMethodDescriptor yX9_get.desc).map (fun d => d.parameters.length) = some 1 := by decide +kernel
theorem hd_X9_value : yX9_value.cls ≠ "java/lang/invoke/MethodHandle" ∧ yX9_value.cls ≠ "java/lang/invoke/VarHandle" ∧ (parseMethodDescriptor yX9_value.desc).map (fun d => d.parameters.length) = some 0 := by decide +kernel
theorem hd_X9_fresh : yX9_fresh.cls ≠ "java/lang/invoke/MethodHandle" ∧ yX9_fresh.cls ≠ "java/lang/invoke/VarHandle" ∧ (parseMethodDescriptor yX9_fresh.desc).map (fun d => d.parameters.length) = some 0 := by decide +kernel
theorem hd_X9_stand : yX9_stand.cls ≠ "java/lang/invoke/MethodHandle" ∧ yX9_stand.cls ≠ "java/lang/invoke/VarHandle" ∧ (parseMethodDescriptor yX9_stand.desc).map (fun d => d.parameters.length) = some 3 := by decide +kernel
theorem hd_X9_write : yX9_write.cls ≠ "java/lang/invoke/MethodHandle" ∧ yX9_write.cls ≠ "java/lang/invoke/VarHandle" ∧ (parseMethodDescriptor yX9_write.desc).map (fun d => d.parameters.length) = some 2 := by decide +kernel
theorem hd_X9_erase : yX9_erase.cls ≠ "java/lang/invoke/MethodHandle" ∧ yX9_erase.cls ≠ "java/lang/invoke/VarHandle" ∧ (parseMethodDescriptor yX9_erase.desc).map (fun d => d.parameters.length) = some 1 := by decide +kernel
theorem hd_X9_view : yX9_view.cls ≠ "java/lang/invoke/MethodHandle" ∧ yX9_view.cls ≠ "java/lang/invoke/VarHandle" ∧ (parseMethodDescriptor yX9_view.desc).map (fun d => d.parameters.length) = some 0 := by decide +kernel
theorem hd_X9_goThrough : yX9_goThrough.cls ≠ "java/lang/invoke/MethodHandle" ∧ yX9_goThrough.cls ≠ "java/lang/invoke/VarHandle" ∧ (parseMethodDescriptor yX9_goThrough.desc).map (fun d => d.parameters.length) = some 2 := by decide +kernel
theorem hd_X9_count : yX9_count.cls ≠ "java/lang/invoke/MethodHandle" ∧ yX9_count.cls ≠ "java/lang/invoke/VarHandle" ∧ (parseMethodDescriptor yX9_count.desc).map (fun d => d.parameters.length) = some 2 := by decide +kernel
theorem hd_X9_next : yX9_next.cls ≠ "java/lang/invoke/MethodHandle" ∧ yX9_next.cls ≠ "java/lang/invoke/VarHandle" ∧ (parseMethodDescriptor yX9_next.desc).map (fun d => d.parameters.length) = some 1 := by decide +kernel
theorem hd_X9_pass : yX9_pass.cls ≠ "java/lang/invoke/MethodHandle" ∧ yX9_pass.cls ≠ "java/lang/invoke/VarHandle" ∧ (parseMethodDescriptor yX9_pass.desc).map (fun d => d.parameters.length) = some 0 := by decide +kernel
theorem hd_X9_told : yX9_told.cls ≠ "java/lang/invoke/MethodHandle" ∧ yX9_told.cls ≠ "java/lang/invoke/VarHandle" ∧ (parseMethodDescriptor yX9_told.desc).map (fun d => d.parameters.length) = some 1 := by decide +kernel
theorem hd_J9_max_7cf53 : yJ9_max_7cf53.cls ≠ "java/lang/invoke/MethodHandle" ∧ yJ9_max_7cf53.cls ≠ "java/lang/invoke/VarHandle" ∧ (parseMethodDescriptor yJ9_max_7cf53.desc).map (fun d => d.parameters.length) = some 2 := by decide +kernel
