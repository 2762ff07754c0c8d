section
-- ===== PART A: goes FIRST, ahead of the names: the tables' words, and 'selects' of the private methods out of them =====
/-- a private method of a class that the tables say can be made, by its rows of tables_1 -/
def lw_okq (q : MethodName × Nat) : Prop := (q.1.cls ≠ "java/lang/invoke/MethodHandle" ∧ q.1.cls ≠ "java/lang/invoke/VarHandle") ∧ Cond.instantiable q.1.cls q.2 ∈ tables_1 ∧ Cond.privateMethod q.1 ∈ tables_1 ∧ Cond.instanceMethod q.1 ∈ tables_1
theorem lw_p0 : lw_okq (⟨"PathProofs", "wholeOf", "(I)LPathProofs$Node;"⟩, 9) := ⟨⟨by decide +kernel, by decide +kernel⟩, List.mem_of_getElem? (i := 13) (by decide +kernel), List.mem_of_getElem? (i := 225) (by decide +kernel), List.mem_of_getElem? (i := 226) (by decide +kernel)⟩
theorem lw_p1 : lw_okq (⟨"PathProofs", "tapeBecomes", "(LPathProofs$Node;)I"⟩, 9) := ⟨⟨by decide +kernel, by decide +kernel⟩, List.mem_of_getElem? (i := 13) (by decide +kernel), List.mem_of_getElem? (i := 252) (by decide +kernel), List.mem_of_getElem? (i := 253) (by decide +kernel)⟩
theorem lw_p2 : lw_okq (⟨"PathProofs", "appendShown", "(LPathProofs$Node;III)V"⟩, 9) := ⟨⟨by decide +kernel, by decide +kernel⟩, List.mem_of_getElem? (i := 13) (by decide +kernel), List.mem_of_getElem? (i := 256) (by decide +kernel), List.mem_of_getElem? (i := 257) (by decide +kernel)⟩
theorem lw_p3 : lw_okq (⟨"PathProofs$Reading", "readNode", "(III)LPathProofs$Node;"⟩, 4) := ⟨⟨by decide +kernel, by decide +kernel⟩, List.mem_of_getElem? (i := 301) (by decide +kernel), List.mem_of_getElem? (i := 327) (by decide +kernel), List.mem_of_getElem? (i := 328) (by decide +kernel)⟩
theorem lw_p4 : lw_okq (⟨"PathProofs$Reading", "lacks", "(I)Z"⟩, 4) := ⟨⟨by decide +kernel, by decide +kernel⟩, List.mem_of_getElem? (i := 301) (by decide +kernel), List.mem_of_getElem? (i := 331) (by decide +kernel), List.mem_of_getElem? (i := 332) (by decide +kernel)⟩
theorem lw_p5 : lw_okq (⟨"PathProofs$Reading", "refuse", "(II)LPathProofs$Node;"⟩, 4) := ⟨⟨by decide +kernel, by decide +kernel⟩, List.mem_of_getElem? (i := 301) (by decide +kernel), List.mem_of_getElem? (i := 335) (by decide +kernel), List.mem_of_getElem? (i := 336) (by decide +kernel)⟩
theorem lw_p6 : lw_okq (⟨"PathProofs$Reading", "number", "(I)J"⟩, 4) := ⟨⟨by decide +kernel, by decide +kernel⟩, List.mem_of_getElem? (i := 301) (by decide +kernel), List.mem_of_getElem? (i := 339) (by decide +kernel), List.mem_of_getElem? (i := 340) (by decide +kernel)⟩
theorem lw_p7 : lw_okq (⟨"PathProofs$Reading", "readFork", "(III)LPathProofs$Node;"⟩, 4) := ⟨⟨by decide +kernel, by decide +kernel⟩, List.mem_of_getElem? (i := 301) (by decide +kernel), List.mem_of_getElem? (i := 352) (by decide +kernel), List.mem_of_getElem? (i := 353) (by decide +kernel)⟩
theorem lw_p8 : lw_okq (⟨"PathProofs$Reading", "readLeaf", "(II)LPathProofs$Node;"⟩, 4) := ⟨⟨by decide +kernel, by decide +kernel⟩, List.mem_of_getElem? (i := 301) (by decide +kernel), List.mem_of_getElem? (i := 359) (by decide +kernel), List.mem_of_getElem? (i := 360) (by decide +kernel)⟩
theorem lw_p9 : lw_okq (⟨"PathProofsModel", "find", "(I)I"⟩, 42) := ⟨⟨by decide +kernel, by decide +kernel⟩, List.mem_of_getElem? (i := 422) (by decide +kernel), List.mem_of_getElem? (i := 564) (by decide +kernel), List.mem_of_getElem? (i := 565) (by decide +kernel)⟩
theorem lw_p10 : lw_okq (⟨"PathProofsModel", "baseOf", "(I)I"⟩, 42) := ⟨⟨by decide +kernel, by decide +kernel⟩, List.mem_of_getElem? (i := 422) (by decide +kernel), List.mem_of_getElem? (i := 580) (by decide +kernel), List.mem_of_getElem? (i := 581) (by decide +kernel)⟩
theorem lw_p11 : lw_okq (⟨"PathProofsModel", "sizeOf", "(I)I"⟩, 42) := ⟨⟨by decide +kernel, by decide +kernel⟩, List.mem_of_getElem? (i := 422) (by decide +kernel), List.mem_of_getElem? (i := 584) (by decide +kernel), List.mem_of_getElem? (i := 585) (by decide +kernel)⟩
theorem lw_p12 : lw_okq (⟨"PathProofsModel", "digest", "(II)J"⟩, 42) := ⟨⟨by decide +kernel, by decide +kernel⟩, List.mem_of_getElem? (i := 422) (by decide +kernel), List.mem_of_getElem? (i := 588) (by decide +kernel), List.mem_of_getElem? (i := 589) (by decide +kernel)⟩
theorem lw_p13 : lw_okq (⟨"PathProofsModel", "rest", "(IIII)V"⟩, 42) := ⟨⟨by decide +kernel, by decide +kernel⟩, List.mem_of_getElem? (i := 422) (by decide +kernel), List.mem_of_getElem? (i := 627) (by decide +kernel), List.mem_of_getElem? (i := 628) (by decide +kernel)⟩
theorem lw_p14 : lw_okq (⟨"PathProofsModel", "isWanted", "(II)Z"⟩, 42) := ⟨⟨by decide +kernel, by decide +kernel⟩, List.mem_of_getElem? (i := 422) (by decide +kernel), List.mem_of_getElem? (i := 631) (by decide +kernel), List.mem_of_getElem? (i := 632) (by decide +kernel)⟩
theorem lw_p15 : lw_okq (⟨"PathProofsModel", "lay", "(JI)V"⟩, 42) := ⟨⟨by decide +kernel, by decide +kernel⟩, List.mem_of_getElem? (i := 422) (by decide +kernel), List.mem_of_getElem? (i := 635) (by decide +kernel), List.mem_of_getElem? (i := 636) (by decide +kernel)⟩
def lw_privs_1 : List (MethodName × Nat) := [(⟨"PathProofs", "wholeOf", "(I)LPathProofs$Node;"⟩, 9), (⟨"PathProofs", "tapeBecomes", "(LPathProofs$Node;)I"⟩, 9), (⟨"PathProofs", "appendShown", "(LPathProofs$Node;III)V"⟩, 9), (⟨"PathProofs$Reading", "readNode", "(III)LPathProofs$Node;"⟩, 4), (⟨"PathProofs$Reading", "lacks", "(I)Z"⟩, 4), (⟨"PathProofs$Reading", "refuse", "(II)LPathProofs$Node;"⟩, 4), (⟨"PathProofs$Reading", "number", "(I)J"⟩, 4), (⟨"PathProofs$Reading", "readFork", "(III)LPathProofs$Node;"⟩, 4), (⟨"PathProofs$Reading", "readLeaf", "(II)LPathProofs$Node;"⟩, 4), (⟨"PathProofsModel", "find", "(I)I"⟩, 42), (⟨"PathProofsModel", "baseOf", "(I)I"⟩, 42), (⟨"PathProofsModel", "sizeOf", "(I)I"⟩, 42), (⟨"PathProofsModel", "digest", "(II)J"⟩, 42), (⟨"PathProofsModel", "rest", "(IIII)V"⟩, 42), (⟨"PathProofsModel", "isWanted", "(II)Z"⟩, 42), (⟨"PathProofsModel", "lay", "(JI)V"⟩, 42)]
theorem lw_r1 : ∀ q ∈ lw_privs_1, lw_okq q := List.forall_mem_cons.mpr ⟨lw_p0, List.forall_mem_cons.mpr ⟨lw_p1, List.forall_mem_cons.mpr ⟨lw_p2, List.forall_mem_cons.mpr ⟨lw_p3, List.forall_mem_cons.mpr ⟨lw_p4, List.forall_mem_cons.mpr ⟨lw_p5, List.forall_mem_cons.mpr ⟨lw_p6, List.forall_mem_cons.mpr ⟨lw_p7, List.forall_mem_cons.mpr ⟨lw_p8, List.forall_mem_cons.mpr ⟨lw_p9, List.forall_mem_cons.mpr ⟨lw_p10, List.forall_mem_cons.mpr ⟨lw_p11, List.forall_mem_cons.mpr ⟨lw_p12, List.forall_mem_cons.mpr ⟨lw_p13, List.forall_mem_cons.mpr ⟨lw_p14, List.forall_mem_cons.mpr ⟨lw_p15, fun _ h => absurd h List.not_mem_nil⟩⟩⟩⟩⟩⟩⟩⟩⟩⟩⟩⟩⟩⟩⟩⟩
theorem lw_p16 : lw_okq (⟨"PathProofsModel", "laidOut", "()I"⟩, 42) := ⟨⟨by decide +kernel, by decide +kernel⟩, List.mem_of_getElem? (i := 422) (by decide +kernel), List.mem_of_getElem? (i := 640) (by decide +kernel), List.mem_of_getElem? (i := 641) (by decide +kernel)⟩
theorem lw_p17 : lw_okq (⟨"PathProofsModel", "taken", "(IZII)I"⟩, 42) := ⟨⟨by decide +kernel, by decide +kernel⟩, List.mem_of_getElem? (i := 422) (by decide +kernel), List.mem_of_getElem? (i := 664) (by decide +kernel), List.mem_of_getElem? (i := 665) (by decide +kernel)⟩
theorem lw_p18 : lw_okq (⟨"PathProofsModel", "numeral", "(I)J"⟩, 42) := ⟨⟨by decide +kernel, by decide +kernel⟩, List.mem_of_getElem? (i := 422) (by decide +kernel), List.mem_of_getElem? (i := 668) (by decide +kernel), List.mem_of_getElem? (i := 669) (by decide +kernel)⟩
theorem lw_p19 : lw_okq (⟨"PathProofsModel", "sumUp", "(I)J"⟩, 42) := ⟨⟨by decide +kernel, by decide +kernel⟩, List.mem_of_getElem? (i := 422) (by decide +kernel), List.mem_of_getElem? (i := 672) (by decide +kernel), List.mem_of_getElem? (i := 673) (by decide +kernel)⟩
theorem lw_p20 : lw_okq (⟨"PathProofsModel", "way", "(I)V"⟩, 42) := ⟨⟨by decide +kernel, by decide +kernel⟩, List.mem_of_getElem? (i := 422) (by decide +kernel), List.mem_of_getElem? (i := 684) (by decide +kernel), List.mem_of_getElem? (i := 685) (by decide +kernel)⟩
theorem lw_p21 : lw_okq (⟨"PathProofsModel", "isThere", "(I)Z"⟩, 42) := ⟨⟨by decide +kernel, by decide +kernel⟩, List.mem_of_getElem? (i := 422) (by decide +kernel), List.mem_of_getElem? (i := 691) (by decide +kernel), List.mem_of_getElem? (i := 692) (by decide +kernel)⟩
theorem lw_p22 : lw_okq (⟨"PathProofsModel", "fresh", "()I"⟩, 42) := ⟨⟨by decide +kernel, by decide +kernel⟩, List.mem_of_getElem? (i := 422) (by decide +kernel), List.mem_of_getElem? (i := 703) (by decide +kernel), List.mem_of_getElem? (i := 704) (by decide +kernel)⟩
theorem lw_p23 : lw_okq (⟨"PathProofsModel", "stand", "(III)V"⟩, 42) := ⟨⟨by decide +kernel, by decide +kernel⟩, List.mem_of_getElem? (i := 422) (by decide +kernel), List.mem_of_getElem? (i := 707) (by decide +kernel), List.mem_of_getElem? (i := 708) (by decide +kernel)⟩
theorem lw_p24 : lw_okq (⟨"PathProofsModel", "goThrough", "(II)V"⟩, 42) := ⟨⟨by decide +kernel, by decide +kernel⟩, List.mem_of_getElem? (i := 422) (by decide +kernel), List.mem_of_getElem? (i := 723) (by decide +kernel), List.mem_of_getElem? (i := 724) (by decide +kernel)⟩
def lw_privs_2 : List (MethodName × Nat) := [(⟨"PathProofsModel", "laidOut", "()I"⟩, 42), (⟨"PathProofsModel", "taken", "(IZII)I"⟩, 42), (⟨"PathProofsModel", "numeral", "(I)J"⟩, 42), (⟨"PathProofsModel", "sumUp", "(I)J"⟩, 42), (⟨"PathProofsModel", "way", "(I)V"⟩, 42), (⟨"PathProofsModel", "isThere", "(I)Z"⟩, 42), (⟨"PathProofsModel", "fresh", "()I"⟩, 42), (⟨"PathProofsModel", "stand", "(III)V"⟩, 42), (⟨"PathProofsModel", "goThrough", "(II)V"⟩, 42)]
theorem lw_r2 : ∀ q ∈ lw_privs_2, lw_okq q := List.forall_mem_cons.mpr ⟨lw_p16, List.forall_mem_cons.mpr ⟨lw_p17, List.forall_mem_cons.mpr ⟨lw_p18, List.forall_mem_cons.mpr ⟨lw_p19, List.forall_mem_cons.mpr ⟨lw_p20, List.forall_mem_cons.mpr ⟨lw_p21, List.forall_mem_cons.mpr ⟨lw_p22, List.forall_mem_cons.mpr ⟨lw_p23, List.forall_mem_cons.mpr ⟨lw_p24, fun _ h => absurd h List.not_mem_nil⟩⟩⟩⟩⟩⟩⟩⟩⟩
def lw_privs : List (MethodName × Nat) := lw_privs_1 ++ (lw_privs_2)
def lw_tbl : List Cond := k2_sels lw_privs ++ tables_1
theorem lw_privs_ok : ∀ q ∈ lw_privs, lw_okq q := by
  show ∀ q ∈ lw_privs_1 ++ (lw_privs_2), lw_okq q
  exact List.forall_mem_append.mpr ⟨lw_r1, lw_r2⟩
end
section
def RX0 : String := "PathProofs$Empty"
def TX0 : u_T := fun k => match k with
  | _ => ("PathProofs$Node", "digest", "J", true)
def tyX0 : Nat → FieldType := fun k => match k with
  | _ => .long
abbrev wsX00 : List Cond := u_ws RX0 TX0 1
theorem nmX0 : ∀ a, a < 1 → ∀ b, b < 1 → a ≠ b → (TX0 a).2.1 ≠ (TX0 b).2.1 := by decide +kernel
theorem tyX0_ok : ∀ k, k < 1 → parseFieldDescriptor (TX0 k).2.2.1 = some (tyX0 k) := by decide +kernel
abbrev cX0_init : ByteArray := prog_2_method_1_code
def yX0_init : MethodName := ⟨RX0, "<init>", "()V"⟩
def RX1 : String := "PathProofs$Fork"
def TX1 : u_T := fun k => match k with
  | 0 => ("PathProofs$Node", "digest", "J", true)
  | 1 => ("PathProofs$Fork", "bit", "I", true)
  | 2 => ("PathProofs$Fork", "stem", "I", true)
  | 3 => ("PathProofs$Fork", "low", "LPathProofs$Node;", true)
  | _ => ("PathProofs$Fork", "high", "LPathProofs$Node;", true)
def tyX1 : Nat → FieldType := fun k => match k with
  | 0 => .long
  | 1 => .int
  | 2 => .int
  | 3 => .object "PathProofs$Node"
  | _ => .object "PathProofs$Node"
abbrev wsX10 : List Cond := u_ws RX1 TX1 5
theorem nmX1 : ∀ a, a < 5 → ∀ b, b < 5 → a ≠ b → (TX1 a).2.1 ≠ (TX1 b).2.1 := by decide +kernel
theorem tyX1_ok : ∀ k, k < 5 → parseFieldDescriptor (TX1 k).2.2.1 = some (tyX1 k) := by decide +kernel
abbrev cX1_init : ByteArray := prog_3_method_1_code
def yX1_init : MethodName := ⟨RX1, "<init>", "(IILPathProofs$Node;LPathProofs$Node;)V"⟩
abbrev cX1_takesIn : ByteArray := prog_3_method_2_code
def yX1_takesIn : MethodName := ⟨RX1, "takesIn", "(I)Z"⟩
abbrev cX1_middle : ByteArray := prog_3_method_3_code
def yX1_middle : MethodName := ⟨RX1, "middle", "()I"⟩
abbrev cX1_last : ByteArray := prog_3_method_4_code
def yX1_last : MethodName := ⟨RX1, "last", "()I"⟩
abbrev cX1_toward : ByteArray := prog_3_method_5_code
def yX1_toward : MethodName := ⟨RX1, "toward", "(I)LPathProofs$Node;"⟩
abbrev cX1_besides : ByteArray := prog_3_method_6_code
def yX1_besides : MethodName := ⟨RX1, "besides", "(I)LPathProofs$Node;"⟩
abbrev cX1_with : ByteArray := prog_3_method_7_code
def yX1_with : MethodName := ⟨RX1, "with", "(ILPathProofs$Node;)LPathProofs$Fork;"⟩
def RX2 : String := "PathProofs$Hidden"
def TX2 : u_T := fun k => match k with
  | _ => ("PathProofs$Node", "digest", "J", true)
def tyX2 : Nat → FieldType := fun k => match k with
  | _ => .long
abbrev wsX20 : List Cond := u_ws RX2 TX2 1
theorem nmX2 : ∀ a, a < 1 → ∀ b, b < 1 → a ≠ b → (TX2 a).2.1 ≠ (TX2 b).2.1 := by decide +kernel
theorem tyX2_ok : ∀ k, k < 1 → parseFieldDescriptor (TX2 k).2.2.1 = some (tyX2 k) := by decide +kernel
abbrev cX2_init : ByteArray := prog_4_method_1_code
def yX2_init : MethodName := ⟨RX2, "<init>", "(J)V"⟩
def RX3 : String := "PathProofs$Leaf"
def TX3 : u_T := fun k => match k with
  | 0 => ("PathProofs$Node", "digest", "J", true)
  | 1 => ("PathProofs$Leaf", "path", "I", true)
  | _ => ("PathProofs$Leaf", "value", "J", true)
def tyX3 : Nat → FieldType := fun k => match k with
  | 0 => .long
  | 1 => .int
  | _ => .long
abbrev wsX30 : List Cond := u_ws RX3 TX3 3
theorem nmX3 : ∀ a, a < 3 → ∀ b, b < 3 → a ≠ b → (TX3 a).2.1 ≠ (TX3 b).2.1 := by decide +kernel
theorem tyX3_ok : ∀ k, k < 3 → parseFieldDescriptor (TX3 k).2.2.1 = some (tyX3 k) := by decide +kernel
abbrev cX3_init : ByteArray := prog_5_method_1_code
def yX3_init : MethodName := ⟨RX3, "<init>", "(IJ)V"⟩
def RX4 : String := "PathProofs$Node"
def TX4 : u_T := fun k => match k with
  | _ => ("", "", "", false)
def tyX4 : Nat → FieldType := fun k => match k with
  | _ => .int
abbrev wsX40 : List Cond := u_ws RX4 TX4 0
theorem nmX4 : ∀ a, a < 0 → ∀ b, b < 0 → a ≠ b → (TX4 a).2.1 ≠ (TX4 b).2.1 := by decide +kernel
theorem tyX4_ok : ∀ k, k < 0 → parseFieldDescriptor (TX4 k).2.2.1 = some (tyX4 k) := by decide +kernel
abbrev cX4_init : ByteArray := prog_6_method_1_code
def yX4_init : MethodName := ⟨RX4, "<init>", "(J)V"⟩
def RX5 : String := "PathProofs$Ranges"
def TX5 : u_T := fun k => match k with
  | 0 => ("PathProofs$Ranges", "firsts", "[I", true)
  | 1 => ("PathProofs$Ranges", "lasts", "[I", true)
  | _ => ("PathProofs$Ranges", "size", "I", false)
def tyX5 : Nat → FieldType := fun k => match k with
  | 0 => .array .int
  | 1 => .array .int
  | _ => .int
abbrev wsX50 : List Cond := u_ws RX5 TX5 3
theorem nmX5 : ∀ a, a < 3 → ∀ b, b < 3 → a ≠ b → (TX5 a).2.1 ≠ (TX5 b).2.1 := by decide +kernel
theorem tyX5_ok : ∀ k, k < 3 → parseFieldDescriptor (TX5 k).2.2.1 = some (tyX5 k) := by decide +kernel
abbrev cX5_init : ByteArray := prog_7_method_1_code
def yX5_init : MethodName := ⟨RX5, "<init>", "()V"⟩
abbrev cX5_add : ByteArray := prog_7_method_2_code
def yX5_add : MethodName := ⟨RX5, "add", "(II)Z"⟩
abbrev cX5_meet : ByteArray := prog_7_method_3_code
def yX5_meet : MethodName := ⟨RX5, "meet", "(II)Z"⟩
def RX6 : String := "PathProofs$Reading"
def TX6 : u_T := fun k => match k with
  | 0 => ("PathProofs$Reading", "tape", "LPathProofs$Tape;", true)
  | 1 => ("PathProofs$Reading", "at", "I", false)
  | 2 => ("PathProofs$Reading", "fault", "I", false)
  | _ => ("PathProofs$Reading", "faultPlace", "I", false)
def tyX6 : Nat → FieldType := fun k => match k with
  | 0 => .object "PathProofs$Tape"
  | 1 => .int
  | 2 => .int
  | _ => .int
abbrev wsX60 : List Cond := u_ws RX6 TX6 4
theorem nmX6 : ∀ a, a < 4 → ∀ b, b < 4 → a ≠ b → (TX6 a).2.1 ≠ (TX6 b).2.1 := by decide +kernel
theorem tyX6_ok : ∀ k, k < 4 → parseFieldDescriptor (TX6 k).2.2.1 = some (tyX6 k) := by decide +kernel
abbrev cX6_init : ByteArray := prog_8_method_1_code
def yX6_init : MethodName := ⟨RX6, "<init>", "(LPathProofs$Tape;)V"⟩
abbrev cX6_wholeWith : ByteArray := prog_8_method_2_code
def yX6_wholeWith : MethodName := ⟨RX6, "wholeWith", "(J)LPathProofs$Node;"⟩
abbrev cX6_readNode : ByteArray := prog_8_method_3_code
def yX6_readNode : MethodName := ⟨RX6, "readNode", "(III)LPathProofs$Node;"⟩
abbrev cX6_readLeaf : ByteArray := prog_8_method_4_code
def yX6_readLeaf : MethodName := ⟨RX6, "readLeaf", "(II)LPathProofs$Node;"⟩
abbrev cX6_readFork : ByteArray := prog_8_method_5_code
def yX6_readFork : MethodName := ⟨RX6, "readFork", "(III)LPathProofs$Node;"⟩
abbrev cX6_lacks : ByteArray := prog_8_method_6_code
def yX6_lacks : MethodName := ⟨RX6, "lacks", "(I)Z"⟩
abbrev cX6_number : ByteArray := prog_8_method_7_code
def yX6_number : MethodName := ⟨RX6, "number", "(I)J"⟩
abbrev cX6_refuse : ByteArray := prog_8_method_8_code
def yX6_refuse : MethodName := ⟨RX6, "refuse", "(II)LPathProofs$Node;"⟩
def RX7 : String := "PathProofs$Tape"
def TX7 : u_T := fun k => match k with
  | 0 => ("PathProofs$Tape", "octets", "[I", true)
  | _ => ("PathProofs$Tape", "length", "I", false)
def tyX7 : Nat → FieldType := fun k => match k with
  | 0 => .array .int
  | _ => .int
abbrev wsX70 : List Cond := u_ws RX7 TX7 2
theorem nmX7 : ∀ a, a < 2 → ∀ b, b < 2 → a ≠ b → (TX7 a).2.1 ≠ (TX7 b).2.1 := by decide +kernel
theorem tyX7_ok : ∀ k, k < 2 → parseFieldDescriptor (TX7 k).2.2.1 = some (tyX7 k) := by decide +kernel
abbrev cX7_init : ByteArray := prog_9_method_1_code
def yX7_init : MethodName := ⟨RX7, "<init>", "()V"⟩
abbrev cX7_has : ByteArray := prog_9_method_2_code
def yX7_has : MethodName := ⟨RX7, "has", "(I)Z"⟩
abbrev cX7_append : ByteArray := prog_9_method_3_code
def yX7_append : MethodName := ⟨RX7, "append", "(IJ)V"⟩
def RX8 : String := "PathProofs"
def TX8 : u_T := fun k => match k with
  | 0 => ("PathProofs", "kept", "[LPathProofs$Node;", true)
  | 1 => ("PathProofs", "wanted", "LPathProofs$Ranges;", true)
  | 2 => ("PathProofs", "tree", "LPathProofs$Node;", false)
  | 3 => ("PathProofs", "versions", "I", false)
  | 4 => ("PathProofs", "tape", "LPathProofs$Tape;", false)
  | 5 => ("PathProofs", "spare", "LPathProofs$Tape;", false)
  | 6 => ("PathProofs", "view", "LPathProofs$Node;", false)
  | 7 => ("PathProofs", "faultPlace", "I", false)
  | _ => ("PathProofs", "found", "J", false)
def tyX8 : Nat → FieldType := fun k => match k with
  | 0 => .array (.object "PathProofs$Node")
  | 1 => .object "PathProofs$Ranges"
  | 2 => .object "PathProofs$Node"
  | 3 => .int
  | 4 => .object "PathProofs$Tape"
  | 5 => .object "PathProofs$Tape"
  | 6 => .object "PathProofs$Node"
  | 7 => .int
  | _ => .long
abbrev wsX80 : List Cond := u_ws RX8 TX8 9
theorem nmX8 : ∀ a, a < 9 → ∀ b, b < 9 → a ≠ b → (TX8 a).2.1 ≠ (TX8 b).2.1 := by decide +kernel
theorem tyX8_ok : ∀ k, k < 9 → parseFieldDescriptor (TX8 k).2.2.1 = some (tyX8 k) := by decide +kernel
abbrev cX8_init : ByteArray := prog_1_method_1_code
def yX8_init : MethodName := ⟨RX8, "<init>", "()V"⟩
abbrev cX8_put : ByteArray := prog_1_method_2_code
def yX8_put : MethodName := ⟨RX8, "put", "(IJ)I"⟩
abbrev cX8_remove : ByteArray := prog_1_method_3_code
def yX8_remove : MethodName := ⟨RX8, "remove", "(I)I"⟩
abbrev cX8_keep : ByteArray := prog_1_method_4_code
def yX8_keep : MethodName := ⟨RX8, "keep", "()I"⟩
abbrev cX8_root : ByteArray := prog_1_method_5_code
def yX8_root : MethodName := ⟨RX8, "root", "(I)J"⟩
abbrev cX8_leaves : ByteArray := prog_1_method_6_code
def yX8_leaves : MethodName := ⟨RX8, "leaves", "(I)I"⟩
abbrev cX8_want : ByteArray := prog_1_method_7_code
def yX8_want : MethodName := ⟨RX8, "want", "(II)I"⟩
abbrev cX8_forget : ByteArray := prog_1_method_8_code
def yX8_forget : MethodName := ⟨RX8, "forget", "()I"⟩
abbrev cX8_show : ByteArray := prog_1_method_9_code
def yX8_show : MethodName := ⟨RX8, "show", "(I)I"⟩
abbrev cX8_pass : ByteArray := prog_1_method_10_code
def yX8_pass : MethodName := ⟨RX8, "pass", "()I"⟩
abbrev cX8_feed : ByteArray := prog_1_method_11_code
def yX8_feed : MethodName := ⟨RX8, "feed", "(IJ)I"⟩
abbrev cX8_cut : ByteArray := prog_1_method_12_code
def yX8_cut : MethodName := ⟨RX8, "cut", "(I)I"⟩
abbrev cX8_spoil : ByteArray := prog_1_method_13_code
def yX8_spoil : MethodName := ⟨RX8, "spoil", "(II)I"⟩
abbrev cX8_take : ByteArray := prog_1_method_14_code
def yX8_take : MethodName := ⟨RX8, "take", "(J)I"⟩
abbrev cX8_place : ByteArray := prog_1_method_15_code
def yX8_place : MethodName := ⟨RX8, "place", "()I"⟩
abbrev cX8_get : ByteArray := prog_1_method_16_code
def yX8_get : MethodName := ⟨RX8, "get", "(I)I"⟩
abbrev cX8_value : ByteArray := prog_1_method_17_code
def yX8_value : MethodName := ⟨RX8, "value", "()J"⟩
abbrev cX8_write : ByteArray := prog_1_method_18_code
def yX8_write : MethodName := ⟨RX8, "write", "(IJ)I"⟩
abbrev cX8_erase : ByteArray := prog_1_method_19_code
def yX8_erase : MethodName := ⟨RX8, "erase", "(I)I"⟩
abbrev cX8_view : ByteArray := prog_1_method_20_code
def yX8_view : MethodName := ⟨RX8, "view", "()J"⟩
abbrev cX8_count : ByteArray := prog_1_method_21_code
def yX8_count : MethodName := ⟨RX8, "count", "(II)I"⟩
abbrev cX8_next : ByteArray := prog_1_method_22_code
def yX8_next : MethodName := ⟨RX8, "next", "(I)I"⟩
abbrev cX8_told : ByteArray := prog_1_method_23_code
def yX8_told : MethodName := ⟨RX8, "told", "(I)I"⟩
abbrev cX8_octet : ByteArray := prog_1_method_24_code
def yX8_octet : MethodName := ⟨RX8, "octet", "(I)I"⟩
abbrev cX8_isPath : ByteArray := prog_1_method_25_code
def yX8_isPath : MethodName := ⟨RX8, "isPath", "(I)Z"⟩
abbrev cX8_isRange : ByteArray := prog_1_method_26_code
def yX8_isRange : MethodName := ⟨RX8, "isRange", "(II)Z"⟩
abbrev cX8_isHigh : ByteArray := prog_1_method_27_code
def yX8_isHigh : MethodName := ⟨RX8, "isHigh", "(II)Z"⟩
abbrev cX8_stemOf : ByteArray := prog_1_method_28_code
def yX8_stemOf : MethodName := ⟨RX8, "stemOf", "(II)I"⟩
abbrev cX8_firstOtherBit : ByteArray := prog_1_method_29_code
def yX8_firstOtherBit : MethodName := ⟨RX8, "firstOtherBit", "(II)I"⟩
abbrev cX8_mix : ByteArray := prog_1_method_30_code
def yX8_mix : MethodName := ⟨RX8, "mix", "(JJ)J"⟩
abbrev cX8_emptyDigest : ByteArray := prog_1_method_31_code
def yX8_emptyDigest : MethodName := ⟨RX8, "emptyDigest", "()J"⟩
abbrev cX8_leafDigest : ByteArray := prog_1_method_32_code
def yX8_leafDigest : MethodName := ⟨RX8, "leafDigest", "(IJ)J"⟩
abbrev cX8_forkDigest : ByteArray := prog_1_method_33_code
def yX8_forkDigest : MethodName := ⟨RX8, "forkDigest", "(IIJJ)J"⟩
abbrev cX8_wholeOf : ByteArray := prog_1_method_34_code
def yX8_wholeOf : MethodName := ⟨RX8, "wholeOf", "(I)LPathProofs$Node;"⟩
abbrev cX8_endOfWay : ByteArray := prog_1_method_35_code
def yX8_endOfWay : MethodName := ⟨RX8, "endOfWay", "(LPathProofs$Node;I)LPathProofs$Node;"⟩
abbrev cX8_isLeafOf : ByteArray := prog_1_method_36_code
def yX8_isLeafOf : MethodName := ⟨RX8, "isLeafOf", "(LPathProofs$Node;I)Z"⟩
abbrev cX8_written : ByteArray := prog_1_method_37_code
def yX8_written : MethodName := ⟨RX8, "written", "(LPathProofs$Node;LPathProofs$Leaf;I)LPathProofs$Node;"⟩
abbrev cX8_forkOf : ByteArray := prog_1_method_38_code
def yX8_forkOf : MethodName := ⟨RX8, "forkOf", "(LPathProofs$Node;ILPathProofs$Leaf;)LPathProofs$Node;"⟩
abbrev cX8_erased : ByteArray := prog_1_method_39_code
def yX8_erased : MethodName := ⟨RX8, "erased", "(LPathProofs$Node;II)LPathProofs$Node;"⟩
abbrev cX8_leavesWithin : ByteArray := prog_1_method_40_code
def yX8_leavesWithin : MethodName := ⟨RX8, "leavesWithin", "(LPathProofs$Node;III)I"⟩
abbrev cX8_nodesOf : ByteArray := prog_1_method_41_code
def yX8_nodesOf : MethodName := ⟨RX8, "nodesOf", "(LPathProofs$Node;I)I"⟩
abbrev cX8_mostForks : ByteArray := prog_1_method_42_code
def yX8_mostForks : MethodName := ⟨RX8, "mostForks", "(LPathProofs$Node;I)I"⟩
abbrev cX8_hiddenOver : ByteArray := prog_1_method_43_code
def yX8_hiddenOver : MethodName := ⟨RX8, "hiddenOver", "(LPathProofs$Node;IIIII)I"⟩
abbrev cX8_leastFrom : ByteArray := prog_1_method_44_code
def yX8_leastFrom : MethodName := ⟨RX8, "leastFrom", "(LPathProofs$Node;III)I"⟩
abbrev cX8_tapeBecomes : ByteArray := prog_1_method_45_code
def yX8_tapeBecomes : MethodName := ⟨RX8, "tapeBecomes", "(LPathProofs$Node;)I"⟩
abbrev cX8_appendShown : ByteArray := prog_1_method_46_code
def yX8_appendShown : MethodName := ⟨RX8, "appendShown", "(LPathProofs$Node;III)V"⟩
def RX9 : String := "PathProofsModel"
def TX9 : u_T := fun k => match k with
  | 0 => ("PathProofsModel", "path", "[I", true)
  | 1 => ("PathProofsModel", "value", "[J", true)
  | 2 => ("PathProofsModel", "size", "[I", true)
  | 3 => ("PathProofsModel", "versions", "I", false)
  | 4 => ("PathProofsModel", "from", "[I", true)
  | 5 => ("PathProofsModel", "to", "[I", true)
  | 6 => ("PathProofsModel", "wanted", "I", false)
  | 7 => ("PathProofsModel", "tape", "[I", true)
  | 8 => ("PathProofsModel", "taped", "I", false)
  | 9 => ("PathProofsModel", "waitDigest", "[J", true)
  | 10 => ("PathProofsModel", "waitBit", "[I", true)
  | 11 => ("PathProofsModel", "waitDeep", "[I", true)
  | 12 => ("PathProofsModel", "deepest", "I", false)
  | 13 => ("PathProofsModel", "out", "[I", true)
  | 14 => ("PathProofsModel", "laid", "I", false)
  | 15 => ("PathProofsModel", "oneOf", "[I", true)
  | 16 => ("PathProofsModel", "twoOf", "[I", true)
  | 17 => ("PathProofsModel", "placeFrom", "[I", true)
  | 18 => ("PathProofsModel", "placeTo", "[I", true)
  | 19 => ("PathProofsModel", "rests", "I", false)
  | 20 => ("PathProofsModel", "kind", "[I", true)
  | 21 => ("PathProofsModel", "bitOf", "[I", true)
  | 22 => ("PathProofsModel", "stem", "[I", true)
  | 23 => ("PathProofsModel", "held", "[J", true)
  | 24 => ("PathProofsModel", "low", "[I", true)
  | 25 => ("PathProofsModel", "high", "[I", true)
  | 26 => ("PathProofsModel", "sum", "[J", true)
  | 27 => ("PathProofsModel", "row", "[I", true)
  | 28 => ("PathProofsModel", "half", "I", false)
  | 29 => ("PathProofsModel", "nodes", "I", false)
  | 30 => ("PathProofsModel", "root", "I", false)
  | 31 => ("PathProofsModel", "free", "[I", true)
  | 32 => ("PathProofsModel", "freed", "I", false)
  | 33 => ("PathProofsModel", "faultAt", "I", false)
  | 34 => ("PathProofsModel", "at", "I", false)
  | 35 => ("PathProofsModel", "end", "I", false)
  | 36 => ("PathProofsModel", "above", "I", false)
  | 37 => ("PathProofsModel", "found", "J", false)
  | 38 => ("PathProofsModel", "counted", "I", false)
  | 39 => ("PathProofsModel", "leastLeaf", "I", false)
  | 40 => ("PathProofsModel", "leastHidden", "I", false)
  | _ => ("PathProofsModel", "hiddenMany", "I", false)
def tyX9 : Nat → FieldType := fun k => match k with
  | 0 => .array .int
  | 1 => .array .long
  | 2 => .array .int
  | 3 => .int
  | 4 => .array .int
  | 5 => .array .int
  | 6 => .int
  | 7 => .array .int
  | 8 => .int
  | 9 => .array .long
  | 10 => .array .int
  | 11 => .array .int
  | 12 => .int
  | 13 => .array .int
  | 14 => .int
  | 15 => .array .int
  | 16 => .array .int
  | 17 => .array .int
  | 18 => .array .int
  | 19 => .int
  | 20 => .array .int
  | 21 => .array .int
  | 22 => .array .int
  | 23 => .array .long
  | 24 => .array .int
  | 25 => .array .int
  | 26 => .array .long
  | 27 => .array .int
  | 28 => .int
  | 29 => .int
  | 30 => .int
  | 31 => .array .int
  | 32 => .int
  | 33 => .int
  | 34 => .int
  | 35 => .int
  | 36 => .int
  | 37 => .long
  | 38 => .int
  | 39 => .int
  | 40 => .int
  | _ => .int
abbrev wsX90 : List Cond := u_ws RX9 TX9 42
theorem nmX9 : ∀ a, a < 42 → ∀ b, b < 42 → a ≠ b → (TX9 a).2.1 ≠ (TX9 b).2.1 := by decide +kernel
theorem tyX9_ok : ∀ k, k < 42 → parseFieldDescriptor (TX9 k).2.2.1 = some (tyX9 k) := by decide +kernel
abbrev cX9_init : ByteArray := prog_11_method_1_code
def yX9_init : MethodName := ⟨RX9, "<init>", "()V"⟩
abbrev cX9_isPath : ByteArray := prog_11_method_2_code
def yX9_isPath : MethodName := ⟨RX9, "isPath", "(I)Z"⟩
abbrev cX9_firstBit : ByteArray := prog_11_method_3_code
def yX9_firstBit : MethodName := ⟨RX9, "firstBit", "(II)I"⟩
abbrev cX9_stemOf : ByteArray := prog_11_method_4_code
def yX9_stemOf : MethodName := ⟨RX9, "stemOf", "(II)I"⟩
abbrev cX9_mix : ByteArray := prog_11_method_5_code
def yX9_mix : MethodName := ⟨RX9, "mix", "(JJ)J"⟩
abbrev cX9_leafDigest : ByteArray := prog_11_method_6_code
def yX9_leafDigest : MethodName := ⟨RX9, "leafDigest", "(IJ)J"⟩
abbrev cX9_forkDigest : ByteArray := prog_11_method_7_code
def yX9_forkDigest : MethodName := ⟨RX9, "forkDigest", "(IIJJ)J"⟩
abbrev cX9_baseOf : ByteArray := prog_11_method_8_code
def yX9_baseOf : MethodName := ⟨RX9, "baseOf", "(I)I"⟩
abbrev cX9_sizeOf : ByteArray := prog_11_method_9_code
def yX9_sizeOf : MethodName := ⟨RX9, "sizeOf", "(I)I"⟩
abbrev cX9_find : ByteArray := prog_11_method_10_code
def yX9_find : MethodName := ⟨RX9, "find", "(I)I"⟩
abbrev cX9_put : ByteArray := prog_11_method_11_code
def yX9_put : MethodName := ⟨RX9, "put", "(IJ)I"⟩
abbrev cX9_remove : ByteArray := prog_11_method_12_code
def yX9_remove : MethodName := ⟨RX9, "remove", "(I)I"⟩
abbrev cX9_keep : ByteArray := prog_11_method_13_code
def yX9_keep : MethodName := ⟨RX9, "keep", "()I"⟩
abbrev cX9_digest : ByteArray := prog_11_method_14_code
def yX9_digest : MethodName := ⟨RX9, "digest", "(II)J"⟩
abbrev cX9_root : ByteArray := prog_11_method_15_code
def yX9_root : MethodName := ⟨RX9, "root", "(I)J"⟩
abbrev cX9_leaves : ByteArray := prog_11_method_16_code
def yX9_leaves : MethodName := ⟨RX9, "leaves", "(I)I"⟩
abbrev cX9_want : ByteArray := prog_11_method_17_code
def yX9_want : MethodName := ⟨RX9, "want", "(II)I"⟩
abbrev cX9_forget : ByteArray := prog_11_method_18_code
def yX9_forget : MethodName := ⟨RX9, "forget", "()I"⟩
abbrev cX9_isWanted : ByteArray := prog_11_method_19_code
def yX9_isWanted : MethodName := ⟨RX9, "isWanted", "(II)Z"⟩
abbrev cX9_lay : ByteArray := prog_11_method_20_code
def yX9_lay : MethodName := ⟨RX9, "lay", "(JI)V"⟩
abbrev cX9_laidOut : ByteArray := prog_11_method_21_code
def yX9_laidOut : MethodName := ⟨RX9, "laidOut", "()I"⟩
abbrev cX9_rest : ByteArray := prog_11_method_22_code
def yX9_rest : MethodName := ⟨RX9, "rest", "(IIII)V"⟩
abbrev cX9_show : ByteArray := prog_11_method_23_code
def yX9_show : MethodName := ⟨RX9, "show", "(I)I"⟩
abbrev cX9_feed : ByteArray := prog_11_method_24_code
def yX9_feed : MethodName := ⟨RX9, "feed", "(IJ)I"⟩
abbrev cX9_cut : ByteArray := prog_11_method_25_code
def yX9_cut : MethodName := ⟨RX9, "cut", "(I)I"⟩
abbrev cX9_spoil : ByteArray := prog_11_method_26_code
def yX9_spoil : MethodName := ⟨RX9, "spoil", "(II)I"⟩
abbrev cX9_octet : ByteArray := prog_11_method_27_code
def yX9_octet : MethodName := ⟨RX9, "octet", "(I)I"⟩
abbrev cX9_numeral : ByteArray := prog_11_method_28_code
def yX9_numeral : MethodName := ⟨RX9, "numeral", "(I)J"⟩
abbrev cX9_sumUp : ByteArray := prog_11_method_29_code
def yX9_sumUp : MethodName := ⟨RX9, "sumUp", "(I)J"⟩
abbrev cX9_taken : ByteArray := prog_11_method_30_code
def yX9_taken : MethodName := ⟨RX9, "taken", "(IZII)I"⟩
abbrev cX9_take : ByteArray := prog_11_method_31_code
def yX9_take : MethodName := ⟨RX9, "take", "(J)I"⟩
abbrev cX9_place : ByteArray := prog_11_method_32_code
def yX9_place : MethodName := ⟨RX9, "place", "()I"⟩
abbrev cX9_takesIn : ByteArray := prog_11_method_33_code
def yX9_takesIn : MethodName := ⟨RX9, "takesIn", "(III)Z"⟩
abbrev cX9_way : ByteArray := prog_11_method_34_code
def yX9_way : MethodName := ⟨RX9, "way", "(I)V"⟩
abbrev cX9_isThere : ByteArray := prog_11_method_35_code
def yX9_isThere : MethodName := ⟨RX9, "isThere", "(I)Z"⟩
abbrev cX9_get : ByteArray := prog_11_method_36_code
def yX9_get : MethodName := ⟨RX9, "get", "(I)I"⟩
abbrev cX9_value : ByteArray := prog_11_method_37_code
def yX9_value : MethodName := ⟨RX9, "value", "()J"⟩
abbrev cX9_fresh : ByteArray := prog_11_method_38_code
def yX9_fresh : MethodName := ⟨RX9, "fresh", "()I"⟩
abbrev cX9_stand : ByteArray := prog_11_method_39_code
def yX9_stand : MethodName := ⟨RX9, "stand", "(III)V"⟩
abbrev cX9_write : ByteArray := prog_11_method_40_code
def yX9_write : MethodName := ⟨RX9, "write", "(IJ)I"⟩
abbrev cX9_erase : ByteArray := prog_11_method_41_code
def yX9_erase : MethodName := ⟨RX9, "erase", "(I)I"⟩
abbrev cX9_view : ByteArray := prog_11_method_42_code
def yX9_view : MethodName := ⟨RX9, "view", "()J"⟩
abbrev cX9_goThrough : ByteArray := prog_11_method_43_code
def yX9_goThrough : MethodName := ⟨RX9, "goThrough", "(II)V"⟩
abbrev cX9_count : ByteArray := prog_11_method_44_code
def yX9_count : MethodName := ⟨RX9, "count", "(II)I"⟩
abbrev cX9_next : ByteArray := prog_11_method_45_code
def yX9_next : MethodName := ⟨RX9, "next", "(I)I"⟩
abbrev cX9_pass : ByteArray := prog_11_method_46_code
def yX9_pass : MethodName := ⟨RX9, "pass", "()I"⟩
abbrev cX9_told : ByteArray := prog_11_method_47_code
def yX9_told : MethodName := ⟨RX9, "told", "(I)I"⟩
def RJ9 : String := "java/lang/Math"
def TJ9 : u_T := fun k => match k with
  | _ => ("", "", "", false)
def tyJ9 : Nat → FieldType := fun k => match k with
  | _ => .int
abbrev wsJ90 : List Cond := u_ws RJ9 TJ9 0
theorem nmJ9 : ∀ a, a < 0 → ∀ b, b < 0 → a ≠ b → (TJ9 a).2.1 ≠ (TJ9 b).2.1 := by decide +kernel
theorem tyJ9_ok : ∀ k, k < 0 → parseFieldDescriptor (TJ9 k).2.2.1 = some (tyJ9 k) := by decide +kernel
abbrev cJ9_max_7cf53 : ByteArray := prog_12_method_65_code
def yJ9_max_7cf53 : MethodName := ⟨RJ9, "max", "(II)I"⟩
def RL : String := "PathProofsLaw"
abbrev cL_law : ByteArray := code
def yL_law : MethodName := ⟨RL, "law", "([I)Z"⟩
abbrev vwCl : List vw_C := [(RX0, TX0, 1), (RX1, TX1, 5), (RX2, TX2, 1), (RX3, TX3, 3), (RX5, TX5, 3), (RX6, TX6, 4), (RX7, TX7, 2), (RX8, TX8, 9), (RX9, TX9, 42)]
def tb : List Cond := lw_tbl.filter goodWord
theorem tbm {w : Cond} (i : Nat) (h : lw_tbl[i]? = some w) (g : goodWord w = true) : w ∈ tb := List.mem_filter.mpr ⟨List.mem_of_getElem? h, g⟩
theorem tb_good {w : Cond} (h : w ∈ tb) : goodWord w = true := (List.mem_filter.mp h).2
theorem tb_in {w : Cond} (h : w ∈ tb) : w ∈ lw_tbl := (List.mem_filter.mp h).1
theorem tbs (ws : List Cond) (ps : List Nat) (hp : ws = ps.filterMap (fun i => lw_tbl[i]?)) (h : ws.all goodWord = true) : ∀ w ∈ ws, w ∈ tb := by
  intro w hw
  have h1 := List.all_eq_true.mp h w hw
  rw [hp] at hw
  obtain ⟨i, -, hi⟩ := List.mem_filterMap.mp hw
  exact tbm i hi h1
/-- a callee's words among the caller's -/
theorem tb_gi {y : MethodName} {b : ByteArray} {m : Nat} {r : Option FieldType} (h : Cond.code y b m r ∈ tb) : GoodIn tb (Cond.code y b m r :: tb) := by
  intro w hw
  rcases List.mem_cons.mp hw with rfl | hw
  · exact ⟨h, good_of_word (tb_good h)⟩
  · exact ⟨hw, good_of_word (tb_good hw)⟩
set_option maxRecDepth 100000 in
theorem in_L : (Cond.initialized RL : Cond) ∈ tb := tbm 25 rfl rfl
set_option maxRecDepth 100000 in
theorem in_X8 : (Cond.initialized RX8 : Cond) ∈ tb := tbm 26 rfl rfl
set_option maxRecDepth 100000 in
theorem in_X5 : (Cond.initialized RX5 : Cond) ∈ tb := tbm 27 rfl rfl
set_option maxRecDepth 100000 in
theorem in_X4 : (Cond.initialized RX4 : Cond) ∈ tb := tbm 28 rfl rfl
set_option maxRecDepth 100000 in
theorem in_X0 : (Cond.initialized RX0 : Cond) ∈ tb := tbm 29 rfl rfl
set_option maxRecDepth 100000 in
theorem in_X7 : (Cond.initialized RX7 : Cond) ∈ tb := tbm 30 rfl rfl
set_option maxRecDepth 100000 in
theorem in_X9 : (Cond.initialized RX9 : Cond) ∈ tb := tbm 31 rfl rfl
set_option maxRecDepth 100000 in
theorem in_X3 : (Cond.initialized RX3 : Cond) ∈ tb := tbm 32 rfl rfl
set_option maxRecDepth 100000 in
theorem in_X1 : (Cond.initialized RX1 : Cond) ∈ tb := tbm 33 rfl rfl
set_option maxRecDepth 100000 in
theorem in_X6 : (Cond.initialized RX6 : Cond) ∈ tb := tbm 34 rfl rfl
set_option maxRecDepth 100000 in
theorem in_X2 : (Cond.initialized RX2 : Cond) ∈ tb := tbm 35 rfl rfl
set_option maxRecDepth 100000 in
theorem in_J9 : (Cond.initialized RJ9 : Cond) ∈ tb := tbm 36 rfl rfl
set_option maxRecDepth 100000 in
theorem kl_L_7 : (Cond.classLink RL 7 RX8 : Cond) ∈ tb := tbm 37 rfl rfl
set_option maxRecDepth 100000 in
theorem is_X8 : (Cond.instantiable RX8 9 : Cond) ∈ tb := tbm 38 rfl rfl
set_option maxRecDepth 100000 in
theorem ml_L_9 : (Cond.methodLink RL 9 yX8_init : Cond) ∈ tb := tbm 39 rfl rfl
set_option maxRecDepth 100000 in
theorem im_X8_init : (Cond.instanceMethod yX8_init : Cond) ∈ tb := tbm 40 rfl rfl
set_option maxRecDepth 100000 in
theorem cd_X8_init : (Cond.code yX8_init cX8_init 1 none : Cond) ∈ tb := tbm 41 rfl rfl
set_option maxRecDepth 100000 in
theorem ml_X8_1 : (Cond.methodLink RX8 1 objectInit : Cond) ∈ tb := tbm 42 rfl rfl
set_option maxRecDepth 100000 in
theorem im_objectInit : (Cond.instanceMethod objectInit : Cond) ∈ tb := tbm 43 rfl rfl
set_option maxRecDepth 100000 in
theorem cd_objectInit : (Cond.code objectInit ⟨#[0xb1]⟩ 1 none : Cond) ∈ tb := tbm 44 rfl rfl
set_option maxRecDepth 100000 in
theorem kl_X8_9 : (Cond.classLink RX8 9 RX4 : Cond) ∈ tb := tbm 45 rfl rfl
set_option maxRecDepth 100000 in
theorem kl_X8_15 : (Cond.classLink RX8 15 RX5 : Cond) ∈ tb := tbm 47 rfl rfl
set_option maxRecDepth 100000 in
theorem is_X5 : (Cond.instantiable RX5 3 : Cond) ∈ tb := tbm 48 rfl rfl
set_option maxRecDepth 100000 in
theorem im_X5_init : (Cond.instanceMethod yX5_init : Cond) ∈ tb := tbm 50 rfl rfl
set_option maxRecDepth 100000 in
theorem cd_X5_init : (Cond.code yX5_init cX5_init 1 none : Cond) ∈ tb := tbm 51 rfl rfl
set_option maxRecDepth 100000 in
theorem ml_X5_3 : (Cond.methodLink RX5 3 objectInit : Cond) ∈ tb := tbm 52 rfl rfl
set_option maxRecDepth 100000 in
theorem fl_X5_9 : (Cond.fieldLink RX5 9 "PathProofs$Ranges" "firsts" "[I" : Cond) ∈ tb := tbm 53 rfl rfl
set_option maxRecDepth 100000 in
theorem fl_X5_15 : (Cond.fieldLink RX5 15 "PathProofs$Ranges" "lasts" "[I" : Cond) ∈ tb := tbm 54 rfl rfl
set_option maxRecDepth 100000 in
theorem fl_X5_18 : (Cond.fieldLink RX5 18 "PathProofs$Ranges" "size" "I" : Cond) ∈ tb := tbm 55 rfl rfl
set_option maxRecDepth 100000 in
theorem fl_X8_97 : (Cond.fieldLink RX8 97 "PathProofs$Ranges" "size" "I" : Cond) ∈ tb := tbm 56 rfl rfl
set_option maxRecDepth 100000 in
theorem ac_int : (Cond.arrayClass .int : Cond) ∈ tb := tbm 64 rfl rfl
set_option maxRecDepth 100000 in
theorem kl_X8_22 : (Cond.classLink RX8 22 RX0 : Cond) ∈ tb := tbm 65 rfl rfl
set_option maxRecDepth 100000 in
theorem is_X0 : (Cond.instantiable RX0 1 : Cond) ∈ tb := tbm 66 rfl rfl
set_option maxRecDepth 100000 in
theorem ml_X8_24 : (Cond.methodLink RX8 24 yX0_init : Cond) ∈ tb := tbm 67 rfl rfl
set_option maxRecDepth 100000 in
theorem im_X0_init : (Cond.instanceMethod yX0_init : Cond) ∈ tb := tbm 68 rfl rfl
set_option maxRecDepth 100000 in
theorem cd_X0_init : (Cond.code yX0_init cX0_init 1 none : Cond) ∈ tb := tbm 69 rfl rfl
set_option maxRecDepth 100000 in
theorem sm_X8_emptyDigest : (Cond.static yX8_emptyDigest : Cond) ∈ tb := tbm 71 rfl rfl
set_option maxRecDepth 100000 in
theorem cd_X8_emptyDigest : (Cond.code yX8_emptyDigest cX8_emptyDigest 0 (some .long) : Cond) ∈ tb := tbm 72 rfl rfl
set_option maxRecDepth 100000 in
theorem co_X8_159 : (Cond.constantLong RX8 159 (3) : Cond) ∈ tb := tbm 73 rfl rfl
set_option maxRecDepth 100000 in
theorem ml_X8_161 : (Cond.methodLink RX8 161 yX8_mix : Cond) ∈ tb := tbm 74 rfl rfl
set_option maxRecDepth 100000 in
theorem sm_X8_mix : (Cond.static yX8_mix : Cond) ∈ tb := tbm 75 rfl rfl
set_option maxRecDepth 100000 in
theorem cd_X8_mix : (Cond.code yX8_mix cX8_mix 6 (some .long) : Cond) ∈ tb := tbm 76 rfl rfl
set_option maxRecDepth 100000 in
theorem co_X8_155 : (Cond.constantLong RX8 155 (-7046029254386353131) : Cond) ∈ tb := tbm 77 rfl rfl
set_option maxRecDepth 100000 in
theorem co_X8_157 : (Cond.constantLong RX8 157 (-4658895280553007687) : Cond) ∈ tb := tbm 78 rfl rfl
set_option maxRecDepth 100000 in
theorem ml_X0_7 : (Cond.methodLink RX0 7 yX4_init : Cond) ∈ tb := tbm 79 rfl rfl
set_option maxRecDepth 100000 in
theorem im_X4_init : (Cond.instanceMethod yX4_init : Cond) ∈ tb := tbm 80 rfl rfl
set_option maxRecDepth 100000 in
theorem cd_X4_init : (Cond.code yX4_init cX4_init 3 none : Cond) ∈ tb := tbm 81 rfl rfl
set_option maxRecDepth 100000 in
theorem ml_X4_1 : (Cond.methodLink RX4 1 objectInit : Cond) ∈ tb := tbm 82 rfl rfl
set_option maxRecDepth 100000 in
theorem fl_X1_3 : (Cond.fieldLink RX1 3 "PathProofs$Node" "digest" "J" : Cond) ∈ tb := tbm 83 rfl rfl
set_option maxRecDepth 100000 in
theorem fl_X4_7 : (Cond.fieldLink RX4 7 "PathProofs$Node" "digest" "J" : Cond) ∈ tb := tbm 84 rfl rfl
set_option maxRecDepth 100000 in
theorem fl_X6_39 : (Cond.fieldLink RX6 39 "PathProofs$Node" "digest" "J" : Cond) ∈ tb := tbm 85 rfl rfl
set_option maxRecDepth 100000 in
theorem fl_X8_87 : (Cond.fieldLink RX8 87 "PathProofs$Node" "digest" "J" : Cond) ∈ tb := tbm 86 rfl rfl
set_option maxRecDepth 100000 in
theorem kl_X8_33 : (Cond.classLink RX8 33 RX7 : Cond) ∈ tb := tbm 90 rfl rfl
set_option maxRecDepth 100000 in
theorem is_X7 : (Cond.instantiable RX7 2 : Cond) ∈ tb := tbm 91 rfl rfl
set_option maxRecDepth 100000 in
theorem im_X7_init : (Cond.instanceMethod yX7_init : Cond) ∈ tb := tbm 93 rfl rfl
set_option maxRecDepth 100000 in
theorem cd_X7_init : (Cond.code yX7_init cX7_init 1 none : Cond) ∈ tb := tbm 94 rfl rfl
set_option maxRecDepth 100000 in
theorem ml_X7_3 : (Cond.methodLink RX7 3 objectInit : Cond) ∈ tb := tbm 95 rfl rfl
set_option maxRecDepth 100000 in
theorem fl_X7_9 : (Cond.fieldLink RX7 9 "PathProofs$Tape" "octets" "[I" : Cond) ∈ tb := tbm 96 rfl rfl
set_option maxRecDepth 100000 in
theorem fl_X6_84 : (Cond.fieldLink RX6 84 "PathProofs$Tape" "octets" "[I" : Cond) ∈ tb := tbm 97 rfl rfl
set_option maxRecDepth 100000 in
theorem fl_X8_113 : (Cond.fieldLink RX8 113 "PathProofs$Tape" "octets" "[I" : Cond) ∈ tb := tbm 98 rfl rfl
set_option maxRecDepth 100000 in
theorem fl_X7_15 : (Cond.fieldLink RX7 15 "PathProofs$Tape" "length" "I" : Cond) ∈ tb := tbm 99 rfl rfl
set_option maxRecDepth 100000 in
theorem fl_X6_30 : (Cond.fieldLink RX6 30 "PathProofs$Tape" "length" "I" : Cond) ∈ tb := tbm 100 rfl rfl
set_option maxRecDepth 100000 in
theorem fl_X8_104 : (Cond.fieldLink RX8 104 "PathProofs$Tape" "length" "I" : Cond) ∈ tb := tbm 101 rfl rfl
set_option maxRecDepth 100000 in
theorem fl_X8_11 : (Cond.fieldLink RX8 11 "PathProofs" "kept" "[LPathProofs$Node;" : Cond) ∈ tb := tbm 107 rfl rfl
set_option maxRecDepth 100000 in
theorem fl_X8_18 : (Cond.fieldLink RX8 18 "PathProofs" "wanted" "LPathProofs$Ranges;" : Cond) ∈ tb := tbm 108 rfl rfl
set_option maxRecDepth 100000 in
theorem fl_X8_25 : (Cond.fieldLink RX8 25 "PathProofs" "tree" "LPathProofs$Node;" : Cond) ∈ tb := tbm 109 rfl rfl
set_option maxRecDepth 100000 in
theorem fl_X8_29 : (Cond.fieldLink RX8 29 "PathProofs" "versions" "I" : Cond) ∈ tb := tbm 110 rfl rfl
set_option maxRecDepth 100000 in
theorem fl_X8_36 : (Cond.fieldLink RX8 36 "PathProofs" "tape" "LPathProofs$Tape;" : Cond) ∈ tb := tbm 111 rfl rfl
set_option maxRecDepth 100000 in
theorem fl_X8_40 : (Cond.fieldLink RX8 40 "PathProofs" "spare" "LPathProofs$Tape;" : Cond) ∈ tb := tbm 112 rfl rfl
set_option maxRecDepth 100000 in
theorem fl_X8_43 : (Cond.fieldLink RX8 43 "PathProofs" "view" "LPathProofs$Node;" : Cond) ∈ tb := tbm 113 rfl rfl
set_option maxRecDepth 100000 in
theorem fl_X8_46 : (Cond.fieldLink RX8 46 "PathProofs" "faultPlace" "I" : Cond) ∈ tb := tbm 114 rfl rfl
set_option maxRecDepth 100000 in
theorem fl_X8_49 : (Cond.fieldLink RX8 49 "PathProofs" "found" "J" : Cond) ∈ tb := tbm 115 rfl rfl
set_option maxRecDepth 100000 in
theorem ml_L_15 : (Cond.methodLink RL 15 yX8_put : Cond) ∈ tb := tbm 135 rfl rfl
set_option maxRecDepth 100000 in
theorem im_X8_put : (Cond.instanceMethod yX8_put : Cond) ∈ tb := tbm 136 rfl rfl
set_option maxRecDepth 100000 in
theorem se_X8_put : (Cond.selects RX8 yX8_put yX8_put : Cond) ∈ tb := tbm 137 rfl rfl
set_option maxRecDepth 100000 in
theorem cd_X8_put : (Cond.code yX8_put cX8_put 6 (some .int) : Cond) ∈ tb := tbm 138 rfl rfl
set_option maxRecDepth 100000 in
theorem ml_X8_53 : (Cond.methodLink RX8 53 yX8_isPath : Cond) ∈ tb := tbm 139 rfl rfl
set_option maxRecDepth 100000 in
theorem sm_X8_isPath : (Cond.static yX8_isPath : Cond) ∈ tb := tbm 140 rfl rfl
set_option maxRecDepth 100000 in
theorem cd_X8_isPath : (Cond.code yX8_isPath cX8_isPath 1 (some .boolean) : Cond) ∈ tb := tbm 141 rfl rfl
set_option maxRecDepth 100000 in
theorem co_X8_74 : (Cond.constant RX8 74 65535 : Cond) ∈ tb := tbm 142 rfl rfl
set_option maxRecDepth 100000 in
theorem ml_X8_57 : (Cond.methodLink RX8 57 yX8_endOfWay : Cond) ∈ tb := tbm 143 rfl rfl
set_option maxRecDepth 100000 in
theorem sm_X8_endOfWay : (Cond.static yX8_endOfWay : Cond) ∈ tb := tbm 144 rfl rfl
set_option maxRecDepth 100000 in
theorem cd_X8_endOfWay : (Cond.code yX8_endOfWay cX8_endOfWay 5 (some (.object "PathProofs$Node")) : Cond) ∈ tb := tbm 145 rfl rfl
set_option maxRecDepth 100000 in
theorem kl_X8_167 : (Cond.classLink RX8 167 RX1 : Cond) ∈ tb := tbm 146 rfl rfl
set_option maxRecDepth 100000 in
theorem ml_X8_169 : (Cond.methodLink RX8 169 yX1_takesIn : Cond) ∈ tb := tbm 147 rfl rfl
set_option maxRecDepth 100000 in
theorem im_X1_takesIn : (Cond.instanceMethod yX1_takesIn : Cond) ∈ tb := tbm 148 rfl rfl
set_option maxRecDepth 100000 in
theorem se_X1_takesIn : (Cond.selects RX1 yX1_takesIn yX1_takesIn : Cond) ∈ tb := tbm 149 rfl rfl
set_option maxRecDepth 100000 in
theorem cd_X1_takesIn : (Cond.code yX1_takesIn cX1_takesIn 2 (some .boolean) : Cond) ∈ tb := tbm 150 rfl rfl
set_option maxRecDepth 100000 in
theorem sm_X8_stemOf : (Cond.static yX8_stemOf : Cond) ∈ tb := tbm 152 rfl rfl
set_option maxRecDepth 100000 in
theorem cd_X8_stemOf : (Cond.code yX8_stemOf cX8_stemOf 2 (some .int) : Cond) ∈ tb := tbm 153 rfl rfl
set_option maxRecDepth 100000 in
theorem ml_X8_172 : (Cond.methodLink RX8 172 yX1_toward : Cond) ∈ tb := tbm 154 rfl rfl
set_option maxRecDepth 100000 in
theorem im_X1_toward : (Cond.instanceMethod yX1_toward : Cond) ∈ tb := tbm 155 rfl rfl
set_option maxRecDepth 100000 in
theorem se_X1_toward : (Cond.selects RX1 yX1_toward yX1_toward : Cond) ∈ tb := tbm 156 rfl rfl
set_option maxRecDepth 100000 in
theorem cd_X1_toward : (Cond.code yX1_toward cX1_toward 2 (some (.object "PathProofs$Node")) : Cond) ∈ tb := tbm 157 rfl rfl
set_option maxRecDepth 100000 in
theorem sm_X8_isHigh : (Cond.static yX8_isHigh : Cond) ∈ tb := tbm 159 rfl rfl
set_option maxRecDepth 100000 in
theorem cd_X8_isHigh : (Cond.code yX8_isHigh cX8_isHigh 2 (some .boolean) : Cond) ∈ tb := tbm 160 rfl rfl
set_option maxRecDepth 100000 in
theorem ml_X8_61 : (Cond.methodLink RX8 61 yX8_isLeafOf : Cond) ∈ tb := tbm 161 rfl rfl
set_option maxRecDepth 100000 in
theorem sm_X8_isLeafOf : (Cond.static yX8_isLeafOf : Cond) ∈ tb := tbm 162 rfl rfl
set_option maxRecDepth 100000 in
theorem cd_X8_isLeafOf : (Cond.code yX8_isLeafOf cX8_isLeafOf 3 (some .boolean) : Cond) ∈ tb := tbm 163 rfl rfl
set_option maxRecDepth 100000 in
theorem kl_X8_65 : (Cond.classLink RX8 65 RX3 : Cond) ∈ tb := tbm 164 rfl rfl
set_option maxRecDepth 100000 in
theorem is_X3 : (Cond.instantiable RX3 3 : Cond) ∈ tb := tbm 165 rfl rfl
set_option maxRecDepth 100000 in
theorem ml_X8_67 : (Cond.methodLink RX8 67 yX3_init : Cond) ∈ tb := tbm 166 rfl rfl
set_option maxRecDepth 100000 in
theorem im_X3_init : (Cond.instanceMethod yX3_init : Cond) ∈ tb := tbm 167 rfl rfl
set_option maxRecDepth 100000 in
theorem cd_X3_init : (Cond.code yX3_init cX3_init 4 none : Cond) ∈ tb := tbm 168 rfl rfl
set_option maxRecDepth 100000 in
theorem sm_X8_leafDigest : (Cond.static yX8_leafDigest : Cond) ∈ tb := tbm 170 rfl rfl
set_option maxRecDepth 100000 in
theorem cd_X8_leafDigest : (Cond.code yX8_leafDigest cX8_leafDigest 3 (some .long) : Cond) ∈ tb := tbm 171 rfl rfl
set_option maxRecDepth 100000 in
theorem ml_X3_7 : (Cond.methodLink RX3 7 yX4_init : Cond) ∈ tb := tbm 172 rfl rfl
set_option maxRecDepth 100000 in
theorem fl_X3_13 : (Cond.fieldLink RX3 13 "PathProofs$Leaf" "path" "I" : Cond) ∈ tb := tbm 173 rfl rfl
set_option maxRecDepth 100000 in
theorem fl_X8_136 : (Cond.fieldLink RX8 136 "PathProofs$Leaf" "path" "I" : Cond) ∈ tb := tbm 174 rfl rfl
set_option maxRecDepth 100000 in
theorem fl_X3_19 : (Cond.fieldLink RX3 19 "PathProofs$Leaf" "value" "J" : Cond) ∈ tb := tbm 175 rfl rfl
set_option maxRecDepth 100000 in
theorem fl_X8_139 : (Cond.fieldLink RX8 139 "PathProofs$Leaf" "value" "J" : Cond) ∈ tb := tbm 176 rfl rfl
set_option maxRecDepth 100000 in
theorem ml_X8_70 : (Cond.methodLink RX8 70 yX8_written : Cond) ∈ tb := tbm 183 rfl rfl
set_option maxRecDepth 100000 in
theorem sm_X8_written : (Cond.static yX8_written : Cond) ∈ tb := tbm 184 rfl rfl
set_option maxRecDepth 100000 in
theorem cd_X8_written : (Cond.code yX8_written cX8_written 4 (some (.object "PathProofs$Node")) : Cond) ∈ tb := tbm 185 rfl rfl
set_option maxRecDepth 100000 in
theorem ml_X8_175 : (Cond.methodLink RX8 175 yX1_with : Cond) ∈ tb := tbm 186 rfl rfl
set_option maxRecDepth 100000 in
theorem im_X1_with : (Cond.instanceMethod yX1_with : Cond) ∈ tb := tbm 187 rfl rfl
set_option maxRecDepth 100000 in
theorem se_X1_with : (Cond.selects RX1 yX1_with yX1_with : Cond) ∈ tb := tbm 188 rfl rfl
set_option maxRecDepth 100000 in
theorem cd_X1_with : (Cond.code yX1_with cX1_with 3 (some (.object "PathProofs$Fork")) : Cond) ∈ tb := tbm 189 rfl rfl
set_option maxRecDepth 100000 in
theorem kl_X1_18 : (Cond.classLink RX1 18 RX1 : Cond) ∈ tb := tbm 190 rfl rfl
set_option maxRecDepth 100000 in
theorem is_X1 : (Cond.instantiable RX1 5 : Cond) ∈ tb := tbm 191 rfl rfl
set_option maxRecDepth 100000 in
theorem ml_X1_41 : (Cond.methodLink RX1 41 yX1_init : Cond) ∈ tb := tbm 192 rfl rfl
set_option maxRecDepth 100000 in
theorem im_X1_init : (Cond.instanceMethod yX1_init : Cond) ∈ tb := tbm 193 rfl rfl
set_option maxRecDepth 100000 in
theorem cd_X1_init : (Cond.code yX1_init cX1_init 5 none : Cond) ∈ tb := tbm 194 rfl rfl
set_option maxRecDepth 100000 in
theorem sm_X8_forkDigest : (Cond.static yX8_forkDigest : Cond) ∈ tb := tbm 196 rfl rfl
set_option maxRecDepth 100000 in
theorem cd_X8_forkDigest : (Cond.code yX8_forkDigest cX8_forkDigest 6 (some .long) : Cond) ∈ tb := tbm 197 rfl rfl
set_option maxRecDepth 100000 in
theorem co_X8_165 : (Cond.constantLong RX8 165 (2) : Cond) ∈ tb := tbm 198 rfl rfl
set_option maxRecDepth 100000 in
theorem ml_X1_13 : (Cond.methodLink RX1 13 yX4_init : Cond) ∈ tb := tbm 199 rfl rfl
set_option maxRecDepth 100000 in
theorem fl_X1_17 : (Cond.fieldLink RX1 17 "PathProofs$Fork" "bit" "I" : Cond) ∈ tb := tbm 200 rfl rfl
set_option maxRecDepth 100000 in
theorem fl_X8_224 : (Cond.fieldLink RX8 224 "PathProofs$Fork" "bit" "I" : Cond) ∈ tb := tbm 201 rfl rfl
set_option maxRecDepth 100000 in
theorem fl_X1_23 : (Cond.fieldLink RX1 23 "PathProofs$Fork" "stem" "I" : Cond) ∈ tb := tbm 202 rfl rfl
set_option maxRecDepth 100000 in
theorem fl_X8_179 : (Cond.fieldLink RX8 179 "PathProofs$Fork" "stem" "I" : Cond) ∈ tb := tbm 203 rfl rfl
set_option maxRecDepth 100000 in
theorem fl_X1_26 : (Cond.fieldLink RX1 26 "PathProofs$Fork" "low" "LPathProofs$Node;" : Cond) ∈ tb := tbm 204 rfl rfl
set_option maxRecDepth 100000 in
theorem fl_X8_199 : (Cond.fieldLink RX8 199 "PathProofs$Fork" "low" "LPathProofs$Node;" : Cond) ∈ tb := tbm 205 rfl rfl
set_option maxRecDepth 100000 in
theorem fl_X1_30 : (Cond.fieldLink RX1 30 "PathProofs$Fork" "high" "LPathProofs$Node;" : Cond) ∈ tb := tbm 206 rfl rfl
set_option maxRecDepth 100000 in
theorem fl_X8_202 : (Cond.fieldLink RX8 202 "PathProofs$Fork" "high" "LPathProofs$Node;" : Cond) ∈ tb := tbm 207 rfl rfl
set_option maxRecDepth 100000 in
theorem ml_X8_182 : (Cond.methodLink RX8 182 yX8_forkOf : Cond) ∈ tb := tbm 218 rfl rfl
set_option maxRecDepth 100000 in
theorem sm_X8_forkOf : (Cond.static yX8_forkOf : Cond) ∈ tb := tbm 219 rfl rfl
set_option maxRecDepth 100000 in
theorem cd_X8_forkOf : (Cond.code yX8_forkOf cX8_forkOf 5 (some (.object "PathProofs$Node")) : Cond) ∈ tb := tbm 220 rfl rfl
set_option maxRecDepth 100000 in
theorem ml_X8_186 : (Cond.methodLink RX8 186 yX8_firstOtherBit : Cond) ∈ tb := tbm 221 rfl rfl
set_option maxRecDepth 100000 in
theorem sm_X8_firstOtherBit : (Cond.static yX8_firstOtherBit : Cond) ∈ tb := tbm 222 rfl rfl
set_option maxRecDepth 100000 in
theorem cd_X8_firstOtherBit : (Cond.code yX8_firstOtherBit cX8_firstOtherBit 3 (some .int) : Cond) ∈ tb := tbm 223 rfl rfl
set_option maxRecDepth 100000 in
theorem ml_X8_152 : (Cond.methodLink RX8 152 yX8_isHigh : Cond) ∈ tb := tbm 224 rfl rfl
set_option maxRecDepth 100000 in
theorem ml_X8_190 : (Cond.methodLink RX8 190 yX8_stemOf : Cond) ∈ tb := tbm 225 rfl rfl
set_option maxRecDepth 100000 in
theorem ml_X8_193 : (Cond.methodLink RX8 193 yX1_init : Cond) ∈ tb := tbm 226 rfl rfl
set_option maxRecDepth 100000 in
theorem ml_X8_75 : (Cond.methodLink RX8 75 yX8_leavesWithin : Cond) ∈ tb := tbm 227 rfl rfl
set_option maxRecDepth 100000 in
theorem sm_X8_leavesWithin : (Cond.static yX8_leavesWithin : Cond) ∈ tb := tbm 228 rfl rfl
set_option maxRecDepth 100000 in
theorem cd_X8_leavesWithin : (Cond.code yX8_leavesWithin cX8_leavesWithin 5 (some .int) : Cond) ∈ tb := tbm 229 rfl rfl
set_option maxRecDepth 100000 in
theorem ml_L_20 : (Cond.methodLink RL 20 yX8_remove : Cond) ∈ tb := tbm 230 rfl rfl
set_option maxRecDepth 100000 in
theorem im_X8_remove : (Cond.instanceMethod yX8_remove : Cond) ∈ tb := tbm 231 rfl rfl
set_option maxRecDepth 100000 in
theorem se_X8_remove : (Cond.selects RX8 yX8_remove yX8_remove : Cond) ∈ tb := tbm 232 rfl rfl
set_option maxRecDepth 100000 in
theorem cd_X8_remove : (Cond.code yX8_remove cX8_remove 2 (some .int) : Cond) ∈ tb := tbm 233 rfl rfl
set_option maxRecDepth 100000 in
theorem ml_X8_79 : (Cond.methodLink RX8 79 yX8_erased : Cond) ∈ tb := tbm 234 rfl rfl
set_option maxRecDepth 100000 in
theorem sm_X8_erased : (Cond.static yX8_erased : Cond) ∈ tb := tbm 235 rfl rfl
set_option maxRecDepth 100000 in
theorem cd_X8_erased : (Cond.code yX8_erased cX8_erased 5 (some (.object "PathProofs$Node")) : Cond) ∈ tb := tbm 236 rfl rfl
set_option maxRecDepth 100000 in
theorem ml_X8_196 : (Cond.methodLink RX8 196 yX1_besides : Cond) ∈ tb := tbm 237 rfl rfl
set_option maxRecDepth 100000 in
theorem im_X1_besides : (Cond.instanceMethod yX1_besides : Cond) ∈ tb := tbm 238 rfl rfl
set_option maxRecDepth 100000 in
theorem se_X1_besides : (Cond.selects RX1 yX1_besides yX1_besides : Cond) ∈ tb := tbm 239 rfl rfl
set_option maxRecDepth 100000 in
theorem cd_X1_besides : (Cond.code yX1_besides cX1_besides 2 (some (.object "PathProofs$Node")) : Cond) ∈ tb := tbm 240 rfl rfl
set_option maxRecDepth 100000 in
theorem ml_L_25 : (Cond.methodLink RL 25 yX8_keep : Cond) ∈ tb := tbm 241 rfl rfl
set_option maxRecDepth 100000 in
theorem im_X8_keep : (Cond.instanceMethod yX8_keep : Cond) ∈ tb := tbm 242 rfl rfl
set_option maxRecDepth 100000 in
theorem se_X8_keep : (Cond.selects RX8 yX8_keep yX8_keep : Cond) ∈ tb := tbm 243 rfl rfl
set_option maxRecDepth 100000 in
theorem cd_X8_keep : (Cond.code yX8_keep cX8_keep 1 (some .int) : Cond) ∈ tb := tbm 244 rfl rfl
set_option maxRecDepth 100000 in
theorem ml_L_30 : (Cond.methodLink RL 30 yX8_root : Cond) ∈ tb := tbm 245 rfl rfl
set_option maxRecDepth 100000 in
theorem im_X8_root : (Cond.instanceMethod yX8_root : Cond) ∈ tb := tbm 246 rfl rfl
set_option maxRecDepth 100000 in
theorem se_X8_root : (Cond.selects RX8 yX8_root yX8_root : Cond) ∈ tb := tbm 247 rfl rfl
set_option maxRecDepth 100000 in
theorem cd_X8_root : (Cond.code yX8_root cX8_root 3 (some .long) : Cond) ∈ tb := tbm 248 rfl rfl
set_option maxRecDepth 100000 in
theorem ml_X8_83 : (Cond.methodLink RX8 83 yX8_wholeOf : Cond) ∈ tb := tbm 249 rfl rfl
set_option maxRecDepth 100000 in
theorem im_X8_wholeOf : (Cond.instanceMethod yX8_wholeOf : Cond) ∈ tb := tbm 251 rfl rfl
set_option maxRecDepth 100000 in
theorem cd_X8_wholeOf : (Cond.code yX8_wholeOf cX8_wholeOf 2 (some (.object "PathProofs$Node")) : Cond) ∈ tb := tbm 252 rfl rfl
set_option maxRecDepth 100000 in
theorem ml_L_35 : (Cond.methodLink RL 35 yX8_leaves : Cond) ∈ tb := tbm 253 rfl rfl
set_option maxRecDepth 100000 in
theorem im_X8_leaves : (Cond.instanceMethod yX8_leaves : Cond) ∈ tb := tbm 254 rfl rfl
set_option maxRecDepth 100000 in
theorem se_X8_leaves : (Cond.selects RX8 yX8_leaves yX8_leaves : Cond) ∈ tb := tbm 255 rfl rfl
set_option maxRecDepth 100000 in
theorem cd_X8_leaves : (Cond.code yX8_leaves cX8_leaves 3 (some .int) : Cond) ∈ tb := tbm 256 rfl rfl
set_option maxRecDepth 100000 in
theorem ml_L_39 : (Cond.methodLink RL 39 yX8_want : Cond) ∈ tb := tbm 257 rfl rfl
set_option maxRecDepth 100000 in
theorem im_X8_want : (Cond.instanceMethod yX8_want : Cond) ∈ tb := tbm 258 rfl rfl
set_option maxRecDepth 100000 in
theorem se_X8_want : (Cond.selects RX8 yX8_want yX8_want : Cond) ∈ tb := tbm 259 rfl rfl
set_option maxRecDepth 100000 in
theorem cd_X8_want : (Cond.code yX8_want cX8_want 3 (some .int) : Cond) ∈ tb := tbm 260 rfl rfl
set_option maxRecDepth 100000 in
theorem ml_X8_90 : (Cond.methodLink RX8 90 yX8_isRange : Cond) ∈ tb := tbm 261 rfl rfl
set_option maxRecDepth 100000 in
theorem sm_X8_isRange : (Cond.static yX8_isRange : Cond) ∈ tb := tbm 262 rfl rfl
set_option maxRecDepth 100000 in
theorem cd_X8_isRange : (Cond.code yX8_isRange cX8_isRange 2 (some .boolean) : Cond) ∈ tb := tbm 263 rfl rfl
set_option maxRecDepth 100000 in
theorem ml_X8_94 : (Cond.methodLink RX8 94 yX5_add : Cond) ∈ tb := tbm 264 rfl rfl
set_option maxRecDepth 100000 in
theorem im_X5_add : (Cond.instanceMethod yX5_add : Cond) ∈ tb := tbm 265 rfl rfl
set_option maxRecDepth 100000 in
theorem se_X5_add : (Cond.selects RX5 yX5_add yX5_add : Cond) ∈ tb := tbm 266 rfl rfl
set_option maxRecDepth 100000 in
theorem cd_X5_add : (Cond.code yX5_add cX5_add 3 (some .boolean) : Cond) ∈ tb := tbm 267 rfl rfl
set_option maxRecDepth 100000 in
theorem ml_L_44 : (Cond.methodLink RL 44 yX8_forget : Cond) ∈ tb := tbm 268 rfl rfl
set_option maxRecDepth 100000 in
theorem im_X8_forget : (Cond.instanceMethod yX8_forget : Cond) ∈ tb := tbm 269 rfl rfl
set_option maxRecDepth 100000 in
theorem se_X8_forget : (Cond.selects RX8 yX8_forget yX8_forget : Cond) ∈ tb := tbm 270 rfl rfl
set_option maxRecDepth 100000 in
theorem cd_X8_forget : (Cond.code yX8_forget cX8_forget 2 (some .int) : Cond) ∈ tb := tbm 271 rfl rfl
set_option maxRecDepth 100000 in
theorem ml_L_48 : (Cond.methodLink RL 48 yX8_show : Cond) ∈ tb := tbm 272 rfl rfl
set_option maxRecDepth 100000 in
theorem im_X8_show : (Cond.instanceMethod yX8_show : Cond) ∈ tb := tbm 273 rfl rfl
set_option maxRecDepth 100000 in
theorem se_X8_show : (Cond.selects RX8 yX8_show yX8_show : Cond) ∈ tb := tbm 274 rfl rfl
set_option maxRecDepth 100000 in
theorem cd_X8_show : (Cond.code yX8_show cX8_show 3 (some .int) : Cond) ∈ tb := tbm 275 rfl rfl
set_option maxRecDepth 100000 in
theorem ml_X8_100 : (Cond.methodLink RX8 100 yX8_tapeBecomes : Cond) ∈ tb := tbm 276 rfl rfl
set_option maxRecDepth 100000 in
theorem im_X8_tapeBecomes : (Cond.instanceMethod yX8_tapeBecomes : Cond) ∈ tb := tbm 278 rfl rfl
set_option maxRecDepth 100000 in
theorem cd_X8_tapeBecomes : (Cond.code yX8_tapeBecomes cX8_tapeBecomes 3 (some .int) : Cond) ∈ tb := tbm 279 rfl rfl
set_option maxRecDepth 100000 in
theorem ml_X8_217 : (Cond.methodLink RX8 217 yX8_appendShown : Cond) ∈ tb := tbm 280 rfl rfl
set_option maxRecDepth 100000 in
theorem im_X8_appendShown : (Cond.instanceMethod yX8_appendShown : Cond) ∈ tb := tbm 282 rfl rfl
set_option maxRecDepth 100000 in
theorem cd_X8_appendShown : (Cond.code yX8_appendShown cX8_appendShown 7 none : Cond) ∈ tb := tbm 283 rfl rfl
set_option maxRecDepth 100000 in
theorem kl_X8_134 : (Cond.classLink RX8 134 RX2 : Cond) ∈ tb := tbm 284 rfl rfl
set_option maxRecDepth 100000 in
theorem ml_X8_221 : (Cond.methodLink RX8 221 yX5_meet : Cond) ∈ tb := tbm 285 rfl rfl
set_option maxRecDepth 100000 in
theorem im_X5_meet : (Cond.instanceMethod yX5_meet : Cond) ∈ tb := tbm 286 rfl rfl
set_option maxRecDepth 100000 in
theorem se_X5_meet : (Cond.selects RX5 yX5_meet yX5_meet : Cond) ∈ tb := tbm 287 rfl rfl
set_option maxRecDepth 100000 in
theorem cd_X5_meet : (Cond.code yX5_meet cX5_meet 4 (some .boolean) : Cond) ∈ tb := tbm 288 rfl rfl
set_option maxRecDepth 100000 in
theorem ml_X8_107 : (Cond.methodLink RX8 107 yX7_append : Cond) ∈ tb := tbm 289 rfl rfl
set_option maxRecDepth 100000 in
theorem im_X7_append : (Cond.instanceMethod yX7_append : Cond) ∈ tb := tbm 290 rfl rfl
set_option maxRecDepth 100000 in
theorem se_X7_append : (Cond.selects RX7 yX7_append yX7_append : Cond) ∈ tb := tbm 291 rfl rfl
set_option maxRecDepth 100000 in
theorem cd_X7_append : (Cond.code yX7_append cX7_append 5 none : Cond) ∈ tb := tbm 292 rfl rfl
set_option maxRecDepth 100000 in
theorem ml_X8_210 : (Cond.methodLink RX8 210 yX1_middle : Cond) ∈ tb := tbm 293 rfl rfl
set_option maxRecDepth 100000 in
theorem im_X1_middle : (Cond.instanceMethod yX1_middle : Cond) ∈ tb := tbm 294 rfl rfl
set_option maxRecDepth 100000 in
theorem se_X1_middle : (Cond.selects RX1 yX1_middle yX1_middle : Cond) ∈ tb := tbm 295 rfl rfl
set_option maxRecDepth 100000 in
theorem cd_X1_middle : (Cond.code yX1_middle cX1_middle 1 (some .int) : Cond) ∈ tb := tbm 296 rfl rfl
set_option maxRecDepth 100000 in
theorem ml_X8_214 : (Cond.methodLink RX8 214 yX1_last : Cond) ∈ tb := tbm 297 rfl rfl
set_option maxRecDepth 100000 in
theorem im_X1_last : (Cond.instanceMethod yX1_last : Cond) ∈ tb := tbm 298 rfl rfl
set_option maxRecDepth 100000 in
theorem se_X1_last : (Cond.selects RX1 yX1_last yX1_last : Cond) ∈ tb := tbm 299 rfl rfl
set_option maxRecDepth 100000 in
theorem cd_X1_last : (Cond.code yX1_last cX1_last 1 (some .int) : Cond) ∈ tb := tbm 300 rfl rfl
set_option maxRecDepth 100000 in
theorem ml_L_52 : (Cond.methodLink RL 52 yX8_pass : Cond) ∈ tb := tbm 301 rfl rfl
set_option maxRecDepth 100000 in
theorem im_X8_pass : (Cond.instanceMethod yX8_pass : Cond) ∈ tb := tbm 302 rfl rfl
set_option maxRecDepth 100000 in
theorem se_X8_pass : (Cond.selects RX8 yX8_pass yX8_pass : Cond) ∈ tb := tbm 303 rfl rfl
set_option maxRecDepth 100000 in
theorem cd_X8_pass : (Cond.code yX8_pass cX8_pass 1 (some .int) : Cond) ∈ tb := tbm 304 rfl rfl
set_option maxRecDepth 100000 in
theorem ml_L_56 : (Cond.methodLink RL 56 yX8_feed : Cond) ∈ tb := tbm 305 rfl rfl
set_option maxRecDepth 100000 in
theorem im_X8_feed : (Cond.instanceMethod yX8_feed : Cond) ∈ tb := tbm 306 rfl rfl
set_option maxRecDepth 100000 in
theorem se_X8_feed : (Cond.selects RX8 yX8_feed yX8_feed : Cond) ∈ tb := tbm 307 rfl rfl
set_option maxRecDepth 100000 in
theorem cd_X8_feed : (Cond.code yX8_feed cX8_feed 4 (some .int) : Cond) ∈ tb := tbm 308 rfl rfl
set_option maxRecDepth 100000 in
theorem ml_L_60 : (Cond.methodLink RL 60 yX8_cut : Cond) ∈ tb := tbm 309 rfl rfl
set_option maxRecDepth 100000 in
theorem im_X8_cut : (Cond.instanceMethod yX8_cut : Cond) ∈ tb := tbm 310 rfl rfl
set_option maxRecDepth 100000 in
theorem se_X8_cut : (Cond.selects RX8 yX8_cut yX8_cut : Cond) ∈ tb := tbm 311 rfl rfl
set_option maxRecDepth 100000 in
theorem cd_X8_cut : (Cond.code yX8_cut cX8_cut 3 (some .int) : Cond) ∈ tb := tbm 312 rfl rfl
set_option maxRecDepth 100000 in
theorem ml_L_64 : (Cond.methodLink RL 64 yX8_spoil : Cond) ∈ tb := tbm 313 rfl rfl
set_option maxRecDepth 100000 in
theorem im_X8_spoil : (Cond.instanceMethod yX8_spoil : Cond) ∈ tb := tbm 314 rfl rfl
set_option maxRecDepth 100000 in
theorem se_X8_spoil : (Cond.selects RX8 yX8_spoil yX8_spoil : Cond) ∈ tb := tbm 315 rfl rfl
set_option maxRecDepth 100000 in
theorem cd_X8_spoil : (Cond.code yX8_spoil cX8_spoil 3 (some .int) : Cond) ∈ tb := tbm 316 rfl rfl
set_option maxRecDepth 100000 in
theorem ml_X8_110 : (Cond.methodLink RX8 110 yX7_has : Cond) ∈ tb := tbm 317 rfl rfl
set_option maxRecDepth 100000 in
theorem im_X7_has : (Cond.instanceMethod yX7_has : Cond) ∈ tb := tbm 318 rfl rfl
set_option maxRecDepth 100000 in
theorem se_X7_has : (Cond.selects RX7 yX7_has yX7_has : Cond) ∈ tb := tbm 319 rfl rfl
set_option maxRecDepth 100000 in
theorem cd_X7_has : (Cond.code yX7_has cX7_has 2 (some .boolean) : Cond) ∈ tb := tbm 320 rfl rfl
set_option maxRecDepth 100000 in
theorem ml_L_68 : (Cond.methodLink RL 68 yX8_take : Cond) ∈ tb := tbm 321 rfl rfl
set_option maxRecDepth 100000 in
theorem im_X8_take : (Cond.instanceMethod yX8_take : Cond) ∈ tb := tbm 322 rfl rfl
set_option maxRecDepth 100000 in
theorem se_X8_take : (Cond.selects RX8 yX8_take yX8_take : Cond) ∈ tb := tbm 323 rfl rfl
set_option maxRecDepth 100000 in
theorem cd_X8_take : (Cond.code yX8_take cX8_take 5 (some .int) : Cond) ∈ tb := tbm 324 rfl rfl
set_option maxRecDepth 100000 in
theorem kl_X8_117 : (Cond.classLink RX8 117 RX6 : Cond) ∈ tb := tbm 325 rfl rfl
set_option maxRecDepth 100000 in
theorem is_X6 : (Cond.instantiable RX6 4 : Cond) ∈ tb := tbm 326 rfl rfl
set_option maxRecDepth 100000 in
theorem ml_X8_119 : (Cond.methodLink RX8 119 yX6_init : Cond) ∈ tb := tbm 327 rfl rfl
set_option maxRecDepth 100000 in
theorem im_X6_init : (Cond.instanceMethod yX6_init : Cond) ∈ tb := tbm 328 rfl rfl
set_option maxRecDepth 100000 in
theorem cd_X6_init : (Cond.code yX6_init cX6_init 2 none : Cond) ∈ tb := tbm 329 rfl rfl
set_option maxRecDepth 100000 in
theorem ml_X6_3 : (Cond.methodLink RX6 3 objectInit : Cond) ∈ tb := tbm 330 rfl rfl
set_option maxRecDepth 100000 in
theorem fl_X6_21 : (Cond.fieldLink RX6 21 "PathProofs$Reading" "tape" "LPathProofs$Tape;" : Cond) ∈ tb := tbm 331 rfl rfl
set_option maxRecDepth 100000 in
theorem fl_X6_9 : (Cond.fieldLink RX6 9 "PathProofs$Reading" "at" "I" : Cond) ∈ tb := tbm 332 rfl rfl
set_option maxRecDepth 100000 in
theorem fl_X6_15 : (Cond.fieldLink RX6 15 "PathProofs$Reading" "fault" "I" : Cond) ∈ tb := tbm 333 rfl rfl
set_option maxRecDepth 100000 in
theorem fl_X8_127 : (Cond.fieldLink RX8 127 "PathProofs$Reading" "fault" "I" : Cond) ∈ tb := tbm 334 rfl rfl
set_option maxRecDepth 100000 in
theorem fl_X6_18 : (Cond.fieldLink RX6 18 "PathProofs$Reading" "faultPlace" "I" : Cond) ∈ tb := tbm 335 rfl rfl
set_option maxRecDepth 100000 in
theorem fl_X8_126 : (Cond.fieldLink RX8 126 "PathProofs$Reading" "faultPlace" "I" : Cond) ∈ tb := tbm 336 rfl rfl
set_option maxRecDepth 100000 in
theorem ml_X8_122 : (Cond.methodLink RX8 122 yX6_wholeWith : Cond) ∈ tb := tbm 346 rfl rfl
set_option maxRecDepth 100000 in
theorem im_X6_wholeWith : (Cond.instanceMethod yX6_wholeWith : Cond) ∈ tb := tbm 347 rfl rfl
set_option maxRecDepth 100000 in
theorem se_X6_wholeWith : (Cond.selects RX6 yX6_wholeWith yX6_wholeWith : Cond) ∈ tb := tbm 348 rfl rfl
set_option maxRecDepth 100000 in
theorem cd_X6_wholeWith : (Cond.code yX6_wholeWith cX6_wholeWith 4 (some (.object "PathProofs$Node")) : Cond) ∈ tb := tbm 349 rfl rfl
set_option maxRecDepth 100000 in
theorem co_X6_25 : (Cond.constant RX6 25 65535 : Cond) ∈ tb := tbm 350 rfl rfl
set_option maxRecDepth 100000 in
theorem ml_X6_26 : (Cond.methodLink RX6 26 yX6_readNode : Cond) ∈ tb := tbm 351 rfl rfl
set_option maxRecDepth 100000 in
theorem im_X6_readNode : (Cond.instanceMethod yX6_readNode : Cond) ∈ tb := tbm 353 rfl rfl
set_option maxRecDepth 100000 in
theorem cd_X6_readNode : (Cond.code yX6_readNode cX6_readNode 4 (some (.object "PathProofs$Node")) : Cond) ∈ tb := tbm 354 rfl rfl
set_option maxRecDepth 100000 in
theorem ml_X6_45 : (Cond.methodLink RX6 45 yX6_lacks : Cond) ∈ tb := tbm 355 rfl rfl
set_option maxRecDepth 100000 in
theorem im_X6_lacks : (Cond.instanceMethod yX6_lacks : Cond) ∈ tb := tbm 357 rfl rfl
set_option maxRecDepth 100000 in
theorem cd_X6_lacks : (Cond.code yX6_lacks cX6_lacks 2 (some .boolean) : Cond) ∈ tb := tbm 358 rfl rfl
set_option maxRecDepth 100000 in
theorem ml_X6_35 : (Cond.methodLink RX6 35 yX6_refuse : Cond) ∈ tb := tbm 359 rfl rfl
set_option maxRecDepth 100000 in
theorem im_X6_refuse : (Cond.instanceMethod yX6_refuse : Cond) ∈ tb := tbm 361 rfl rfl
set_option maxRecDepth 100000 in
theorem cd_X6_refuse : (Cond.code yX6_refuse cX6_refuse 3 (some (.object "PathProofs$Node")) : Cond) ∈ tb := tbm 362 rfl rfl
set_option maxRecDepth 100000 in
theorem ml_X6_49 : (Cond.methodLink RX6 49 yX6_number : Cond) ∈ tb := tbm 363 rfl rfl
set_option maxRecDepth 100000 in
theorem im_X6_number : (Cond.instanceMethod yX6_number : Cond) ∈ tb := tbm 365 rfl rfl
set_option maxRecDepth 100000 in
theorem cd_X6_number : (Cond.code yX6_number cX6_number 5 (some .long) : Cond) ∈ tb := tbm 366 rfl rfl
set_option maxRecDepth 100000 in
theorem ml_X6_81 : (Cond.methodLink RX6 81 yX7_has : Cond) ∈ tb := tbm 367 rfl rfl
set_option maxRecDepth 100000 in
theorem kl_X6_53 : (Cond.classLink RX6 53 RX2 : Cond) ∈ tb := tbm 368 rfl rfl
set_option maxRecDepth 100000 in
theorem is_X2 : (Cond.instantiable RX2 1 : Cond) ∈ tb := tbm 369 rfl rfl
set_option maxRecDepth 100000 in
theorem ml_X6_55 : (Cond.methodLink RX6 55 yX2_init : Cond) ∈ tb := tbm 370 rfl rfl
set_option maxRecDepth 100000 in
theorem im_X2_init : (Cond.instanceMethod yX2_init : Cond) ∈ tb := tbm 371 rfl rfl
set_option maxRecDepth 100000 in
theorem cd_X2_init : (Cond.code yX2_init cX2_init 3 none : Cond) ∈ tb := tbm 372 rfl rfl
set_option maxRecDepth 100000 in
theorem ml_X2_1 : (Cond.methodLink RX2 1 yX4_init : Cond) ∈ tb := tbm 373 rfl rfl
set_option maxRecDepth 100000 in
theorem ml_X6_58 : (Cond.methodLink RX6 58 yX6_readFork : Cond) ∈ tb := tbm 376 rfl rfl
set_option maxRecDepth 100000 in
theorem im_X6_readFork : (Cond.instanceMethod yX6_readFork : Cond) ∈ tb := tbm 378 rfl rfl
set_option maxRecDepth 100000 in
theorem cd_X6_readFork : (Cond.code yX6_readFork cX6_readFork 9 (some (.object "PathProofs$Node")) : Cond) ∈ tb := tbm 379 rfl rfl
set_option maxRecDepth 100000 in
theorem kl_X6_76 : (Cond.classLink RX6 76 RX1 : Cond) ∈ tb := tbm 381 rfl rfl
set_option maxRecDepth 100000 in
theorem ml_X6_78 : (Cond.methodLink RX6 78 yX1_init : Cond) ∈ tb := tbm 382 rfl rfl
set_option maxRecDepth 100000 in
theorem ml_X6_61 : (Cond.methodLink RX6 61 yX6_readLeaf : Cond) ∈ tb := tbm 383 rfl rfl
set_option maxRecDepth 100000 in
theorem im_X6_readLeaf : (Cond.instanceMethod yX6_readLeaf : Cond) ∈ tb := tbm 385 rfl rfl
set_option maxRecDepth 100000 in
theorem cd_X6_readLeaf : (Cond.code yX6_readLeaf cX6_readLeaf 4 (some (.object "PathProofs$Node")) : Cond) ∈ tb := tbm 386 rfl rfl
set_option maxRecDepth 100000 in
theorem kl_X6_67 : (Cond.classLink RX6 67 RX3 : Cond) ∈ tb := tbm 387 rfl rfl
set_option maxRecDepth 100000 in
theorem ml_X6_69 : (Cond.methodLink RX6 69 yX3_init : Cond) ∈ tb := tbm 388 rfl rfl
set_option maxRecDepth 100000 in
theorem kl_X6_64 : (Cond.classLink RX6 64 RX0 : Cond) ∈ tb := tbm 389 rfl rfl
set_option maxRecDepth 100000 in
theorem ml_X6_66 : (Cond.methodLink RX6 66 yX0_init : Cond) ∈ tb := tbm 390 rfl rfl
set_option maxRecDepth 100000 in
theorem ml_X8_130 : (Cond.methodLink RX8 130 yX8_nodesOf : Cond) ∈ tb := tbm 391 rfl rfl
set_option maxRecDepth 100000 in
theorem sm_X8_nodesOf : (Cond.static yX8_nodesOf : Cond) ∈ tb := tbm 392 rfl rfl
set_option maxRecDepth 100000 in
theorem cd_X8_nodesOf : (Cond.code yX8_nodesOf cX8_nodesOf 3 (some .int) : Cond) ∈ tb := tbm 393 rfl rfl
set_option maxRecDepth 100000 in
theorem ml_L_73 : (Cond.methodLink RL 73 yX8_place : Cond) ∈ tb := tbm 394 rfl rfl
set_option maxRecDepth 100000 in
theorem im_X8_place : (Cond.instanceMethod yX8_place : Cond) ∈ tb := tbm 395 rfl rfl
set_option maxRecDepth 100000 in
theorem se_X8_place : (Cond.selects RX8 yX8_place yX8_place : Cond) ∈ tb := tbm 396 rfl rfl
set_option maxRecDepth 100000 in
theorem cd_X8_place : (Cond.code yX8_place cX8_place 1 (some .int) : Cond) ∈ tb := tbm 397 rfl rfl
set_option maxRecDepth 100000 in
theorem ml_L_77 : (Cond.methodLink RL 77 yX8_get : Cond) ∈ tb := tbm 398 rfl rfl
set_option maxRecDepth 100000 in
theorem im_X8_get : (Cond.instanceMethod yX8_get : Cond) ∈ tb := tbm 399 rfl rfl
set_option maxRecDepth 100000 in
theorem se_X8_get : (Cond.selects RX8 yX8_get yX8_get : Cond) ∈ tb := tbm 400 rfl rfl
set_option maxRecDepth 100000 in
theorem cd_X8_get : (Cond.code yX8_get cX8_get 4 (some .int) : Cond) ∈ tb := tbm 401 rfl rfl
set_option maxRecDepth 100000 in
theorem ml_L_81 : (Cond.methodLink RL 81 yX8_value : Cond) ∈ tb := tbm 402 rfl rfl
set_option maxRecDepth 100000 in
theorem im_X8_value : (Cond.instanceMethod yX8_value : Cond) ∈ tb := tbm 403 rfl rfl
set_option maxRecDepth 100000 in
theorem se_X8_value : (Cond.selects RX8 yX8_value yX8_value : Cond) ∈ tb := tbm 404 rfl rfl
set_option maxRecDepth 100000 in
theorem cd_X8_value : (Cond.code yX8_value cX8_value 1 (some .long) : Cond) ∈ tb := tbm 405 rfl rfl
set_option maxRecDepth 100000 in
theorem ml_L_86 : (Cond.methodLink RL 86 yX8_write : Cond) ∈ tb := tbm 406 rfl rfl
set_option maxRecDepth 100000 in
theorem im_X8_write : (Cond.instanceMethod yX8_write : Cond) ∈ tb := tbm 407 rfl rfl
set_option maxRecDepth 100000 in
theorem se_X8_write : (Cond.selects RX8 yX8_write yX8_write : Cond) ∈ tb := tbm 408 rfl rfl
set_option maxRecDepth 100000 in
theorem cd_X8_write : (Cond.code yX8_write cX8_write 6 (some .int) : Cond) ∈ tb := tbm 409 rfl rfl
set_option maxRecDepth 100000 in
theorem ml_L_90 : (Cond.methodLink RL 90 yX8_erase : Cond) ∈ tb := tbm 410 rfl rfl
set_option maxRecDepth 100000 in
theorem im_X8_erase : (Cond.instanceMethod yX8_erase : Cond) ∈ tb := tbm 411 rfl rfl
set_option maxRecDepth 100000 in
theorem se_X8_erase : (Cond.selects RX8 yX8_erase yX8_erase : Cond) ∈ tb := tbm 412 rfl rfl
set_option maxRecDepth 100000 in
theorem cd_X8_erase : (Cond.code yX8_erase cX8_erase 3 (some .int) : Cond) ∈ tb := tbm 413 rfl rfl
set_option maxRecDepth 100000 in
theorem ml_L_94 : (Cond.methodLink RL 94 yX8_view : Cond) ∈ tb := tbm 414 rfl rfl
set_option maxRecDepth 100000 in
theorem im_X8_view : (Cond.instanceMethod yX8_view : Cond) ∈ tb := tbm 415 rfl rfl
set_option maxRecDepth 100000 in
theorem se_X8_view : (Cond.selects RX8 yX8_view yX8_view : Cond) ∈ tb := tbm 416 rfl rfl
set_option maxRecDepth 100000 in
theorem cd_X8_view : (Cond.code yX8_view cX8_view 1 (some .long) : Cond) ∈ tb := tbm 417 rfl rfl
set_option maxRecDepth 100000 in
theorem ml_L_98 : (Cond.methodLink RL 98 yX8_count : Cond) ∈ tb := tbm 418 rfl rfl
set_option maxRecDepth 100000 in
theorem im_X8_count : (Cond.instanceMethod yX8_count : Cond) ∈ tb := tbm 419 rfl rfl
set_option maxRecDepth 100000 in
theorem se_X8_count : (Cond.selects RX8 yX8_count yX8_count : Cond) ∈ tb := tbm 420 rfl rfl
set_option maxRecDepth 100000 in
theorem cd_X8_count : (Cond.code yX8_count cX8_count 3 (some .int) : Cond) ∈ tb := tbm 421 rfl rfl
set_option maxRecDepth 100000 in
theorem ml_X8_142 : (Cond.methodLink RX8 142 yX8_hiddenOver : Cond) ∈ tb := tbm 422 rfl rfl
set_option maxRecDepth 100000 in
theorem sm_X8_hiddenOver : (Cond.static yX8_hiddenOver : Cond) ∈ tb := tbm 423 rfl rfl
set_option maxRecDepth 100000 in
theorem cd_X8_hiddenOver : (Cond.code yX8_hiddenOver cX8_hiddenOver 7 (some .int) : Cond) ∈ tb := tbm 424 rfl rfl
set_option maxRecDepth 100000 in
theorem ml_L_102 : (Cond.methodLink RL 102 yX8_next : Cond) ∈ tb := tbm 425 rfl rfl
set_option maxRecDepth 100000 in
theorem im_X8_next : (Cond.instanceMethod yX8_next : Cond) ∈ tb := tbm 426 rfl rfl
set_option maxRecDepth 100000 in
theorem se_X8_next : (Cond.selects RX8 yX8_next yX8_next : Cond) ∈ tb := tbm 427 rfl rfl
set_option maxRecDepth 100000 in
theorem cd_X8_next : (Cond.code yX8_next cX8_next 2 (some .int) : Cond) ∈ tb := tbm 428 rfl rfl
set_option maxRecDepth 100000 in
theorem ml_X8_146 : (Cond.methodLink RX8 146 yX8_leastFrom : Cond) ∈ tb := tbm 429 rfl rfl
set_option maxRecDepth 100000 in
theorem sm_X8_leastFrom : (Cond.static yX8_leastFrom : Cond) ∈ tb := tbm 430 rfl rfl
set_option maxRecDepth 100000 in
theorem cd_X8_leastFrom : (Cond.code yX8_leastFrom cX8_leastFrom 6 (some .int) : Cond) ∈ tb := tbm 431 rfl rfl
set_option maxRecDepth 100000 in
theorem ml_L_106 : (Cond.methodLink RL 106 yX8_told : Cond) ∈ tb := tbm 432 rfl rfl
set_option maxRecDepth 100000 in
theorem im_X8_told : (Cond.instanceMethod yX8_told : Cond) ∈ tb := tbm 433 rfl rfl
set_option maxRecDepth 100000 in
theorem se_X8_told : (Cond.selects RX8 yX8_told yX8_told : Cond) ∈ tb := tbm 434 rfl rfl
set_option maxRecDepth 100000 in
theorem cd_X8_told : (Cond.code yX8_told cX8_told 2 (some .int) : Cond) ∈ tb := tbm 435 rfl rfl
set_option maxRecDepth 100000 in
theorem ml_X8_149 : (Cond.methodLink RX8 149 yX8_mostForks : Cond) ∈ tb := tbm 436 rfl rfl
set_option maxRecDepth 100000 in
theorem sm_X8_mostForks : (Cond.static yX8_mostForks : Cond) ∈ tb := tbm 437 rfl rfl
set_option maxRecDepth 100000 in
theorem cd_X8_mostForks : (Cond.code yX8_mostForks cX8_mostForks 3 (some .int) : Cond) ∈ tb := tbm 438 rfl rfl
set_option maxRecDepth 100000 in
theorem ml_X8_205 : (Cond.methodLink RX8 205 yJ9_max_7cf53 : Cond) ∈ tb := tbm 439 rfl rfl
set_option maxRecDepth 100000 in
theorem sm_J9_max_7cf53 : (Cond.static yJ9_max_7cf53 : Cond) ∈ tb := tbm 440 rfl rfl
set_option maxRecDepth 100000 in
theorem cd_J9_max_7cf53 : (Cond.code yJ9_max_7cf53 cJ9_max_7cf53 2 (some .int) : Cond) ∈ tb := tbm 441 rfl rfl
set_option maxRecDepth 100000 in
theorem ml_L_110 : (Cond.methodLink RL 110 yX8_octet : Cond) ∈ tb := tbm 442 rfl rfl
set_option maxRecDepth 100000 in
theorem im_X8_octet : (Cond.instanceMethod yX8_octet : Cond) ∈ tb := tbm 443 rfl rfl
set_option maxRecDepth 100000 in
theorem se_X8_octet : (Cond.selects RX8 yX8_octet yX8_octet : Cond) ∈ tb := tbm 444 rfl rfl
set_option maxRecDepth 100000 in
theorem cd_X8_octet : (Cond.code yX8_octet cX8_octet 2 (some .int) : Cond) ∈ tb := tbm 445 rfl rfl
set_option maxRecDepth 100000 in
theorem kl_L_10 : (Cond.classLink RL 10 RX9 : Cond) ∈ tb := tbm 446 rfl rfl
set_option maxRecDepth 100000 in
theorem is_X9 : (Cond.instantiable RX9 42 : Cond) ∈ tb := tbm 447 rfl rfl
set_option maxRecDepth 100000 in
theorem ml_L_12 : (Cond.methodLink RL 12 yX9_init : Cond) ∈ tb := tbm 448 rfl rfl
set_option maxRecDepth 100000 in
theorem im_X9_init : (Cond.instanceMethod yX9_init : Cond) ∈ tb := tbm 449 rfl rfl
set_option maxRecDepth 100000 in
theorem cd_X9_init : (Cond.code yX9_init cX9_init 1 none : Cond) ∈ tb := tbm 450 rfl rfl
set_option maxRecDepth 100000 in
theorem ml_X9_1 : (Cond.methodLink RX9 1 objectInit : Cond) ∈ tb := tbm 451 rfl rfl
set_option maxRecDepth 100000 in
theorem fl_X9_7 : (Cond.fieldLink RX9 7 "PathProofsModel" "path" "[I" : Cond) ∈ tb := tbm 452 rfl rfl
set_option maxRecDepth 100000 in
theorem fl_X9_13 : (Cond.fieldLink RX9 13 "PathProofsModel" "value" "[J" : Cond) ∈ tb := tbm 453 rfl rfl
set_option maxRecDepth 100000 in
theorem fl_X9_17 : (Cond.fieldLink RX9 17 "PathProofsModel" "size" "[I" : Cond) ∈ tb := tbm 454 rfl rfl
set_option maxRecDepth 100000 in
theorem fl_X9_98 : (Cond.fieldLink RX9 98 "PathProofsModel" "versions" "I" : Cond) ∈ tb := tbm 455 rfl rfl
set_option maxRecDepth 100000 in
theorem fl_X9_20 : (Cond.fieldLink RX9 20 "PathProofsModel" "from" "[I" : Cond) ∈ tb := tbm 456 rfl rfl
set_option maxRecDepth 100000 in
theorem fl_X9_23 : (Cond.fieldLink RX9 23 "PathProofsModel" "to" "[I" : Cond) ∈ tb := tbm 457 rfl rfl
set_option maxRecDepth 100000 in
theorem fl_X9_139 : (Cond.fieldLink RX9 139 "PathProofsModel" "wanted" "I" : Cond) ∈ tb := tbm 458 rfl rfl
set_option maxRecDepth 100000 in
theorem fl_X9_26 : (Cond.fieldLink RX9 26 "PathProofsModel" "tape" "[I" : Cond) ∈ tb := tbm 459 rfl rfl
set_option maxRecDepth 100000 in
theorem fl_X9_147 : (Cond.fieldLink RX9 147 "PathProofsModel" "taped" "I" : Cond) ∈ tb := tbm 460 rfl rfl
set_option maxRecDepth 100000 in
theorem fl_X9_29 : (Cond.fieldLink RX9 29 "PathProofsModel" "waitDigest" "[J" : Cond) ∈ tb := tbm 461 rfl rfl
set_option maxRecDepth 100000 in
theorem fl_X9_32 : (Cond.fieldLink RX9 32 "PathProofsModel" "waitBit" "[I" : Cond) ∈ tb := tbm 462 rfl rfl
set_option maxRecDepth 100000 in
theorem fl_X9_35 : (Cond.fieldLink RX9 35 "PathProofsModel" "waitDeep" "[I" : Cond) ∈ tb := tbm 463 rfl rfl
set_option maxRecDepth 100000 in
theorem fl_X9_109 : (Cond.fieldLink RX9 109 "PathProofsModel" "deepest" "I" : Cond) ∈ tb := tbm 464 rfl rfl
set_option maxRecDepth 100000 in
theorem fl_X9_38 : (Cond.fieldLink RX9 38 "PathProofsModel" "out" "[I" : Cond) ∈ tb := tbm 465 rfl rfl
set_option maxRecDepth 100000 in
theorem fl_X9_142 : (Cond.fieldLink RX9 142 "PathProofsModel" "laid" "I" : Cond) ∈ tb := tbm 466 rfl rfl
set_option maxRecDepth 100000 in
theorem fl_X9_41 : (Cond.fieldLink RX9 41 "PathProofsModel" "oneOf" "[I" : Cond) ∈ tb := tbm 467 rfl rfl
set_option maxRecDepth 100000 in
theorem fl_X9_44 : (Cond.fieldLink RX9 44 "PathProofsModel" "twoOf" "[I" : Cond) ∈ tb := tbm 468 rfl rfl
set_option maxRecDepth 100000 in
theorem fl_X9_47 : (Cond.fieldLink RX9 47 "PathProofsModel" "placeFrom" "[I" : Cond) ∈ tb := tbm 469 rfl rfl
set_option maxRecDepth 100000 in
theorem fl_X9_50 : (Cond.fieldLink RX9 50 "PathProofsModel" "placeTo" "[I" : Cond) ∈ tb := tbm 470 rfl rfl
set_option maxRecDepth 100000 in
theorem fl_X9_150 : (Cond.fieldLink RX9 150 "PathProofsModel" "rests" "I" : Cond) ∈ tb := tbm 471 rfl rfl
set_option maxRecDepth 100000 in
theorem fl_X9_53 : (Cond.fieldLink RX9 53 "PathProofsModel" "kind" "[I" : Cond) ∈ tb := tbm 472 rfl rfl
set_option maxRecDepth 100000 in
theorem fl_X9_56 : (Cond.fieldLink RX9 56 "PathProofsModel" "bitOf" "[I" : Cond) ∈ tb := tbm 473 rfl rfl
set_option maxRecDepth 100000 in
theorem fl_X9_59 : (Cond.fieldLink RX9 59 "PathProofsModel" "stem" "[I" : Cond) ∈ tb := tbm 474 rfl rfl
set_option maxRecDepth 100000 in
theorem fl_X9_62 : (Cond.fieldLink RX9 62 "PathProofsModel" "held" "[J" : Cond) ∈ tb := tbm 475 rfl rfl
set_option maxRecDepth 100000 in
theorem fl_X9_65 : (Cond.fieldLink RX9 65 "PathProofsModel" "low" "[I" : Cond) ∈ tb := tbm 476 rfl rfl
set_option maxRecDepth 100000 in
theorem fl_X9_68 : (Cond.fieldLink RX9 68 "PathProofsModel" "high" "[I" : Cond) ∈ tb := tbm 477 rfl rfl
set_option maxRecDepth 100000 in
theorem fl_X9_71 : (Cond.fieldLink RX9 71 "PathProofsModel" "sum" "[J" : Cond) ∈ tb := tbm 478 rfl rfl
set_option maxRecDepth 100000 in
theorem fl_X9_74 : (Cond.fieldLink RX9 74 "PathProofsModel" "row" "[I" : Cond) ∈ tb := tbm 479 rfl rfl
set_option maxRecDepth 100000 in
theorem fl_X9_176 : (Cond.fieldLink RX9 176 "PathProofsModel" "half" "I" : Cond) ∈ tb := tbm 480 rfl rfl
set_option maxRecDepth 100000 in
theorem fl_X9_186 : (Cond.fieldLink RX9 186 "PathProofsModel" "nodes" "I" : Cond) ∈ tb := tbm 481 rfl rfl
set_option maxRecDepth 100000 in
theorem fl_X9_77 : (Cond.fieldLink RX9 77 "PathProofsModel" "root" "I" : Cond) ∈ tb := tbm 482 rfl rfl
set_option maxRecDepth 100000 in
theorem fl_X9_81 : (Cond.fieldLink RX9 81 "PathProofsModel" "free" "[I" : Cond) ∈ tb := tbm 483 rfl rfl
set_option maxRecDepth 100000 in
theorem fl_X9_189 : (Cond.fieldLink RX9 189 "PathProofsModel" "freed" "I" : Cond) ∈ tb := tbm 484 rfl rfl
set_option maxRecDepth 100000 in
theorem fl_X9_84 : (Cond.fieldLink RX9 84 "PathProofsModel" "faultAt" "I" : Cond) ∈ tb := tbm 485 rfl rfl
set_option maxRecDepth 100000 in
theorem fl_X9_169 : (Cond.fieldLink RX9 169 "PathProofsModel" "at" "I" : Cond) ∈ tb := tbm 486 rfl rfl
set_option maxRecDepth 100000 in
theorem fl_X9_192 : (Cond.fieldLink RX9 192 "PathProofsModel" "end" "I" : Cond) ∈ tb := tbm 487 rfl rfl
set_option maxRecDepth 100000 in
theorem fl_X9_195 : (Cond.fieldLink RX9 195 "PathProofsModel" "above" "I" : Cond) ∈ tb := tbm 488 rfl rfl
set_option maxRecDepth 100000 in
theorem fl_X9_202 : (Cond.fieldLink RX9 202 "PathProofsModel" "found" "J" : Cond) ∈ tb := tbm 489 rfl rfl
set_option maxRecDepth 100000 in
theorem fl_X9_220 : (Cond.fieldLink RX9 220 "PathProofsModel" "counted" "I" : Cond) ∈ tb := tbm 490 rfl rfl
set_option maxRecDepth 100000 in
theorem fl_X9_224 : (Cond.fieldLink RX9 224 "PathProofsModel" "leastLeaf" "I" : Cond) ∈ tb := tbm 491 rfl rfl
set_option maxRecDepth 100000 in
theorem fl_X9_227 : (Cond.fieldLink RX9 227 "PathProofsModel" "leastHidden" "I" : Cond) ∈ tb := tbm 492 rfl rfl
set_option maxRecDepth 100000 in
theorem fl_X9_230 : (Cond.fieldLink RX9 230 "PathProofsModel" "hiddenMany" "I" : Cond) ∈ tb := tbm 493 rfl rfl
set_option maxRecDepth 100000 in
theorem ac_long : (Cond.arrayClass .long : Cond) ∈ tb := tbm 579 rfl rfl
set_option maxRecDepth 100000 in
theorem ml_L_19 : (Cond.methodLink RL 19 yX9_put : Cond) ∈ tb := tbm 580 rfl rfl
set_option maxRecDepth 100000 in
theorem im_X9_put : (Cond.instanceMethod yX9_put : Cond) ∈ tb := tbm 581 rfl rfl
set_option maxRecDepth 100000 in
theorem se_X9_put : (Cond.selects RX9 yX9_put yX9_put : Cond) ∈ tb := tbm 582 rfl rfl
set_option maxRecDepth 100000 in
theorem cd_X9_put : (Cond.code yX9_put cX9_put 6 (some .int) : Cond) ∈ tb := tbm 583 rfl rfl
set_option maxRecDepth 100000 in
theorem ml_X9_101 : (Cond.methodLink RX9 101 yX9_isPath : Cond) ∈ tb := tbm 584 rfl rfl
set_option maxRecDepth 100000 in
theorem sm_X9_isPath : (Cond.static yX9_isPath : Cond) ∈ tb := tbm 585 rfl rfl
set_option maxRecDepth 100000 in
theorem cd_X9_isPath : (Cond.code yX9_isPath cX9_isPath 1 (some .boolean) : Cond) ∈ tb := tbm 586 rfl rfl
set_option maxRecDepth 100000 in
theorem co_X9_87 : (Cond.constant RX9 87 65535 : Cond) ∈ tb := tbm 587 rfl rfl
set_option maxRecDepth 100000 in
theorem ml_X9_105 : (Cond.methodLink RX9 105 yX9_find : Cond) ∈ tb := tbm 588 rfl rfl
set_option maxRecDepth 100000 in
theorem im_X9_find : (Cond.instanceMethod yX9_find : Cond) ∈ tb := tbm 590 rfl rfl
set_option maxRecDepth 100000 in
theorem cd_X9_find : (Cond.code yX9_find cX9_find 3 (some .int) : Cond) ∈ tb := tbm 591 rfl rfl
set_option maxRecDepth 100000 in
theorem ml_L_24 : (Cond.methodLink RL 24 yX9_remove : Cond) ∈ tb := tbm 592 rfl rfl
set_option maxRecDepth 100000 in
theorem im_X9_remove : (Cond.instanceMethod yX9_remove : Cond) ∈ tb := tbm 593 rfl rfl
set_option maxRecDepth 100000 in
theorem se_X9_remove : (Cond.selects RX9 yX9_remove yX9_remove : Cond) ∈ tb := tbm 594 rfl rfl
set_option maxRecDepth 100000 in
theorem cd_X9_remove : (Cond.code yX9_remove cX9_remove 4 (some .int) : Cond) ∈ tb := tbm 595 rfl rfl
set_option maxRecDepth 100000 in
theorem ml_L_29 : (Cond.methodLink RL 29 yX9_keep : Cond) ∈ tb := tbm 596 rfl rfl
set_option maxRecDepth 100000 in
theorem im_X9_keep : (Cond.instanceMethod yX9_keep : Cond) ∈ tb := tbm 597 rfl rfl
set_option maxRecDepth 100000 in
theorem se_X9_keep : (Cond.selects RX9 yX9_keep yX9_keep : Cond) ∈ tb := tbm 598 rfl rfl
set_option maxRecDepth 100000 in
theorem cd_X9_keep : (Cond.code yX9_keep cX9_keep 2 (some .int) : Cond) ∈ tb := tbm 599 rfl rfl
set_option maxRecDepth 100000 in
theorem ml_L_34 : (Cond.methodLink RL 34 yX9_root : Cond) ∈ tb := tbm 600 rfl rfl
set_option maxRecDepth 100000 in
theorem im_X9_root : (Cond.instanceMethod yX9_root : Cond) ∈ tb := tbm 601 rfl rfl
set_option maxRecDepth 100000 in
theorem se_X9_root : (Cond.selects RX9 yX9_root yX9_root : Cond) ∈ tb := tbm 602 rfl rfl
set_option maxRecDepth 100000 in
theorem cd_X9_root : (Cond.code yX9_root cX9_root 3 (some .long) : Cond) ∈ tb := tbm 603 rfl rfl
set_option maxRecDepth 100000 in
theorem ml_X9_129 : (Cond.methodLink RX9 129 yX9_baseOf : Cond) ∈ tb := tbm 604 rfl rfl
set_option maxRecDepth 100000 in
theorem im_X9_baseOf : (Cond.instanceMethod yX9_baseOf : Cond) ∈ tb := tbm 606 rfl rfl
set_option maxRecDepth 100000 in
theorem cd_X9_baseOf : (Cond.code yX9_baseOf cX9_baseOf 2 (some .int) : Cond) ∈ tb := tbm 607 rfl rfl
set_option maxRecDepth 100000 in
theorem ml_X9_132 : (Cond.methodLink RX9 132 yX9_sizeOf : Cond) ∈ tb := tbm 608 rfl rfl
set_option maxRecDepth 100000 in
theorem im_X9_sizeOf : (Cond.instanceMethod yX9_sizeOf : Cond) ∈ tb := tbm 610 rfl rfl
set_option maxRecDepth 100000 in
theorem cd_X9_sizeOf : (Cond.code yX9_sizeOf cX9_sizeOf 2 (some .int) : Cond) ∈ tb := tbm 611 rfl rfl
set_option maxRecDepth 100000 in
theorem ml_X9_135 : (Cond.methodLink RX9 135 yX9_digest : Cond) ∈ tb := tbm 612 rfl rfl
set_option maxRecDepth 100000 in
theorem im_X9_digest : (Cond.instanceMethod yX9_digest : Cond) ∈ tb := tbm 614 rfl rfl
set_option maxRecDepth 100000 in
theorem cd_X9_digest : (Cond.code yX9_digest cX9_digest 9 (some .long) : Cond) ∈ tb := tbm 615 rfl rfl
set_option maxRecDepth 100000 in
theorem co_X9_112 : (Cond.constantLong RX9 112 (3) : Cond) ∈ tb := tbm 616 rfl rfl
set_option maxRecDepth 100000 in
theorem ml_X9_92 : (Cond.methodLink RX9 92 yX9_mix : Cond) ∈ tb := tbm 617 rfl rfl
set_option maxRecDepth 100000 in
theorem sm_X9_mix : (Cond.static yX9_mix : Cond) ∈ tb := tbm 618 rfl rfl
set_option maxRecDepth 100000 in
theorem cd_X9_mix : (Cond.code yX9_mix cX9_mix 6 (some .long) : Cond) ∈ tb := tbm 619 rfl rfl
set_option maxRecDepth 100000 in
theorem co_X9_88 : (Cond.constantLong RX9 88 (-7046029254386353131) : Cond) ∈ tb := tbm 620 rfl rfl
set_option maxRecDepth 100000 in
theorem co_X9_90 : (Cond.constantLong RX9 90 (-4658895280553007687) : Cond) ∈ tb := tbm 621 rfl rfl
set_option maxRecDepth 100000 in
theorem ml_X9_114 : (Cond.methodLink RX9 114 yX9_firstBit : Cond) ∈ tb := tbm 622 rfl rfl
set_option maxRecDepth 100000 in
theorem sm_X9_firstBit : (Cond.static yX9_firstBit : Cond) ∈ tb := tbm 623 rfl rfl
set_option maxRecDepth 100000 in
theorem cd_X9_firstBit : (Cond.code yX9_firstBit cX9_firstBit 3 (some .int) : Cond) ∈ tb := tbm 624 rfl rfl
set_option maxRecDepth 100000 in
theorem ml_X9_118 : (Cond.methodLink RX9 118 yX9_stemOf : Cond) ∈ tb := tbm 625 rfl rfl
set_option maxRecDepth 100000 in
theorem sm_X9_stemOf : (Cond.static yX9_stemOf : Cond) ∈ tb := tbm 626 rfl rfl
set_option maxRecDepth 100000 in
theorem cd_X9_stemOf : (Cond.code yX9_stemOf cX9_stemOf 2 (some .int) : Cond) ∈ tb := tbm 627 rfl rfl
set_option maxRecDepth 100000 in
theorem ml_X9_121 : (Cond.methodLink RX9 121 yX9_forkDigest : Cond) ∈ tb := tbm 628 rfl rfl
set_option maxRecDepth 100000 in
theorem sm_X9_forkDigest : (Cond.static yX9_forkDigest : Cond) ∈ tb := tbm 629 rfl rfl
set_option maxRecDepth 100000 in
theorem cd_X9_forkDigest : (Cond.code yX9_forkDigest cX9_forkDigest 6 (some .long) : Cond) ∈ tb := tbm 630 rfl rfl
set_option maxRecDepth 100000 in
theorem co_X9_96 : (Cond.constantLong RX9 96 (2) : Cond) ∈ tb := tbm 631 rfl rfl
set_option maxRecDepth 100000 in
theorem ml_X9_125 : (Cond.methodLink RX9 125 yX9_leafDigest : Cond) ∈ tb := tbm 632 rfl rfl
set_option maxRecDepth 100000 in
theorem sm_X9_leafDigest : (Cond.static yX9_leafDigest : Cond) ∈ tb := tbm 633 rfl rfl
set_option maxRecDepth 100000 in
theorem cd_X9_leafDigest : (Cond.code yX9_leafDigest cX9_leafDigest 3 (some .long) : Cond) ∈ tb := tbm 634 rfl rfl
set_option maxRecDepth 100000 in
theorem ml_L_38 : (Cond.methodLink RL 38 yX9_leaves : Cond) ∈ tb := tbm 635 rfl rfl
set_option maxRecDepth 100000 in
theorem im_X9_leaves : (Cond.instanceMethod yX9_leaves : Cond) ∈ tb := tbm 636 rfl rfl
set_option maxRecDepth 100000 in
theorem se_X9_leaves : (Cond.selects RX9 yX9_leaves yX9_leaves : Cond) ∈ tb := tbm 637 rfl rfl
set_option maxRecDepth 100000 in
theorem cd_X9_leaves : (Cond.code yX9_leaves cX9_leaves 2 (some .int) : Cond) ∈ tb := tbm 638 rfl rfl
set_option maxRecDepth 100000 in
theorem ml_L_43 : (Cond.methodLink RL 43 yX9_want : Cond) ∈ tb := tbm 639 rfl rfl
set_option maxRecDepth 100000 in
theorem im_X9_want : (Cond.instanceMethod yX9_want : Cond) ∈ tb := tbm 640 rfl rfl
set_option maxRecDepth 100000 in
theorem se_X9_want : (Cond.selects RX9 yX9_want yX9_want : Cond) ∈ tb := tbm 641 rfl rfl
set_option maxRecDepth 100000 in
theorem cd_X9_want : (Cond.code yX9_want cX9_want 3 (some .int) : Cond) ∈ tb := tbm 642 rfl rfl
set_option maxRecDepth 100000 in
theorem ml_L_47 : (Cond.methodLink RL 47 yX9_forget : Cond) ∈ tb := tbm 643 rfl rfl
set_option maxRecDepth 100000 in
theorem im_X9_forget : (Cond.instanceMethod yX9_forget : Cond) ∈ tb := tbm 644 rfl rfl
set_option maxRecDepth 100000 in
theorem se_X9_forget : (Cond.selects RX9 yX9_forget yX9_forget : Cond) ∈ tb := tbm 645 rfl rfl
set_option maxRecDepth 100000 in
theorem cd_X9_forget : (Cond.code yX9_forget cX9_forget 2 (some .int) : Cond) ∈ tb := tbm 646 rfl rfl
set_option maxRecDepth 100000 in
theorem ml_L_51 : (Cond.methodLink RL 51 yX9_show : Cond) ∈ tb := tbm 647 rfl rfl
set_option maxRecDepth 100000 in
theorem im_X9_show : (Cond.instanceMethod yX9_show : Cond) ∈ tb := tbm 648 rfl rfl
set_option maxRecDepth 100000 in
theorem se_X9_show : (Cond.selects RX9 yX9_show yX9_show : Cond) ∈ tb := tbm 649 rfl rfl
set_option maxRecDepth 100000 in
theorem cd_X9_show : (Cond.code yX9_show cX9_show 9 (some .int) : Cond) ∈ tb := tbm 650 rfl rfl
set_option maxRecDepth 100000 in
theorem ml_X9_153 : (Cond.methodLink RX9 153 yX9_rest : Cond) ∈ tb := tbm 651 rfl rfl
set_option maxRecDepth 100000 in
theorem im_X9_rest : (Cond.instanceMethod yX9_rest : Cond) ∈ tb := tbm 653 rfl rfl
set_option maxRecDepth 100000 in
theorem cd_X9_rest : (Cond.code yX9_rest cX9_rest 5 none : Cond) ∈ tb := tbm 654 rfl rfl
set_option maxRecDepth 100000 in
theorem ml_X9_157 : (Cond.methodLink RX9 157 yX9_isWanted : Cond) ∈ tb := tbm 655 rfl rfl
set_option maxRecDepth 100000 in
theorem im_X9_isWanted : (Cond.instanceMethod yX9_isWanted : Cond) ∈ tb := tbm 657 rfl rfl
set_option maxRecDepth 100000 in
theorem cd_X9_isWanted : (Cond.code yX9_isWanted cX9_isWanted 5 (some .boolean) : Cond) ∈ tb := tbm 658 rfl rfl
set_option maxRecDepth 100000 in
theorem ml_X9_161 : (Cond.methodLink RX9 161 yX9_lay : Cond) ∈ tb := tbm 659 rfl rfl
set_option maxRecDepth 100000 in
theorem im_X9_lay : (Cond.instanceMethod yX9_lay : Cond) ∈ tb := tbm 661 rfl rfl
set_option maxRecDepth 100000 in
theorem cd_X9_lay : (Cond.code yX9_lay cX9_lay 5 none : Cond) ∈ tb := tbm 662 rfl rfl
set_option maxRecDepth 100000 in
theorem co_X9_145 : (Cond.constantLong RX9 145 (255) : Cond) ∈ tb := tbm 663 rfl rfl
set_option maxRecDepth 100000 in
theorem ml_X9_165 : (Cond.methodLink RX9 165 yX9_laidOut : Cond) ∈ tb := tbm 664 rfl rfl
set_option maxRecDepth 100000 in
theorem im_X9_laidOut : (Cond.instanceMethod yX9_laidOut : Cond) ∈ tb := tbm 666 rfl rfl
set_option maxRecDepth 100000 in
theorem cd_X9_laidOut : (Cond.code yX9_laidOut cX9_laidOut 2 (some .int) : Cond) ∈ tb := tbm 667 rfl rfl
set_option maxRecDepth 100000 in
theorem ml_L_59 : (Cond.methodLink RL 59 yX9_feed : Cond) ∈ tb := tbm 668 rfl rfl
set_option maxRecDepth 100000 in
theorem im_X9_feed : (Cond.instanceMethod yX9_feed : Cond) ∈ tb := tbm 669 rfl rfl
set_option maxRecDepth 100000 in
theorem se_X9_feed : (Cond.selects RX9 yX9_feed yX9_feed : Cond) ∈ tb := tbm 670 rfl rfl
set_option maxRecDepth 100000 in
theorem cd_X9_feed : (Cond.code yX9_feed cX9_feed 5 (some .int) : Cond) ∈ tb := tbm 671 rfl rfl
set_option maxRecDepth 100000 in
theorem ml_L_63 : (Cond.methodLink RL 63 yX9_cut : Cond) ∈ tb := tbm 672 rfl rfl
set_option maxRecDepth 100000 in
theorem im_X9_cut : (Cond.instanceMethod yX9_cut : Cond) ∈ tb := tbm 673 rfl rfl
set_option maxRecDepth 100000 in
theorem se_X9_cut : (Cond.selects RX9 yX9_cut yX9_cut : Cond) ∈ tb := tbm 674 rfl rfl
set_option maxRecDepth 100000 in
theorem cd_X9_cut : (Cond.code yX9_cut cX9_cut 3 (some .int) : Cond) ∈ tb := tbm 675 rfl rfl
set_option maxRecDepth 100000 in
theorem ml_L_67 : (Cond.methodLink RL 67 yX9_spoil : Cond) ∈ tb := tbm 676 rfl rfl
set_option maxRecDepth 100000 in
theorem im_X9_spoil : (Cond.instanceMethod yX9_spoil : Cond) ∈ tb := tbm 677 rfl rfl
set_option maxRecDepth 100000 in
theorem se_X9_spoil : (Cond.selects RX9 yX9_spoil yX9_spoil : Cond) ∈ tb := tbm 678 rfl rfl
set_option maxRecDepth 100000 in
theorem cd_X9_spoil : (Cond.code yX9_spoil cX9_spoil 3 (some .int) : Cond) ∈ tb := tbm 679 rfl rfl
set_option maxRecDepth 100000 in
theorem ml_L_113 : (Cond.methodLink RL 113 yX9_octet : Cond) ∈ tb := tbm 680 rfl rfl
set_option maxRecDepth 100000 in
theorem im_X9_octet : (Cond.instanceMethod yX9_octet : Cond) ∈ tb := tbm 681 rfl rfl
set_option maxRecDepth 100000 in
theorem se_X9_octet : (Cond.selects RX9 yX9_octet yX9_octet : Cond) ∈ tb := tbm 682 rfl rfl
set_option maxRecDepth 100000 in
theorem cd_X9_octet : (Cond.code yX9_octet cX9_octet 2 (some .int) : Cond) ∈ tb := tbm 683 rfl rfl
set_option maxRecDepth 100000 in
theorem ml_L_72 : (Cond.methodLink RL 72 yX9_take : Cond) ∈ tb := tbm 684 rfl rfl
set_option maxRecDepth 100000 in
theorem im_X9_take : (Cond.instanceMethod yX9_take : Cond) ∈ tb := tbm 685 rfl rfl
set_option maxRecDepth 100000 in
theorem se_X9_take : (Cond.selects RX9 yX9_take yX9_take : Cond) ∈ tb := tbm 686 rfl rfl
set_option maxRecDepth 100000 in
theorem cd_X9_take : (Cond.code yX9_take cX9_take 8 (some .int) : Cond) ∈ tb := tbm 687 rfl rfl
set_option maxRecDepth 100000 in
theorem ml_X9_179 : (Cond.methodLink RX9 179 yX9_taken : Cond) ∈ tb := tbm 688 rfl rfl
set_option maxRecDepth 100000 in
theorem im_X9_taken : (Cond.instanceMethod yX9_taken : Cond) ∈ tb := tbm 690 rfl rfl
set_option maxRecDepth 100000 in
theorem cd_X9_taken : (Cond.code yX9_taken cX9_taken 6 (some .int) : Cond) ∈ tb := tbm 691 rfl rfl
set_option maxRecDepth 100000 in
theorem ml_X9_172 : (Cond.methodLink RX9 172 yX9_numeral : Cond) ∈ tb := tbm 692 rfl rfl
set_option maxRecDepth 100000 in
theorem im_X9_numeral : (Cond.instanceMethod yX9_numeral : Cond) ∈ tb := tbm 694 rfl rfl
set_option maxRecDepth 100000 in
theorem cd_X9_numeral : (Cond.code yX9_numeral cX9_numeral 5 (some .long) : Cond) ∈ tb := tbm 695 rfl rfl
set_option maxRecDepth 100000 in
theorem ml_X9_183 : (Cond.methodLink RX9 183 yX9_sumUp : Cond) ∈ tb := tbm 696 rfl rfl
set_option maxRecDepth 100000 in
theorem im_X9_sumUp : (Cond.instanceMethod yX9_sumUp : Cond) ∈ tb := tbm 698 rfl rfl
set_option maxRecDepth 100000 in
theorem cd_X9_sumUp : (Cond.code yX9_sumUp cX9_sumUp 5 (some .long) : Cond) ∈ tb := tbm 699 rfl rfl
set_option maxRecDepth 100000 in
theorem ml_L_76 : (Cond.methodLink RL 76 yX9_place : Cond) ∈ tb := tbm 700 rfl rfl
set_option maxRecDepth 100000 in
theorem im_X9_place : (Cond.instanceMethod yX9_place : Cond) ∈ tb := tbm 701 rfl rfl
set_option maxRecDepth 100000 in
theorem se_X9_place : (Cond.selects RX9 yX9_place yX9_place : Cond) ∈ tb := tbm 702 rfl rfl
set_option maxRecDepth 100000 in
theorem cd_X9_place : (Cond.code yX9_place cX9_place 1 (some .int) : Cond) ∈ tb := tbm 703 rfl rfl
set_option maxRecDepth 100000 in
theorem ml_L_80 : (Cond.methodLink RL 80 yX9_get : Cond) ∈ tb := tbm 704 rfl rfl
set_option maxRecDepth 100000 in
theorem im_X9_get : (Cond.instanceMethod yX9_get : Cond) ∈ tb := tbm 705 rfl rfl
set_option maxRecDepth 100000 in
theorem se_X9_get : (Cond.selects RX9 yX9_get yX9_get : Cond) ∈ tb := tbm 706 rfl rfl
set_option maxRecDepth 100000 in
theorem cd_X9_get : (Cond.code yX9_get cX9_get 2 (some .int) : Cond) ∈ tb := tbm 707 rfl rfl
set_option maxRecDepth 100000 in
theorem ml_X9_206 : (Cond.methodLink RX9 206 yX9_way : Cond) ∈ tb := tbm 708 rfl rfl
set_option maxRecDepth 100000 in
theorem im_X9_way : (Cond.instanceMethod yX9_way : Cond) ∈ tb := tbm 710 rfl rfl
set_option maxRecDepth 100000 in
theorem cd_X9_way : (Cond.code yX9_way cX9_way 2 none : Cond) ∈ tb := tbm 711 rfl rfl
set_option maxRecDepth 100000 in
theorem ml_X9_198 : (Cond.methodLink RX9 198 yX9_takesIn : Cond) ∈ tb := tbm 712 rfl rfl
set_option maxRecDepth 100000 in
theorem sm_X9_takesIn : (Cond.static yX9_takesIn : Cond) ∈ tb := tbm 713 rfl rfl
set_option maxRecDepth 100000 in
theorem cd_X9_takesIn : (Cond.code yX9_takesIn cX9_takesIn 3 (some .boolean) : Cond) ∈ tb := tbm 714 rfl rfl
set_option maxRecDepth 100000 in
theorem ml_X9_210 : (Cond.methodLink RX9 210 yX9_isThere : Cond) ∈ tb := tbm 715 rfl rfl
set_option maxRecDepth 100000 in
theorem im_X9_isThere : (Cond.instanceMethod yX9_isThere : Cond) ∈ tb := tbm 717 rfl rfl
set_option maxRecDepth 100000 in
theorem cd_X9_isThere : (Cond.code yX9_isThere cX9_isThere 2 (some .boolean) : Cond) ∈ tb := tbm 718 rfl rfl
set_option maxRecDepth 100000 in
theorem ml_L_85 : (Cond.methodLink RL 85 yX9_value : Cond) ∈ tb := tbm 719 rfl rfl
set_option maxRecDepth 100000 in
theorem im_X9_value : (Cond.instanceMethod yX9_value : Cond) ∈ tb := tbm 720 rfl rfl
set_option maxRecDepth 100000 in
theorem se_X9_value : (Cond.selects RX9 yX9_value yX9_value : Cond) ∈ tb := tbm 721 rfl rfl
set_option maxRecDepth 100000 in
theorem cd_X9_value : (Cond.code yX9_value cX9_value 1 (some .long) : Cond) ∈ tb := tbm 722 rfl rfl
set_option maxRecDepth 100000 in
theorem ml_L_89 : (Cond.methodLink RL 89 yX9_write : Cond) ∈ tb := tbm 723 rfl rfl
set_option maxRecDepth 100000 in
theorem im_X9_write : (Cond.instanceMethod yX9_write : Cond) ∈ tb := tbm 724 rfl rfl
set_option maxRecDepth 100000 in
theorem se_X9_write : (Cond.selects RX9 yX9_write yX9_write : Cond) ∈ tb := tbm 725 rfl rfl
set_option maxRecDepth 100000 in
theorem cd_X9_write : (Cond.code yX9_write cX9_write 8 (some .int) : Cond) ∈ tb := tbm 726 rfl rfl
set_option maxRecDepth 100000 in
theorem ml_X9_213 : (Cond.methodLink RX9 213 yX9_fresh : Cond) ∈ tb := tbm 727 rfl rfl
set_option maxRecDepth 100000 in
theorem im_X9_fresh : (Cond.instanceMethod yX9_fresh : Cond) ∈ tb := tbm 729 rfl rfl
set_option maxRecDepth 100000 in
theorem cd_X9_fresh : (Cond.code yX9_fresh cX9_fresh 1 (some .int) : Cond) ∈ tb := tbm 730 rfl rfl
set_option maxRecDepth 100000 in
theorem ml_X9_216 : (Cond.methodLink RX9 216 yX9_stand : Cond) ∈ tb := tbm 731 rfl rfl
set_option maxRecDepth 100000 in
theorem im_X9_stand : (Cond.instanceMethod yX9_stand : Cond) ∈ tb := tbm 733 rfl rfl
set_option maxRecDepth 100000 in
theorem cd_X9_stand : (Cond.code yX9_stand cX9_stand 4 none : Cond) ∈ tb := tbm 734 rfl rfl
set_option maxRecDepth 100000 in
theorem ml_L_93 : (Cond.methodLink RL 93 yX9_erase : Cond) ∈ tb := tbm 735 rfl rfl
set_option maxRecDepth 100000 in
theorem im_X9_erase : (Cond.instanceMethod yX9_erase : Cond) ∈ tb := tbm 736 rfl rfl
set_option maxRecDepth 100000 in
theorem se_X9_erase : (Cond.selects RX9 yX9_erase yX9_erase : Cond) ∈ tb := tbm 737 rfl rfl
set_option maxRecDepth 100000 in
theorem cd_X9_erase : (Cond.code yX9_erase cX9_erase 7 (some .int) : Cond) ∈ tb := tbm 738 rfl rfl
set_option maxRecDepth 100000 in
theorem ml_L_97 : (Cond.methodLink RL 97 yX9_view : Cond) ∈ tb := tbm 739 rfl rfl
set_option maxRecDepth 100000 in
theorem im_X9_view : (Cond.instanceMethod yX9_view : Cond) ∈ tb := tbm 740 rfl rfl
set_option maxRecDepth 100000 in
theorem se_X9_view : (Cond.selects RX9 yX9_view yX9_view : Cond) ∈ tb := tbm 741 rfl rfl
set_option maxRecDepth 100000 in
theorem cd_X9_view : (Cond.code yX9_view cX9_view 1 (some .long) : Cond) ∈ tb := tbm 742 rfl rfl
set_option maxRecDepth 100000 in
theorem ml_L_101 : (Cond.methodLink RL 101 yX9_count : Cond) ∈ tb := tbm 743 rfl rfl
set_option maxRecDepth 100000 in
theorem im_X9_count : (Cond.instanceMethod yX9_count : Cond) ∈ tb := tbm 744 rfl rfl
set_option maxRecDepth 100000 in
theorem se_X9_count : (Cond.selects RX9 yX9_count yX9_count : Cond) ∈ tb := tbm 745 rfl rfl
set_option maxRecDepth 100000 in
theorem cd_X9_count : (Cond.code yX9_count cX9_count 3 (some .int) : Cond) ∈ tb := tbm 746 rfl rfl
set_option maxRecDepth 100000 in
theorem ml_X9_233 : (Cond.methodLink RX9 233 yX9_goThrough : Cond) ∈ tb := tbm 747 rfl rfl
set_option maxRecDepth 100000 in
theorem im_X9_goThrough : (Cond.instanceMethod yX9_goThrough : Cond) ∈ tb := tbm 749 rfl rfl
set_option maxRecDepth 100000 in
theorem cd_X9_goThrough : (Cond.code yX9_goThrough cX9_goThrough 7 none : Cond) ∈ tb := tbm 750 rfl rfl
set_option maxRecDepth 100000 in
theorem co_X9_223 : (Cond.constant RX9 223 70000 : Cond) ∈ tb := tbm 751 rfl rfl
set_option maxRecDepth 100000 in
theorem ml_L_105 : (Cond.methodLink RL 105 yX9_next : Cond) ∈ tb := tbm 752 rfl rfl
set_option maxRecDepth 100000 in
theorem im_X9_next : (Cond.instanceMethod yX9_next : Cond) ∈ tb := tbm 753 rfl rfl
set_option maxRecDepth 100000 in
theorem se_X9_next : (Cond.selects RX9 yX9_next yX9_next : Cond) ∈ tb := tbm 754 rfl rfl
set_option maxRecDepth 100000 in
theorem cd_X9_next : (Cond.code yX9_next cX9_next 2 (some .int) : Cond) ∈ tb := tbm 755 rfl rfl
set_option maxRecDepth 100000 in
theorem ml_L_55 : (Cond.methodLink RL 55 yX9_pass : Cond) ∈ tb := tbm 756 rfl rfl
set_option maxRecDepth 100000 in
theorem im_X9_pass : (Cond.instanceMethod yX9_pass : Cond) ∈ tb := tbm 757 rfl rfl
set_option maxRecDepth 100000 in
theorem se_X9_pass : (Cond.selects RX9 yX9_pass yX9_pass : Cond) ∈ tb := tbm 758 rfl rfl
set_option maxRecDepth 100000 in
theorem cd_X9_pass : (Cond.code yX9_pass cX9_pass 6 (some .int) : Cond) ∈ tb := tbm 759 rfl rfl
set_option maxRecDepth 100000 in
theorem ml_L_109 : (Cond.methodLink RL 109 yX9_told : Cond) ∈ tb := tbm 760 rfl rfl
set_option maxRecDepth 100000 in
theorem im_X9_told : (Cond.instanceMethod yX9_told : Cond) ∈ tb := tbm 761 rfl rfl
set_option maxRecDepth 100000 in
theorem se_X9_told : (Cond.selects RX9 yX9_told yX9_told : Cond) ∈ tb := tbm 762 rfl rfl
set_option maxRecDepth 100000 in
theorem cd_X9_told : (Cond.code yX9_told cX9_told 4 (some .int) : Cond) ∈ tb := tbm 763 rfl rfl
set_option maxRecDepth 100000 in
theorem co_L_13 : (Cond.constantLong RL 13 (4294967295) : Cond) ∈ tb := tbm 764 rfl rfl
set_option maxRecDepth 100000 in
theorem se_X8_wholeOf : (Cond.selects RX8 yX8_wholeOf yX8_wholeOf : Cond) ∈ tb := tbm 0 rfl rfl
set_option maxRecDepth 100000 in
theorem se_X8_tapeBecomes : (Cond.selects RX8 yX8_tapeBecomes yX8_tapeBecomes : Cond) ∈ tb := tbm 1 rfl rfl
set_option maxRecDepth 100000 in
theorem se_X8_appendShown : (Cond.selects RX8 yX8_appendShown yX8_appendShown : Cond) ∈ tb := tbm 2 rfl rfl
set_option maxRecDepth 100000 in
theorem se_X6_readNode : (Cond.selects RX6 yX6_readNode yX6_readNode : Cond) ∈ tb := tbm 3 rfl rfl
set_option maxRecDepth 100000 in
theorem se_X6_lacks : (Cond.selects RX6 yX6_lacks yX6_lacks : Cond) ∈ tb := tbm 4 rfl rfl
set_option maxRecDepth 100000 in
theorem se_X6_refuse : (Cond.selects RX6 yX6_refuse yX6_refuse : Cond) ∈ tb := tbm 5 rfl rfl
set_option maxRecDepth 100000 in
theorem se_X6_number : (Cond.selects RX6 yX6_number yX6_number : Cond) ∈ tb := tbm 6 rfl rfl
set_option maxRecDepth 100000 in
theorem se_X6_readFork : (Cond.selects RX6 yX6_readFork yX6_readFork : Cond) ∈ tb := tbm 7 rfl rfl
set_option maxRecDepth 100000 in
theorem se_X6_readLeaf : (Cond.selects RX6 yX6_readLeaf yX6_readLeaf : Cond) ∈ tb := tbm 8 rfl rfl
set_option maxRecDepth 100000 in
theorem se_X9_find : (Cond.selects RX9 yX9_find yX9_find : Cond) ∈ tb := tbm 9 rfl rfl
set_option maxRecDepth 100000 in
theorem se_X9_baseOf : (Cond.selects RX9 yX9_baseOf yX9_baseOf : Cond) ∈ tb := tbm 10 rfl rfl
set_option maxRecDepth 100000 in
theorem se_X9_sizeOf : (Cond.selects RX9 yX9_sizeOf yX9_sizeOf : Cond) ∈ tb := tbm 11 rfl rfl
set_option maxRecDepth 100000 in
theorem se_X9_digest : (Cond.selects RX9 yX9_digest yX9_digest : Cond) ∈ tb := tbm 12 rfl rfl
set_option maxRecDepth 100000 in
theorem se_X9_rest : (Cond.selects RX9 yX9_rest yX9_rest : Cond) ∈ tb := tbm 13 rfl rfl
set_option maxRecDepth 100000 in
theorem se_X9_isWanted : (Cond.selects RX9 yX9_isWanted yX9_isWanted : Cond) ∈ tb := tbm 14 rfl rfl
set_option maxRecDepth 100000 in
theorem se_X9_lay : (Cond.selects RX9 yX9_lay yX9_lay : Cond) ∈ tb := tbm 15 rfl rfl
set_option maxRecDepth 100000 in
theorem se_X9_laidOut : (Cond.selects RX9 yX9_laidOut yX9_laidOut : Cond) ∈ tb := tbm 16 rfl rfl
set_option maxRecDepth 100000 in
theorem se_X9_taken : (Cond.selects RX9 yX9_taken yX9_taken : Cond) ∈ tb := tbm 17 rfl rfl
set_option maxRecDepth 100000 in
theorem se_X9_numeral : (Cond.selects RX9 yX9_numeral yX9_numeral : Cond) ∈ tb := tbm 18 rfl rfl
set_option maxRecDepth 100000 in
theorem se_X9_sumUp : (Cond.selects RX9 yX9_sumUp yX9_sumUp : Cond) ∈ tb := tbm 19 rfl rfl
set_option maxRecDepth 100000 in
theorem se_X9_way : (Cond.selects RX9 yX9_way yX9_way : Cond) ∈ tb := tbm 20 rfl rfl
set_option maxRecDepth 100000 in
theorem se_X9_isThere : (Cond.selects RX9 yX9_isThere yX9_isThere : Cond) ∈ tb := tbm 21 rfl rfl
set_option maxRecDepth 100000 in
theorem se_X9_fresh : (Cond.selects RX9 yX9_fresh yX9_fresh : Cond) ∈ tb := tbm 22 rfl rfl
set_option maxRecDepth 100000 in
theorem se_X9_stand : (Cond.selects RX9 yX9_stand yX9_stand : Cond) ∈ tb := tbm 23 rfl rfl
set_option maxRecDepth 100000 in
theorem se_X9_goThrough : (Cond.selects RX9 yX9_goThrough yX9_goThrough : Cond) ∈ tb := tbm 24 rfl rfl
theorem iw_X0 : ∀ w ∈ u_ws RX0 TX0 1, w ∈ tb := tbs _ [87] (by decide +kernel) (by decide +kernel)
theorem iw_X1 : ∀ w ∈ u_ws RX1 TX1 5, w ∈ tb := tbs _ [216, 208, 210, 212, 214] (by decide +kernel) (by decide +kernel)
theorem iw_X2 : ∀ w ∈ u_ws RX2 TX2 1, w ∈ tb := tbs _ [374] (by decide +kernel) (by decide +kernel)
theorem iw_X3 : ∀ w ∈ u_ws RX3 TX3 3, w ∈ tb := tbs _ [181, 177, 179] (by decide +kernel) (by decide +kernel)
theorem iw_X5 : ∀ w ∈ u_ws RX5 TX5 3, w ∈ tb := tbs _ [57, 59, 61] (by decide +kernel) (by decide +kernel)
theorem iw_X6 : ∀ w ∈ u_ws RX6 TX6 4, w ∈ tb := tbs _ [337, 339, 341, 343] (by decide +kernel) (by decide +kernel)
theorem iw_X7 : ∀ w ∈ u_ws RX7 TX7 2, w ∈ tb := tbs _ [102, 104] (by decide +kernel) (by decide +kernel)
theorem iw_X8 : ∀ w ∈ u_ws RX8 TX8 9, w ∈ tb := tbs _ [116, 118, 120, 122, 124, 126, 128, 130, 132] (by decide +kernel) (by decide +kernel)
theorem iw_X9 : ∀ w ∈ u_ws RX9 TX9 42, w ∈ tb := tbs _ [494, 496, 498, 500, 502, 504, 506, 508, 510, 512, 514, 516, 518, 520, 522, 524, 526, 528, 530, 532, 534, 536, 538, 540, 542, 544, 546, 548, 550, 552, 554, 556, 558, 560, 562, 564, 566, 568, 570, 572, 574, 576] (by decide +kernel) (by decide +kernel)
theorem hd_X0_init : yX0_init.cls ≠ "java/lang/invoke/MethodHandle" ∧ yX0_init.cls ≠ "java/lang/invoke/VarHandle" ∧ (parseMethodDescriptor yX0_init.desc).map (fun d => d.parameters.length) = some 0 := by decide +kernel
theorem hd_X1_init : yX1_init.cls ≠ "java/lang/invoke/MethodHandle" ∧ yX1_init.cls ≠ "java/lang/invoke/VarHandle" ∧ (parseMethodDescriptor yX1_init.desc).map (fun d => d.parameters.length) = some 4 := by decide +kernel
theorem hd_X1_takesIn : yX1_takesIn.cls ≠ "java/lang/invoke/MethodHandle" ∧ yX1_takesIn.cls ≠ "java/lang/invoke/VarHandle" ∧ (parseMethodDescriptor yX1_takesIn.desc).map (fun d => d.parameters.length) = some 1 := by decide +kernel
theorem hd_X1_middle : yX1_middle.cls ≠ "java/lang/invoke/MethodHandle" ∧ yX1_middle.cls ≠ "java/lang/invoke/VarHandle" ∧ (parseMethodDescriptor yX1_middle.desc).map (fun d => d.parameters.length) = some 0 := by decide +kernel
theorem hd_X1_last : yX1_last.cls ≠ "java/lang/invoke/MethodHandle" ∧ yX1_last.cls ≠ "java/lang/invoke/VarHandle" ∧ (parseMethodDescriptor yX1_last.desc).map (fun d => d.parameters.length) = some 0 := by decide +kernel
theorem hd_X1_toward : yX1_toward.cls ≠ "java/lang/invoke/MethodHandle" ∧ yX1_toward.cls ≠ "java/lang/invoke/VarHandle" ∧ (parseMethodDescriptor yX1_toward.desc).map (fun d => d.parameters.length) = some 1 := by decide +kernel
theorem hd_X1_besides : yX1_besides.cls ≠ "java/lang/invoke/MethodHandle" ∧ yX1_besides.cls ≠ "java/lang/invoke/VarHandle" ∧ (parseMethodDescriptor yX1_besides.desc).map (fun d => d.parameters.length) = some 1 := by decide +kernel
theorem hd_X1_with : yX1_with.cls ≠ "java/lang/invoke/MethodHandle" ∧ yX1_with.cls ≠ "java/lang/invoke/VarHandle" ∧ (parseMethodDescriptor yX1_with.desc).map (fun d => d.parameters.length) = some 2 := by decide +kernel
theorem hd_X2_init : yX2_init.cls ≠ "java/lang/invoke/MethodHandle" ∧ yX2_init.cls ≠ "java/lang/invoke/VarHandle" ∧ (parseMethodDescriptor yX2_init.desc).map (fun d => d.parameters.length) = some 1 := by decide +kernel
theorem hd_X3_init : yX3_init.cls ≠ "java/lang/invoke/MethodHandle" ∧ yX3_init.cls ≠ "java/lang/invoke/VarHandle" ∧ (parseMethodDescriptor yX3_init.desc).map (fun d => d.parameters.length) = some 2 := by decide +kernel
theorem hd_X4_init : yX4_init.cls ≠ "java/lang/invoke/MethodHandle" ∧ yX4_init.cls ≠ "java/lang/invoke/VarHandle" ∧ (parseMethodDescriptor yX4_init.desc).map (fun d => d.parameters.length) = some 1 := by decide +kernel
theorem hd_X5_init : yX5_init.cls ≠ "java/lang/invoke/MethodHandle" ∧ yX5_init.cls ≠ "java/lang/invoke/VarHandle" ∧ (parseMethodDescriptor yX5_init.desc).map (fun d => d.parameters.length) = some 0 := by decide +kernel
theorem hd_X5_add : yX5_add.cls ≠ "java/lang/invoke/MethodHandle" ∧ yX5_add.cls ≠ "java/lang/invoke/VarHandle" ∧ (parseMethodDescriptor yX5_add.desc).map (fun d => d.parameters.length) = some 2 := by decide +kernel
theorem hd_X5_meet : yX5_meet.cls ≠ "java/lang/invoke/MethodHandle" ∧ yX5_meet.cls ≠ "java/lang/invoke/VarHandle" ∧ (parseMethodDescriptor yX5_meet.desc).map (fun d => d.parameters.length) = some 2 := by decide +kernel
theorem hd_X6_init : yX6_init.cls ≠ "java/lang/invoke/MethodHandle" ∧ yX6_init.cls ≠ "java/lang/invoke/VarHandle" ∧ (parseMethodDescriptor yX6_init.desc).map (fun d => d.parameters.length) = some 1 := by decide +kernel
theorem hd_X6_wholeWith : yX6_wholeWith.cls ≠ "java/lang/invoke/MethodHandle" ∧ yX6_wholeWith.cls ≠ "java/lang/invoke/VarHandle" ∧ (parseMethodDescriptor yX6_wholeWith.desc).map (fun d => d.parameters.length) = some 1 := by decide +kernel
theorem hd_X6_readNode : yX6_readNode.cls ≠ "java/lang/invoke/MethodHandle" ∧ yX6_readNode.cls ≠ "java/lang/invoke/VarHandle" ∧ (parseMethodDescriptor yX6_readNode.desc).map (fun d => d.parameters.length) = some 3 := by decide +kernel
theorem hd_X6_readLeaf : yX6_readLeaf.cls ≠ "java/lang/invoke/MethodHandle" ∧ yX6_readLeaf.cls ≠ "java/lang/invoke/VarHandle" ∧ (parseMethodDescriptor yX6_readLeaf.desc).map (fun d => d.parameters.length) = some 2 := by decide +kernel
theorem hd_X6_readFork : yX6_readFork.cls ≠ "java/lang/invoke/MethodHandle" ∧ yX6_readFork.cls ≠ "java/lang/invoke/VarHandle" ∧ (parseMethodDescriptor yX6_readFork.desc).map (fun d => d.parameters.length) = some 3 := by decide +kernel
theorem hd_X6_lacks : yX6_lacks.cls ≠ "java/lang/invoke/MethodHandle" ∧ yX6_lacks.cls ≠ "java/lang/invoke/VarHandle" ∧ (parseMethodDescriptor yX6_lacks.desc).map (fun d => d.parameters.length) = some 1 := by decide +kernel
theorem hd_X6_number : yX6_number.cls ≠ "java/lang/invoke/MethodHandle" ∧ yX6_number.cls ≠ "java/lang/invoke/VarHandle" ∧ (parseMethodDescriptor yX6_number.desc).map (fun d => d.parameters.length) = some 1 := by decide +kernel
theorem hd_X6_refuse : yX6_refuse.cls ≠ "java/lang/invoke/MethodHandle" ∧ yX6_refuse.cls ≠ "java/lang/invoke/VarHandle" ∧ (parseMethodDescriptor yX6_refuse.desc).map (fun d => d.parameters.length) = some 2 := by decide +kernel
theorem hd_X7_init : yX7_init.cls ≠ "java/lang/invoke/MethodHandle" ∧ yX7_init.cls ≠ "java/lang/invoke/VarHandle" ∧ (parseMethodDescriptor yX7_init.desc).map (fun d => d.parameters.length) = some 0 := by decide +kernel
theorem hd_X7_has : yX7_has.cls ≠ "java/lang/invoke/MethodHandle" ∧ yX7_has.cls ≠ "java/lang/invoke/VarHandle" ∧ (parseMethodDescriptor yX7_has.desc).map (fun d => d.parameters.length) = some 1 := by decide +kernel
theorem hd_X7_append : yX7_append.cls ≠ "java/lang/invoke/MethodHandle" ∧ yX7_append.cls ≠ "java/lang/invoke/VarHandle" ∧ (parseMethodDescriptor yX7_append.desc).map (fun d => d.parameters.length) = some 2 := by decide +kernel
theorem hd_X8_init : yX8_init.cls ≠ "java/lang/invoke/MethodHandle" ∧ yX8_init.cls ≠ "java/lang/invoke/VarHandle" ∧ (parseMethodDescriptor yX8_init.desc).map (fun d => d.parameters.length) = some 0 := by decide +kernel
theorem hd_X8_put : yX8_put.cls ≠ "java/lang/invoke/MethodHandle" ∧ yX8_put.cls ≠ "java/lang/invoke/VarHandle" ∧ (parseMethodDescriptor yX8_put.desc).map (fun d => d.parameters.length) = some 2 := by decide +kernel
theorem hd_X8_remove : yX8_remove.cls ≠ "java/lang/invoke/MethodHandle" ∧ yX8_remove.cls ≠ "java/lang/invoke/VarHandle" ∧ (parseMethodDescriptor yX8_remove.desc).map (fun d => d.parameters.length) = some 1 := by decide +kernel
theorem hd_X8_keep : yX8_keep.cls ≠ "java/lang/invoke/MethodHandle" ∧ yX8_keep.cls ≠ "java/lang/invoke/VarHandle" ∧ (parseMethodDescriptor yX8_keep.desc).map (fun d => d.parameters.length) = some 0 := by decide +kernel
theorem hd_X8_root : yX8_root.cls ≠ "java/lang/invoke/MethodHandle" ∧ yX8_root.cls ≠ "java/lang/invoke/VarHandle" ∧ (parseMethodDescriptor yX8_root.desc).map (fun d => d.parameters.length) = some 1 := by decide +kernel
theorem hd_X8_leaves : yX8_leaves.cls ≠ "java/lang/invoke/MethodHandle" ∧ yX8_leaves.cls ≠ "java/lang/invoke/VarHandle" ∧ (parseMethodDescriptor yX8_leaves.desc).map (fun d => d.parameters.length) = some 1 := by decide +kernel
theorem hd_X8_want : yX8_want.cls ≠ "java/lang/invoke/MethodHandle" ∧ yX8_want.cls ≠ "java/lang/invoke/VarHandle" ∧ (parseMethodDescriptor yX8_want.desc).map (fun d => d.parameters.length) = some 2 := by decide +kernel
theorem hd_X8_forget : yX8_forget.cls ≠ "java/lang/invoke/MethodHandle" ∧ yX8_forget.cls ≠ "java/lang/invoke/VarHandle" ∧ (parseMethodDescriptor yX8_forget.desc).map (fun d => d.parameters.length) = some 0 := by decide +kernel
theorem hd_X8_show : yX8_show.cls ≠ "java/lang/invoke/MethodHandle" ∧ yX8_show.cls ≠ "java/lang/invoke/VarHandle" ∧ (parseMethodDescriptor yX8_show.desc).map (fun d => d.parameters.length) = some 1 := by decide +kernel
theorem hd_X8_pass : yX8_pass.cls ≠ "java/lang/invoke/MethodHandle" ∧ yX8_pass.cls ≠ "java/lang/invoke/VarHandle" ∧ (parseMethodDescriptor yX8_pass.desc).map (fun d => d.parameters.length) = some 0 := by decide +kernel
theorem hd_X8_feed : yX8_feed.cls ≠ "java/lang/invoke/MethodHandle" ∧ yX8_feed.cls ≠ "java/lang/invoke/VarHandle" ∧ (parseMethodDescriptor yX8_feed.desc).map (fun d => d.parameters.length) = some 2 := by decide +kernel
theorem hd_X8_cut : yX8_cut.cls ≠ "java/lang/invoke/MethodHandle" ∧ yX8_cut.cls ≠ "java/lang/invoke/VarHandle" ∧ (parseMethodDescriptor yX8_cut.desc).map (fun d => d.parameters.length) = some 1 := by decide +kernel
theorem hd_X8_spoil : yX8_spoil.cls ≠ "java/lang/invoke/MethodHandle" ∧ yX8_spoil.cls ≠ "java/lang/invoke/VarHandle" ∧ (parseMethodDescriptor yX8_spoil.desc).map (fun d => d.parameters.length) = some 2 := by decide +kernel
theorem hd_X8_take : yX8_take.cls ≠ "java/lang/invoke/MethodHandle" ∧ yX8_take.cls ≠ "java/lang/invoke/VarHandle" ∧ (parseMethodDescriptor yX8_take.desc).map (fun d => d.parameters.length) = some 1 := by decide +kernel
theorem hd_X8_place : yX8_place.cls ≠ "java/lang/invoke/MethodHandle" ∧ yX8_place.cls ≠ "java/lang/invoke/VarHandle" ∧ (parseMethodDescriptor yX8_place.desc).map (fun d => d.parameters.length) = some 0 := by decide +kernel
theorem hd_X8_get : yX8_get.cls ≠ "java/lang/invoke/MethodHandle" ∧ yX8_get.cls ≠ "java/lang/invoke/VarHandle" ∧ (parseMethodDescriptor yX8_get.desc).map (fun d => d.parameters.length) = some 1 := by decide +kernel
theorem hd_X8_value : yX8_value.cls ≠ "java/lang/invoke/MethodHandle" ∧ yX8_value.cls ≠ "java/lang/invoke/VarHandle" ∧ (parseMethodDescriptor yX8_value.desc).map (fun d => d.parameters.length) = some 0 := by decide +kernel
theorem hd_X8_write : yX8_write.cls ≠ "java/lang/invoke/MethodHandle" ∧ yX8_write.cls ≠ "java/lang/invoke/VarHandle" ∧ (parseMethodDescriptor yX8_write.desc).map (fun d => d.parameters.length) = some 2 := by decide +kernel
theorem hd_X8_erase : yX8_erase.cls ≠ "java/lang/invoke/MethodHandle" ∧ yX8_erase.cls ≠ "java/lang/invoke/VarHandle" ∧ (parseMethodDescriptor yX8_erase.desc).map (fun d => d.parameters.length) = some 1 := by decide +kernel
theorem hd_X8_view : yX8_view.cls ≠ "java/lang/invoke/MethodHandle" ∧ yX8_view.cls ≠ "java/lang/invoke/VarHandle" ∧ (parseMethodDescriptor yX8_view.desc).map (fun d => d.parameters.length) = some 0 := by decide +kernel
theorem hd_X8_count : yX8_count.cls ≠ "java/lang/invoke/MethodHandle" ∧ yX8_count.cls ≠ "java/lang/invoke/VarHandle" ∧ (parseMethodDescriptor yX8_count.desc).map (fun d => d.parameters.length) = some 2 := by decide +kernel
theorem hd_X8_next : yX8_next.cls ≠ "java/lang/invoke/MethodHandle" ∧ yX8_next.cls ≠ "java/lang/invoke/VarHandle" ∧ (parseMethodDescriptor yX8_next.desc).map (fun d => d.parameters.length) = some 1 := by decide +kernel
theorem hd_X8_told : yX8_told.cls ≠ "java/lang/invoke/MethodHandle" ∧ yX8_told.cls ≠ "java/lang/invoke/VarHandle" ∧ (parseMethodDescriptor yX8_told.desc).map (fun d => d.parameters.length) = some 1 := by decide +kernel
theorem hd_X8_octet : yX8_octet.cls ≠ "java/lang/invoke/MethodHandle" ∧ yX8_octet.cls ≠ "java/lang/invoke/VarHandle" ∧ (parseMethodDescriptor yX8_octet.desc).map (fun d => d.parameters.length) = some 1 := by decide +kernel
theorem hd_X8_isPath : yX8_isPath.cls ≠ "java/lang/invoke/MethodHandle" ∧ yX8_isPath.cls ≠ "java/lang/invoke/VarHandle" ∧ (parseMethodDescriptor yX8_isPath.desc).map (fun d => d.parameters.length) = some 1 := by decide +kernel
theorem hd_X8_isRange : yX8_isRange.cls ≠ "java/lang/invoke/MethodHandle" ∧ yX8_isRange.cls ≠ "java/lang/invoke/VarHandle" ∧ (parseMethodDescriptor yX8_isRange.desc).map (fun d => d.parameters.length) = some 2 := by decide +kernel
theorem hd_X8_isHigh : yX8_isHigh.cls ≠ "java/lang/invoke/MethodHandle" ∧ yX8_isHigh.cls ≠ "java/lang/invoke/VarHandle" ∧ (parseMethodDescriptor yX8_isHigh.desc).map (fun d => d.parameters.length) = some 2 := by decide +kernel
theorem hd_X8_stemOf : yX8_stemOf.cls ≠ "java/lang/invoke/MethodHandle" ∧ yX8_stemOf.cls ≠ "java/lang/invoke/VarHandle" ∧ (parseMethodDescriptor yX8_stemOf.desc).map (fun d => d.parameters.length) = some 2 := by decide +kernel
theorem hd_X8_firstOtherBit : yX8_firstOtherBit.cls ≠ "java/lang/invoke/MethodHandle" ∧ yX8_firstOtherBit.cls ≠ "java/lang/invoke/VarHandle" ∧ (parseMethodDescriptor yX8_firstOtherBit.desc).map (fun d => d.parameters.length) = some 2 := by decide +kernel
theorem hd_X8_mix : yX8_mix.cls ≠ "java/lang/invoke/MethodHandle" ∧ yX8_mix.cls ≠ "java/lang/invoke/VarHandle" ∧ (parseMethodDescriptor yX8_mix.desc).map (fun d => d.parameters.length) = some 2 := by decide +kernel
theorem hd_X8_emptyDigest : yX8_emptyDigest.cls ≠ "java/lang/invoke/MethodHandle" ∧ yX8_emptyDigest.cls ≠ "java/lang/invoke/VarHandle" ∧ (parseMethodDescriptor yX8_emptyDigest.desc).map (fun d => d.parameters.length) = some 0 := by decide +kernel
theorem hd_X8_leafDigest : yX8_leafDigest.cls ≠ "java/lang/invoke/MethodHandle" ∧ yX8_leafDigest.cls ≠ "java/lang/invoke/VarHandle" ∧ (parseMethodDescriptor yX8_leafDigest.desc).map (fun d => d.parameters.length) = some 2 := by decide +kernel
theorem hd_X8_forkDigest : yX8_forkDigest.cls ≠ "java/lang/invoke/MethodHandle" ∧ yX8_forkDigest.cls ≠ "java/lang/invoke/VarHandle" ∧ (parseMethodDescriptor yX8_forkDigest.desc).map (fun d => d.parameters.length) = some 4 := by decide +kernel
theorem hd_X8_wholeOf : yX8_wholeOf.cls ≠ "java/lang/invoke/MethodHandle" ∧ yX8_wholeOf.cls ≠ "java/lang/invoke/VarHandle" ∧ (parseMethodDescriptor yX8_wholeOf.desc).map (fun d => d.parameters.length) = some 1 := by decide +kernel
theorem hd_X8_endOfWay : yX8_endOfWay.cls ≠ "java/lang/invoke/MethodHandle" ∧ yX8_endOfWay.cls ≠ "java/lang/invoke/VarHandle" ∧ (parseMethodDescriptor yX8_endOfWay.desc).map (fun d => d.parameters.length) = some 2 := by decide +kernel
theorem hd_X8_isLeafOf : yX8_isLeafOf.cls ≠ "java/lang/invoke/MethodHandle" ∧ yX8_isLeafOf.cls ≠ "java/lang/invoke/VarHandle" ∧ (parseMethodDescriptor yX8_isLeafOf.desc).map (fun d => d.parameters.length) = some 2 := by decide +kernel
theorem hd_X8_written : yX8_written.cls ≠ "java/lang/invoke/MethodHandle" ∧ yX8_written.cls ≠ "java/lang/invoke/VarHandle" ∧ (parseMethodDescriptor yX8_written.desc).map (fun d => d.parameters.length) = some 3 := by decide +kernel
theorem hd_X8_forkOf : yX8_forkOf.cls ≠ "java/lang/invoke/MethodHandle" ∧ yX8_forkOf.cls ≠ "java/lang/invoke/VarHandle" ∧ (parseMethodDescriptor yX8_forkOf.desc).map (fun d => d.parameters.length) = some 3 := by decide +kernel
theorem hd_X8_erased : yX8_erased.cls ≠ "java/lang/invoke/MethodHandle" ∧ yX8_erased.cls ≠ "java/lang/invoke/VarHandle" ∧ (parseMethodDescriptor yX8_erased.desc).map (fun d => d.parameters.length) = some 3 := by decide +kernel
theorem hd_X8_leavesWithin : yX8_leavesWithin.cls ≠ "java/lang/invoke/MethodHandle" ∧ yX8_leavesWithin.cls ≠ "java/lang/invoke/VarHandle" ∧ (parseMethodDescriptor yX8_leavesWithin.desc).map (fun d => d.parameters.length) = some 4 := by decide +kernel
theorem hd_X8_nodesOf : yX8_nodesOf.cls ≠ "java/lang/invoke/MethodHandle" ∧ yX8_nodesOf.cls ≠ "java/lang/invoke/VarHandle" ∧ (parseMethodDescriptor yX8_nodesOf.desc).map (fun d => d.parameters.length) = some 2 := by decide +kernel
theorem hd_X8_mostForks : yX8_mostForks.cls ≠ "java/lang/invoke/MethodHandle" ∧ yX8_mostForks.cls ≠ "java/lang/invoke/VarHandle" ∧ (parseMethodDescriptor yX8_mostForks.desc).map (fun d => d.parameters.length) = some 2 := by decide +kernel
theorem hd_X8_hiddenOver : yX8_hiddenOver.cls ≠ "java/lang/invoke/MethodHandle" ∧ yX8_hiddenOver.cls ≠ "java/lang/invoke/VarHandle" ∧ (parseMethodDescriptor yX8_hiddenOver.desc).map (fun d => d.parameters.length) = some 6 := by decide +kernel
theorem hd_X8_leastFrom : yX8_leastFrom.cls ≠ "java/lang/invoke/MethodHandle" ∧ yX8_leastFrom.cls ≠ "java/lang/invoke/VarHandle" ∧ (parseMethodDescriptor yX8_leastFrom.desc).map (fun d => d.parameters.length) = some 4 := by decide +kernel
theorem hd_X8_tapeBecomes : yX8_tapeBecomes.cls ≠ "java/lang/invoke/MethodHandle" ∧ yX8_tapeBecomes.cls ≠ "java/lang/invoke/VarHandle" ∧ (parseMethodDescriptor yX8_tapeBecomes.desc).map (fun d => d.parameters.length) = some 1 := by decide +kernel
theorem hd_X8_appendShown : yX8_appendShown.cls ≠ "java/lang/invoke/MethodHandle" ∧ yX8_appendShown.cls ≠ "java/lang/invoke/VarHandle" ∧ (parseMethodDescriptor yX8_appendShown.desc).map (fun d => d.parameters.length) = some 4 := by decide +kernel
theorem hd_X9_init : yX9_init.cls ≠ "java/lang/invoke/MethodHandle" ∧ yX9_init.cls ≠ "java/lang/invoke/VarHandle" ∧ (parseMethodDescriptor yX9_init.desc).map (fun d => d.parameters.length) = some 0 := by decide +kernel
theorem hd_X9_isPath : yX9_isPath.cls ≠ "java/lang/invoke/MethodHandle" ∧ yX9_isPath.cls ≠ "java/lang/invoke/VarHandle" ∧ (parseMethodDescriptor yX9_isPath.desc).map (fun d => d.parameters.length) = some 1 := by decide +kernel
theorem hd_X9_firstBit : yX9_firstBit.cls ≠ "java/lang/invoke/MethodHandle" ∧ yX9_firstBit.cls ≠ "java/lang/invoke/VarHandle" ∧ (parseMethodDescriptor yX9_firstBit.desc).map (fun d => d.parameters.length) = some 2 := by decide +kernel
theorem hd_X9_stemOf : yX9_stemOf.cls ≠ "java/lang/invoke/MethodHandle" ∧ yX9_stemOf.cls ≠ "java/lang/invoke/VarHandle" ∧ (parseMethodDescriptor yX9_stemOf.desc).map (fun d => d.parameters.length) = some 2 := by decide +kernel
theorem hd_X9_mix : yX9_mix.cls ≠ "java/lang/invoke/MethodHandle" ∧ yX9_mix.cls ≠ "java/lang/invoke/VarHandle" ∧ (parseMethodDescriptor yX9_mix.desc).map (fun d => d.parameters.length) = some 2 := by decide +kernel
theorem hd_X9_leafDigest : yX9_leafDigest.cls ≠ "java/lang/invoke/MethodHandle" ∧ yX9_leafDigest.cls ≠ "java/lang/invoke/VarHandle" ∧ (parseMethodDescriptor yX9_leafDigest.desc).map (fun d => d.parameters.length) = some 2 := by decide +kernel
theorem hd_X9_forkDigest : yX9_forkDigest.cls ≠ "java/lang/invoke/MethodHandle" ∧ yX9_forkDigest.cls ≠ "java/lang/invoke/VarHandle" ∧ (parseMethodDescriptor yX9_forkDigest.desc).map (fun d => d.parameters.length) = some 4 := by decide +kernel
theorem hd_X9_baseOf : yX9_baseOf.cls ≠ "java/lang/invoke/MethodHandle" ∧ yX9_baseOf.cls ≠ "java/lang/invoke/VarHandle" ∧ (parseMethodDescriptor yX9_baseOf.desc).map (fun d => d.parameters.length) = some 1 := by decide +kernel
theorem hd_X9_sizeOf : yX9_sizeOf.cls ≠ "java/lang/invoke/MethodHandle" ∧ yX9_sizeOf.cls ≠ "java/lang/invoke/VarHandle" ∧ (parseMethodDescriptor yX9_sizeOf.desc).map (fun d => d.parameters.length) = some 1 := by decide +kernel
theorem hd_X9_find : yX9_find.cls ≠ "java/lang/invoke/MethodHandle" ∧ yX9_find.cls ≠ "java/lang/invoke/VarHandle" ∧ (parseMethodDescriptor yX9_find.desc).map (fun d => d.parameters.length) = some 1 := by decide +kernel
theorem hd_X9_put : yX9_put.cls ≠ "java/lang/invoke/MethodHandle" ∧ yX9_put.cls ≠ "java/lang/invoke/VarHandle" ∧ (parseMethodDescriptor yX9_put.desc).map (fun d => d.parameters.length) = some 2 := by decide +kernel
theorem hd_X9_remove : yX9_remove.cls ≠ "java/lang/invoke/MethodHandle" ∧ yX9_remove.cls ≠ "java/lang/invoke/VarHandle" ∧ (parseMethodDescriptor yX9_remove.desc).map (fun d => d.parameters.length) = some 1 := by decide +kernel
theorem hd_X9_keep : yX9_keep.cls ≠ "java/lang/invoke/MethodHandle" ∧ yX9_keep.cls ≠ "java/lang/invoke/VarHandle" ∧ (parseMethodDescriptor yX9_keep.desc).map (fun d => d.parameters.length) = some 0 := by decide +kernel
theorem hd_X9_digest : yX9_digest.cls ≠ "java/lang/invoke/MethodHandle" ∧ yX9_digest.cls ≠ "java/lang/invoke/VarHandle" ∧ (parseMethodDescriptor yX9_digest.desc).map (fun d => d.parameters.length) = some 2 := by decide +kernel
theorem hd_X9_root : yX9_root.cls ≠ "java/lang/invoke/MethodHandle" ∧ yX9_root.cls ≠ "java/lang/invoke/VarHandle" ∧ (parseMethodDescriptor yX9_root.desc).map (fun d => d.parameters.length) = some 1 := by decide +kernel
theorem hd_X9_leaves : yX9_leaves.cls ≠ "java/lang/invoke/MethodHandle" ∧ yX9_leaves.cls ≠ "java/lang/invoke/VarHandle" ∧ (parseMethodDescriptor yX9_leaves.desc).map (fun d => d.parameters.length) = some 1 := by decide +kernel
theorem hd_X9_want : yX9_want.cls ≠ "java/lang/invoke/MethodHandle" ∧ yX9_want.cls ≠ "java/lang/invoke/VarHandle" ∧ (parseMethodDescriptor yX9_want.desc).map (fun d => d.parameters.length) = some 2 := by decide +kernel
theorem hd_X9_forget : yX9_forget.cls ≠ "java/lang/invoke/MethodHandle" ∧ yX9_forget.cls ≠ "java/lang/invoke/VarHandle" ∧ (parseMethodDescriptor yX9_forget.desc).map (fun d => d.parameters.length) = some 0 := by decide +kernel
theorem hd_X9_isWanted : yX9_isWanted.cls ≠ "java/lang/invoke/MethodHandle" ∧ yX9_isWanted.cls ≠ "java/lang/invoke/VarHandle" ∧ (parseMethodDescriptor yX9_isWanted.desc).map (fun d => d.parameters.length) = some 2 := by decide +kernel
theorem hd_X9_lay : yX9_lay.cls ≠ "java/lang/invoke/MethodHandle" ∧ yX9_lay.cls ≠ "java/lang/invoke/VarHandle" ∧ (parseMethodDescriptor yX9_lay.desc).map (fun d => d.parameters.length) = some 2 := by decide +kernel
theorem hd_X9_laidOut : yX9_laidOut.cls ≠ "java/lang/invoke/MethodHandle" ∧ yX9_laidOut.cls ≠ "java/lang/invoke/VarHandle" ∧ (parseMethodDescriptor yX9_laidOut.desc).map (fun d => d.parameters.length) = some 0 := by decide +kernel
theorem hd_X9_rest : yX9_rest.cls ≠ "java/lang/invoke/MethodHandle" ∧ yX9_rest.cls ≠ "java/lang/invoke/VarHandle" ∧ (parseMethodDescriptor yX9_rest.desc).map (fun d => d.parameters.length) = some 4 := by decide +kernel
theorem hd_X9_show : yX9_show.cls ≠ "java/lang/invoke/MethodHandle" ∧ yX9_show.cls ≠ "java/lang/invoke/VarHandle" ∧ (parseMethodDescriptor yX9_show.desc).map (fun d => d.parameters.length) = some 1 := by decide +kernel
theorem hd_X9_feed : yX9_feed.cls ≠ "java/lang/invoke/MethodHandle" ∧ yX9_feed.cls ≠ "java/lang/invoke/VarHandle" ∧ (parseMethodDescriptor yX9_feed.desc).map (fun d => d.parameters.length) = some 2 := by decide +kernel
theorem hd_X9_cut : yX9_cut.cls ≠ "java/lang/invoke/MethodHandle" ∧ yX9_cut.cls ≠ "java/lang/invoke/VarHandle" ∧ (parseMethodDescriptor yX9_cut.desc).map (fun d => d.parameters.length) = some 1 := by decide +kernel
theorem hd_X9_spoil : yX9_spoil.cls ≠ "java/lang/invoke/MethodHandle" ∧ yX9_spoil.cls ≠ "java/lang/invoke/VarHandle" ∧ (parseMethodDescriptor yX9_spoil.desc).map (fun d => d.parameters.length) = some 2 := by decide +kernel
theorem hd_X9_octet : yX9_octet.cls ≠ "java/lang/invoke/MethodHandle" ∧ yX9_octet.cls ≠ "java/lang/invoke/VarHandle" ∧ (parseMethodDescriptor yX9_octet.desc).map (fun d => d.parameters.length) = some 1 := by decide +kernel
theorem hd_X9_numeral : yX9_numeral.cls ≠ "java/lang/invoke/MethodHandle" ∧ yX9_numeral.cls ≠ "java/lang/invoke/VarHandle" ∧ (parseMethodDescriptor yX9_numeral.desc).map (fun d => d.parameters.length) = some 1 := by decide +kernel
theorem hd_X9_sumUp : yX9_sumUp.cls ≠ "java/lang/invoke/MethodHandle" ∧ yX9_sumUp.cls ≠ "java/lang/invoke/VarHandle" ∧ (parseMethodDescriptor yX9_sumUp.desc).map (fun d => d.parameters.length) = some 1 := by decide +kernel
theorem hd_X9_taken : yX9_taken.cls ≠ "java/lang/invoke/MethodHandle" ∧ yX9_taken.cls ≠ "java/lang/invoke/VarHandle" ∧ (parseMethodDescriptor yX9_taken.desc).map (fun d => d.parameters.length) = some 4 := by decide +kernel
theorem hd_X9_take : yX9_take.cls ≠ "java/lang/invoke/MethodHandle" ∧ yX9_take.cls ≠ "java/lang/invoke/VarHandle" ∧ (parseMethodDescriptor yX9_take.desc).map (fun d => d.parameters.length) = some 1 := by decide +kernel
theorem hd_X9_place : yX9_place.cls ≠ "java/lang/invoke/MethodHandle" ∧ yX9_place.cls ≠ "java/lang/invoke/VarHandle" ∧ (parseMethodDescriptor yX9_place.desc).map (fun d => d.parameters.length) = some 0 := by decide +kernel
theorem hd_X9_takesIn : yX9_takesIn.cls ≠ "java/lang/invoke/MethodHandle" ∧ yX9_takesIn.cls ≠ "java/lang/invoke/VarHandle" ∧ (parseMethodDescriptor yX9_takesIn.desc).map (fun d => d.parameters.length) = some 3 := by decide +kernel
theorem hd_X9_way : yX9_way.cls ≠ "java/lang/invoke/MethodHandle" ∧ yX9_way.cls ≠ "java/lang/invoke/VarHandle" ∧ (parseMethodDescriptor yX9_way.desc).map (fun d => d.parameters.length) = some 1 := by decide +kernel
theorem hd_X9_isThere : yX9_isThere.cls ≠ "java/lang/invoke/MethodHandle" ∧ yX9_isThere.cls ≠ "java/lang/invoke/VarHandle" ∧ (parseMethodDescriptor yX9_isThere.desc).map (fun d => d.parameters.length) = some 1 := by decide +kernel
theorem hd_X9_get : yX9_get.cls ≠ "java/lang/invoke/MethodHandle" ∧ yX9_get.cls ≠ "java/lang/invoke/VarHandle" ∧ (parseMethodDescriptor yX9_get.desc).map (fun d => d.parameters.length) = some 1 := by decide +kernel
theorem hd_X9_value : yX9_value.cls ≠ "java/lang/invoke/MethodHandle" ∧ yX9_value.cls ≠ "java/lang/invoke/VarHandle" ∧ (parseMethodDescriptor yX9_value.desc).map (fun d => d.parameters.length) = some 0 := by decide +kernel
theorem hd_X9_fresh : yX9_fresh.cls ≠ "java/lang/invoke/MethodHandle" ∧ yX9_fresh.cls ≠ "java/lang/invoke/VarHandle" ∧ (parseMethodDescriptor yX9_fresh.desc).map (fun d => d.parameters.length) = some 0 := by decide +kernel
theorem hd_X9_stand : yX9_stand.cls ≠ "java/lang/invoke/MethodHandle" ∧ yX9_stand.cls ≠ "java/lang/invoke/VarHandle" ∧ (parseMethodDescriptor yX9_stand.desc).map (fun d => d.parameters.length) = some 3 := by decide +kernel
theorem hd_X9_write : yX9_write.cls ≠ "java/lang/invoke/MethodHandle" ∧ yX9_write.cls ≠ "java/lang/invoke/VarHandle" ∧ (parseMethodDescriptor yX9_write.desc).map (fun d => d.parameters.length) = some 2 := by decide +kernel
theorem hd_X9_erase : yX9_erase.cls ≠ "java/lang/invoke/MethodHandle" ∧ yX9_erase.cls ≠ "java/lang/invoke/VarHandle" ∧ (parseMethodDescriptor yX9_erase.desc).map (fun d => d.parameters.length) = some 1 := by decide +kernel
theorem hd_X9_view : yX9_view.cls ≠ "java/lang/invoke/MethodHandle" ∧ yX9_view.cls ≠ "java/lang/invoke/VarHandle" ∧ (parseMethodDescriptor yX9_view.desc).map (fun d => d.parameters.length) = some 0 := by decide +kernel
theorem hd_X9_goThrough : yX9_goThrough.cls ≠ "java/lang/invoke/MethodHandle" ∧ yX9_goThrough.cls ≠ "java/lang/invoke/VarHandle" ∧ (parseMethodDescriptor yX9_goThrough.desc).map (fun d => d.parameters.length) = some 2 := by decide +kernel
theorem hd_X9_count : yX9_count.cls ≠ "java/lang/invoke/MethodHandle" ∧ yX9_count.cls ≠ "java/lang/invoke/VarHandle" ∧ (parseMethodDescriptor yX9_count.desc).map (fun d => d.parameters.length) = some 2 := by decide +kernel
theorem hd_X9_next : yX9_next.cls ≠ "java/lang/invoke/MethodHandle" ∧ yX9_next.cls ≠ "java/lang/invoke/VarHandle" ∧ (parseMethodDescriptor yX9_next.desc).map (fun d => d.parameters.length) = some 1 := by decide +kernel
theorem hd_X9_pass : yX9_pass.cls ≠ "java/lang/invoke/MethodHandle" ∧ yX9_pass.cls ≠ "java/lang/invoke/VarHandle" ∧ (parseMethodDescriptor yX9_pass.desc).map (fun d => d.parameters.length) = some 0 := by decide +kernel
theorem hd_X9_told : yX9_told.cls ≠ "java/lang/invoke/MethodHandle" ∧ yX9_told.cls ≠ "java/lang/invoke/VarHandle" ∧ (parseMethodDescriptor yX9_told.desc).map (fun d => d.parameters.length) = some 1 := by decide +kernel
theorem hd_J9_max_7cf53 : yJ9_max_7cf53.cls ≠ "java/lang/invoke/MethodHandle" ∧ yJ9_max_7cf53.cls ≠ "java/lang/invoke/VarHandle" ∧ (parseMethodDescriptor yJ9_max_7cf53.desc).map (fun d => d.parameters.length) = some 2 := by decide +kernel
end
section
/-! the walk in blocks: an evaluator of straight stretches over named cells ('tags'), and its soundness -/
abbrev AS : Type := List (Nat × Value) × List Value × List va_E
abbrev Ent : Type := Nat × Instr × Value × Nat × Nat
abbrev e0 (q : Nat) (i : Instr) : Ent := (q, i, .null, 0, 0)
abbrev ec (q : Nat) (i : Instr) (w : Value) : Ent := (q, i, w, 0, 0)
abbrev ef (q : Nat) (i : Instr) (w : Value) (a b : Nat) : Ent := (q, i, w, a, b)
def nth {α : Type} : List α → Nat → Option α
  | [], _ => none
  | x :: _, 0 => some x
  | _ :: r, k + 1 => nth r k
theorem nth_eq {α : Type} (l : List α) : ∀ k : Nat, nth l k = l[k]? := by
  induction l with
  | nil => intro k; simp [nth]
  | cons x r ih =>
    intro k
    cases k with
    | zero => simp [nth]
    | succ k => simp [nth, ih k]
def setl {α : Type} : List α → Nat → α → Option (List α)
  | [], _, _ => none
  | _ :: r, 0, v => some (v :: r)
  | x :: r, k + 1, v => match setl r k v with
    | some r2 => some (x :: r2)
    | none => none
theorem setl_eq {α : Type} (v : α) : ∀ (l : List α) (k : Nat) (l2 : List α), setl l k v = some l2 → l2 = l.set k v ∧ k < l.length := by
  intro l
  induction l with
  | nil => intro k l2 h; cases h
  | cons x r ih =>
    intro k l2 h
    cases k with
    | zero => cases h; exact ⟨rfl, by simp⟩
    | succ k =>
      simp only [setl] at h
      split at h
      next r2 hr =>
        obtain ⟨h1, h2⟩ := ih k r2 hr
        cases h
        exact ⟨by rw [h1]; rfl, by simp; exact h2⟩
      next => cases h
def c2 : Value → Bool
  | .long _ => true
  | .double _ => true
  | _ => false
theorem c2_eq (v : Value) : c2 v = (v.category == 2) := by cases v <;> rfl
def fnd : List (Nat × Value) → Nat → Option Value
  | [], _ => none
  | q :: r, i => match Nat.beq q.1 i with
    | true => some q.2
    | false => fnd r i
theorem fnd_mem {v : Value} {i : Nat} : ∀ (l : List (Nat × Value)), fnd l i = some v → (i, v) ∈ l := by
  intro l
  induction l with
  | nil => intro h; cases h
  | cons q r ih =>
    intro h
    simp only [fnd] at h
    split at h
    next hb =>
      cases h
      have := Nat.eq_of_beq_eq_true hb
      subst this
      exact List.mem_cons_self
    next => exact List.mem_cons_of_mem _ (ih h)
def dl1 (i : Nat) : List (Nat × Value) → Option (List (Nat × Value))
  | [] => some []
  | q :: r => match dl1 i r with
    | none => none
    | some r2 => match (Nat.beq q.1 i || (Nat.beq (q.1 + 1) i && c2 q.2)) with
      | true => some r2
      | false => some (q :: r2)
def dl2 (i : Nat) : List (Nat × Value) → Option (List (Nat × Value))
  | [] => some []
  | q :: r => match dl2 i r with
    | none => none
    | some r2 => match (Nat.beq q.1 i || (Nat.beq q.1 (i + 1) || (Nat.beq (q.1 + 1) i && c2 q.2))) with
      | true => some r2
      | false => some (q :: r2)
def ins (i : Nat) (v : Value) : List (Nat × Value) → Option (List (Nat × Value))
  | [] => some [(i, v)]
  | q :: r => match Nat.blt i q.1 with
    | true => some ((i, v) :: q :: r)
    | false => match ins i v r with
      | some r2 => some (q :: r2)
      | none => none
theorem ins_mem {i : Nat} {v : Value} : ∀ (l l2 : List (Nat × Value)), ins i v l = some l2 → ∀ x ∈ l2, x = (i, v) ∨ x ∈ l := by
  intro l
  induction l with
  | nil => intro l2 h x hx; cases h; exact Or.inl (List.mem_singleton.mp hx)
  | cons q r ih =>
    intro l2 h x hx
    simp only [ins] at h
    split at h
    · cases h
      exact List.mem_cons.mp hx
    · split at h
      next r2 hr =>
        cases h
        rcases List.mem_cons.mp hx with rfl | hx
        · exact Or.inr List.mem_cons_self
        · rcases ih r2 hr x hx with h1 | h1
          · exact Or.inl h1
          · exact Or.inr (List.mem_cons_of_mem _ h1)
      next => cases h
theorem beqN (a b : Nat) : (a == b) = Nat.beq a b := by
  cases h : Nat.beq a b
  · have h1 : a ≠ b := Nat.ne_of_beq_eq_false h
    simp [h1]
  · have h1 := Nat.eq_of_beq_eq_true h
    simp [h1]
theorem dl1_mem {i : Nat} : ∀ (l l2 : List (Nat × Value)), dl1 i l = some l2 → ∀ x ∈ l2, x ∈ l.filter (fun q => !(q.1 == i) && !(q.1 + 1 == i && q.2.category == 2)) := by
  intro l
  induction l with
  | nil => intro l2 h x hx; cases h; cases hx
  | cons q r ih =>
    intro l2 h x hx
    simp only [dl1] at h
    split at h
    · cases h
    next r2 hr =>
      have ih2 := ih r2 hr
      split at h
      · cases h
        have := ih2 x hx
        rw [List.filter_cons]
        split
        · exact List.mem_cons_of_mem _ this
        · exact this
      next hb =>
        cases h
        have hq : (!(q.1 == i) && !(q.1 + 1 == i && q.2.category == 2)) = true := by
          rw [← c2_eq]
          rw [beqN, beqN]
          revert hb
          cases Nat.beq q.1 i <;> cases Nat.beq (q.1 + 1) i <;> cases c2 q.2 <;> simp
        rw [List.filter_cons, if_pos hq]
        rcases List.mem_cons.mp hx with rfl | hx
        · exact List.mem_cons_self
        · exact List.mem_cons_of_mem _ (ih2 x hx)
theorem dl2_mem {i : Nat} : ∀ (l l2 : List (Nat × Value)), dl2 i l = some l2 → ∀ x ∈ l2, x ∈ l.filter (fun q => !(q.1 == i) && (!(q.1 == i + 1) && !(q.1 + 1 == i && q.2.category == 2))) := by
  intro l
  induction l with
  | nil => intro l2 h x hx; cases h; cases hx
  | cons q r ih =>
    intro l2 h x hx
    simp only [dl2] at h
    split at h
    · cases h
    next r2 hr =>
      have ih2 := ih r2 hr
      split at h
      · cases h
        have := ih2 x hx
        rw [List.filter_cons]
        split
        · exact List.mem_cons_of_mem _ this
        · exact this
      next hb =>
        cases h
        have hq : (!(q.1 == i) && (!(q.1 == i + 1) && !(q.1 + 1 == i && q.2.category == 2))) = true := by
          rw [← c2_eq]
          rw [beqN, beqN, beqN]
          revert hb
          cases Nat.beq q.1 i <;> cases Nat.beq (q.1 + 1) i <;> cases Nat.beq q.1 (i + 1) <;> cases c2 q.2 <;> simp
        rw [List.filter_cons, if_pos hq]
        rcases List.mem_cons.mp hx with rfl | hx
        · exact List.mem_cons_self
        · exact List.mem_cons_of_mem _ (ih2 x hx)
def cv (ad : Nat → Nat) : Value → Value
  | .ref k => .ref (ad k)
  | .int x => .int x
  | .long x => .long x
  | .float x => .float x
  | .double x => .double x
  | .null => .null
  | .retAddr k => .retAddr k
theorem cv_cat (ad : Nat → Nat) (v : Value) : (cv ad v).category = v.category := by cases v <;> rfl
def ce (ad : Nat → Nat) (ca : Nat → ClassId) : va_E → va_E
  | .inl x => .inl (ca x.1, x.2)
  | .inr o => .inr (o.1, o.2.map (cv ad))
def cw (ad : Nat → Nat) (ca : Nat → ClassId) : Nat → List va_E → va_W
  | _, [] => []
  | k, e :: r => (ad k, ce ad ca e) :: cw ad ca (k + 1) r
def cl (ad : Nat → Nat) (lv : List (Nat × Value)) : List (Nat × Value) := lv.map (fun q => (q.1, cv ad q.2))
theorem cw_at (ad : Nat → Nat) (ca : Nat → ClassId) : ∀ (ws : List va_E) (j k : Nat), (cw ad ca j ws)[k]? = (ws[k]?).map (fun e => (ad (j + k), ce ad ca e)) := by
  intro ws
  induction ws with
  | nil => intro j k; simp [cw]
  | cons e r ih =>
    intro j k
    cases k with
    | zero => simp [cw]
    | succ k =>
      simp only [cw, List.getElem?_cons_succ, ih]
      rw [show j + 1 + k = j + (k + 1) by omega]
theorem cw_set (ad : Nat → Nat) (ca : Nat → ClassId) (e : va_E) : ∀ (ws : List va_E) (j k : Nat), cw ad ca j (ws.set k e) = (cw ad ca j ws).set k (ad (j + k), ce ad ca e) := by
  intro ws
  induction ws with
  | nil => intro j k; simp [cw]
  | cons x r ih =>
    intro j k
    cases k with
    | zero => simp [cw]
    | succ k =>
      simp only [cw, List.set_cons_succ, ih]
      rw [show j + 1 + k = j + (k + 1) by omega]
/-- the named cells are apart; a name from 100 on is an address itself -/
def AD (ad : Nat → Nat) (n : Nat) : Prop := (∀ i j : Nat, i < n → j < n → ad i = ad j → i = j) ∧ ∀ q : Nat, ad (q + 100) = q
theorem cw_some {ad : Nat → Nat} {ca : Nat → ClassId} {ws : List va_E} {k : Nat} {q : Nat × va_E} (h : (cw ad ca 0 ws)[k]? = some q) : ∃ e, ws[k]? = some e ∧ q = (ad k, ce ad ca e) ∧ k < ws.length := by
  rw [cw_at] at h
  cases hw : ws[k]? with
  | none => rw [hw] at h; cases h
  | some e =>
    rw [hw] at h
    cases h
    exact ⟨e, rfl, by rw [Nat.zero_add], (List.getElem?_eq_some_iff.mp hw).1⟩
theorem cw_D {ad : Nat → Nat} {ca : Nat → ClassId} {ws : List va_E} {A : Nat → Prop} {n : Nat} (hn : ws.length = n) (h : AD ad n) (hA : ∀ k, k < n → A (ad k)) : va_D A (cw ad ca 0 ws) := by
  subst hn
  refine ⟨fun i j x y hi hj hxy => ?_, fun k q hk => ?_⟩
  · obtain ⟨e1, -, rfl, l1⟩ := cw_some hi
    obtain ⟨e2, -, rfl, l2⟩ := cw_some hj
    exact h.1 i j l1 l2 hxy
  · obtain ⟨e, -, rfl, hl⟩ := cw_some hk
    exact hA k hl
theorem cl_fnd {ad : Nat → Nat} {lv : List (Nat × Value)} {i : Nat} {v : Value} {ls : Array Slot} {nL : Nat} (hl : lv_has ls nL (cl ad lv)) (h : fnd lv i = some v) : ls[i]? = some (.val (cv ad v)) :=
  hl.2.2 (i, cv ad v) (List.mem_map.mpr ⟨(i, v), fnd_mem lv h, rfl⟩)
theorem cl_filter1 (ad : Nat → Nat) (i : Nat) (lv : List (Nat × Value)) : (cl ad lv).filter (fun q => !(q.1 == i) && !(q.1 + 1 == i && q.2.category == 2)) = cl ad (lv.filter (fun q => !(q.1 == i) && !(q.1 + 1 == i && q.2.category == 2))) := by
  unfold cl
  rw [List.filter_map]
  congr 1
  apply List.filter_congr
  intro q _
  simp only [Function.comp, cv_cat]
theorem cl_filter2 (ad : Nat → Nat) (i : Nat) (lv : List (Nat × Value)) : (cl ad lv).filter (fun q => !(q.1 == i) && (!(q.1 == i + 1) && !(q.1 + 1 == i && q.2.category == 2))) = cl ad (lv.filter (fun q => !(q.1 == i) && (!(q.1 == i + 1) && !(q.1 + 1 == i && q.2.category == 2)))) := by
  unfold cl
  rw [List.filter_map]
  congr 1
  apply List.filter_congr
  intro q _
  simp only [Function.comp, cv_cat]
def so1 (i : Nat) (v : Value) (lv : List (Nat × Value)) : Option (List (Nat × Value)) := match dl1 i lv with
  | some l => ins i v l
  | none => none
def so2 (i : Nat) (v : Value) (lv : List (Nat × Value)) : Option (List (Nat × Value)) := match dl2 i lv with
  | some l => ins i v l
  | none => none
theorem so1_has {ad : Nat → Nat} {i : Nat} {v : Value} {lv lv2 : List (Nat × Value)} {ls : Array Slot} {nL : Nat} (h : so1 i v lv = some lv2) (hl : lv_has ls nL ((i, cv ad v) :: (cl ad lv).filter (fun q => !(q.1 == i) && !(q.1 + 1 == i && q.2.category == 2)))) : lv_has ls nL (cl ad lv2) := by
  refine ⟨hl.1, hl.2.1, fun x hx => hl.2.2 x ?_⟩
  unfold so1 at h
  split at h
  next l2 h2 =>
    obtain ⟨y, hy, rfl⟩ := List.mem_map.mp hx
    rcases ins_mem _ _ h y hy with rfl | h3
    · exact List.mem_cons_self
    · rw [cl_filter1]
      exact List.mem_cons_of_mem _ (List.mem_map.mpr ⟨y, dl1_mem _ _ h2 y h3, rfl⟩)
  next => cases h
theorem so2_has {ad : Nat → Nat} {i : Nat} {v : Value} {lv lv2 : List (Nat × Value)} {ls : Array Slot} {nL : Nat} (h : so2 i v lv = some lv2) (hl : lv_has ls nL ((i, cv ad v) :: (cl ad lv).filter (fun q => !(q.1 == i) && (!(q.1 == i + 1) && !(q.1 + 1 == i && q.2.category == 2))))) : lv_has ls nL (cl ad lv2) := by
  refine ⟨hl.1, hl.2.1, fun x hx => hl.2.2 x ?_⟩
  unfold so2 at h
  split at h
  next l2 h2 =>
    obtain ⟨y, hy, rfl⟩ := List.mem_map.mp hx
    rcases ins_mem _ _ h y hy with rfl | h3
    · exact List.mem_cons_self
    · rw [cl_filter2]
      exact List.mem_cons_of_mem _ (List.mem_map.mpr ⟨y, dl2_mem _ _ h2 y h3, rfl⟩)
  next => cases h
/-- one instruction that neither branches, calls, makes nor returns -/
def ev1 (nL : Nat) (i : Instr) (w : Value) (a b : Nat) (lv : List (Nat × Value)) (st : List Value) (ws : List va_E) (c : Prop) : Option (AS × Prop) :=
  match i with
  | .iconst _ => some ((lv, w :: st, ws), c)
  | .bipush _ => some ((lv, w :: st, ws), c)
  | .sipush _ => some ((lv, w :: st, ws), c)
  | .lconst _ => some ((lv, w :: st, ws), c)
  | .ldc _ => some ((lv, w :: st, ws), c)
  | .ldc2_w _ => some ((lv, w :: st, ws), c)
  | .aconst_null => some ((lv, .null :: st, ws), c)
  | .iload k => match fnd lv k with
    | some (.int x) => some ((lv, .int x :: st, ws), c)
    | _ => none
  | .iload_n k => match fnd lv k.val with
    | some (.int x) => some ((lv, .int x :: st, ws), c)
    | _ => none
  | .lload k => match fnd lv k with
    | some (.long x) => some ((lv, .long x :: st, ws), c)
    | _ => none
  | .lload_n k => match fnd lv k.val with
    | some (.long x) => some ((lv, .long x :: st, ws), c)
    | _ => none
  | .aload k => match fnd lv k with
    | some (.ref x) => some ((lv, .ref x :: st, ws), c)
    | some .null => some ((lv, .null :: st, ws), c)
    | _ => none
  | .aload_n k => match fnd lv k.val with
    | some (.ref x) => some ((lv, .ref x :: st, ws), c)
    | some .null => some ((lv, .null :: st, ws), c)
    | _ => none
  | .istore k => match st with
    | .int x :: r => match Nat.blt k nL with
      | true => match so1 k (.int x) lv with
        | some lv2 => some ((lv2, r, ws), c)
        | none => none
      | false => none
    | _ => none
  | .istore_n k => match st with
    | .int x :: r => match Nat.blt k.val nL with
      | true => match so1 k.val (.int x) lv with
        | some lv2 => some ((lv2, r, ws), c)
        | none => none
      | false => none
    | _ => none
  | .lstore k => match st with
    | .long x :: r => match Nat.blt (k + 1) nL with
      | true => match so2 k (.long x) lv with
        | some lv2 => some ((lv2, r, ws), c)
        | none => none
      | false => none
    | _ => none
  | .lstore_n k => match st with
    | .long x :: r => match Nat.blt (k.val + 1) nL with
      | true => match so2 k.val (.long x) lv with
        | some lv2 => some ((lv2, r, ws), c)
        | none => none
      | false => none
    | _ => none
  | .astore k => match st with
    | .ref x :: r => match Nat.blt k nL with
      | true => match so1 k (.ref x) lv with
        | some lv2 => some ((lv2, r, ws), c)
        | none => none
      | false => none
    | .null :: r => match Nat.blt k nL with
      | true => match so1 k .null lv with
        | some lv2 => some ((lv2, r, ws), c)
        | none => none
      | false => none
    | _ => none
  | .astore_n k => match st with
    | .ref x :: r => match Nat.blt k.val nL with
      | true => match so1 k.val (.ref x) lv with
        | some lv2 => some ((lv2, r, ws), c)
        | none => none
      | false => none
    | .null :: r => match Nat.blt k.val nL with
      | true => match so1 k.val .null lv with
        | some lv2 => some ((lv2, r, ws), c)
        | none => none
      | false => none
    | _ => none
  | .iinc k _ => match fnd lv k with
    | some (.int x) => match w with
      | .int d => match Nat.blt k nL with
        | true => match so1 k (.int (x + d)) lv with
          | some lv2 => some ((lv2, st, ws), c)
          | none => none
        | false => none
      | _ => none
    | _ => none
  | .iadd => match st with
    | .int y :: .int x :: r => some ((lv, .int (x + y) :: r, ws), c)
    | _ => none
  | .isub => match st with
    | .int y :: .int x :: r => some ((lv, .int (x - y) :: r, ws), c)
    | _ => none
  | .imul => match st with
    | .int y :: .int x :: r => some ((lv, .int (x * y) :: r, ws), c)
    | _ => none
  | .iand => match st with
    | .int y :: .int x :: r => some ((lv, .int (x &&& y) :: r, ws), c)
    | _ => none
  | .ixor => match st with
    | .int y :: .int x :: r => some ((lv, .int (x ^^^ y) :: r, ws), c)
    | _ => none
  | .ishl => match st with
    | .int y :: .int x :: r => some ((lv, .int (x <<< (y &&& 31)) :: r, ws), c)
    | _ => none
  | .ishr => match st with
    | .int y :: .int x :: r => some ((lv, .int (x >>> (y &&& 31)) :: r, ws), c)
    | _ => none
  | .iushr => match st with
    | .int y :: .int x :: r => some ((lv, .int ((x.toUInt32 >>> (y.toUInt32 &&& Int32.toUInt32 31)).toInt32) :: r, ws), c)
    | _ => none
  | .i2l => match st with
    | .int x :: r => some ((lv, .long x.toInt64 :: r, ws), c)
    | _ => none
  | .l2i => match st with
    | .long x :: r => some ((lv, .int x.toInt32 :: r, ws), c)
    | _ => none
  | .lmul => match st with
    | .long y :: .long x :: r => some ((lv, .long (x * y) :: r, ws), c)
    | _ => none
  | .land => match st with
    | .long y :: .long x :: r => some ((lv, .long (x &&& y) :: r, ws), c)
    | _ => none
  | .lor => match st with
    | .long y :: .long x :: r => some ((lv, .long (x ||| y) :: r, ws), c)
    | _ => none
  | .lxor => match st with
    | .long y :: .long x :: r => some ((lv, .long (x ^^^ y) :: r, ws), c)
    | _ => none
  | .lshl => match st with
    | .int y :: .long x :: r => some ((lv, .long (x <<< (y.toInt64 &&& 63)) :: r, ws), c)
    | _ => none
  | .lshr => match st with
    | .int y :: .long x :: r => some ((lv, .long (x >>> (y.toInt64 &&& 63)) :: r, ws), c)
    | _ => none
  | .lushr => match st with
    | .int y :: .long x :: r => some ((lv, .long ((x.toUInt64 >>> (y.toInt64.toUInt64 &&& Int64.toUInt64 63)).toInt64) :: r, ws), c)
    | _ => none
  | .lcmp => match st with
    | .long y :: .long x :: r => some ((lv, .int (lg_cmp x y) :: r, ws), c)
    | _ => none
  | .dup => match st with
    | .int x :: r => some ((lv, .int x :: .int x :: r, ws), c)
    | .ref x :: r => some ((lv, .ref x :: .ref x :: r, ws), c)
    | _ => none
  | .dup2 => match st with
    | .int x :: .ref y :: r => some ((lv, .int x :: .ref y :: .int x :: .ref y :: r, ws), c)
    | _ => none
  | .pop => match st with
    | .int _ :: r => some ((lv, r, ws), c)
    | .ref _ :: r => some ((lv, r, ws), c)
    | .null :: r => some ((lv, r, ws), c)
    | _ => none
  | .goto _ => some ((lv, st, ws), c)
  | .getfield _ => match st with
    | .ref t :: r => match nth ws t with
      | some (.inr o) => match Nat.beq o.1 a with
        | true => match nth o.2 b with
          | some v => some ((lv, v :: r, ws), c)
          | none => none
        | false => none
      | _ => none
    | _ => none
  | .putfield _ => match st with
    | v :: .ref t :: r => match nth ws t with
      | some (.inr o) => match Nat.beq o.1 a with
        | true => match (match w, v with
            | .int _, .int _ => true
            | .long _, .long _ => true
            | .null, .ref _ => true
            | .null, .null => true
            | _, _ => false) with
          | true => match setl o.2 b v with
            | some fs => match setl ws t (.inr (o.1, fs)) with
              | some ws2 => some ((lv, r, ws2), c)
              | none => none
            | none => none
          | false => none
        | false => none
      | _ => none
    | _ => none
  | .iaload => match st with
    | .int x :: .ref t :: r => match nth ws t with
      | some (.inl (0, n, .inl f)) => some ((lv, .int (f x.toNatClampNeg) :: r, ws), vp_in x n ∧ c)
      | _ => none
    | _ => none
  | .laload => match st with
    | .int x :: .ref t :: r => match nth ws t with
      | some (.inl (1, n, .inr (.inl f))) => some ((lv, .long (f x.toNatClampNeg) :: r, ws), vp_in x n ∧ c)
      | _ => none
    | _ => none
  | .iastore => match st with
    | .int z :: .int x :: .ref t :: r => match nth ws t with
      | some (.inl (0, n, .inl f)) => match setl ws t (.inl (0, n, .inl (upd f x.toNatClampNeg z))) with
        | some ws2 => some ((lv, r, ws2), vp_in x n ∧ c)
        | none => none
      | _ => none
    | _ => none
  | .lastore => match st with
    | .long z :: .int x :: .ref t :: r => match nth ws t with
      | some (.inl (1, n, .inr (.inl f))) => match setl ws t (.inl (1, n, .inr (.inl (vp_updL f x.toNatClampNeg z)))) with
        | some ws2 => some ((lv, r, ws2), vp_in x n ∧ c)
        | none => none
      | _ => none
    | _ => none
  | _ => none
def evB (nL : Nat) : List Ent → AS → Prop → Option (AS × Prop)
  | [], S, c => some (S, c)
  | (_, i, w, a, b) :: r, (lv, st, ws), c => match ev1 nL i w a b lv st ws c with
    | some (S', c') => evB nL r S' c'
    | none => none
def ilen : Instr → Nat
  | .bipush _ => 2
  | .sipush _ => 3
  | .ldc _ => 2
  | .ldc2_w _ => 3
  | .iload _ => 2
  | .lload _ => 2
  | .aload _ => 2
  | .istore _ => 2
  | .lstore _ => 2
  | .astore _ => 2
  | .iinc _ _ => 3
  | .goto _ => 3
  | .getfield _ => 3
  | .putfield _ => 3
  | _ => 1
def npc (q : Nat) : Instr → Nat
  | .goto off => ((q : Int) + off).toNat
  | i => q + ilen i
/-- what stands beside an instruction is right: constants, fields -/
def axo (ft : List (Nat × Nat × Nat)) (ct : List (Nat × Value)) (q : Nat) (i : Instr) (w : Value) (a b : Nat) : Bool :=
  match i with
  | .iconst n => w == .int (Int32.ofInt n)
  | .bipush n => w == .int (Int8.ofInt n).toInt32
  | .sipush n => w == .int (Int16.ofInt n).toInt32
  | .lconst n => w == .long (Int64.ofNat (n : Nat))
  | .ldc x => match w with
    | .int _ => ct.contains (x, w)
    | _ => false
  | .ldc2_w x => match w with
    | .long _ => ct.contains (x, w)
    | _ => false
  | .iinc _ n => w == .int (Int32.ofInt n)
  | .goto off => decide (0 ≤ (q : Int) + off)
  | .getfield x => ft.contains (x, a, b)
  | .putfield x => ft.contains (x, a, b) && (Nat.ble 4 a && (match vwCl[a]? with
    | some r => !(r.2.1 b).2.2.2 && (match parseFieldDescriptor (r.2.1 b).2.2.1, w with
      | some .int, .int _ => true
      | some .long, .long _ => true
      | some (.object _), .null => true
      | some (.array _), .null => true
      | _, _ => false)
    | none => false))
  | _ => true
def hdq (qe : Nat) : List Ent → Nat
  | [] => qe
  | x :: _ => x.1
def okB (ft : List (Nat × Nat × Nat)) (ct : List (Nat × Value)) (cc : ByteArray) (qe : Nat) : List Ent → Bool
  | [] => true
  | x :: r => decide (decode cc x.1 = .ok (x.2.1, ilen x.2.1)) && (axo ft ct x.1 x.2.1 x.2.2.1 x.2.2.2.1 x.2.2.2.2 && (Nat.beq (npc x.1 x.2.1) (hdq qe r) && okB ft ct cc qe r))
def FTo (own : String) (ft : List (Nat × Nat × Nat)) : Prop := ∀ x ∈ ft, ∃ r : vw_C, vwCl[x.2.1]? = some r ∧ x.2.2 < r.2.2 ∧ Cond.fieldLink own x.1 (r.2.1 x.2.2).1 (r.2.1 x.2.2).2.1 (r.2.1 x.2.2).2.2.1 ∈ tb
def CTo (own : String) (ct : List (Nat × Value)) : Prop := ∀ x ∈ ct, match x.2 with
  | .int v => Cond.constant own x.1 v ∈ tb
  | .long v => Cond.constantLong own x.1 v ∈ tb
  | _ => False
end
section
def ftX0 : List (Nat × Nat × Nat) := []
theorem foX0 : FTo RX0 ftX0 := fun _ h => absurd h List.not_mem_nil
def ctX0 : List (Nat × Value) := []
theorem coX0 : CTo RX0 ctX0 := fun _ h => absurd h List.not_mem_nil
def ftX1 : List (Nat × Nat × Nat) := []
theorem foX1 : FTo RX1 ftX1 := fun _ h => absurd h List.not_mem_nil
def ctX1 : List (Nat × Value) := []
theorem coX1 : CTo RX1 ctX1 := fun _ h => absurd h List.not_mem_nil
def ftX2 : List (Nat × Nat × Nat) := []
theorem foX2 : FTo RX2 ftX2 := fun _ h => absurd h List.not_mem_nil
def ctX2 : List (Nat × Value) := []
theorem coX2 : CTo RX2 ctX2 := fun _ h => absurd h List.not_mem_nil
def ftX3 : List (Nat × Nat × Nat) := []
theorem foX3 : FTo RX3 ftX3 := fun _ h => absurd h List.not_mem_nil
def ctX3 : List (Nat × Value) := []
theorem coX3 : CTo RX3 ctX3 := fun _ h => absurd h List.not_mem_nil
def ftX4 : List (Nat × Nat × Nat) := []
theorem foX4 : FTo RX4 ftX4 := fun _ h => absurd h List.not_mem_nil
def ctX4 : List (Nat × Value) := []
theorem coX4 : CTo RX4 ctX4 := fun _ h => absurd h List.not_mem_nil
def ftX5 : List (Nat × Nat × Nat) := [(9, 4, 0), (15, 4, 1), (18, 4, 2)]
theorem foX5 : FTo RX5 ftX5 := List.forall_mem_cons.mpr ⟨⟨(RX5, TX5, 3), rfl, by decide, fl_X5_9⟩, List.forall_mem_cons.mpr ⟨⟨(RX5, TX5, 3), rfl, by decide, fl_X5_15⟩, List.forall_mem_cons.mpr ⟨⟨(RX5, TX5, 3), rfl, by decide, fl_X5_18⟩, fun _ h => absurd h List.not_mem_nil⟩⟩⟩
def ctX5 : List (Nat × Value) := []
theorem coX5 : CTo RX5 ctX5 := fun _ h => absurd h List.not_mem_nil
def ftX6 : List (Nat × Nat × Nat) := [(84, 6, 0), (30, 6, 1), (21, 5, 0), (9, 5, 1), (15, 5, 2), (18, 5, 3)]
theorem foX6 : FTo RX6 ftX6 := List.forall_mem_cons.mpr ⟨⟨(RX7, TX7, 2), rfl, by decide, fl_X6_84⟩, List.forall_mem_cons.mpr ⟨⟨(RX7, TX7, 2), rfl, by decide, fl_X6_30⟩, List.forall_mem_cons.mpr ⟨⟨(RX6, TX6, 4), rfl, by decide, fl_X6_21⟩, List.forall_mem_cons.mpr ⟨⟨(RX6, TX6, 4), rfl, by decide, fl_X6_9⟩, List.forall_mem_cons.mpr ⟨⟨(RX6, TX6, 4), rfl, by decide, fl_X6_15⟩, List.forall_mem_cons.mpr ⟨⟨(RX6, TX6, 4), rfl, by decide, fl_X6_18⟩, fun _ h => absurd h List.not_mem_nil⟩⟩⟩⟩⟩⟩
def ctX6 : List (Nat × Value) := [(25, .int 65535)]
theorem coX6 : CTo RX6 ctX6 := List.forall_mem_cons.mpr ⟨co_X6_25, fun _ h => absurd h List.not_mem_nil⟩
def ftX7 : List (Nat × Nat × Nat) := [(9, 6, 0), (15, 6, 1)]
theorem foX7 : FTo RX7 ftX7 := List.forall_mem_cons.mpr ⟨⟨(RX7, TX7, 2), rfl, by decide, fl_X7_9⟩, List.forall_mem_cons.mpr ⟨⟨(RX7, TX7, 2), rfl, by decide, fl_X7_15⟩, fun _ h => absurd h List.not_mem_nil⟩⟩
def ctX7 : List (Nat × Value) := []
theorem coX7 : CTo RX7 ctX7 := fun _ h => absurd h List.not_mem_nil
def ftX8 : List (Nat × Nat × Nat) := [(97, 4, 2), (113, 6, 0), (104, 6, 1), (11, 7, 0), (18, 7, 1), (25, 7, 2), (29, 7, 3), (36, 7, 4), (40, 7, 5), (43, 7, 6), (46, 7, 7), (49, 7, 8), (127, 5, 2), (126, 5, 3)]
theorem foX8 : FTo RX8 ftX8 := List.forall_mem_cons.mpr ⟨⟨(RX5, TX5, 3), rfl, by decide, fl_X8_97⟩, List.forall_mem_cons.mpr ⟨⟨(RX7, TX7, 2), rfl, by decide, fl_X8_113⟩, List.forall_mem_cons.mpr ⟨⟨(RX7, TX7, 2), rfl, by decide, fl_X8_104⟩, List.forall_mem_cons.mpr ⟨⟨(RX8, TX8, 9), rfl, by decide, fl_X8_11⟩, List.forall_mem_cons.mpr ⟨⟨(RX8, TX8, 9), rfl, by decide, fl_X8_18⟩, List.forall_mem_cons.mpr ⟨⟨(RX8, TX8, 9), rfl, by decide, fl_X8_25⟩, List.forall_mem_cons.mpr ⟨⟨(RX8, TX8, 9), rfl, by decide, fl_X8_29⟩, List.forall_mem_cons.mpr ⟨⟨(RX8, TX8, 9), rfl, by decide, fl_X8_36⟩, List.forall_mem_cons.mpr ⟨⟨(RX8, TX8, 9), rfl, by decide, fl_X8_40⟩, List.forall_mem_cons.mpr ⟨⟨(RX8, TX8, 9), rfl, by decide, fl_X8_43⟩, List.forall_mem_cons.mpr ⟨⟨(RX8, TX8, 9), rfl, by decide, fl_X8_46⟩, List.forall_mem_cons.mpr ⟨⟨(RX8, TX8, 9), rfl, by decide, fl_X8_49⟩, List.forall_mem_cons.mpr ⟨⟨(RX6, TX6, 4), rfl, by decide, fl_X8_127⟩, List.forall_mem_cons.mpr ⟨⟨(RX6, TX6, 4), rfl, by decide, fl_X8_126⟩, fun _ h => absurd h List.not_mem_nil⟩⟩⟩⟩⟩⟩⟩⟩⟩⟩⟩⟩⟩⟩
def ctX8 : List (Nat × Value) := [(159, .long (3)), (155, .long (-7046029254386353131)), (157, .long (-4658895280553007687)), (74, .int 65535), (165, .long (2))]
theorem coX8 : CTo RX8 ctX8 := List.forall_mem_cons.mpr ⟨co_X8_159, List.forall_mem_cons.mpr ⟨co_X8_155, List.forall_mem_cons.mpr ⟨co_X8_157, List.forall_mem_cons.mpr ⟨co_X8_74, List.forall_mem_cons.mpr ⟨co_X8_165, fun _ h => absurd h List.not_mem_nil⟩⟩⟩⟩⟩
def bX0_init_0 : List Ent := [e0 0 (.aload_n 0)]
theorem oX0_init_0 : okB ftX0 ctX0 cX0_init 1 bX0_init_0 = true := by decide +kernel
theorem jX0_init_1 : decode cX0_init 1 = .ok (.invokestatic 1, 3) := by decide +kernel
theorem jX0_init_4 : decode cX0_init 4 = .ok (.invokespecial 7, 3) := by decide +kernel
theorem jX0_init_7 : decode cX0_init 7 = .ok (.return_, 1) := by decide +kernel
def bX1_init_0 : List Ent := [e0 0 (.aload_n 0), e0 1 (.iload_n 1), e0 2 (.iload_n 2), e0 3 (.aload_n 3)]
theorem oX1_init_0 : okB ftX1 ctX1 cX1_init 4 bX1_init_0 = true := by decide +kernel
def bX1_init_7 : List Ent := [e0 7 (.aload 4)]
theorem oX1_init_7 : okB ftX1 ctX1 cX1_init 9 bX1_init_7 = true := by decide +kernel
def bX1_init_18 : List Ent := [e0 18 (.aload_n 0), e0 19 (.iload_n 1)]
theorem oX1_init_18 : okB ftX1 ctX1 cX1_init 20 bX1_init_18 = true := by decide +kernel
def bX1_init_23 : List Ent := [e0 23 (.aload_n 0), e0 24 (.iload_n 2)]
theorem oX1_init_23 : okB ftX1 ctX1 cX1_init 25 bX1_init_23 = true := by decide +kernel
def bX1_init_28 : List Ent := [e0 28 (.aload_n 0), e0 29 (.aload_n 3)]
theorem oX1_init_28 : okB ftX1 ctX1 cX1_init 30 bX1_init_28 = true := by decide +kernel
def bX1_init_33 : List Ent := [e0 33 (.aload_n 0), e0 34 (.aload 4)]
theorem oX1_init_33 : okB ftX1 ctX1 cX1_init 36 bX1_init_33 = true := by decide +kernel
theorem jX1_init_4 : decode cX1_init 4 = .ok (.getfield 3, 3) := by decide +kernel
theorem jX1_init_9 : decode cX1_init 9 = .ok (.getfield 3, 3) := by decide +kernel
theorem jX1_init_12 : decode cX1_init 12 = .ok (.invokestatic 9, 3) := by decide +kernel
theorem jX1_init_15 : decode cX1_init 15 = .ok (.invokespecial 13, 3) := by decide +kernel
theorem jX1_init_20 : decode cX1_init 20 = .ok (.putfield 17, 3) := by decide +kernel
theorem jX1_init_25 : decode cX1_init 25 = .ok (.putfield 23, 3) := by decide +kernel
theorem jX1_init_30 : decode cX1_init 30 = .ok (.putfield 26, 3) := by decide +kernel
theorem jX1_init_36 : decode cX1_init 36 = .ok (.putfield 30, 3) := by decide +kernel
theorem jX1_init_39 : decode cX1_init 39 = .ok (.return_, 1) := by decide +kernel
def bX1_takesIn_0 : List Ent := [e0 0 (.iload_n 1), e0 1 (.aload_n 0)]
theorem oX1_takesIn_0 : okB ftX1 ctX1 cX1_takesIn 2 bX1_takesIn_0 = true := by decide +kernel
def bX1_takesIn_8 : List Ent := [e0 8 (.aload_n 0)]
theorem oX1_takesIn_8 : okB ftX1 ctX1 cX1_takesIn 9 bX1_takesIn_8 = true := by decide +kernel
def bX1_takesIn_15 : List Ent := [ec 15 (.iconst 1) (.int 1), e0 16 (.goto 4)]
theorem oX1_takesIn_15 : okB ftX1 ctX1 cX1_takesIn 20 bX1_takesIn_15 = true := by decide +kernel
def bX1_takesIn_19 : List Ent := [ec 19 (.iconst 0) (.int 0)]
theorem oX1_takesIn_19 : okB ftX1 ctX1 cX1_takesIn 20 bX1_takesIn_19 = true := by decide +kernel
theorem jX1_takesIn_2 : decode cX1_takesIn 2 = .ok (.getfield 17, 3) := by decide +kernel
theorem jX1_takesIn_5 : decode cX1_takesIn 5 = .ok (.invokestatic 33, 3) := by decide +kernel
theorem jX1_takesIn_9 : decode cX1_takesIn 9 = .ok (.getfield 23, 3) := by decide +kernel
theorem jX1_takesIn_12 : decode cX1_takesIn 12 = .ok (.if_icmp .ne 7, 3) := by decide +kernel
theorem jX1_takesIn_20 : decode cX1_takesIn 20 = .ok (.ireturn, 1) := by decide +kernel
def bX1_middle_0 : List Ent := [e0 0 (.aload_n 0)]
theorem oX1_middle_0 : okB ftX1 ctX1 cX1_middle 1 bX1_middle_0 = true := by decide +kernel
def bX1_middle_4 : List Ent := [ec 4 (.iconst 1) (.int 1), ec 5 (.bipush 15) (.int 15), e0 7 (.aload_n 0)]
theorem oX1_middle_4 : okB ftX1 ctX1 cX1_middle 8 bX1_middle_4 = true := by decide +kernel
def bX1_middle_11 : List Ent := [e0 11 .isub, e0 12 .ishl, e0 13 .iadd]
theorem oX1_middle_11 : okB ftX1 ctX1 cX1_middle 14 bX1_middle_11 = true := by decide +kernel
theorem jX1_middle_1 : decode cX1_middle 1 = .ok (.getfield 23, 3) := by decide +kernel
theorem jX1_middle_8 : decode cX1_middle 8 = .ok (.getfield 17, 3) := by decide +kernel
theorem jX1_middle_14 : decode cX1_middle 14 = .ok (.ireturn, 1) := by decide +kernel
def bX1_last_0 : List Ent := [e0 0 (.aload_n 0)]
theorem oX1_last_0 : okB ftX1 ctX1 cX1_last 1 bX1_last_0 = true := by decide +kernel
def bX1_last_4 : List Ent := [ec 4 (.iconst 1) (.int 1), ec 5 (.bipush 16) (.int 16), e0 7 (.aload_n 0)]
theorem oX1_last_4 : okB ftX1 ctX1 cX1_last 8 bX1_last_4 = true := by decide +kernel
def bX1_last_11 : List Ent := [e0 11 .isub, e0 12 .ishl, e0 13 .iadd, ec 14 (.iconst 1) (.int 1), e0 15 .isub]
theorem oX1_last_11 : okB ftX1 ctX1 cX1_last 16 bX1_last_11 = true := by decide +kernel
theorem jX1_last_1 : decode cX1_last 1 = .ok (.getfield 23, 3) := by decide +kernel
theorem jX1_last_8 : decode cX1_last 8 = .ok (.getfield 17, 3) := by decide +kernel
theorem jX1_last_16 : decode cX1_last 16 = .ok (.ireturn, 1) := by decide +kernel
def bX1_toward_0 : List Ent := [e0 0 (.iload_n 1), e0 1 (.aload_n 0)]
theorem oX1_toward_0 : okB ftX1 ctX1 cX1_toward 2 bX1_toward_0 = true := by decide +kernel
def bX1_toward_11 : List Ent := [e0 11 (.aload_n 0)]
theorem oX1_toward_11 : okB ftX1 ctX1 cX1_toward 12 bX1_toward_11 = true := by decide +kernel
def bX1_toward_15 : List Ent := [e0 15 (.goto 7)]
theorem oX1_toward_15 : okB ftX1 ctX1 cX1_toward 22 bX1_toward_15 = true := by decide +kernel
def bX1_toward_18 : List Ent := [e0 18 (.aload_n 0)]
theorem oX1_toward_18 : okB ftX1 ctX1 cX1_toward 19 bX1_toward_18 = true := by decide +kernel
theorem jX1_toward_2 : decode cX1_toward 2 = .ok (.getfield 17, 3) := by decide +kernel
theorem jX1_toward_5 : decode cX1_toward 5 = .ok (.invokestatic 37, 3) := by decide +kernel
theorem jX1_toward_8 : decode cX1_toward 8 = .ok (.ifCond .eq 10, 3) := by decide +kernel
theorem jX1_toward_12 : decode cX1_toward 12 = .ok (.getfield 30, 3) := by decide +kernel
theorem jX1_toward_19 : decode cX1_toward 19 = .ok (.getfield 26, 3) := by decide +kernel
theorem jX1_toward_22 : decode cX1_toward 22 = .ok (.areturn, 1) := by decide +kernel
def bX1_besides_0 : List Ent := [e0 0 (.iload_n 1), e0 1 (.aload_n 0)]
theorem oX1_besides_0 : okB ftX1 ctX1 cX1_besides 2 bX1_besides_0 = true := by decide +kernel
def bX1_besides_11 : List Ent := [e0 11 (.aload_n 0)]
theorem oX1_besides_11 : okB ftX1 ctX1 cX1_besides 12 bX1_besides_11 = true := by decide +kernel
def bX1_besides_15 : List Ent := [e0 15 (.goto 7)]
theorem oX1_besides_15 : okB ftX1 ctX1 cX1_besides 22 bX1_besides_15 = true := by decide +kernel
def bX1_besides_18 : List Ent := [e0 18 (.aload_n 0)]
theorem oX1_besides_18 : okB ftX1 ctX1 cX1_besides 19 bX1_besides_18 = true := by decide +kernel
theorem jX1_besides_2 : decode cX1_besides 2 = .ok (.getfield 17, 3) := by decide +kernel
theorem jX1_besides_5 : decode cX1_besides 5 = .ok (.invokestatic 37, 3) := by decide +kernel
theorem jX1_besides_8 : decode cX1_besides 8 = .ok (.ifCond .eq 10, 3) := by decide +kernel
theorem jX1_besides_12 : decode cX1_besides 12 = .ok (.getfield 26, 3) := by decide +kernel
theorem jX1_besides_19 : decode cX1_besides 19 = .ok (.getfield 30, 3) := by decide +kernel
theorem jX1_besides_22 : decode cX1_besides 22 = .ok (.areturn, 1) := by decide +kernel
def bX1_with_0 : List Ent := [e0 0 (.iload_n 1), e0 1 (.aload_n 0)]
theorem oX1_with_0 : okB ftX1 ctX1 cX1_with 2 bX1_with_0 = true := by decide +kernel
def bX1_with_14 : List Ent := [e0 14 .dup, e0 15 (.aload_n 0)]
theorem oX1_with_14 : okB ftX1 ctX1 cX1_with 16 bX1_with_14 = true := by decide +kernel
def bX1_with_19 : List Ent := [e0 19 (.aload_n 0)]
theorem oX1_with_19 : okB ftX1 ctX1 cX1_with 20 bX1_with_19 = true := by decide +kernel
def bX1_with_23 : List Ent := [e0 23 (.aload_n 0)]
theorem oX1_with_23 : okB ftX1 ctX1 cX1_with 24 bX1_with_23 = true := by decide +kernel
def bX1_with_27 : List Ent := [e0 27 (.aload_n 2)]
theorem oX1_with_27 : okB ftX1 ctX1 cX1_with 28 bX1_with_27 = true := by decide +kernel
def bX1_with_35 : List Ent := [e0 35 .dup, e0 36 (.aload_n 0)]
theorem oX1_with_35 : okB ftX1 ctX1 cX1_with 37 bX1_with_35 = true := by decide +kernel
def bX1_with_40 : List Ent := [e0 40 (.aload_n 0)]
theorem oX1_with_40 : okB ftX1 ctX1 cX1_with 41 bX1_with_40 = true := by decide +kernel
def bX1_with_44 : List Ent := [e0 44 (.aload_n 2), e0 45 (.aload_n 0)]
theorem oX1_with_44 : okB ftX1 ctX1 cX1_with 46 bX1_with_44 = true := by decide +kernel
theorem jX1_with_2 : decode cX1_with 2 = .ok (.getfield 17, 3) := by decide +kernel
theorem jX1_with_5 : decode cX1_with 5 = .ok (.invokestatic 37, 3) := by decide +kernel
theorem jX1_with_8 : decode cX1_with 8 = .ok (.ifCond .eq 24, 3) := by decide +kernel
theorem jX1_with_11 : decode cX1_with 11 = .ok (.new 18, 3) := by decide +kernel
theorem jX1_with_16 : decode cX1_with 16 = .ok (.getfield 17, 3) := by decide +kernel
theorem jX1_with_20 : decode cX1_with 20 = .ok (.getfield 23, 3) := by decide +kernel
theorem jX1_with_24 : decode cX1_with 24 = .ok (.getfield 26, 3) := by decide +kernel
theorem jX1_with_28 : decode cX1_with 28 = .ok (.invokespecial 41, 3) := by decide +kernel
theorem jX1_with_31 : decode cX1_with 31 = .ok (.areturn, 1) := by decide +kernel
theorem jX1_with_32 : decode cX1_with 32 = .ok (.new 18, 3) := by decide +kernel
theorem jX1_with_37 : decode cX1_with 37 = .ok (.getfield 17, 3) := by decide +kernel
theorem jX1_with_41 : decode cX1_with 41 = .ok (.getfield 23, 3) := by decide +kernel
theorem jX1_with_46 : decode cX1_with 46 = .ok (.getfield 30, 3) := by decide +kernel
theorem jX1_with_49 : decode cX1_with 49 = .ok (.invokespecial 41, 3) := by decide +kernel
theorem jX1_with_52 : decode cX1_with 52 = .ok (.areturn, 1) := by decide +kernel
def bX2_init_0 : List Ent := [e0 0 (.aload_n 0), e0 1 (.lload_n 1)]
theorem oX2_init_0 : okB ftX2 ctX2 cX2_init 2 bX2_init_0 = true := by decide +kernel
theorem jX2_init_2 : decode cX2_init 2 = .ok (.invokespecial 1, 3) := by decide +kernel
theorem jX2_init_5 : decode cX2_init 5 = .ok (.return_, 1) := by decide +kernel
def bX3_init_0 : List Ent := [e0 0 (.aload_n 0), e0 1 (.iload_n 1), e0 2 (.lload_n 2)]
theorem oX3_init_0 : okB ftX3 ctX3 cX3_init 3 bX3_init_0 = true := by decide +kernel
def bX3_init_9 : List Ent := [e0 9 (.aload_n 0), e0 10 (.iload_n 1)]
theorem oX3_init_9 : okB ftX3 ctX3 cX3_init 11 bX3_init_9 = true := by decide +kernel
def bX3_init_14 : List Ent := [e0 14 (.aload_n 0), e0 15 (.lload_n 2)]
theorem oX3_init_14 : okB ftX3 ctX3 cX3_init 16 bX3_init_14 = true := by decide +kernel
theorem jX3_init_3 : decode cX3_init 3 = .ok (.invokestatic 1, 3) := by decide +kernel
theorem jX3_init_6 : decode cX3_init 6 = .ok (.invokespecial 7, 3) := by decide +kernel
theorem jX3_init_11 : decode cX3_init 11 = .ok (.putfield 13, 3) := by decide +kernel
theorem jX3_init_16 : decode cX3_init 16 = .ok (.putfield 19, 3) := by decide +kernel
theorem jX3_init_19 : decode cX3_init 19 = .ok (.return_, 1) := by decide +kernel
def bX4_init_0 : List Ent := [e0 0 (.aload_n 0)]
theorem oX4_init_0 : okB ftX4 ctX4 cX4_init 1 bX4_init_0 = true := by decide +kernel
def bX4_init_4 : List Ent := [e0 4 (.aload_n 0), e0 5 (.lload_n 1)]
theorem oX4_init_4 : okB ftX4 ctX4 cX4_init 6 bX4_init_4 = true := by decide +kernel
theorem jX4_init_1 : decode cX4_init 1 = .ok (.invokespecial 1, 3) := by decide +kernel
theorem jX4_init_6 : decode cX4_init 6 = .ok (.putfield 7, 3) := by decide +kernel
theorem jX4_init_9 : decode cX4_init 9 = .ok (.return_, 1) := by decide +kernel
def bX5_init_0 : List Ent := [e0 0 (.aload_n 0)]
theorem oX5_init_0 : okB ftX5 ctX5 cX5_init 1 bX5_init_0 = true := by decide +kernel
def bX5_init_4 : List Ent := [e0 4 (.aload_n 0), ec 5 (.bipush 20) (.int 20)]
theorem oX5_init_4 : okB ftX5 ctX5 cX5_init 7 bX5_init_4 = true := by decide +kernel
def bX5_init_12 : List Ent := [e0 12 (.aload_n 0), ec 13 (.bipush 20) (.int 20)]
theorem oX5_init_12 : okB ftX5 ctX5 cX5_init 15 bX5_init_12 = true := by decide +kernel
def bX5_init_20 : List Ent := [e0 20 (.aload_n 0), ec 21 (.iconst 0) (.int 0), ef 22 (.putfield 18) (.int 0) 4 2]
theorem oX5_init_20 : okB ftX5 ctX5 cX5_init 25 bX5_init_20 = true := by decide +kernel
theorem jX5_init_1 : decode cX5_init 1 = .ok (.invokespecial 3, 3) := by decide +kernel
theorem jX5_init_7 : decode cX5_init 7 = .ok (.newarray .int, 2) := by decide +kernel
theorem jX5_init_9 : decode cX5_init 9 = .ok (.putfield 9, 3) := by decide +kernel
theorem jX5_init_15 : decode cX5_init 15 = .ok (.newarray .int, 2) := by decide +kernel
theorem jX5_init_17 : decode cX5_init 17 = .ok (.putfield 15, 3) := by decide +kernel
theorem jX5_init_25 : decode cX5_init 25 = .ok (.return_, 1) := by decide +kernel
def bX5_add_0 : List Ent := [e0 0 (.aload_n 0), ef 1 (.getfield 18) .null 4 2, ec 4 (.bipush 20) (.int 20)]
theorem oX5_add_0 : okB ftX5 ctX5 cX5_add 6 bX5_add_0 = true := by decide +kernel
def bX5_add_9 : List Ent := [ec 9 (.iconst 0) (.int 0)]
theorem oX5_add_9 : okB ftX5 ctX5 cX5_add 10 bX5_add_9 = true := by decide +kernel
def bX5_add_11 : List Ent := [e0 11 (.aload_n 0), ef 12 (.getfield 9) .null 4 0, e0 15 (.aload_n 0), ef 16 (.getfield 18) .null 4 2, e0 19 (.iload_n 1), e0 20 .iastore, e0 21 (.aload_n 0), ef 22 (.getfield 15) .null 4 1, e0 25 (.aload_n 0), ef 26 (.getfield 18) .null 4 2, e0 29 (.iload_n 2), e0 30 .iastore, e0 31 (.aload_n 0), e0 32 .dup, ef 33 (.getfield 18) .null 4 2, ec 36 (.iconst 1) (.int 1), e0 37 .iadd, ef 38 (.putfield 18) (.int 0) 4 2, ec 41 (.iconst 1) (.int 1)]
theorem oX5_add_11 : okB ftX5 ctX5 cX5_add 42 bX5_add_11 = true := by decide +kernel
theorem jX5_add_6 : decode cX5_add 6 = .ok (.if_icmp .lt 5, 3) := by decide +kernel
theorem jX5_add_10 : decode cX5_add 10 = .ok (.ireturn, 1) := by decide +kernel
theorem jX5_add_42 : decode cX5_add 42 = .ok (.ireturn, 1) := by decide +kernel
def bX5_meet_0 : List Ent := [ec 0 (.iconst 0) (.int 0), e0 1 (.istore_n 3)]
theorem oX5_meet_0 : okB ftX5 ctX5 cX5_meet 2 bX5_meet_0 = true := by decide +kernel
def bX5_meet_2 : List Ent := [e0 2 (.iload_n 3), e0 3 (.aload_n 0), ef 4 (.getfield 18) .null 4 2]
theorem oX5_meet_2 : okB ftX5 ctX5 cX5_meet 7 bX5_meet_2 = true := by decide +kernel
def bX5_meet_10 : List Ent := [e0 10 (.aload_n 0), ef 11 (.getfield 9) .null 4 0, e0 14 (.iload_n 3), e0 15 .iaload, e0 16 (.iload_n 2)]
theorem oX5_meet_10 : okB ftX5 ctX5 cX5_meet 17 bX5_meet_10 = true := by decide +kernel
def bX5_meet_20 : List Ent := [e0 20 (.iload_n 1), e0 21 (.aload_n 0), ef 22 (.getfield 15) .null 4 1, e0 25 (.iload_n 3), e0 26 .iaload]
theorem oX5_meet_20 : okB ftX5 ctX5 cX5_meet 27 bX5_meet_20 = true := by decide +kernel
def bX5_meet_30 : List Ent := [ec 30 (.iconst 1) (.int 1)]
theorem oX5_meet_30 : okB ftX5 ctX5 cX5_meet 31 bX5_meet_30 = true := by decide +kernel
def bX5_meet_32 : List Ent := [ec 32 (.iinc 3 1) (.int 1), e0 35 (.goto (-33))]
theorem oX5_meet_32 : okB ftX5 ctX5 cX5_meet 2 bX5_meet_32 = true := by decide +kernel
def bX5_meet_38 : List Ent := [ec 38 (.iconst 0) (.int 0)]
theorem oX5_meet_38 : okB ftX5 ctX5 cX5_meet 39 bX5_meet_38 = true := by decide +kernel
theorem jX5_meet_7 : decode cX5_meet 7 = .ok (.if_icmp .ge 31, 3) := by decide +kernel
theorem jX5_meet_17 : decode cX5_meet 17 = .ok (.if_icmp .gt 15, 3) := by decide +kernel
theorem jX5_meet_27 : decode cX5_meet 27 = .ok (.if_icmp .gt 5, 3) := by decide +kernel
theorem jX5_meet_31 : decode cX5_meet 31 = .ok (.ireturn, 1) := by decide +kernel
theorem jX5_meet_39 : decode cX5_meet 39 = .ok (.ireturn, 1) := by decide +kernel
def bX6_init_0 : List Ent := [e0 0 (.aload_n 0)]
theorem oX6_init_0 : okB ftX6 ctX6 cX6_init 1 bX6_init_0 = true := by decide +kernel
def bX6_init_4 : List Ent := [e0 4 (.aload_n 0), ec 5 (.iconst 0) (.int 0), ef 6 (.putfield 9) (.int 0) 5 1, e0 9 (.aload_n 0), ec 10 (.iconst 0) (.int 0), ef 11 (.putfield 15) (.int 0) 5 2, e0 14 (.aload_n 0), ec 15 (.bipush (-2)) (.int (-2)), ef 17 (.putfield 18) (.int 0) 5 3, e0 20 (.aload_n 0), e0 21 (.aload_n 1)]
theorem oX6_init_4 : okB ftX6 ctX6 cX6_init 22 bX6_init_4 = true := by decide +kernel
theorem jX6_init_1 : decode cX6_init 1 = .ok (.invokespecial 3, 3) := by decide +kernel
theorem jX6_init_22 : decode cX6_init 22 = .ok (.putfield 21, 3) := by decide +kernel
theorem jX6_init_25 : decode cX6_init 25 = .ok (.return_, 1) := by decide +kernel
def bX6_wholeWith_0 : List Ent := [e0 0 (.aload_n 0), ec 1 (.iconst 0) (.int 0), ec 2 (.ldc 25) (.int 65535), ec 4 (.iconst 0) (.int 0)]
theorem oX6_wholeWith_0 : okB ftX6 ctX6 cX6_wholeWith 5 bX6_wholeWith_0 = true := by decide +kernel
def bX6_wholeWith_8 : List Ent := [e0 8 (.astore_n 3), e0 9 (.aload_n 3)]
theorem oX6_wholeWith_8 : okB ftX6 ctX6 cX6_wholeWith 10 bX6_wholeWith_8 = true := by decide +kernel
def bX6_wholeWith_13 : List Ent := [e0 13 .aconst_null]
theorem oX6_wholeWith_13 : okB ftX6 ctX6 cX6_wholeWith 14 bX6_wholeWith_13 = true := by decide +kernel
def bX6_wholeWith_15 : List Ent := [e0 15 (.aload_n 0), ef 16 (.getfield 9) .null 5 1, e0 19 (.aload_n 0), ef 20 (.getfield 21) .null 5 0, ef 23 (.getfield 30) .null 6 1]
theorem oX6_wholeWith_15 : okB ftX6 ctX6 cX6_wholeWith 26 bX6_wholeWith_15 = true := by decide +kernel
def bX6_wholeWith_29 : List Ent := [e0 29 (.aload_n 0), ec 30 (.bipush 6) (.int 6), e0 32 (.aload_n 0), ef 33 (.getfield 9) .null 5 1]
theorem oX6_wholeWith_29 : okB ftX6 ctX6 cX6_wholeWith 36 bX6_wholeWith_29 = true := by decide +kernel
def bX6_wholeWith_40 : List Ent := [e0 40 (.aload_n 3)]
theorem oX6_wholeWith_40 : okB ftX6 ctX6 cX6_wholeWith 41 bX6_wholeWith_40 = true := by decide +kernel
def bX6_wholeWith_44 : List Ent := [e0 44 (.lload_n 1), e0 45 .lcmp]
theorem oX6_wholeWith_44 : okB ftX6 ctX6 cX6_wholeWith 46 bX6_wholeWith_44 = true := by decide +kernel
def bX6_wholeWith_49 : List Ent := [e0 49 (.aload_n 3), e0 50 (.goto 10)]
theorem oX6_wholeWith_49 : okB ftX6 ctX6 cX6_wholeWith 60 bX6_wholeWith_49 = true := by decide +kernel
def bX6_wholeWith_53 : List Ent := [e0 53 (.aload_n 0), ec 54 (.bipush 7) (.int 7), ec 56 (.iconst 0) (.int 0)]
theorem oX6_wholeWith_53 : okB ftX6 ctX6 cX6_wholeWith 57 bX6_wholeWith_53 = true := by decide +kernel
theorem jX6_wholeWith_5 : decode cX6_wholeWith 5 = .ok (.invokevirtual 26, 3) := by decide +kernel
theorem jX6_wholeWith_10 : decode cX6_wholeWith 10 = .ok (.ifnonnull 5, 3) := by decide +kernel
theorem jX6_wholeWith_14 : decode cX6_wholeWith 14 = .ok (.areturn, 1) := by decide +kernel
theorem jX6_wholeWith_26 : decode cX6_wholeWith 26 = .ok (.if_icmp .ge 14, 3) := by decide +kernel
theorem jX6_wholeWith_36 : decode cX6_wholeWith 36 = .ok (.invokevirtual 35, 3) := by decide +kernel
theorem jX6_wholeWith_39 : decode cX6_wholeWith 39 = .ok (.areturn, 1) := by decide +kernel
theorem jX6_wholeWith_41 : decode cX6_wholeWith 41 = .ok (.getfield 39, 3) := by decide +kernel
theorem jX6_wholeWith_46 : decode cX6_wholeWith 46 = .ok (.ifCond .ne 7, 3) := by decide +kernel
theorem jX6_wholeWith_57 : decode cX6_wholeWith 57 = .ok (.invokevirtual 35, 3) := by decide +kernel
theorem jX6_wholeWith_60 : decode cX6_wholeWith 60 = .ok (.areturn, 1) := by decide +kernel
def bX6_readNode_0 : List Ent := [e0 0 (.aload_n 0), ec 1 (.iconst 1) (.int 1)]
theorem oX6_readNode_0 : okB ftX6 ctX6 cX6_readNode 2 bX6_readNode_0 = true := by decide +kernel
def bX6_readNode_8 : List Ent := [e0 8 .aconst_null]
theorem oX6_readNode_8 : okB ftX6 ctX6 cX6_readNode 9 bX6_readNode_8 = true := by decide +kernel
def bX6_readNode_10 : List Ent := [e0 10 (.aload_n 0), ec 11 (.iconst 1) (.int 1)]
theorem oX6_readNode_10 : okB ftX6 ctX6 cX6_readNode 12 bX6_readNode_10 = true := by decide +kernel
def bX6_readNode_15 : List Ent := [e0 15 .l2i]
theorem oX6_readNode_15 : okB ftX6 ctX6 cX6_readNode 16 bX6_readNode_15 = true := by decide +kernel
def bX6_readNode_48 : List Ent := [e0 48 (.aload_n 0), ec 49 (.bipush 8) (.int 8)]
theorem oX6_readNode_48 : okB ftX6 ctX6 cX6_readNode 51 bX6_readNode_48 = true := by decide +kernel
def bX6_readNode_57 : List Ent := [e0 57 .aconst_null, e0 58 (.goto 16)]
theorem oX6_readNode_57 : okB ftX6 ctX6 cX6_readNode 74 bX6_readNode_57 = true := by decide +kernel
def bX6_readNode_64 : List Ent := [e0 64 .dup, e0 65 (.aload_n 0), ec 66 (.bipush 8) (.int 8)]
theorem oX6_readNode_64 : okB ftX6 ctX6 cX6_readNode 68 bX6_readNode_64 = true := by decide +kernel
def bX6_readNode_75 : List Ent := [e0 75 (.aload_n 0), e0 76 (.iload_n 1), e0 77 (.iload_n 2), e0 78 (.iload_n 3)]
theorem oX6_readNode_75 : okB ftX6 ctX6 cX6_readNode 79 bX6_readNode_75 = true := by decide +kernel
def bX6_readNode_83 : List Ent := [e0 83 (.aload_n 0), e0 84 (.iload_n 1), e0 85 (.iload_n 2)]
theorem oX6_readNode_83 : okB ftX6 ctX6 cX6_readNode 86 bX6_readNode_83 = true := by decide +kernel
def bX6_readNode_90 : List Ent := [e0 90 (.iload_n 3)]
theorem oX6_readNode_90 : okB ftX6 ctX6 cX6_readNode 91 bX6_readNode_90 = true := by decide +kernel
def bX6_readNode_97 : List Ent := [e0 97 .dup]
theorem oX6_readNode_97 : okB ftX6 ctX6 cX6_readNode 98 bX6_readNode_97 = true := by decide +kernel
def bX6_readNode_101 : List Ent := [e0 101 (.goto 14)]
theorem oX6_readNode_101 : okB ftX6 ctX6 cX6_readNode 115 bX6_readNode_101 = true := by decide +kernel
def bX6_readNode_104 : List Ent := [e0 104 (.aload_n 0), ec 105 (.iconst 2) (.int 2), e0 106 (.aload_n 0), ef 107 (.getfield 9) .null 5 1, ec 110 (.iconst 1) (.int 1), e0 111 .isub]
theorem oX6_readNode_104 : okB ftX6 ctX6 cX6_readNode 112 bX6_readNode_104 = true := by decide +kernel
def bX6_readNode_116 : List Ent := [e0 116 (.aload_n 0), ec 117 (.iconst 2) (.int 2), e0 118 (.aload_n 0), ef 119 (.getfield 9) .null 5 1, ec 122 (.iconst 1) (.int 1), e0 123 .isub]
theorem oX6_readNode_116 : okB ftX6 ctX6 cX6_readNode 124 bX6_readNode_116 = true := by decide +kernel
theorem jX6_readNode_2 : decode cX6_readNode 2 = .ok (.invokevirtual 45, 3) := by decide +kernel
theorem jX6_readNode_5 : decode cX6_readNode 5 = .ok (.ifCond .eq 5, 3) := by decide +kernel
theorem jX6_readNode_9 : decode cX6_readNode 9 = .ok (.areturn, 1) := by decide +kernel
theorem jX6_readNode_12 : decode cX6_readNode 12 = .ok (.invokevirtual 49, 3) := by decide +kernel
theorem jX6_readNode_16 : decode cX6_readNode 16 = .ok (.tableswitch 100 0 3 #[32, 59, 67, 74], 32) := by decide +kernel
theorem jX6_readNode_51 : decode cX6_readNode 51 = .ok (.invokevirtual 45, 3) := by decide +kernel
theorem jX6_readNode_54 : decode cX6_readNode 54 = .ok (.ifCond .eq 7, 3) := by decide +kernel
theorem jX6_readNode_61 : decode cX6_readNode 61 = .ok (.new 53, 3) := by decide +kernel
theorem jX6_readNode_68 : decode cX6_readNode 68 = .ok (.invokevirtual 49, 3) := by decide +kernel
theorem jX6_readNode_71 : decode cX6_readNode 71 = .ok (.invokespecial 55, 3) := by decide +kernel
theorem jX6_readNode_74 : decode cX6_readNode 74 = .ok (.areturn, 1) := by decide +kernel
theorem jX6_readNode_79 : decode cX6_readNode 79 = .ok (.invokevirtual 58, 3) := by decide +kernel
theorem jX6_readNode_82 : decode cX6_readNode 82 = .ok (.areturn, 1) := by decide +kernel
theorem jX6_readNode_86 : decode cX6_readNode 86 = .ok (.invokevirtual 61, 3) := by decide +kernel
theorem jX6_readNode_89 : decode cX6_readNode 89 = .ok (.areturn, 1) := by decide +kernel
theorem jX6_readNode_91 : decode cX6_readNode 91 = .ok (.ifCond .ne 13, 3) := by decide +kernel
theorem jX6_readNode_94 : decode cX6_readNode 94 = .ok (.new 64, 3) := by decide +kernel
theorem jX6_readNode_98 : decode cX6_readNode 98 = .ok (.invokespecial 66, 3) := by decide +kernel
theorem jX6_readNode_112 : decode cX6_readNode 112 = .ok (.invokevirtual 35, 3) := by decide +kernel
theorem jX6_readNode_115 : decode cX6_readNode 115 = .ok (.areturn, 1) := by decide +kernel
theorem jX6_readNode_124 : decode cX6_readNode 124 = .ok (.invokevirtual 35, 3) := by decide +kernel
theorem jX6_readNode_127 : decode cX6_readNode 127 = .ok (.areturn, 1) := by decide +kernel
def bX6_readLeaf_0 : List Ent := [e0 0 (.aload_n 0), ec 1 (.iconst 2) (.int 2)]
theorem oX6_readLeaf_0 : okB ftX6 ctX6 cX6_readLeaf 2 bX6_readLeaf_0 = true := by decide +kernel
def bX6_readLeaf_8 : List Ent := [e0 8 .aconst_null]
theorem oX6_readLeaf_8 : okB ftX6 ctX6 cX6_readLeaf 9 bX6_readLeaf_8 = true := by decide +kernel
def bX6_readLeaf_10 : List Ent := [e0 10 (.aload_n 0), ec 11 (.iconst 2) (.int 2)]
theorem oX6_readLeaf_10 : okB ftX6 ctX6 cX6_readLeaf 12 bX6_readLeaf_10 = true := by decide +kernel
def bX6_readLeaf_15 : List Ent := [e0 15 .l2i, e0 16 (.istore_n 3), e0 17 (.iload_n 3), e0 18 (.iload_n 1)]
theorem oX6_readLeaf_15 : okB ftX6 ctX6 cX6_readLeaf 19 bX6_readLeaf_15 = true := by decide +kernel
def bX6_readLeaf_22 : List Ent := [e0 22 (.iload_n 3), e0 23 (.iload_n 2)]
theorem oX6_readLeaf_22 : okB ftX6 ctX6 cX6_readLeaf 24 bX6_readLeaf_22 = true := by decide +kernel
def bX6_readLeaf_27 : List Ent := [e0 27 (.aload_n 0), ec 28 (.iconst 5) (.int 5), e0 29 (.aload_n 0), ef 30 (.getfield 9) .null 5 1, ec 33 (.iconst 2) (.int 2), e0 34 .isub]
theorem oX6_readLeaf_27 : okB ftX6 ctX6 cX6_readLeaf 35 bX6_readLeaf_27 = true := by decide +kernel
def bX6_readLeaf_39 : List Ent := [e0 39 (.aload_n 0), ec 40 (.bipush 8) (.int 8)]
theorem oX6_readLeaf_39 : okB ftX6 ctX6 cX6_readLeaf 42 bX6_readLeaf_39 = true := by decide +kernel
def bX6_readLeaf_48 : List Ent := [e0 48 .aconst_null, e0 49 (.goto 17)]
theorem oX6_readLeaf_48 : okB ftX6 ctX6 cX6_readLeaf 66 bX6_readLeaf_48 = true := by decide +kernel
def bX6_readLeaf_55 : List Ent := [e0 55 .dup, e0 56 (.iload_n 3), e0 57 (.aload_n 0), ec 58 (.bipush 8) (.int 8)]
theorem oX6_readLeaf_55 : okB ftX6 ctX6 cX6_readLeaf 60 bX6_readLeaf_55 = true := by decide +kernel
theorem jX6_readLeaf_2 : decode cX6_readLeaf 2 = .ok (.invokevirtual 45, 3) := by decide +kernel
theorem jX6_readLeaf_5 : decode cX6_readLeaf 5 = .ok (.ifCond .eq 5, 3) := by decide +kernel
theorem jX6_readLeaf_9 : decode cX6_readLeaf 9 = .ok (.areturn, 1) := by decide +kernel
theorem jX6_readLeaf_12 : decode cX6_readLeaf 12 = .ok (.invokevirtual 49, 3) := by decide +kernel
theorem jX6_readLeaf_19 : decode cX6_readLeaf 19 = .ok (.if_icmp .lt 8, 3) := by decide +kernel
theorem jX6_readLeaf_24 : decode cX6_readLeaf 24 = .ok (.if_icmp .le 15, 3) := by decide +kernel
theorem jX6_readLeaf_35 : decode cX6_readLeaf 35 = .ok (.invokevirtual 35, 3) := by decide +kernel
theorem jX6_readLeaf_38 : decode cX6_readLeaf 38 = .ok (.areturn, 1) := by decide +kernel
theorem jX6_readLeaf_42 : decode cX6_readLeaf 42 = .ok (.invokevirtual 45, 3) := by decide +kernel
theorem jX6_readLeaf_45 : decode cX6_readLeaf 45 = .ok (.ifCond .eq 7, 3) := by decide +kernel
theorem jX6_readLeaf_52 : decode cX6_readLeaf 52 = .ok (.new 67, 3) := by decide +kernel
theorem jX6_readLeaf_60 : decode cX6_readLeaf 60 = .ok (.invokevirtual 49, 3) := by decide +kernel
theorem jX6_readLeaf_63 : decode cX6_readLeaf 63 = .ok (.invokespecial 69, 3) := by decide +kernel
theorem jX6_readLeaf_66 : decode cX6_readLeaf 66 = .ok (.areturn, 1) := by decide +kernel
def bX6_readFork_0 : List Ent := [e0 0 (.aload_n 0), ec 1 (.iconst 1) (.int 1)]
theorem oX6_readFork_0 : okB ftX6 ctX6 cX6_readFork 2 bX6_readFork_0 = true := by decide +kernel
def bX6_readFork_8 : List Ent := [e0 8 .aconst_null]
theorem oX6_readFork_8 : okB ftX6 ctX6 cX6_readFork 9 bX6_readFork_8 = true := by decide +kernel
def bX6_readFork_10 : List Ent := [e0 10 (.aload_n 0), ec 11 (.iconst 1) (.int 1)]
theorem oX6_readFork_10 : okB ftX6 ctX6 cX6_readFork 12 bX6_readFork_10 = true := by decide +kernel
def bX6_readFork_15 : List Ent := [e0 15 .l2i, e0 16 (.istore 4), e0 18 (.iload 4), ec 20 (.bipush 16) (.int 16)]
theorem oX6_readFork_15 : okB ftX6 ctX6 cX6_readFork 22 bX6_readFork_15 = true := by decide +kernel
def bX6_readFork_25 : List Ent := [e0 25 (.aload_n 0), ec 26 (.iconst 3) (.int 3), e0 27 (.aload_n 0), ef 28 (.getfield 9) .null 5 1, ec 31 (.iconst 1) (.int 1), e0 32 .isub]
theorem oX6_readFork_25 : okB ftX6 ctX6 cX6_readFork 33 bX6_readFork_25 = true := by decide +kernel
def bX6_readFork_37 : List Ent := [e0 37 (.aload_n 0), ec 38 (.iconst 2) (.int 2)]
theorem oX6_readFork_37 : okB ftX6 ctX6 cX6_readFork 39 bX6_readFork_37 = true := by decide +kernel
def bX6_readFork_45 : List Ent := [e0 45 .aconst_null]
theorem oX6_readFork_45 : okB ftX6 ctX6 cX6_readFork 46 bX6_readFork_45 = true := by decide +kernel
def bX6_readFork_47 : List Ent := [e0 47 (.aload_n 0), ec 48 (.iconst 2) (.int 2)]
theorem oX6_readFork_47 : okB ftX6 ctX6 cX6_readFork 49 bX6_readFork_47 = true := by decide +kernel
def bX6_readFork_52 : List Ent := [e0 52 .l2i, e0 53 (.istore 5), ec 55 (.iconst 1) (.int 1), ec 56 (.bipush 15) (.int 15), e0 58 (.iload 4), e0 60 .isub, e0 61 .ishl, e0 62 (.istore 6), e0 64 (.iload 5), e0 66 (.iload 5), e0 68 (.iload 4)]
theorem oX6_readFork_52 : okB ftX6 ctX6 cX6_readFork 70 bX6_readFork_52 = true := by decide +kernel
def bX6_readFork_76 : List Ent := [e0 76 (.iload 5), e0 78 (.iload_n 1)]
theorem oX6_readFork_76 : okB ftX6 ctX6 cX6_readFork 79 bX6_readFork_76 = true := by decide +kernel
def bX6_readFork_82 : List Ent := [e0 82 (.iload 5), ec 84 (.iconst 2) (.int 2), e0 85 (.iload 6), e0 87 .imul, e0 88 .iadd, ec 89 (.iconst 1) (.int 1), e0 90 .isub, e0 91 (.iload_n 2)]
theorem oX6_readFork_82 : okB ftX6 ctX6 cX6_readFork 92 bX6_readFork_82 = true := by decide +kernel
def bX6_readFork_95 : List Ent := [e0 95 (.iload_n 3), ec 96 (.bipush 16) (.int 16)]
theorem oX6_readFork_95 : okB ftX6 ctX6 cX6_readFork 98 bX6_readFork_95 = true := by decide +kernel
def bX6_readFork_101 : List Ent := [e0 101 (.aload_n 0), ec 102 (.iconst 4) (.int 4), e0 103 (.aload_n 0), ef 104 (.getfield 9) .null 5 1, ec 107 (.iconst 2) (.int 2), e0 108 .isub]
theorem oX6_readFork_101 : okB ftX6 ctX6 cX6_readFork 109 bX6_readFork_101 = true := by decide +kernel
def bX6_readFork_113 : List Ent := [e0 113 (.aload_n 0), e0 114 (.iload 5), e0 116 (.iload 5), e0 118 (.iload 6), e0 120 .iadd, ec 121 (.iconst 1) (.int 1), e0 122 .isub, e0 123 (.iload_n 3), ec 124 (.iconst 1) (.int 1), e0 125 .iadd]
theorem oX6_readFork_113 : okB ftX6 ctX6 cX6_readFork 126 bX6_readFork_113 = true := by decide +kernel
def bX6_readFork_129 : List Ent := [e0 129 (.astore 7), e0 131 (.aload 7)]
theorem oX6_readFork_129 : okB ftX6 ctX6 cX6_readFork 133 bX6_readFork_129 = true := by decide +kernel
def bX6_readFork_136 : List Ent := [e0 136 .aconst_null]
theorem oX6_readFork_136 : okB ftX6 ctX6 cX6_readFork 137 bX6_readFork_136 = true := by decide +kernel
def bX6_readFork_138 : List Ent := [e0 138 (.aload_n 0), e0 139 (.iload 5), e0 141 (.iload 6), e0 143 .iadd, e0 144 (.iload 5), ec 146 (.iconst 2) (.int 2), e0 147 (.iload 6), e0 149 .imul, e0 150 .iadd, ec 151 (.iconst 1) (.int 1), e0 152 .isub, e0 153 (.iload_n 3), ec 154 (.iconst 1) (.int 1), e0 155 .iadd]
theorem oX6_readFork_138 : okB ftX6 ctX6 cX6_readFork 156 bX6_readFork_138 = true := by decide +kernel
def bX6_readFork_159 : List Ent := [e0 159 (.astore 8), e0 161 (.aload 8)]
theorem oX6_readFork_159 : okB ftX6 ctX6 cX6_readFork 163 bX6_readFork_159 = true := by decide +kernel
def bX6_readFork_166 : List Ent := [e0 166 .aconst_null, e0 167 (.goto 18)]
theorem oX6_readFork_166 : okB ftX6 ctX6 cX6_readFork 185 bX6_readFork_166 = true := by decide +kernel
def bX6_readFork_173 : List Ent := [e0 173 .dup, e0 174 (.iload 4), e0 176 (.iload 5), e0 178 (.aload 7), e0 180 (.aload 8)]
theorem oX6_readFork_173 : okB ftX6 ctX6 cX6_readFork 182 bX6_readFork_173 = true := by decide +kernel
theorem jX6_readFork_2 : decode cX6_readFork 2 = .ok (.invokevirtual 45, 3) := by decide +kernel
theorem jX6_readFork_5 : decode cX6_readFork 5 = .ok (.ifCond .eq 5, 3) := by decide +kernel
theorem jX6_readFork_9 : decode cX6_readFork 9 = .ok (.areturn, 1) := by decide +kernel
theorem jX6_readFork_12 : decode cX6_readFork 12 = .ok (.invokevirtual 49, 3) := by decide +kernel
theorem jX6_readFork_22 : decode cX6_readFork 22 = .ok (.if_icmp .lt 15, 3) := by decide +kernel
theorem jX6_readFork_33 : decode cX6_readFork 33 = .ok (.invokevirtual 35, 3) := by decide +kernel
theorem jX6_readFork_36 : decode cX6_readFork 36 = .ok (.areturn, 1) := by decide +kernel
theorem jX6_readFork_39 : decode cX6_readFork 39 = .ok (.invokevirtual 45, 3) := by decide +kernel
theorem jX6_readFork_42 : decode cX6_readFork 42 = .ok (.ifCond .eq 5, 3) := by decide +kernel
theorem jX6_readFork_46 : decode cX6_readFork 46 = .ok (.areturn, 1) := by decide +kernel
theorem jX6_readFork_49 : decode cX6_readFork 49 = .ok (.invokevirtual 49, 3) := by decide +kernel
theorem jX6_readFork_70 : decode cX6_readFork 70 = .ok (.invokestatic 72, 3) := by decide +kernel
theorem jX6_readFork_73 : decode cX6_readFork 73 = .ok (.if_icmp .ne 28, 3) := by decide +kernel
theorem jX6_readFork_79 : decode cX6_readFork 79 = .ok (.if_icmp .lt 22, 3) := by decide +kernel
theorem jX6_readFork_92 : decode cX6_readFork 92 = .ok (.if_icmp .gt 9, 3) := by decide +kernel
theorem jX6_readFork_98 : decode cX6_readFork 98 = .ok (.if_icmp .lt 15, 3) := by decide +kernel
theorem jX6_readFork_109 : decode cX6_readFork 109 = .ok (.invokevirtual 35, 3) := by decide +kernel
theorem jX6_readFork_112 : decode cX6_readFork 112 = .ok (.areturn, 1) := by decide +kernel
theorem jX6_readFork_126 : decode cX6_readFork 126 = .ok (.invokevirtual 26, 3) := by decide +kernel
theorem jX6_readFork_133 : decode cX6_readFork 133 = .ok (.ifnonnull 5, 3) := by decide +kernel
theorem jX6_readFork_137 : decode cX6_readFork 137 = .ok (.areturn, 1) := by decide +kernel
theorem jX6_readFork_156 : decode cX6_readFork 156 = .ok (.invokevirtual 26, 3) := by decide +kernel
theorem jX6_readFork_163 : decode cX6_readFork 163 = .ok (.ifnonnull 7, 3) := by decide +kernel
theorem jX6_readFork_170 : decode cX6_readFork 170 = .ok (.new 76, 3) := by decide +kernel
theorem jX6_readFork_182 : decode cX6_readFork 182 = .ok (.invokespecial 78, 3) := by decide +kernel
theorem jX6_readFork_185 : decode cX6_readFork 185 = .ok (.areturn, 1) := by decide +kernel
def bX6_lacks_0 : List Ent := [e0 0 (.aload_n 0), ef 1 (.getfield 21) .null 5 0, ef 4 (.getfield 30) .null 6 1, e0 7 (.aload_n 0), ef 8 (.getfield 9) .null 5 1, e0 11 .isub, e0 12 (.iload_n 1)]
theorem oX6_lacks_0 : okB ftX6 ctX6 cX6_lacks 13 bX6_lacks_0 = true := by decide +kernel
def bX6_lacks_16 : List Ent := [ec 16 (.iconst 0) (.int 0)]
theorem oX6_lacks_16 : okB ftX6 ctX6 cX6_lacks 17 bX6_lacks_16 = true := by decide +kernel
def bX6_lacks_18 : List Ent := [e0 18 (.aload_n 0), ec 19 (.iconst 1) (.int 1), e0 20 (.aload_n 0), ef 21 (.getfield 21) .null 5 0, ef 24 (.getfield 30) .null 6 1]
theorem oX6_lacks_18 : okB ftX6 ctX6 cX6_lacks 27 bX6_lacks_18 = true := by decide +kernel
def bX6_lacks_30 : List Ent := [e0 30 .pop, ec 31 (.iconst 1) (.int 1)]
theorem oX6_lacks_30 : okB ftX6 ctX6 cX6_lacks 32 bX6_lacks_30 = true := by decide +kernel
theorem jX6_lacks_13 : decode cX6_lacks 13 = .ok (.if_icmp .lt 5, 3) := by decide +kernel
theorem jX6_lacks_17 : decode cX6_lacks 17 = .ok (.ireturn, 1) := by decide +kernel
theorem jX6_lacks_27 : decode cX6_lacks 27 = .ok (.invokevirtual 35, 3) := by decide +kernel
theorem jX6_lacks_32 : decode cX6_lacks 32 = .ok (.ireturn, 1) := by decide +kernel
def bX6_number_0 : List Ent := [ec 0 (.lconst 0) (.long 0), e0 1 (.lstore_n 2), ec 2 (.iconst 0) (.int 0), e0 3 (.istore 4)]
theorem oX6_number_0 : okB ftX6 ctX6 cX6_number 5 bX6_number_0 = true := by decide +kernel
def bX6_number_5 : List Ent := [e0 5 (.iload 4), e0 7 (.iload_n 1)]
theorem oX6_number_5 : okB ftX6 ctX6 cX6_number 8 bX6_number_5 = true := by decide +kernel
def bX6_number_11 : List Ent := [e0 11 (.aload_n 0), ef 12 (.getfield 21) .null 5 0, e0 15 (.aload_n 0), ef 16 (.getfield 9) .null 5 1]
theorem oX6_number_11 : okB ftX6 ctX6 cX6_number 19 bX6_number_11 = true := by decide +kernel
def bX6_number_25 : List Ent := [e0 25 (.lload_n 2), ec 26 (.bipush 8) (.int 8), e0 28 .lshl, e0 29 (.aload_n 0), ef 30 (.getfield 21) .null 5 0, ef 33 (.getfield 84) .null 6 0, e0 36 (.aload_n 0), ef 37 (.getfield 9) .null 5 1, e0 40 .iaload, e0 41 .i2l, e0 42 .lor, e0 43 (.lstore_n 2), e0 44 (.aload_n 0), e0 45 .dup, ef 46 (.getfield 9) .null 5 1, ec 49 (.iconst 1) (.int 1), e0 50 .iadd, ef 51 (.putfield 9) (.int 0) 5 1, ec 54 (.iinc 4 1) (.int 1), e0 57 (.goto (-52))]
theorem oX6_number_25 : okB ftX6 ctX6 cX6_number 5 bX6_number_25 = true := by decide +kernel
def bX6_number_60 : List Ent := [e0 60 (.lload_n 2)]
theorem oX6_number_60 : okB ftX6 ctX6 cX6_number 61 bX6_number_60 = true := by decide +kernel
theorem jX6_number_8 : decode cX6_number 8 = .ok (.if_icmp .ge 52, 3) := by decide +kernel
theorem jX6_number_19 : decode cX6_number 19 = .ok (.invokevirtual 81, 3) := by decide +kernel
theorem jX6_number_22 : decode cX6_number 22 = .ok (.ifCond .eq 38, 3) := by decide +kernel
theorem jX6_number_61 : decode cX6_number 61 = .ok (.lreturn, 1) := by decide +kernel
def bX6_refuse_0 : List Ent := [e0 0 (.aload_n 0), e0 1 (.iload_n 1), ef 2 (.putfield 15) (.int 0) 5 2, e0 5 (.aload_n 0), e0 6 (.iload_n 2), ef 7 (.putfield 18) (.int 0) 5 3, e0 10 .aconst_null]
theorem oX6_refuse_0 : okB ftX6 ctX6 cX6_refuse 11 bX6_refuse_0 = true := by decide +kernel
theorem jX6_refuse_11 : decode cX6_refuse 11 = .ok (.areturn, 1) := by decide +kernel
def bX7_init_0 : List Ent := [e0 0 (.aload_n 0)]
theorem oX7_init_0 : okB ftX7 ctX7 cX7_init 1 bX7_init_0 = true := by decide +kernel
def bX7_init_4 : List Ent := [e0 4 (.aload_n 0), ec 5 (.sipush 4000) (.int 4000)]
theorem oX7_init_4 : okB ftX7 ctX7 cX7_init 8 bX7_init_4 = true := by decide +kernel
def bX7_init_13 : List Ent := [e0 13 (.aload_n 0), ec 14 (.iconst 0) (.int 0), ef 15 (.putfield 15) (.int 0) 6 1]
theorem oX7_init_13 : okB ftX7 ctX7 cX7_init 18 bX7_init_13 = true := by decide +kernel
theorem jX7_init_1 : decode cX7_init 1 = .ok (.invokespecial 3, 3) := by decide +kernel
theorem jX7_init_8 : decode cX7_init 8 = .ok (.newarray .int, 2) := by decide +kernel
theorem jX7_init_10 : decode cX7_init 10 = .ok (.putfield 9, 3) := by decide +kernel
theorem jX7_init_18 : decode cX7_init 18 = .ok (.return_, 1) := by decide +kernel
def bX7_has_0 : List Ent := [e0 0 (.iload_n 1)]
theorem oX7_has_0 : okB ftX7 ctX7 cX7_has 1 bX7_has_0 = true := by decide +kernel
def bX7_has_4 : List Ent := [e0 4 (.iload_n 1), e0 5 (.aload_n 0), ef 6 (.getfield 15) .null 6 1]
theorem oX7_has_4 : okB ftX7 ctX7 cX7_has 9 bX7_has_4 = true := by decide +kernel
def bX7_has_12 : List Ent := [e0 12 (.iload_n 1), ec 13 (.sipush 4000) (.int 4000)]
theorem oX7_has_12 : okB ftX7 ctX7 cX7_has 16 bX7_has_12 = true := by decide +kernel
def bX7_has_19 : List Ent := [ec 19 (.iconst 1) (.int 1), e0 20 (.goto 4)]
theorem oX7_has_19 : okB ftX7 ctX7 cX7_has 24 bX7_has_19 = true := by decide +kernel
def bX7_has_23 : List Ent := [ec 23 (.iconst 0) (.int 0)]
theorem oX7_has_23 : okB ftX7 ctX7 cX7_has 24 bX7_has_23 = true := by decide +kernel
theorem jX7_has_1 : decode cX7_has 1 = .ok (.ifCond .lt 22, 3) := by decide +kernel
theorem jX7_has_9 : decode cX7_has 9 = .ok (.if_icmp .ge 14, 3) := by decide +kernel
theorem jX7_has_16 : decode cX7_has 16 = .ok (.if_icmp .ge 7, 3) := by decide +kernel
theorem jX7_has_24 : decode cX7_has 24 = .ok (.ireturn, 1) := by decide +kernel
def bX7_append_0 : List Ent := [e0 0 (.iload_n 1), ec 1 (.iconst 1) (.int 1), e0 2 .isub, e0 3 (.istore 4)]
theorem oX7_append_0 : okB ftX7 ctX7 cX7_append 5 bX7_append_0 = true := by decide +kernel
def bX7_append_5 : List Ent := [e0 5 (.iload 4)]
theorem oX7_append_5 : okB ftX7 ctX7 cX7_append 7 bX7_append_5 = true := by decide +kernel
def bX7_append_10 : List Ent := [e0 10 (.aload_n 0), ef 11 (.getfield 15) .null 6 1, ec 14 (.sipush 4000) (.int 4000)]
theorem oX7_append_10 : okB ftX7 ctX7 cX7_append 17 bX7_append_10 = true := by decide +kernel
def bX7_append_20 : List Ent := [e0 20 (.aload_n 0), ef 21 (.getfield 9) .null 6 0, e0 24 (.aload_n 0), ef 25 (.getfield 15) .null 6 1, e0 28 (.lload_n 2), ec 29 (.bipush 8) (.int 8), e0 31 (.iload 4), e0 33 .imul, e0 34 .lushr, e0 35 .l2i, ec 36 (.sipush 255) (.int 255), e0 39 .iand, e0 40 .iastore]
theorem oX7_append_20 : okB ftX7 ctX7 cX7_append 41 bX7_append_20 = true := by decide +kernel
def bX7_append_41 : List Ent := [e0 41 (.aload_n 0), e0 42 .dup, ef 43 (.getfield 15) .null 6 1, ec 46 (.iconst 1) (.int 1), e0 47 .iadd, ef 48 (.putfield 15) (.int 0) 6 1, ec 51 (.iinc 4 (-1)) (.int (-1)), e0 54 (.goto (-49))]
theorem oX7_append_41 : okB ftX7 ctX7 cX7_append 5 bX7_append_41 = true := by decide +kernel
theorem jX7_append_7 : decode cX7_append 7 = .ok (.ifCond .lt 50, 3) := by decide +kernel
theorem jX7_append_17 : decode cX7_append 17 = .ok (.if_icmp .ge 24, 3) := by decide +kernel
theorem jX7_append_57 : decode cX7_append 57 = .ok (.return_, 1) := by decide +kernel
def bX8_init_0 : List Ent := [e0 0 (.aload_n 0)]
theorem oX8_init_0 : okB ftX8 ctX8 cX8_init 1 bX8_init_0 = true := by decide +kernel
def bX8_init_4 : List Ent := [e0 4 (.aload_n 0), ec 5 (.bipush 8) (.int 8)]
theorem oX8_init_4 : okB ftX8 ctX8 cX8_init 7 bX8_init_4 = true := by decide +kernel
def bX8_init_13 : List Ent := [e0 13 (.aload_n 0)]
theorem oX8_init_13 : okB ftX8 ctX8 cX8_init 14 bX8_init_13 = true := by decide +kernel
def bX8_init_17 : List Ent := [e0 17 .dup]
theorem oX8_init_17 : okB ftX8 ctX8 cX8_init 18 bX8_init_17 = true := by decide +kernel
def bX8_init_24 : List Ent := [e0 24 (.aload_n 0)]
theorem oX8_init_24 : okB ftX8 ctX8 cX8_init 25 bX8_init_24 = true := by decide +kernel
def bX8_init_28 : List Ent := [e0 28 .dup]
theorem oX8_init_28 : okB ftX8 ctX8 cX8_init 29 bX8_init_28 = true := by decide +kernel
def bX8_init_32 : List Ent := [ef 32 (.putfield 25) .null 7 2, e0 35 (.aload_n 0), ec 36 (.iconst 0) (.int 0), ef 37 (.putfield 29) (.int 0) 7 3, e0 40 (.aload_n 0)]
theorem oX8_init_32 : okB ftX8 ctX8 cX8_init 41 bX8_init_32 = true := by decide +kernel
def bX8_init_44 : List Ent := [e0 44 .dup]
theorem oX8_init_44 : okB ftX8 ctX8 cX8_init 45 bX8_init_44 = true := by decide +kernel
def bX8_init_48 : List Ent := [ef 48 (.putfield 36) .null 7 4, e0 51 (.aload_n 0)]
theorem oX8_init_48 : okB ftX8 ctX8 cX8_init 52 bX8_init_48 = true := by decide +kernel
def bX8_init_55 : List Ent := [e0 55 .dup]
theorem oX8_init_55 : okB ftX8 ctX8 cX8_init 56 bX8_init_55 = true := by decide +kernel
def bX8_init_59 : List Ent := [ef 59 (.putfield 40) .null 7 5, e0 62 (.aload_n 0), e0 63 .aconst_null, ef 64 (.putfield 43) .null 7 6, e0 67 (.aload_n 0), ec 68 (.bipush (-2)) (.int (-2)), ef 70 (.putfield 46) (.int 0) 7 7, e0 73 (.aload_n 0), ec 74 (.lconst 0) (.long 0), ef 75 (.putfield 49) (.long 0) 7 8]
theorem oX8_init_59 : okB ftX8 ctX8 cX8_init 78 bX8_init_59 = true := by decide +kernel
theorem jX8_init_1 : decode cX8_init 1 = .ok (.invokespecial 1, 3) := by decide +kernel
theorem jX8_init_7 : decode cX8_init 7 = .ok (.anewarray 9, 3) := by decide +kernel
theorem jX8_init_10 : decode cX8_init 10 = .ok (.putfield 11, 3) := by decide +kernel
theorem jX8_init_14 : decode cX8_init 14 = .ok (.new 15, 3) := by decide +kernel
theorem jX8_init_18 : decode cX8_init 18 = .ok (.invokespecial 17, 3) := by decide +kernel
theorem jX8_init_21 : decode cX8_init 21 = .ok (.putfield 18, 3) := by decide +kernel
theorem jX8_init_25 : decode cX8_init 25 = .ok (.new 22, 3) := by decide +kernel
theorem jX8_init_29 : decode cX8_init 29 = .ok (.invokespecial 24, 3) := by decide +kernel
theorem jX8_init_41 : decode cX8_init 41 = .ok (.new 33, 3) := by decide +kernel
theorem jX8_init_45 : decode cX8_init 45 = .ok (.invokespecial 35, 3) := by decide +kernel
theorem jX8_init_52 : decode cX8_init 52 = .ok (.new 33, 3) := by decide +kernel
theorem jX8_init_56 : decode cX8_init 56 = .ok (.invokespecial 35, 3) := by decide +kernel
theorem jX8_init_78 : decode cX8_init 78 = .ok (.return_, 1) := by decide +kernel
def bX8_put_0 : List Ent := [e0 0 (.iload_n 1)]
theorem oX8_put_0 : okB ftX8 ctX8 cX8_put 1 bX8_put_0 = true := by decide +kernel
def bX8_put_7 : List Ent := [ec 7 (.iconst (-1)) (.int (-1))]
theorem oX8_put_7 : okB ftX8 ctX8 cX8_put 8 bX8_put_7 = true := by decide +kernel
def bX8_put_9 : List Ent := [e0 9 (.aload_n 0), ef 10 (.getfield 25) .null 7 2, e0 13 (.iload_n 1)]
theorem oX8_put_9 : okB ftX8 ctX8 cX8_put 14 bX8_put_9 = true := by decide +kernel
def bX8_put_17 : List Ent := [e0 17 (.iload_n 1)]
theorem oX8_put_17 : okB ftX8 ctX8 cX8_put 18 bX8_put_17 = true := by decide +kernel
def bX8_put_21 : List Ent := [e0 21 (.istore 4), e0 23 (.aload_n 0), ef 24 (.getfield 25) .null 7 2]
theorem oX8_put_21 : okB ftX8 ctX8 cX8_put 27 bX8_put_21 = true := by decide +kernel
def bX8_put_30 : List Ent := [e0 30 .dup, e0 31 (.iload_n 1), e0 32 (.lload_n 2)]
theorem oX8_put_30 : okB ftX8 ctX8 cX8_put 33 bX8_put_30 = true := by decide +kernel
def bX8_put_36 : List Ent := [ec 36 (.iconst 0) (.int 0)]
theorem oX8_put_36 : okB ftX8 ctX8 cX8_put 37 bX8_put_36 = true := by decide +kernel
def bX8_put_40 : List Ent := [e0 40 (.astore 5), e0 42 (.aload 5), ec 44 (.iconst 0) (.int 0), ec 45 (.ldc 74) (.int 65535), ec 47 (.iconst 0) (.int 0)]
theorem oX8_put_40 : okB ftX8 ctX8 cX8_put 48 bX8_put_40 = true := by decide +kernel
def bX8_put_51 : List Ent := [ec 51 (.sipush 300) (.int 300)]
theorem oX8_put_51 : okB ftX8 ctX8 cX8_put 54 bX8_put_51 = true := by decide +kernel
def bX8_put_57 : List Ent := [ec 57 (.bipush (-3)) (.int (-3))]
theorem oX8_put_57 : okB ftX8 ctX8 cX8_put 59 bX8_put_57 = true := by decide +kernel
def bX8_put_60 : List Ent := [e0 60 (.aload_n 0), e0 61 (.aload 5), ef 63 (.putfield 25) .null 7 2, e0 66 (.iload 4)]
theorem oX8_put_60 : okB ftX8 ctX8 cX8_put 68 bX8_put_60 = true := by decide +kernel
def bX8_put_71 : List Ent := [ec 71 (.iconst 0) (.int 0), e0 72 (.goto 4)]
theorem oX8_put_71 : okB ftX8 ctX8 cX8_put 76 bX8_put_71 = true := by decide +kernel
def bX8_put_75 : List Ent := [ec 75 (.iconst 1) (.int 1)]
theorem oX8_put_75 : okB ftX8 ctX8 cX8_put 76 bX8_put_75 = true := by decide +kernel
theorem jX8_put_1 : decode cX8_put 1 = .ok (.invokestatic 53, 3) := by decide +kernel
theorem jX8_put_4 : decode cX8_put 4 = .ok (.ifCond .ne 5, 3) := by decide +kernel
theorem jX8_put_8 : decode cX8_put 8 = .ok (.ireturn, 1) := by decide +kernel
theorem jX8_put_14 : decode cX8_put 14 = .ok (.invokestatic 57, 3) := by decide +kernel
theorem jX8_put_18 : decode cX8_put 18 = .ok (.invokestatic 61, 3) := by decide +kernel
theorem jX8_put_27 : decode cX8_put 27 = .ok (.new 65, 3) := by decide +kernel
theorem jX8_put_33 : decode cX8_put 33 = .ok (.invokespecial 67, 3) := by decide +kernel
theorem jX8_put_37 : decode cX8_put 37 = .ok (.invokestatic 70, 3) := by decide +kernel
theorem jX8_put_48 : decode cX8_put 48 = .ok (.invokestatic 75, 3) := by decide +kernel
theorem jX8_put_54 : decode cX8_put 54 = .ok (.if_icmp .le 6, 3) := by decide +kernel
theorem jX8_put_59 : decode cX8_put 59 = .ok (.ireturn, 1) := by decide +kernel
theorem jX8_put_68 : decode cX8_put 68 = .ok (.ifCond .eq 7, 3) := by decide +kernel
theorem jX8_put_76 : decode cX8_put 76 = .ok (.ireturn, 1) := by decide +kernel
def bX8_remove_0 : List Ent := [e0 0 (.iload_n 1)]
theorem oX8_remove_0 : okB ftX8 ctX8 cX8_remove 1 bX8_remove_0 = true := by decide +kernel
def bX8_remove_7 : List Ent := [ec 7 (.iconst (-1)) (.int (-1))]
theorem oX8_remove_7 : okB ftX8 ctX8 cX8_remove 8 bX8_remove_7 = true := by decide +kernel
def bX8_remove_9 : List Ent := [e0 9 (.aload_n 0), ef 10 (.getfield 25) .null 7 2, e0 13 (.iload_n 1)]
theorem oX8_remove_9 : okB ftX8 ctX8 cX8_remove 14 bX8_remove_9 = true := by decide +kernel
def bX8_remove_17 : List Ent := [e0 17 (.iload_n 1)]
theorem oX8_remove_17 : okB ftX8 ctX8 cX8_remove 18 bX8_remove_17 = true := by decide +kernel
def bX8_remove_24 : List Ent := [ec 24 (.iconst 0) (.int 0)]
theorem oX8_remove_24 : okB ftX8 ctX8 cX8_remove 25 bX8_remove_24 = true := by decide +kernel
def bX8_remove_26 : List Ent := [e0 26 (.aload_n 0), e0 27 (.aload_n 0), ef 28 (.getfield 25) .null 7 2, e0 31 (.iload_n 1), ec 32 (.iconst 0) (.int 0)]
theorem oX8_remove_26 : okB ftX8 ctX8 cX8_remove 33 bX8_remove_26 = true := by decide +kernel
def bX8_remove_36 : List Ent := [ef 36 (.putfield 25) .null 7 2, ec 39 (.iconst 1) (.int 1)]
theorem oX8_remove_36 : okB ftX8 ctX8 cX8_remove 40 bX8_remove_36 = true := by decide +kernel
theorem jX8_remove_1 : decode cX8_remove 1 = .ok (.invokestatic 53, 3) := by decide +kernel
theorem jX8_remove_4 : decode cX8_remove 4 = .ok (.ifCond .ne 5, 3) := by decide +kernel
theorem jX8_remove_8 : decode cX8_remove 8 = .ok (.ireturn, 1) := by decide +kernel
theorem jX8_remove_14 : decode cX8_remove 14 = .ok (.invokestatic 57, 3) := by decide +kernel
theorem jX8_remove_18 : decode cX8_remove 18 = .ok (.invokestatic 61, 3) := by decide +kernel
theorem jX8_remove_21 : decode cX8_remove 21 = .ok (.ifCond .ne 5, 3) := by decide +kernel
theorem jX8_remove_25 : decode cX8_remove 25 = .ok (.ireturn, 1) := by decide +kernel
theorem jX8_remove_33 : decode cX8_remove 33 = .ok (.invokestatic 79, 3) := by decide +kernel
theorem jX8_remove_40 : decode cX8_remove 40 = .ok (.ireturn, 1) := by decide +kernel
def bX8_keep_0 : List Ent := [e0 0 (.aload_n 0), ef 1 (.getfield 29) .null 7 3, ec 4 (.bipush 8) (.int 8)]
theorem oX8_keep_0 : okB ftX8 ctX8 cX8_keep 6 bX8_keep_0 = true := by decide +kernel
def bX8_keep_9 : List Ent := [ec 9 (.bipush (-3)) (.int (-3))]
theorem oX8_keep_9 : okB ftX8 ctX8 cX8_keep 11 bX8_keep_9 = true := by decide +kernel
def bX8_keep_12 : List Ent := [e0 12 (.aload_n 0), ef 13 (.getfield 11) .null 7 0, e0 16 (.aload_n 0), ef 17 (.getfield 29) .null 7 3, e0 20 (.aload_n 0), ef 21 (.getfield 25) .null 7 2]
theorem oX8_keep_12 : okB ftX8 ctX8 cX8_keep 24 bX8_keep_12 = true := by decide +kernel
def bX8_keep_25 : List Ent := [e0 25 (.aload_n 0), e0 26 .dup, ef 27 (.getfield 29) .null 7 3, ec 30 (.iconst 1) (.int 1), e0 31 .iadd, ef 32 (.putfield 29) (.int 0) 7 3, e0 35 (.aload_n 0), ef 36 (.getfield 29) .null 7 3, ec 39 (.iconst 1) (.int 1), e0 40 .isub]
theorem oX8_keep_25 : okB ftX8 ctX8 cX8_keep 41 bX8_keep_25 = true := by decide +kernel
theorem jX8_keep_6 : decode cX8_keep 6 = .ok (.if_icmp .lt 6, 3) := by decide +kernel
theorem jX8_keep_11 : decode cX8_keep 11 = .ok (.ireturn, 1) := by decide +kernel
theorem jX8_keep_24 : decode cX8_keep 24 = .ok (.aastore, 1) := by decide +kernel
theorem jX8_keep_41 : decode cX8_keep 41 = .ok (.ireturn, 1) := by decide +kernel
def bX8_root_0 : List Ent := [e0 0 (.aload_n 0), e0 1 (.iload_n 1)]
theorem oX8_root_0 : okB ftX8 ctX8 cX8_root 2 bX8_root_0 = true := by decide +kernel
def bX8_root_5 : List Ent := [e0 5 (.astore_n 2), e0 6 (.aload_n 2)]
theorem oX8_root_5 : okB ftX8 ctX8 cX8_root 7 bX8_root_5 = true := by decide +kernel
def bX8_root_10 : List Ent := [ec 10 (.lconst 0) (.long 0), e0 11 (.goto 7)]
theorem oX8_root_10 : okB ftX8 ctX8 cX8_root 18 bX8_root_10 = true := by decide +kernel
def bX8_root_14 : List Ent := [e0 14 (.aload_n 2)]
theorem oX8_root_14 : okB ftX8 ctX8 cX8_root 15 bX8_root_14 = true := by decide +kernel
theorem jX8_root_2 : decode cX8_root 2 = .ok (.invokevirtual 83, 3) := by decide +kernel
theorem jX8_root_7 : decode cX8_root 7 = .ok (.ifnonnull 7, 3) := by decide +kernel
theorem jX8_root_15 : decode cX8_root 15 = .ok (.getfield 87, 3) := by decide +kernel
theorem jX8_root_18 : decode cX8_root 18 = .ok (.lreturn, 1) := by decide +kernel
def bX8_leaves_0 : List Ent := [e0 0 (.aload_n 0), e0 1 (.iload_n 1)]
theorem oX8_leaves_0 : okB ftX8 ctX8 cX8_leaves 2 bX8_leaves_0 = true := by decide +kernel
def bX8_leaves_5 : List Ent := [e0 5 (.astore_n 2), e0 6 (.aload_n 2)]
theorem oX8_leaves_5 : okB ftX8 ctX8 cX8_leaves 7 bX8_leaves_5 = true := by decide +kernel
def bX8_leaves_10 : List Ent := [ec 10 (.iconst (-1)) (.int (-1)), e0 11 (.goto 11)]
theorem oX8_leaves_10 : okB ftX8 ctX8 cX8_leaves 22 bX8_leaves_10 = true := by decide +kernel
def bX8_leaves_14 : List Ent := [e0 14 (.aload_n 2), ec 15 (.iconst 0) (.int 0), ec 16 (.ldc 74) (.int 65535), ec 18 (.iconst 0) (.int 0)]
theorem oX8_leaves_14 : okB ftX8 ctX8 cX8_leaves 19 bX8_leaves_14 = true := by decide +kernel
theorem jX8_leaves_2 : decode cX8_leaves 2 = .ok (.invokevirtual 83, 3) := by decide +kernel
theorem jX8_leaves_7 : decode cX8_leaves 7 = .ok (.ifnonnull 7, 3) := by decide +kernel
theorem jX8_leaves_19 : decode cX8_leaves 19 = .ok (.invokestatic 75, 3) := by decide +kernel
theorem jX8_leaves_22 : decode cX8_leaves 22 = .ok (.ireturn, 1) := by decide +kernel
def bX8_want_0 : List Ent := [e0 0 (.iload_n 1), e0 1 (.iload_n 2)]
theorem oX8_want_0 : okB ftX8 ctX8 cX8_want 2 bX8_want_0 = true := by decide +kernel
def bX8_want_8 : List Ent := [ec 8 (.iconst (-1)) (.int (-1))]
theorem oX8_want_8 : okB ftX8 ctX8 cX8_want 9 bX8_want_8 = true := by decide +kernel
def bX8_want_10 : List Ent := [e0 10 (.aload_n 0), ef 11 (.getfield 18) .null 7 1, e0 14 (.iload_n 1), e0 15 (.iload_n 2)]
theorem oX8_want_10 : okB ftX8 ctX8 cX8_want 16 bX8_want_10 = true := by decide +kernel
def bX8_want_22 : List Ent := [e0 22 (.aload_n 0), ef 23 (.getfield 18) .null 7 1, ef 26 (.getfield 97) .null 4 2, e0 29 (.goto 5)]
theorem oX8_want_22 : okB ftX8 ctX8 cX8_want 34 bX8_want_22 = true := by decide +kernel
def bX8_want_32 : List Ent := [ec 32 (.bipush (-3)) (.int (-3))]
theorem oX8_want_32 : okB ftX8 ctX8 cX8_want 34 bX8_want_32 = true := by decide +kernel
theorem jX8_want_2 : decode cX8_want 2 = .ok (.invokestatic 90, 3) := by decide +kernel
theorem jX8_want_5 : decode cX8_want 5 = .ok (.ifCond .ne 5, 3) := by decide +kernel
theorem jX8_want_9 : decode cX8_want 9 = .ok (.ireturn, 1) := by decide +kernel
theorem jX8_want_16 : decode cX8_want 16 = .ok (.invokevirtual 94, 3) := by decide +kernel
theorem jX8_want_19 : decode cX8_want 19 = .ok (.ifCond .eq 13, 3) := by decide +kernel
theorem jX8_want_34 : decode cX8_want 34 = .ok (.ireturn, 1) := by decide +kernel
def bX8_forget_0 : List Ent := [e0 0 (.aload_n 0), ef 1 (.getfield 18) .null 7 1, ef 4 (.getfield 97) .null 4 2, e0 7 (.istore_n 1), e0 8 (.aload_n 0), ef 9 (.getfield 18) .null 7 1, ec 12 (.iconst 0) (.int 0), ef 13 (.putfield 97) (.int 0) 4 2, e0 16 (.iload_n 1)]
theorem oX8_forget_0 : okB ftX8 ctX8 cX8_forget 17 bX8_forget_0 = true := by decide +kernel
theorem jX8_forget_17 : decode cX8_forget 17 = .ok (.ireturn, 1) := by decide +kernel
def bX8_show_0 : List Ent := [e0 0 (.aload_n 0), e0 1 (.iload_n 1)]
theorem oX8_show_0 : okB ftX8 ctX8 cX8_show 2 bX8_show_0 = true := by decide +kernel
def bX8_show_5 : List Ent := [e0 5 (.astore_n 2), e0 6 (.aload_n 2)]
theorem oX8_show_5 : okB ftX8 ctX8 cX8_show 7 bX8_show_5 = true := by decide +kernel
def bX8_show_10 : List Ent := [ec 10 (.iconst (-1)) (.int (-1)), e0 11 (.goto 8)]
theorem oX8_show_10 : okB ftX8 ctX8 cX8_show 19 bX8_show_10 = true := by decide +kernel
def bX8_show_14 : List Ent := [e0 14 (.aload_n 0), e0 15 (.aload_n 2)]
theorem oX8_show_14 : okB ftX8 ctX8 cX8_show 16 bX8_show_14 = true := by decide +kernel
theorem jX8_show_2 : decode cX8_show 2 = .ok (.invokevirtual 83, 3) := by decide +kernel
theorem jX8_show_7 : decode cX8_show 7 = .ok (.ifnonnull 7, 3) := by decide +kernel
theorem jX8_show_16 : decode cX8_show 16 = .ok (.invokevirtual 100, 3) := by decide +kernel
theorem jX8_show_19 : decode cX8_show 19 = .ok (.ireturn, 1) := by decide +kernel
def bX8_pass_0 : List Ent := [e0 0 (.aload_n 0), ef 1 (.getfield 43) .null 7 6]
theorem oX8_pass_0 : okB ftX8 ctX8 cX8_pass 4 bX8_pass_0 = true := by decide +kernel
def bX8_pass_7 : List Ent := [ec 7 (.bipush (-2)) (.int (-2)), e0 9 (.goto 11)]
theorem oX8_pass_7 : okB ftX8 ctX8 cX8_pass 20 bX8_pass_7 = true := by decide +kernel
def bX8_pass_12 : List Ent := [e0 12 (.aload_n 0), e0 13 (.aload_n 0), ef 14 (.getfield 43) .null 7 6]
theorem oX8_pass_12 : okB ftX8 ctX8 cX8_pass 17 bX8_pass_12 = true := by decide +kernel
theorem jX8_pass_4 : decode cX8_pass 4 = .ok (.ifnonnull 8, 3) := by decide +kernel
theorem jX8_pass_17 : decode cX8_pass 17 = .ok (.invokevirtual 100, 3) := by decide +kernel
theorem jX8_pass_20 : decode cX8_pass 20 = .ok (.ireturn, 1) := by decide +kernel
def bX8_feed_0 : List Ent := [e0 0 (.iload_n 1), ec 1 (.iconst 1) (.int 1)]
theorem oX8_feed_0 : okB ftX8 ctX8 cX8_feed 2 bX8_feed_0 = true := by decide +kernel
def bX8_feed_5 : List Ent := [e0 5 (.iload_n 1), ec 6 (.bipush 8) (.int 8)]
theorem oX8_feed_5 : okB ftX8 ctX8 cX8_feed 8 bX8_feed_5 = true := by decide +kernel
def bX8_feed_11 : List Ent := [ec 11 (.iconst (-1)) (.int (-1))]
theorem oX8_feed_11 : okB ftX8 ctX8 cX8_feed 12 bX8_feed_11 = true := by decide +kernel
def bX8_feed_13 : List Ent := [e0 13 (.aload_n 0), ef 14 (.getfield 36) .null 7 4, ef 17 (.getfield 104) .null 6 1, e0 20 (.iload_n 1), e0 21 .iadd, ec 22 (.sipush 4000) (.int 4000)]
theorem oX8_feed_13 : okB ftX8 ctX8 cX8_feed 25 bX8_feed_13 = true := by decide +kernel
def bX8_feed_28 : List Ent := [ec 28 (.bipush (-3)) (.int (-3))]
theorem oX8_feed_28 : okB ftX8 ctX8 cX8_feed 30 bX8_feed_28 = true := by decide +kernel
def bX8_feed_31 : List Ent := [e0 31 (.aload_n 0), ef 32 (.getfield 36) .null 7 4, e0 35 (.iload_n 1), e0 36 (.lload_n 2)]
theorem oX8_feed_31 : okB ftX8 ctX8 cX8_feed 37 bX8_feed_31 = true := by decide +kernel
def bX8_feed_40 : List Ent := [e0 40 (.aload_n 0), ef 41 (.getfield 36) .null 7 4, ef 44 (.getfield 104) .null 6 1]
theorem oX8_feed_40 : okB ftX8 ctX8 cX8_feed 47 bX8_feed_40 = true := by decide +kernel
theorem jX8_feed_2 : decode cX8_feed 2 = .ok (.if_icmp .lt 9, 3) := by decide +kernel
theorem jX8_feed_8 : decode cX8_feed 8 = .ok (.if_icmp .le 5, 3) := by decide +kernel
theorem jX8_feed_12 : decode cX8_feed 12 = .ok (.ireturn, 1) := by decide +kernel
theorem jX8_feed_25 : decode cX8_feed 25 = .ok (.if_icmp .le 6, 3) := by decide +kernel
theorem jX8_feed_30 : decode cX8_feed 30 = .ok (.ireturn, 1) := by decide +kernel
theorem jX8_feed_37 : decode cX8_feed 37 = .ok (.invokevirtual 107, 3) := by decide +kernel
theorem jX8_feed_47 : decode cX8_feed 47 = .ok (.ireturn, 1) := by decide +kernel
def bX8_cut_0 : List Ent := [e0 0 (.iload_n 1)]
theorem oX8_cut_0 : okB ftX8 ctX8 cX8_cut 1 bX8_cut_0 = true := by decide +kernel
def bX8_cut_4 : List Ent := [e0 4 (.iload_n 1), e0 5 (.aload_n 0), ef 6 (.getfield 36) .null 7 4, ef 9 (.getfield 104) .null 6 1]
theorem oX8_cut_4 : okB ftX8 ctX8 cX8_cut 12 bX8_cut_4 = true := by decide +kernel
def bX8_cut_15 : List Ent := [ec 15 (.iconst (-1)) (.int (-1))]
theorem oX8_cut_15 : okB ftX8 ctX8 cX8_cut 16 bX8_cut_15 = true := by decide +kernel
def bX8_cut_17 : List Ent := [e0 17 (.aload_n 0), ef 18 (.getfield 36) .null 7 4, ef 21 (.getfield 104) .null 6 1, e0 24 (.iload_n 1), e0 25 .isub, e0 26 (.istore_n 2), e0 27 (.aload_n 0), ef 28 (.getfield 36) .null 7 4, e0 31 (.iload_n 1), ef 32 (.putfield 104) (.int 0) 6 1, e0 35 (.iload_n 2)]
theorem oX8_cut_17 : okB ftX8 ctX8 cX8_cut 36 bX8_cut_17 = true := by decide +kernel
theorem jX8_cut_1 : decode cX8_cut 1 = .ok (.ifCond .lt 14, 3) := by decide +kernel
theorem jX8_cut_12 : decode cX8_cut 12 = .ok (.if_icmp .le 5, 3) := by decide +kernel
theorem jX8_cut_16 : decode cX8_cut 16 = .ok (.ireturn, 1) := by decide +kernel
theorem jX8_cut_36 : decode cX8_cut 36 = .ok (.ireturn, 1) := by decide +kernel
def bX8_spoil_0 : List Ent := [e0 0 (.aload_n 0), ef 1 (.getfield 36) .null 7 4, e0 4 (.iload_n 1)]
theorem oX8_spoil_0 : okB ftX8 ctX8 cX8_spoil 5 bX8_spoil_0 = true := by decide +kernel
def bX8_spoil_11 : List Ent := [e0 11 (.iload_n 2)]
theorem oX8_spoil_11 : okB ftX8 ctX8 cX8_spoil 12 bX8_spoil_11 = true := by decide +kernel
def bX8_spoil_15 : List Ent := [e0 15 (.iload_n 2), ec 16 (.sipush 255) (.int 255)]
theorem oX8_spoil_15 : okB ftX8 ctX8 cX8_spoil 19 bX8_spoil_15 = true := by decide +kernel
def bX8_spoil_22 : List Ent := [ec 22 (.iconst (-1)) (.int (-1))]
theorem oX8_spoil_22 : okB ftX8 ctX8 cX8_spoil 23 bX8_spoil_22 = true := by decide +kernel
def bX8_spoil_24 : List Ent := [e0 24 (.aload_n 0), ef 25 (.getfield 36) .null 7 4, ef 28 (.getfield 113) .null 6 0, e0 31 (.iload_n 1), e0 32 .dup2, e0 33 .iaload, e0 34 (.iload_n 2), e0 35 .ixor, e0 36 .iastore, e0 37 (.aload_n 0), ef 38 (.getfield 36) .null 7 4, ef 41 (.getfield 113) .null 6 0, e0 44 (.iload_n 1), e0 45 .iaload]
theorem oX8_spoil_24 : okB ftX8 ctX8 cX8_spoil 46 bX8_spoil_24 = true := by decide +kernel
theorem jX8_spoil_5 : decode cX8_spoil 5 = .ok (.invokevirtual 110, 3) := by decide +kernel
theorem jX8_spoil_8 : decode cX8_spoil 8 = .ok (.ifCond .eq 14, 3) := by decide +kernel
theorem jX8_spoil_12 : decode cX8_spoil 12 = .ok (.ifCond .lt 10, 3) := by decide +kernel
theorem jX8_spoil_19 : decode cX8_spoil 19 = .ok (.if_icmp .le 5, 3) := by decide +kernel
theorem jX8_spoil_23 : decode cX8_spoil 23 = .ok (.ireturn, 1) := by decide +kernel
theorem jX8_spoil_46 : decode cX8_spoil 46 = .ok (.ireturn, 1) := by decide +kernel
def bX8_take_3 : List Ent := [e0 3 .dup, e0 4 (.aload_n 0), ef 5 (.getfield 36) .null 7 4]
theorem oX8_take_3 : okB ftX8 ctX8 cX8_take 8 bX8_take_3 = true := by decide +kernel
def bX8_take_11 : List Ent := [e0 11 (.astore_n 3), e0 12 (.aload_n 3), e0 13 (.lload_n 1)]
theorem oX8_take_11 : okB ftX8 ctX8 cX8_take 14 bX8_take_11 = true := by decide +kernel
def bX8_take_17 : List Ent := [e0 17 (.astore 4), e0 19 (.aload_n 0), e0 20 (.aload_n 3), ef 21 (.getfield 126) .null 5 3, ef 24 (.putfield 46) (.int 0) 7 7, e0 27 (.aload 4)]
theorem oX8_take_17 : okB ftX8 ctX8 cX8_take 29 bX8_take_17 = true := by decide +kernel
def bX8_take_32 : List Ent := [ec 32 (.bipush (-10)) (.int (-10)), e0 34 (.aload_n 3), ef 35 (.getfield 127) .null 5 2, e0 38 .isub]
theorem oX8_take_32 : okB ftX8 ctX8 cX8_take 39 bX8_take_32 = true := by decide +kernel
def bX8_take_40 : List Ent := [e0 40 (.aload_n 0), e0 41 (.aload 4), ef 43 (.putfield 43) .null 7 6, e0 46 (.aload 4), ec 48 (.iconst 0) (.int 0)]
theorem oX8_take_40 : okB ftX8 ctX8 cX8_take 49 bX8_take_40 = true := by decide +kernel
theorem jX8_take_0 : decode cX8_take 0 = .ok (.new 117, 3) := by decide +kernel
theorem jX8_take_8 : decode cX8_take 8 = .ok (.invokespecial 119, 3) := by decide +kernel
theorem jX8_take_14 : decode cX8_take 14 = .ok (.invokevirtual 122, 3) := by decide +kernel
theorem jX8_take_29 : decode cX8_take 29 = .ok (.ifnonnull 11, 3) := by decide +kernel
theorem jX8_take_39 : decode cX8_take 39 = .ok (.ireturn, 1) := by decide +kernel
theorem jX8_take_49 : decode cX8_take 49 = .ok (.invokestatic 130, 3) := by decide +kernel
theorem jX8_take_52 : decode cX8_take 52 = .ok (.ireturn, 1) := by decide +kernel
def bX8_place_0 : List Ent := [e0 0 (.aload_n 0), ef 1 (.getfield 46) .null 7 7]
theorem oX8_place_0 : okB ftX8 ctX8 cX8_place 4 bX8_place_0 = true := by decide +kernel
theorem jX8_place_4 : decode cX8_place 4 = .ok (.ireturn, 1) := by decide +kernel
def bX8_get_0 : List Ent := [e0 0 (.aload_n 0), ec 1 (.lconst 0) (.long 0), ef 2 (.putfield 49) (.long 0) 7 8, e0 5 (.iload_n 1)]
theorem oX8_get_0 : okB ftX8 ctX8 cX8_get 6 bX8_get_0 = true := by decide +kernel
def bX8_get_12 : List Ent := [ec 12 (.iconst (-1)) (.int (-1))]
theorem oX8_get_12 : okB ftX8 ctX8 cX8_get 13 bX8_get_12 = true := by decide +kernel
def bX8_get_14 : List Ent := [e0 14 (.aload_n 0), ef 15 (.getfield 43) .null 7 6]
theorem oX8_get_14 : okB ftX8 ctX8 cX8_get 18 bX8_get_14 = true := by decide +kernel
def bX8_get_21 : List Ent := [ec 21 (.bipush (-2)) (.int (-2))]
theorem oX8_get_21 : okB ftX8 ctX8 cX8_get 23 bX8_get_21 = true := by decide +kernel
def bX8_get_24 : List Ent := [e0 24 (.aload_n 0), ef 25 (.getfield 43) .null 7 6, e0 28 (.iload_n 1)]
theorem oX8_get_24 : okB ftX8 ctX8 cX8_get 29 bX8_get_24 = true := by decide +kernel
def bX8_get_32 : List Ent := [e0 32 (.astore_n 2), e0 33 (.aload_n 2)]
theorem oX8_get_32 : okB ftX8 ctX8 cX8_get 34 bX8_get_32 = true := by decide +kernel
def bX8_get_40 : List Ent := [ec 40 (.bipush (-4)) (.int (-4))]
theorem oX8_get_40 : okB ftX8 ctX8 cX8_get 42 bX8_get_40 = true := by decide +kernel
def bX8_get_43 : List Ent := [e0 43 (.aload_n 2)]
theorem oX8_get_43 : okB ftX8 ctX8 cX8_get 44 bX8_get_43 = true := by decide +kernel
def bX8_get_50 : List Ent := [e0 50 (.aload_n 2)]
theorem oX8_get_50 : okB ftX8 ctX8 cX8_get 51 bX8_get_50 = true := by decide +kernel
def bX8_get_54 : List Ent := [e0 54 (.astore_n 3), e0 55 (.aload_n 3)]
theorem oX8_get_54 : okB ftX8 ctX8 cX8_get 56 bX8_get_54 = true := by decide +kernel
def bX8_get_59 : List Ent := [e0 59 (.iload_n 1)]
theorem oX8_get_59 : okB ftX8 ctX8 cX8_get 60 bX8_get_59 = true := by decide +kernel
def bX8_get_63 : List Ent := [e0 63 (.aload_n 0), e0 64 (.aload_n 3)]
theorem oX8_get_63 : okB ftX8 ctX8 cX8_get 65 bX8_get_63 = true := by decide +kernel
def bX8_get_68 : List Ent := [ef 68 (.putfield 49) (.long 0) 7 8, ec 71 (.iconst 1) (.int 1)]
theorem oX8_get_68 : okB ftX8 ctX8 cX8_get 72 bX8_get_68 = true := by decide +kernel
def bX8_get_73 : List Ent := [ec 73 (.iconst 0) (.int 0)]
theorem oX8_get_73 : okB ftX8 ctX8 cX8_get 74 bX8_get_73 = true := by decide +kernel
theorem jX8_get_6 : decode cX8_get 6 = .ok (.invokestatic 53, 3) := by decide +kernel
theorem jX8_get_9 : decode cX8_get 9 = .ok (.ifCond .ne 5, 3) := by decide +kernel
theorem jX8_get_13 : decode cX8_get 13 = .ok (.ireturn, 1) := by decide +kernel
theorem jX8_get_18 : decode cX8_get 18 = .ok (.ifnonnull 6, 3) := by decide +kernel
theorem jX8_get_23 : decode cX8_get 23 = .ok (.ireturn, 1) := by decide +kernel
theorem jX8_get_29 : decode cX8_get 29 = .ok (.invokestatic 57, 3) := by decide +kernel
theorem jX8_get_34 : decode cX8_get 34 = .ok (.instanceof 134, 3) := by decide +kernel
theorem jX8_get_37 : decode cX8_get 37 = .ok (.ifCond .eq 6, 3) := by decide +kernel
theorem jX8_get_42 : decode cX8_get 42 = .ok (.ireturn, 1) := by decide +kernel
theorem jX8_get_44 : decode cX8_get 44 = .ok (.instanceof 65, 3) := by decide +kernel
theorem jX8_get_47 : decode cX8_get 47 = .ok (.ifCond .eq 26, 3) := by decide +kernel
theorem jX8_get_51 : decode cX8_get 51 = .ok (.checkcast 65, 3) := by decide +kernel
theorem jX8_get_56 : decode cX8_get 56 = .ok (.getfield 136, 3) := by decide +kernel
theorem jX8_get_60 : decode cX8_get 60 = .ok (.if_icmp .ne 13, 3) := by decide +kernel
theorem jX8_get_65 : decode cX8_get 65 = .ok (.getfield 139, 3) := by decide +kernel
theorem jX8_get_72 : decode cX8_get 72 = .ok (.ireturn, 1) := by decide +kernel
theorem jX8_get_74 : decode cX8_get 74 = .ok (.ireturn, 1) := by decide +kernel
def bX8_value_0 : List Ent := [e0 0 (.aload_n 0), ef 1 (.getfield 49) .null 7 8]
theorem oX8_value_0 : okB ftX8 ctX8 cX8_value 4 bX8_value_0 = true := by decide +kernel
theorem jX8_value_4 : decode cX8_value 4 = .ok (.lreturn, 1) := by decide +kernel
def bX8_write_0 : List Ent := [e0 0 (.iload_n 1)]
theorem oX8_write_0 : okB ftX8 ctX8 cX8_write 1 bX8_write_0 = true := by decide +kernel
def bX8_write_7 : List Ent := [ec 7 (.iconst (-1)) (.int (-1))]
theorem oX8_write_7 : okB ftX8 ctX8 cX8_write 8 bX8_write_7 = true := by decide +kernel
def bX8_write_9 : List Ent := [e0 9 (.aload_n 0), ef 10 (.getfield 43) .null 7 6]
theorem oX8_write_9 : okB ftX8 ctX8 cX8_write 13 bX8_write_9 = true := by decide +kernel
def bX8_write_16 : List Ent := [ec 16 (.bipush (-2)) (.int (-2))]
theorem oX8_write_16 : okB ftX8 ctX8 cX8_write 18 bX8_write_16 = true := by decide +kernel
def bX8_write_19 : List Ent := [e0 19 (.aload_n 0), ef 20 (.getfield 43) .null 7 6, e0 23 (.iload_n 1)]
theorem oX8_write_19 : okB ftX8 ctX8 cX8_write 24 bX8_write_19 = true := by decide +kernel
def bX8_write_27 : List Ent := [e0 27 (.astore 4), e0 29 (.aload 4)]
theorem oX8_write_27 : okB ftX8 ctX8 cX8_write 31 bX8_write_27 = true := by decide +kernel
def bX8_write_37 : List Ent := [ec 37 (.bipush (-4)) (.int (-4))]
theorem oX8_write_37 : okB ftX8 ctX8 cX8_write 39 bX8_write_37 = true := by decide +kernel
def bX8_write_40 : List Ent := [e0 40 (.aload_n 0), ef 41 (.getfield 43) .null 7 6]
theorem oX8_write_40 : okB ftX8 ctX8 cX8_write 44 bX8_write_40 = true := by decide +kernel
def bX8_write_47 : List Ent := [e0 47 .dup, e0 48 (.iload_n 1), e0 49 (.lload_n 2)]
theorem oX8_write_47 : okB ftX8 ctX8 cX8_write 50 bX8_write_47 = true := by decide +kernel
def bX8_write_53 : List Ent := [ec 53 (.iconst 0) (.int 0)]
theorem oX8_write_53 : okB ftX8 ctX8 cX8_write 54 bX8_write_53 = true := by decide +kernel
def bX8_write_57 : List Ent := [e0 57 (.astore 5), e0 59 (.aload 5), ec 61 (.iconst 0) (.int 0)]
theorem oX8_write_57 : okB ftX8 ctX8 cX8_write 62 bX8_write_57 = true := by decide +kernel
def bX8_write_65 : List Ent := [ec 65 (.sipush 700) (.int 700)]
theorem oX8_write_65 : okB ftX8 ctX8 cX8_write 68 bX8_write_65 = true := by decide +kernel
def bX8_write_71 : List Ent := [ec 71 (.bipush (-3)) (.int (-3))]
theorem oX8_write_71 : okB ftX8 ctX8 cX8_write 73 bX8_write_71 = true := by decide +kernel
def bX8_write_74 : List Ent := [e0 74 (.aload_n 0), e0 75 (.aload 5), ef 77 (.putfield 43) .null 7 6, e0 80 (.aload 4), e0 82 (.iload_n 1)]
theorem oX8_write_74 : okB ftX8 ctX8 cX8_write 83 bX8_write_74 = true := by decide +kernel
def bX8_write_89 : List Ent := [ec 89 (.iconst 0) (.int 0), e0 90 (.goto 4)]
theorem oX8_write_89 : okB ftX8 ctX8 cX8_write 94 bX8_write_89 = true := by decide +kernel
def bX8_write_93 : List Ent := [ec 93 (.iconst 1) (.int 1)]
theorem oX8_write_93 : okB ftX8 ctX8 cX8_write 94 bX8_write_93 = true := by decide +kernel
theorem jX8_write_1 : decode cX8_write 1 = .ok (.invokestatic 53, 3) := by decide +kernel
theorem jX8_write_4 : decode cX8_write 4 = .ok (.ifCond .ne 5, 3) := by decide +kernel
theorem jX8_write_8 : decode cX8_write 8 = .ok (.ireturn, 1) := by decide +kernel
theorem jX8_write_13 : decode cX8_write 13 = .ok (.ifnonnull 6, 3) := by decide +kernel
theorem jX8_write_18 : decode cX8_write 18 = .ok (.ireturn, 1) := by decide +kernel
theorem jX8_write_24 : decode cX8_write 24 = .ok (.invokestatic 57, 3) := by decide +kernel
theorem jX8_write_31 : decode cX8_write 31 = .ok (.instanceof 134, 3) := by decide +kernel
theorem jX8_write_34 : decode cX8_write 34 = .ok (.ifCond .eq 6, 3) := by decide +kernel
theorem jX8_write_39 : decode cX8_write 39 = .ok (.ireturn, 1) := by decide +kernel
theorem jX8_write_44 : decode cX8_write 44 = .ok (.new 65, 3) := by decide +kernel
theorem jX8_write_50 : decode cX8_write 50 = .ok (.invokespecial 67, 3) := by decide +kernel
theorem jX8_write_54 : decode cX8_write 54 = .ok (.invokestatic 70, 3) := by decide +kernel
theorem jX8_write_62 : decode cX8_write 62 = .ok (.invokestatic 130, 3) := by decide +kernel
theorem jX8_write_68 : decode cX8_write 68 = .ok (.if_icmp .le 6, 3) := by decide +kernel
theorem jX8_write_73 : decode cX8_write 73 = .ok (.ireturn, 1) := by decide +kernel
theorem jX8_write_83 : decode cX8_write 83 = .ok (.invokestatic 61, 3) := by decide +kernel
theorem jX8_write_86 : decode cX8_write 86 = .ok (.ifCond .eq 7, 3) := by decide +kernel
theorem jX8_write_94 : decode cX8_write 94 = .ok (.ireturn, 1) := by decide +kernel
def bX8_erase_0 : List Ent := [e0 0 (.iload_n 1)]
theorem oX8_erase_0 : okB ftX8 ctX8 cX8_erase 1 bX8_erase_0 = true := by decide +kernel
def bX8_erase_7 : List Ent := [ec 7 (.iconst (-1)) (.int (-1))]
theorem oX8_erase_7 : okB ftX8 ctX8 cX8_erase 8 bX8_erase_7 = true := by decide +kernel
def bX8_erase_9 : List Ent := [e0 9 (.aload_n 0), ef 10 (.getfield 43) .null 7 6]
theorem oX8_erase_9 : okB ftX8 ctX8 cX8_erase 13 bX8_erase_9 = true := by decide +kernel
def bX8_erase_16 : List Ent := [ec 16 (.bipush (-2)) (.int (-2))]
theorem oX8_erase_16 : okB ftX8 ctX8 cX8_erase 18 bX8_erase_16 = true := by decide +kernel
def bX8_erase_19 : List Ent := [e0 19 (.aload_n 0), ef 20 (.getfield 43) .null 7 6, e0 23 (.iload_n 1)]
theorem oX8_erase_19 : okB ftX8 ctX8 cX8_erase 24 bX8_erase_19 = true := by decide +kernel
def bX8_erase_27 : List Ent := [e0 27 (.astore_n 2), e0 28 (.aload_n 2)]
theorem oX8_erase_27 : okB ftX8 ctX8 cX8_erase 29 bX8_erase_27 = true := by decide +kernel
def bX8_erase_35 : List Ent := [ec 35 (.bipush (-4)) (.int (-4))]
theorem oX8_erase_35 : okB ftX8 ctX8 cX8_erase 37 bX8_erase_35 = true := by decide +kernel
def bX8_erase_38 : List Ent := [e0 38 (.aload_n 2), e0 39 (.iload_n 1)]
theorem oX8_erase_38 : okB ftX8 ctX8 cX8_erase 40 bX8_erase_38 = true := by decide +kernel
def bX8_erase_46 : List Ent := [ec 46 (.iconst 0) (.int 0)]
theorem oX8_erase_46 : okB ftX8 ctX8 cX8_erase 47 bX8_erase_46 = true := by decide +kernel
def bX8_erase_48 : List Ent := [e0 48 (.aload_n 0), e0 49 (.aload_n 0), ef 50 (.getfield 43) .null 7 6, e0 53 (.iload_n 1), ec 54 (.iconst 0) (.int 0)]
theorem oX8_erase_48 : okB ftX8 ctX8 cX8_erase 55 bX8_erase_48 = true := by decide +kernel
def bX8_erase_58 : List Ent := [ef 58 (.putfield 43) .null 7 6, ec 61 (.iconst 1) (.int 1)]
theorem oX8_erase_58 : okB ftX8 ctX8 cX8_erase 62 bX8_erase_58 = true := by decide +kernel
theorem jX8_erase_1 : decode cX8_erase 1 = .ok (.invokestatic 53, 3) := by decide +kernel
theorem jX8_erase_4 : decode cX8_erase 4 = .ok (.ifCond .ne 5, 3) := by decide +kernel
theorem jX8_erase_8 : decode cX8_erase 8 = .ok (.ireturn, 1) := by decide +kernel
theorem jX8_erase_13 : decode cX8_erase 13 = .ok (.ifnonnull 6, 3) := by decide +kernel
theorem jX8_erase_18 : decode cX8_erase 18 = .ok (.ireturn, 1) := by decide +kernel
theorem jX8_erase_24 : decode cX8_erase 24 = .ok (.invokestatic 57, 3) := by decide +kernel
theorem jX8_erase_29 : decode cX8_erase 29 = .ok (.instanceof 134, 3) := by decide +kernel
theorem jX8_erase_32 : decode cX8_erase 32 = .ok (.ifCond .eq 6, 3) := by decide +kernel
theorem jX8_erase_37 : decode cX8_erase 37 = .ok (.ireturn, 1) := by decide +kernel
theorem jX8_erase_40 : decode cX8_erase 40 = .ok (.invokestatic 61, 3) := by decide +kernel
theorem jX8_erase_43 : decode cX8_erase 43 = .ok (.ifCond .ne 5, 3) := by decide +kernel
theorem jX8_erase_47 : decode cX8_erase 47 = .ok (.ireturn, 1) := by decide +kernel
theorem jX8_erase_55 : decode cX8_erase 55 = .ok (.invokestatic 79, 3) := by decide +kernel
theorem jX8_erase_62 : decode cX8_erase 62 = .ok (.ireturn, 1) := by decide +kernel
def bX8_view_0 : List Ent := [e0 0 (.aload_n 0), ef 1 (.getfield 43) .null 7 6]
theorem oX8_view_0 : okB ftX8 ctX8 cX8_view 4 bX8_view_0 = true := by decide +kernel
def bX8_view_7 : List Ent := [ec 7 (.lconst 0) (.long 0), e0 8 (.goto 10)]
theorem oX8_view_7 : okB ftX8 ctX8 cX8_view 18 bX8_view_7 = true := by decide +kernel
def bX8_view_11 : List Ent := [e0 11 (.aload_n 0), ef 12 (.getfield 43) .null 7 6]
theorem oX8_view_11 : okB ftX8 ctX8 cX8_view 15 bX8_view_11 = true := by decide +kernel
theorem jX8_view_4 : decode cX8_view 4 = .ok (.ifnonnull 7, 3) := by decide +kernel
theorem jX8_view_15 : decode cX8_view 15 = .ok (.getfield 87, 3) := by decide +kernel
theorem jX8_view_18 : decode cX8_view 18 = .ok (.lreturn, 1) := by decide +kernel
def bX8_count_0 : List Ent := [e0 0 (.iload_n 1), e0 1 (.iload_n 2)]
theorem oX8_count_0 : okB ftX8 ctX8 cX8_count 2 bX8_count_0 = true := by decide +kernel
def bX8_count_8 : List Ent := [ec 8 (.iconst (-1)) (.int (-1))]
theorem oX8_count_8 : okB ftX8 ctX8 cX8_count 9 bX8_count_8 = true := by decide +kernel
def bX8_count_10 : List Ent := [e0 10 (.aload_n 0), ef 11 (.getfield 43) .null 7 6]
theorem oX8_count_10 : okB ftX8 ctX8 cX8_count 14 bX8_count_10 = true := by decide +kernel
def bX8_count_17 : List Ent := [ec 17 (.bipush (-2)) (.int (-2))]
theorem oX8_count_17 : okB ftX8 ctX8 cX8_count 19 bX8_count_17 = true := by decide +kernel
def bX8_count_20 : List Ent := [e0 20 (.aload_n 0), ef 21 (.getfield 43) .null 7 6, ec 24 (.iconst 0) (.int 0), ec 25 (.ldc 74) (.int 65535), e0 27 (.iload_n 1), e0 28 (.iload_n 2), ec 29 (.iconst 0) (.int 0)]
theorem oX8_count_20 : okB ftX8 ctX8 cX8_count 30 bX8_count_20 = true := by decide +kernel
def bX8_count_36 : List Ent := [ec 36 (.bipush (-4)) (.int (-4))]
theorem oX8_count_36 : okB ftX8 ctX8 cX8_count 38 bX8_count_36 = true := by decide +kernel
def bX8_count_39 : List Ent := [e0 39 (.aload_n 0), ef 40 (.getfield 43) .null 7 6, e0 43 (.iload_n 1), e0 44 (.iload_n 2), ec 45 (.iconst 0) (.int 0)]
theorem oX8_count_39 : okB ftX8 ctX8 cX8_count 46 bX8_count_39 = true := by decide +kernel
theorem jX8_count_2 : decode cX8_count 2 = .ok (.invokestatic 90, 3) := by decide +kernel
theorem jX8_count_5 : decode cX8_count 5 = .ok (.ifCond .ne 5, 3) := by decide +kernel
theorem jX8_count_9 : decode cX8_count 9 = .ok (.ireturn, 1) := by decide +kernel
theorem jX8_count_14 : decode cX8_count 14 = .ok (.ifnonnull 6, 3) := by decide +kernel
theorem jX8_count_19 : decode cX8_count 19 = .ok (.ireturn, 1) := by decide +kernel
theorem jX8_count_30 : decode cX8_count 30 = .ok (.invokestatic 142, 3) := by decide +kernel
theorem jX8_count_33 : decode cX8_count 33 = .ok (.ifCond .le 6, 3) := by decide +kernel
theorem jX8_count_38 : decode cX8_count 38 = .ok (.ireturn, 1) := by decide +kernel
theorem jX8_count_46 : decode cX8_count 46 = .ok (.invokestatic 75, 3) := by decide +kernel
theorem jX8_count_49 : decode cX8_count 49 = .ok (.ireturn, 1) := by decide +kernel
def bX8_next_0 : List Ent := [e0 0 (.iload_n 1)]
theorem oX8_next_0 : okB ftX8 ctX8 cX8_next 1 bX8_next_0 = true := by decide +kernel
def bX8_next_7 : List Ent := [ec 7 (.iconst (-1)) (.int (-1))]
theorem oX8_next_7 : okB ftX8 ctX8 cX8_next 8 bX8_next_7 = true := by decide +kernel
def bX8_next_9 : List Ent := [e0 9 (.aload_n 0), ef 10 (.getfield 43) .null 7 6]
theorem oX8_next_9 : okB ftX8 ctX8 cX8_next 13 bX8_next_9 = true := by decide +kernel
def bX8_next_16 : List Ent := [ec 16 (.bipush (-2)) (.int (-2)), e0 18 (.goto 14)]
theorem oX8_next_16 : okB ftX8 ctX8 cX8_next 32 bX8_next_16 = true := by decide +kernel
def bX8_next_21 : List Ent := [e0 21 (.aload_n 0), ef 22 (.getfield 43) .null 7 6, ec 25 (.ldc 74) (.int 65535), e0 27 (.iload_n 1), ec 28 (.iconst 0) (.int 0)]
theorem oX8_next_21 : okB ftX8 ctX8 cX8_next 29 bX8_next_21 = true := by decide +kernel
theorem jX8_next_1 : decode cX8_next 1 = .ok (.invokestatic 53, 3) := by decide +kernel
theorem jX8_next_4 : decode cX8_next 4 = .ok (.ifCond .ne 5, 3) := by decide +kernel
theorem jX8_next_8 : decode cX8_next 8 = .ok (.ireturn, 1) := by decide +kernel
theorem jX8_next_13 : decode cX8_next 13 = .ok (.ifnonnull 8, 3) := by decide +kernel
theorem jX8_next_29 : decode cX8_next 29 = .ok (.invokestatic 146, 3) := by decide +kernel
theorem jX8_next_32 : decode cX8_next 32 = .ok (.ireturn, 1) := by decide +kernel
def bX8_told_0 : List Ent := [e0 0 (.iload_n 1)]
theorem oX8_told_0 : okB ftX8 ctX8 cX8_told 1 bX8_told_0 = true := by decide +kernel
def bX8_told_40 : List Ent := [e0 40 (.aload_n 0), ef 41 (.getfield 36) .null 7 4, ef 44 (.getfield 104) .null 6 1]
theorem oX8_told_40 : okB ftX8 ctX8 cX8_told 47 bX8_told_40 = true := by decide +kernel
def bX8_told_48 : List Ent := [e0 48 (.aload_n 0), ef 49 (.getfield 18) .null 7 1, ef 52 (.getfield 97) .null 4 2]
theorem oX8_told_48 : okB ftX8 ctX8 cX8_told 55 bX8_told_48 = true := by decide +kernel
def bX8_told_56 : List Ent := [e0 56 (.aload_n 0), ef 57 (.getfield 29) .null 7 3]
theorem oX8_told_56 : okB ftX8 ctX8 cX8_told 60 bX8_told_56 = true := by decide +kernel
def bX8_told_61 : List Ent := [e0 61 (.aload_n 0), ef 62 (.getfield 43) .null 7 6, ec 65 (.iconst 0) (.int 0)]
theorem oX8_told_61 : okB ftX8 ctX8 cX8_told 66 bX8_told_61 = true := by decide +kernel
def bX8_told_70 : List Ent := [e0 70 (.aload_n 0), ef 71 (.getfield 43) .null 7 6, ec 74 (.iconst 0) (.int 0), ec 75 (.ldc 74) (.int 65535), ec 77 (.iconst 0) (.int 0), ec 78 (.ldc 74) (.int 65535), ec 80 (.iconst 0) (.int 0)]
theorem oX8_told_70 : okB ftX8 ctX8 cX8_told 81 bX8_told_70 = true := by decide +kernel
def bX8_told_85 : List Ent := [e0 85 (.aload_n 0), ef 86 (.getfield 25) .null 7 2, ec 89 (.iconst 0) (.int 0)]
theorem oX8_told_85 : okB ftX8 ctX8 cX8_told 90 bX8_told_85 = true := by decide +kernel
def bX8_told_94 : List Ent := [ec 94 (.iconst (-1)) (.int (-1))]
theorem oX8_told_94 : okB ftX8 ctX8 cX8_told 95 bX8_told_94 = true := by decide +kernel
theorem jX8_told_1 : decode cX8_told 1 = .ok (.tableswitch 93 0 5 #[39, 47, 55, 60, 69, 84], 39) := by decide +kernel
theorem jX8_told_47 : decode cX8_told 47 = .ok (.ireturn, 1) := by decide +kernel
theorem jX8_told_55 : decode cX8_told 55 = .ok (.ireturn, 1) := by decide +kernel
theorem jX8_told_60 : decode cX8_told 60 = .ok (.ireturn, 1) := by decide +kernel
theorem jX8_told_66 : decode cX8_told 66 = .ok (.invokestatic 130, 3) := by decide +kernel
theorem jX8_told_69 : decode cX8_told 69 = .ok (.ireturn, 1) := by decide +kernel
theorem jX8_told_81 : decode cX8_told 81 = .ok (.invokestatic 142, 3) := by decide +kernel
theorem jX8_told_84 : decode cX8_told 84 = .ok (.ireturn, 1) := by decide +kernel
theorem jX8_told_90 : decode cX8_told 90 = .ok (.invokestatic 149, 3) := by decide +kernel
theorem jX8_told_93 : decode cX8_told 93 = .ok (.ireturn, 1) := by decide +kernel
theorem jX8_told_95 : decode cX8_told 95 = .ok (.ireturn, 1) := by decide +kernel
def bX8_octet_0 : List Ent := [e0 0 (.aload_n 0), ef 1 (.getfield 36) .null 7 4, e0 4 (.iload_n 1)]
theorem oX8_octet_0 : okB ftX8 ctX8 cX8_octet 5 bX8_octet_0 = true := by decide +kernel
def bX8_octet_11 : List Ent := [e0 11 (.aload_n 0), ef 12 (.getfield 36) .null 7 4, ef 15 (.getfield 113) .null 6 0, e0 18 (.iload_n 1), e0 19 .iaload, e0 20 (.goto 4)]
theorem oX8_octet_11 : okB ftX8 ctX8 cX8_octet 24 bX8_octet_11 = true := by decide +kernel
def bX8_octet_23 : List Ent := [ec 23 (.iconst (-1)) (.int (-1))]
theorem oX8_octet_23 : okB ftX8 ctX8 cX8_octet 24 bX8_octet_23 = true := by decide +kernel
theorem jX8_octet_5 : decode cX8_octet 5 = .ok (.invokevirtual 110, 3) := by decide +kernel
theorem jX8_octet_8 : decode cX8_octet 8 = .ok (.ifCond .eq 15, 3) := by decide +kernel
theorem jX8_octet_24 : decode cX8_octet 24 = .ok (.ireturn, 1) := by decide +kernel
def bX8_isPath_0 : List Ent := [e0 0 (.iload_n 0)]
theorem oX8_isPath_0 : okB ftX8 ctX8 cX8_isPath 1 bX8_isPath_0 = true := by decide +kernel
def bX8_isPath_4 : List Ent := [e0 4 (.iload_n 0), ec 5 (.ldc 74) (.int 65535)]
theorem oX8_isPath_4 : okB ftX8 ctX8 cX8_isPath 7 bX8_isPath_4 = true := by decide +kernel
def bX8_isPath_10 : List Ent := [ec 10 (.iconst 1) (.int 1), e0 11 (.goto 4)]
theorem oX8_isPath_10 : okB ftX8 ctX8 cX8_isPath 15 bX8_isPath_10 = true := by decide +kernel
def bX8_isPath_14 : List Ent := [ec 14 (.iconst 0) (.int 0)]
theorem oX8_isPath_14 : okB ftX8 ctX8 cX8_isPath 15 bX8_isPath_14 = true := by decide +kernel
theorem jX8_isPath_1 : decode cX8_isPath 1 = .ok (.ifCond .lt 13, 3) := by decide +kernel
theorem jX8_isPath_7 : decode cX8_isPath 7 = .ok (.if_icmp .gt 7, 3) := by decide +kernel
theorem jX8_isPath_15 : decode cX8_isPath 15 = .ok (.ireturn, 1) := by decide +kernel
def bX8_isRange_0 : List Ent := [e0 0 (.iload_n 0)]
theorem oX8_isRange_0 : okB ftX8 ctX8 cX8_isRange 1 bX8_isRange_0 = true := by decide +kernel
def bX8_isRange_7 : List Ent := [e0 7 (.iload_n 1)]
theorem oX8_isRange_7 : okB ftX8 ctX8 cX8_isRange 8 bX8_isRange_7 = true := by decide +kernel
def bX8_isRange_14 : List Ent := [e0 14 (.iload_n 0), e0 15 (.iload_n 1)]
theorem oX8_isRange_14 : okB ftX8 ctX8 cX8_isRange 16 bX8_isRange_14 = true := by decide +kernel
def bX8_isRange_19 : List Ent := [ec 19 (.iconst 1) (.int 1), e0 20 (.goto 4)]
theorem oX8_isRange_19 : okB ftX8 ctX8 cX8_isRange 24 bX8_isRange_19 = true := by decide +kernel
def bX8_isRange_23 : List Ent := [ec 23 (.iconst 0) (.int 0)]
theorem oX8_isRange_23 : okB ftX8 ctX8 cX8_isRange 24 bX8_isRange_23 = true := by decide +kernel
theorem jX8_isRange_1 : decode cX8_isRange 1 = .ok (.invokestatic 53, 3) := by decide +kernel
theorem jX8_isRange_4 : decode cX8_isRange 4 = .ok (.ifCond .eq 19, 3) := by decide +kernel
theorem jX8_isRange_8 : decode cX8_isRange 8 = .ok (.invokestatic 53, 3) := by decide +kernel
theorem jX8_isRange_11 : decode cX8_isRange 11 = .ok (.ifCond .eq 12, 3) := by decide +kernel
theorem jX8_isRange_16 : decode cX8_isRange 16 = .ok (.if_icmp .gt 7, 3) := by decide +kernel
theorem jX8_isRange_24 : decode cX8_isRange 24 = .ok (.ireturn, 1) := by decide +kernel
def bX8_isHigh_0 : List Ent := [e0 0 (.iload_n 0), ec 1 (.bipush 15) (.int 15), e0 3 (.iload_n 1), e0 4 .isub, e0 5 .iushr, ec 6 (.iconst 1) (.int 1), e0 7 .iand, ec 8 (.iconst 1) (.int 1)]
theorem oX8_isHigh_0 : okB ftX8 ctX8 cX8_isHigh 9 bX8_isHigh_0 = true := by decide +kernel
def bX8_isHigh_12 : List Ent := [ec 12 (.iconst 1) (.int 1), e0 13 (.goto 4)]
theorem oX8_isHigh_12 : okB ftX8 ctX8 cX8_isHigh 17 bX8_isHigh_12 = true := by decide +kernel
def bX8_isHigh_16 : List Ent := [ec 16 (.iconst 0) (.int 0)]
theorem oX8_isHigh_16 : okB ftX8 ctX8 cX8_isHigh 17 bX8_isHigh_16 = true := by decide +kernel
theorem jX8_isHigh_9 : decode cX8_isHigh 9 = .ok (.if_icmp .ne 7, 3) := by decide +kernel
theorem jX8_isHigh_17 : decode cX8_isHigh 17 = .ok (.ireturn, 1) := by decide +kernel
def bX8_stemOf_0 : List Ent := [e0 0 (.iload_n 0), ec 1 (.bipush 16) (.int 16), e0 3 (.iload_n 1), e0 4 .isub, e0 5 .iushr, ec 6 (.bipush 16) (.int 16), e0 8 (.iload_n 1), e0 9 .isub, e0 10 .ishl]
theorem oX8_stemOf_0 : okB ftX8 ctX8 cX8_stemOf 11 bX8_stemOf_0 = true := by decide +kernel
theorem jX8_stemOf_11 : decode cX8_stemOf 11 = .ok (.ireturn, 1) := by decide +kernel
def bX8_firstOtherBit_0 : List Ent := [ec 0 (.iconst 0) (.int 0), e0 1 (.istore_n 2)]
theorem oX8_firstOtherBit_0 : okB ftX8 ctX8 cX8_firstOtherBit 2 bX8_firstOtherBit_0 = true := by decide +kernel
def bX8_firstOtherBit_2 : List Ent := [e0 2 (.iload_n 2), ec 3 (.bipush 16) (.int 16)]
theorem oX8_firstOtherBit_2 : okB ftX8 ctX8 cX8_firstOtherBit 5 bX8_firstOtherBit_2 = true := by decide +kernel
def bX8_firstOtherBit_8 : List Ent := [e0 8 (.iload_n 0), e0 9 (.iload_n 2)]
theorem oX8_firstOtherBit_8 : okB ftX8 ctX8 cX8_firstOtherBit 10 bX8_firstOtherBit_8 = true := by decide +kernel
def bX8_firstOtherBit_13 : List Ent := [e0 13 (.iload_n 1), e0 14 (.iload_n 2)]
theorem oX8_firstOtherBit_13 : okB ftX8 ctX8 cX8_firstOtherBit 15 bX8_firstOtherBit_13 = true := by decide +kernel
def bX8_firstOtherBit_21 : List Ent := [ec 21 (.iinc 2 1) (.int 1), e0 24 (.goto (-22))]
theorem oX8_firstOtherBit_21 : okB ftX8 ctX8 cX8_firstOtherBit 2 bX8_firstOtherBit_21 = true := by decide +kernel
def bX8_firstOtherBit_27 : List Ent := [e0 27 (.iload_n 2)]
theorem oX8_firstOtherBit_27 : okB ftX8 ctX8 cX8_firstOtherBit 28 bX8_firstOtherBit_27 = true := by decide +kernel
theorem jX8_firstOtherBit_5 : decode cX8_firstOtherBit 5 = .ok (.if_icmp .ge 22, 3) := by decide +kernel
theorem jX8_firstOtherBit_10 : decode cX8_firstOtherBit 10 = .ok (.invokestatic 152, 3) := by decide +kernel
theorem jX8_firstOtherBit_15 : decode cX8_firstOtherBit 15 = .ok (.invokestatic 152, 3) := by decide +kernel
theorem jX8_firstOtherBit_18 : decode cX8_firstOtherBit 18 = .ok (.if_icmp .ne 9, 3) := by decide +kernel
theorem jX8_firstOtherBit_28 : decode cX8_firstOtherBit 28 = .ok (.ireturn, 1) := by decide +kernel
def bX8_mix_0 : List Ent := [e0 0 (.lload_n 0), e0 1 (.lload_n 2), e0 2 .lxor, ec 3 (.ldc2_w 155) (.long (-7046029254386353131)), e0 6 .lmul, e0 7 (.lstore 4), e0 9 (.lload 4), e0 11 (.lload 4), ec 13 (.bipush 29) (.int 29), e0 15 .lushr, e0 16 .lxor, ec 17 (.ldc2_w 157) (.long (-4658895280553007687)), e0 20 .lmul, e0 21 (.lstore 4), e0 23 (.lload 4), e0 25 (.lload 4), ec 27 (.bipush 32) (.int 32), e0 29 .lushr, e0 30 .lxor]
theorem oX8_mix_0 : okB ftX8 ctX8 cX8_mix 31 bX8_mix_0 = true := by decide +kernel
theorem jX8_mix_31 : decode cX8_mix 31 = .ok (.lreturn, 1) := by decide +kernel
def bX8_emptyDigest_0 : List Ent := [ec 0 (.lconst 0) (.long 0), ec 1 (.ldc2_w 159) (.long (3))]
theorem oX8_emptyDigest_0 : okB ftX8 ctX8 cX8_emptyDigest 4 bX8_emptyDigest_0 = true := by decide +kernel
theorem jX8_emptyDigest_4 : decode cX8_emptyDigest 4 = .ok (.invokestatic 161, 3) := by decide +kernel
theorem jX8_emptyDigest_7 : decode cX8_emptyDigest 7 = .ok (.lreturn, 1) := by decide +kernel
def bX8_leafDigest_0 : List Ent := [ec 0 (.lconst 0) (.long 0), ec 1 (.lconst 1) (.long 1)]
theorem oX8_leafDigest_0 : okB ftX8 ctX8 cX8_leafDigest 2 bX8_leafDigest_0 = true := by decide +kernel
def bX8_leafDigest_5 : List Ent := [e0 5 (.iload_n 0), e0 6 .i2l]
theorem oX8_leafDigest_5 : okB ftX8 ctX8 cX8_leafDigest 7 bX8_leafDigest_5 = true := by decide +kernel
def bX8_leafDigest_10 : List Ent := [e0 10 (.lload_n 1)]
theorem oX8_leafDigest_10 : okB ftX8 ctX8 cX8_leafDigest 11 bX8_leafDigest_10 = true := by decide +kernel
theorem jX8_leafDigest_2 : decode cX8_leafDigest 2 = .ok (.invokestatic 161, 3) := by decide +kernel
theorem jX8_leafDigest_7 : decode cX8_leafDigest 7 = .ok (.invokestatic 161, 3) := by decide +kernel
theorem jX8_leafDigest_11 : decode cX8_leafDigest 11 = .ok (.invokestatic 161, 3) := by decide +kernel
theorem jX8_leafDigest_14 : decode cX8_leafDigest 14 = .ok (.lreturn, 1) := by decide +kernel
def bX8_forkDigest_0 : List Ent := [ec 0 (.lconst 0) (.long 0), ec 1 (.ldc2_w 165) (.long (2))]
theorem oX8_forkDigest_0 : okB ftX8 ctX8 cX8_forkDigest 4 bX8_forkDigest_0 = true := by decide +kernel
def bX8_forkDigest_7 : List Ent := [e0 7 (.iload_n 0), e0 8 .i2l]
theorem oX8_forkDigest_7 : okB ftX8 ctX8 cX8_forkDigest 9 bX8_forkDigest_7 = true := by decide +kernel
def bX8_forkDigest_12 : List Ent := [e0 12 (.iload_n 1), e0 13 .i2l]
theorem oX8_forkDigest_12 : okB ftX8 ctX8 cX8_forkDigest 14 bX8_forkDigest_12 = true := by decide +kernel
def bX8_forkDigest_17 : List Ent := [e0 17 (.lload_n 2)]
theorem oX8_forkDigest_17 : okB ftX8 ctX8 cX8_forkDigest 18 bX8_forkDigest_17 = true := by decide +kernel
def bX8_forkDigest_21 : List Ent := [e0 21 (.lload 4)]
theorem oX8_forkDigest_21 : okB ftX8 ctX8 cX8_forkDigest 23 bX8_forkDigest_21 = true := by decide +kernel
theorem jX8_forkDigest_4 : decode cX8_forkDigest 4 = .ok (.invokestatic 161, 3) := by decide +kernel
theorem jX8_forkDigest_9 : decode cX8_forkDigest 9 = .ok (.invokestatic 161, 3) := by decide +kernel
theorem jX8_forkDigest_14 : decode cX8_forkDigest 14 = .ok (.invokestatic 161, 3) := by decide +kernel
theorem jX8_forkDigest_18 : decode cX8_forkDigest 18 = .ok (.invokestatic 161, 3) := by decide +kernel
theorem jX8_forkDigest_23 : decode cX8_forkDigest 23 = .ok (.invokestatic 161, 3) := by decide +kernel
theorem jX8_forkDigest_26 : decode cX8_forkDigest 26 = .ok (.lreturn, 1) := by decide +kernel
def bX8_wholeOf_0 : List Ent := [e0 0 (.iload_n 1), ec 1 (.iconst (-1)) (.int (-1))]
theorem oX8_wholeOf_0 : okB ftX8 ctX8 cX8_wholeOf 2 bX8_wholeOf_0 = true := by decide +kernel
def bX8_wholeOf_5 : List Ent := [e0 5 (.aload_n 0), ef 6 (.getfield 25) .null 7 2]
theorem oX8_wholeOf_5 : okB ftX8 ctX8 cX8_wholeOf 9 bX8_wholeOf_5 = true := by decide +kernel
def bX8_wholeOf_10 : List Ent := [e0 10 (.iload_n 1)]
theorem oX8_wholeOf_10 : okB ftX8 ctX8 cX8_wholeOf 11 bX8_wholeOf_10 = true := by decide +kernel
def bX8_wholeOf_14 : List Ent := [e0 14 (.iload_n 1), e0 15 (.aload_n 0), ef 16 (.getfield 29) .null 7 3]
theorem oX8_wholeOf_14 : okB ftX8 ctX8 cX8_wholeOf 19 bX8_wholeOf_14 = true := by decide +kernel
def bX8_wholeOf_22 : List Ent := [e0 22 (.aload_n 0), ef 23 (.getfield 11) .null 7 0, e0 26 (.iload_n 1)]
theorem oX8_wholeOf_22 : okB ftX8 ctX8 cX8_wholeOf 27 bX8_wholeOf_22 = true := by decide +kernel
def bX8_wholeOf_28 : List Ent := [e0 28 (.goto 4)]
theorem oX8_wholeOf_28 : okB ftX8 ctX8 cX8_wholeOf 32 bX8_wholeOf_28 = true := by decide +kernel
def bX8_wholeOf_31 : List Ent := [e0 31 .aconst_null]
theorem oX8_wholeOf_31 : okB ftX8 ctX8 cX8_wholeOf 32 bX8_wholeOf_31 = true := by decide +kernel
theorem jX8_wholeOf_2 : decode cX8_wholeOf 2 = .ok (.if_icmp .ne 8, 3) := by decide +kernel
theorem jX8_wholeOf_9 : decode cX8_wholeOf 9 = .ok (.areturn, 1) := by decide +kernel
theorem jX8_wholeOf_11 : decode cX8_wholeOf 11 = .ok (.ifCond .lt 20, 3) := by decide +kernel
theorem jX8_wholeOf_19 : decode cX8_wholeOf 19 = .ok (.if_icmp .ge 12, 3) := by decide +kernel
theorem jX8_wholeOf_27 : decode cX8_wholeOf 27 = .ok (.aaload, 1) := by decide +kernel
theorem jX8_wholeOf_32 : decode cX8_wholeOf 32 = .ok (.areturn, 1) := by decide +kernel
def bX8_endOfWay_0 : List Ent := [e0 0 (.aload_n 0), e0 1 (.astore_n 2), ec 2 (.iconst 0) (.int 0), e0 3 (.istore_n 3)]
theorem oX8_endOfWay_0 : okB ftX8 ctX8 cX8_endOfWay 4 bX8_endOfWay_0 = true := by decide +kernel
def bX8_endOfWay_4 : List Ent := [e0 4 (.iload_n 3), ec 5 (.bipush 16) (.int 16)]
theorem oX8_endOfWay_4 : okB ftX8 ctX8 cX8_endOfWay 7 bX8_endOfWay_4 = true := by decide +kernel
def bX8_endOfWay_10 : List Ent := [e0 10 (.aload_n 2)]
theorem oX8_endOfWay_10 : okB ftX8 ctX8 cX8_endOfWay 11 bX8_endOfWay_10 = true := by decide +kernel
def bX8_endOfWay_17 : List Ent := [e0 17 (.aload_n 2)]
theorem oX8_endOfWay_17 : okB ftX8 ctX8 cX8_endOfWay 18 bX8_endOfWay_17 = true := by decide +kernel
def bX8_endOfWay_21 : List Ent := [e0 21 (.astore 4), e0 23 (.aload 4), e0 25 (.iload_n 1)]
theorem oX8_endOfWay_21 : okB ftX8 ctX8 cX8_endOfWay 26 bX8_endOfWay_21 = true := by decide +kernel
def bX8_endOfWay_32 : List Ent := [e0 32 (.aload 4), e0 34 (.iload_n 1)]
theorem oX8_endOfWay_32 : okB ftX8 ctX8 cX8_endOfWay 35 bX8_endOfWay_32 = true := by decide +kernel
def bX8_endOfWay_38 : List Ent := [e0 38 (.astore_n 2), e0 39 (.goto 5)]
theorem oX8_endOfWay_38 : okB ftX8 ctX8 cX8_endOfWay 44 bX8_endOfWay_38 = true := by decide +kernel
def bX8_endOfWay_42 : List Ent := [e0 42 (.aload_n 2)]
theorem oX8_endOfWay_42 : okB ftX8 ctX8 cX8_endOfWay 43 bX8_endOfWay_42 = true := by decide +kernel
def bX8_endOfWay_44 : List Ent := [ec 44 (.iinc 3 1) (.int 1), e0 47 (.goto (-43))]
theorem oX8_endOfWay_44 : okB ftX8 ctX8 cX8_endOfWay 4 bX8_endOfWay_44 = true := by decide +kernel
def bX8_endOfWay_50 : List Ent := [e0 50 (.aload_n 2)]
theorem oX8_endOfWay_50 : okB ftX8 ctX8 cX8_endOfWay 51 bX8_endOfWay_50 = true := by decide +kernel
theorem jX8_endOfWay_7 : decode cX8_endOfWay 7 = .ok (.if_icmp .ge 43, 3) := by decide +kernel
theorem jX8_endOfWay_11 : decode cX8_endOfWay 11 = .ok (.instanceof 167, 3) := by decide +kernel
theorem jX8_endOfWay_14 : decode cX8_endOfWay 14 = .ok (.ifCond .eq 28, 3) := by decide +kernel
theorem jX8_endOfWay_18 : decode cX8_endOfWay 18 = .ok (.checkcast 167, 3) := by decide +kernel
theorem jX8_endOfWay_26 : decode cX8_endOfWay 26 = .ok (.invokevirtual 169, 3) := by decide +kernel
theorem jX8_endOfWay_29 : decode cX8_endOfWay 29 = .ok (.ifCond .eq 13, 3) := by decide +kernel
theorem jX8_endOfWay_35 : decode cX8_endOfWay 35 = .ok (.invokevirtual 172, 3) := by decide +kernel
theorem jX8_endOfWay_43 : decode cX8_endOfWay 43 = .ok (.areturn, 1) := by decide +kernel
theorem jX8_endOfWay_51 : decode cX8_endOfWay 51 = .ok (.areturn, 1) := by decide +kernel
def bX8_isLeafOf_0 : List Ent := [e0 0 (.aload_n 0)]
theorem oX8_isLeafOf_0 : okB ftX8 ctX8 cX8_isLeafOf 1 bX8_isLeafOf_0 = true := by decide +kernel
def bX8_isLeafOf_7 : List Ent := [e0 7 (.aload_n 0)]
theorem oX8_isLeafOf_7 : okB ftX8 ctX8 cX8_isLeafOf 8 bX8_isLeafOf_7 = true := by decide +kernel
def bX8_isLeafOf_11 : List Ent := [e0 11 (.astore_n 2), e0 12 (.aload_n 2)]
theorem oX8_isLeafOf_11 : okB ftX8 ctX8 cX8_isLeafOf 13 bX8_isLeafOf_11 = true := by decide +kernel
def bX8_isLeafOf_16 : List Ent := [e0 16 (.iload_n 1)]
theorem oX8_isLeafOf_16 : okB ftX8 ctX8 cX8_isLeafOf 17 bX8_isLeafOf_16 = true := by decide +kernel
def bX8_isLeafOf_20 : List Ent := [ec 20 (.iconst 1) (.int 1), e0 21 (.goto 4)]
theorem oX8_isLeafOf_20 : okB ftX8 ctX8 cX8_isLeafOf 25 bX8_isLeafOf_20 = true := by decide +kernel
def bX8_isLeafOf_24 : List Ent := [ec 24 (.iconst 0) (.int 0)]
theorem oX8_isLeafOf_24 : okB ftX8 ctX8 cX8_isLeafOf 25 bX8_isLeafOf_24 = true := by decide +kernel
theorem jX8_isLeafOf_1 : decode cX8_isLeafOf 1 = .ok (.instanceof 65, 3) := by decide +kernel
theorem jX8_isLeafOf_4 : decode cX8_isLeafOf 4 = .ok (.ifCond .eq 20, 3) := by decide +kernel
theorem jX8_isLeafOf_8 : decode cX8_isLeafOf 8 = .ok (.checkcast 65, 3) := by decide +kernel
theorem jX8_isLeafOf_13 : decode cX8_isLeafOf 13 = .ok (.getfield 136, 3) := by decide +kernel
theorem jX8_isLeafOf_17 : decode cX8_isLeafOf 17 = .ok (.if_icmp .ne 7, 3) := by decide +kernel
theorem jX8_isLeafOf_25 : decode cX8_isLeafOf 25 = .ok (.ireturn, 1) := by decide +kernel
def bX8_written_0 : List Ent := [e0 0 (.aload_n 0)]
theorem oX8_written_0 : okB ftX8 ctX8 cX8_written 1 bX8_written_0 = true := by decide +kernel
def bX8_written_7 : List Ent := [e0 7 (.aload_n 0)]
theorem oX8_written_7 : okB ftX8 ctX8 cX8_written 8 bX8_written_7 = true := by decide +kernel
def bX8_written_11 : List Ent := [e0 11 (.astore_n 3), e0 12 (.aload_n 3), e0 13 (.aload_n 1)]
theorem oX8_written_11 : okB ftX8 ctX8 cX8_written 14 bX8_written_11 = true := by decide +kernel
def bX8_written_23 : List Ent := [e0 23 (.iload_n 2), ec 24 (.bipush 16) (.int 16)]
theorem oX8_written_23 : okB ftX8 ctX8 cX8_written 26 bX8_written_23 = true := by decide +kernel
def bX8_written_29 : List Ent := [e0 29 (.aload_n 3), e0 30 (.aload_n 1)]
theorem oX8_written_29 : okB ftX8 ctX8 cX8_written 31 bX8_written_29 = true := by decide +kernel
def bX8_written_34 : List Ent := [e0 34 (.aload_n 3), e0 35 (.aload_n 1)]
theorem oX8_written_34 : okB ftX8 ctX8 cX8_written 36 bX8_written_34 = true := by decide +kernel
def bX8_written_42 : List Ent := [e0 42 (.aload_n 1), e0 43 (.iload_n 2), ec 44 (.iconst 1) (.int 1), e0 45 .iadd]
theorem oX8_written_42 : okB ftX8 ctX8 cX8_written 46 bX8_written_42 = true := by decide +kernel
def bX8_written_53 : List Ent := [e0 53 (.aload_n 3), e0 54 (.aload_n 3)]
theorem oX8_written_53 : okB ftX8 ctX8 cX8_written 55 bX8_written_53 = true := by decide +kernel
def bX8_written_58 : List Ent := [e0 58 (.aload_n 1)]
theorem oX8_written_58 : okB ftX8 ctX8 cX8_written 59 bX8_written_58 = true := by decide +kernel
def bX8_written_63 : List Ent := [e0 63 (.aload_n 0)]
theorem oX8_written_63 : okB ftX8 ctX8 cX8_written 64 bX8_written_63 = true := by decide +kernel
def bX8_written_70 : List Ent := [e0 70 (.aload_n 0)]
theorem oX8_written_70 : okB ftX8 ctX8 cX8_written 71 bX8_written_70 = true := by decide +kernel
def bX8_written_74 : List Ent := [e0 74 (.astore_n 3), e0 75 (.aload_n 3)]
theorem oX8_written_74 : okB ftX8 ctX8 cX8_written 76 bX8_written_74 = true := by decide +kernel
def bX8_written_79 : List Ent := [e0 79 (.aload_n 1)]
theorem oX8_written_79 : okB ftX8 ctX8 cX8_written 80 bX8_written_79 = true := by decide +kernel
def bX8_written_86 : List Ent := [e0 86 (.aload_n 3), e0 87 (.aload_n 3)]
theorem oX8_written_86 : okB ftX8 ctX8 cX8_written 88 bX8_written_86 = true := by decide +kernel
def bX8_written_91 : List Ent := [e0 91 (.aload_n 1)]
theorem oX8_written_91 : okB ftX8 ctX8 cX8_written 92 bX8_written_91 = true := by decide +kernel
def bX8_written_96 : List Ent := [e0 96 (.aload_n 1)]
theorem oX8_written_96 : okB ftX8 ctX8 cX8_written 97 bX8_written_96 = true := by decide +kernel
theorem jX8_written_1 : decode cX8_written 1 = .ok (.instanceof 167, 3) := by decide +kernel
theorem jX8_written_4 : decode cX8_written 4 = .ok (.ifCond .eq 59, 3) := by decide +kernel
theorem jX8_written_8 : decode cX8_written 8 = .ok (.checkcast 167, 3) := by decide +kernel
theorem jX8_written_14 : decode cX8_written 14 = .ok (.getfield 136, 3) := by decide +kernel
theorem jX8_written_17 : decode cX8_written 17 = .ok (.invokevirtual 169, 3) := by decide +kernel
theorem jX8_written_20 : decode cX8_written 20 = .ok (.ifCond .eq 33, 3) := by decide +kernel
theorem jX8_written_26 : decode cX8_written 26 = .ok (.if_icmp .ge 27, 3) := by decide +kernel
theorem jX8_written_31 : decode cX8_written 31 = .ok (.getfield 136, 3) := by decide +kernel
theorem jX8_written_36 : decode cX8_written 36 = .ok (.getfield 136, 3) := by decide +kernel
theorem jX8_written_39 : decode cX8_written 39 = .ok (.invokevirtual 172, 3) := by decide +kernel
theorem jX8_written_46 : decode cX8_written 46 = .ok (.invokestatic 70, 3) := by decide +kernel
theorem jX8_written_49 : decode cX8_written 49 = .ok (.invokevirtual 175, 3) := by decide +kernel
theorem jX8_written_52 : decode cX8_written 52 = .ok (.areturn, 1) := by decide +kernel
theorem jX8_written_55 : decode cX8_written 55 = .ok (.getfield 179, 3) := by decide +kernel
theorem jX8_written_59 : decode cX8_written 59 = .ok (.invokestatic 182, 3) := by decide +kernel
theorem jX8_written_62 : decode cX8_written 62 = .ok (.areturn, 1) := by decide +kernel
theorem jX8_written_64 : decode cX8_written 64 = .ok (.instanceof 65, 3) := by decide +kernel
theorem jX8_written_67 : decode cX8_written 67 = .ok (.ifCond .eq 29, 3) := by decide +kernel
theorem jX8_written_71 : decode cX8_written 71 = .ok (.checkcast 65, 3) := by decide +kernel
theorem jX8_written_76 : decode cX8_written 76 = .ok (.getfield 136, 3) := by decide +kernel
theorem jX8_written_80 : decode cX8_written 80 = .ok (.getfield 136, 3) := by decide +kernel
theorem jX8_written_83 : decode cX8_written 83 = .ok (.if_icmp .eq 13, 3) := by decide +kernel
theorem jX8_written_88 : decode cX8_written 88 = .ok (.getfield 136, 3) := by decide +kernel
theorem jX8_written_92 : decode cX8_written 92 = .ok (.invokestatic 182, 3) := by decide +kernel
theorem jX8_written_95 : decode cX8_written 95 = .ok (.areturn, 1) := by decide +kernel
theorem jX8_written_97 : decode cX8_written 97 = .ok (.areturn, 1) := by decide +kernel
def bX8_forkOf_0 : List Ent := [e0 0 (.iload_n 1), e0 1 (.aload_n 2)]
theorem oX8_forkOf_0 : okB ftX8 ctX8 cX8_forkOf 2 bX8_forkOf_0 = true := by decide +kernel
def bX8_forkOf_8 : List Ent := [e0 8 (.istore_n 3), e0 9 (.aload_n 2)]
theorem oX8_forkOf_8 : okB ftX8 ctX8 cX8_forkOf 10 bX8_forkOf_8 = true := by decide +kernel
def bX8_forkOf_13 : List Ent := [e0 13 (.iload_n 3)]
theorem oX8_forkOf_13 : okB ftX8 ctX8 cX8_forkOf 14 bX8_forkOf_13 = true := by decide +kernel
def bX8_forkOf_17 : List Ent := [e0 17 (.istore 4), e0 19 (.aload_n 2)]
theorem oX8_forkOf_17 : okB ftX8 ctX8 cX8_forkOf 20 bX8_forkOf_17 = true := by decide +kernel
def bX8_forkOf_23 : List Ent := [e0 23 (.iload_n 3)]
theorem oX8_forkOf_23 : okB ftX8 ctX8 cX8_forkOf 24 bX8_forkOf_23 = true := by decide +kernel
def bX8_forkOf_33 : List Ent := [e0 33 .dup, e0 34 (.iload_n 3), e0 35 (.iload 4), e0 37 (.aload_n 0), e0 38 (.aload_n 2)]
theorem oX8_forkOf_33 : okB ftX8 ctX8 cX8_forkOf 39 bX8_forkOf_33 = true := by decide +kernel
def bX8_forkOf_46 : List Ent := [e0 46 .dup, e0 47 (.iload_n 3), e0 48 (.iload 4), e0 50 (.aload_n 2), e0 51 (.aload_n 0)]
theorem oX8_forkOf_46 : okB ftX8 ctX8 cX8_forkOf 52 bX8_forkOf_46 = true := by decide +kernel
theorem jX8_forkOf_2 : decode cX8_forkOf 2 = .ok (.getfield 136, 3) := by decide +kernel
theorem jX8_forkOf_5 : decode cX8_forkOf 5 = .ok (.invokestatic 186, 3) := by decide +kernel
theorem jX8_forkOf_10 : decode cX8_forkOf 10 = .ok (.getfield 136, 3) := by decide +kernel
theorem jX8_forkOf_14 : decode cX8_forkOf 14 = .ok (.invokestatic 190, 3) := by decide +kernel
theorem jX8_forkOf_20 : decode cX8_forkOf 20 = .ok (.getfield 136, 3) := by decide +kernel
theorem jX8_forkOf_24 : decode cX8_forkOf 24 = .ok (.invokestatic 152, 3) := by decide +kernel
theorem jX8_forkOf_27 : decode cX8_forkOf 27 = .ok (.ifCond .eq 16, 3) := by decide +kernel
theorem jX8_forkOf_30 : decode cX8_forkOf 30 = .ok (.new 167, 3) := by decide +kernel
theorem jX8_forkOf_39 : decode cX8_forkOf 39 = .ok (.invokespecial 193, 3) := by decide +kernel
theorem jX8_forkOf_42 : decode cX8_forkOf 42 = .ok (.areturn, 1) := by decide +kernel
theorem jX8_forkOf_43 : decode cX8_forkOf 43 = .ok (.new 167, 3) := by decide +kernel
theorem jX8_forkOf_52 : decode cX8_forkOf 52 = .ok (.invokespecial 193, 3) := by decide +kernel
theorem jX8_forkOf_55 : decode cX8_forkOf 55 = .ok (.areturn, 1) := by decide +kernel
def bX8_erased_0 : List Ent := [e0 0 (.aload_n 0)]
theorem oX8_erased_0 : okB ftX8 ctX8 cX8_erased 1 bX8_erased_0 = true := by decide +kernel
def bX8_erased_7 : List Ent := [e0 7 (.aload_n 0)]
theorem oX8_erased_7 : okB ftX8 ctX8 cX8_erased 8 bX8_erased_7 = true := by decide +kernel
def bX8_erased_11 : List Ent := [e0 11 (.astore_n 3), e0 12 (.aload_n 3), e0 13 (.iload_n 1)]
theorem oX8_erased_11 : okB ftX8 ctX8 cX8_erased 14 bX8_erased_11 = true := by decide +kernel
def bX8_erased_17 : List Ent := [e0 17 (.astore 4), e0 19 (.aload 4)]
theorem oX8_erased_17 : okB ftX8 ctX8 cX8_erased 21 bX8_erased_17 = true := by decide +kernel
def bX8_erased_27 : List Ent := [e0 27 (.iload_n 2), ec 28 (.bipush 16) (.int 16)]
theorem oX8_erased_27 : okB ftX8 ctX8 cX8_erased 30 bX8_erased_27 = true := by decide +kernel
def bX8_erased_33 : List Ent := [e0 33 (.aload_n 3), e0 34 (.iload_n 1), e0 35 (.aload 4), e0 37 (.iload_n 1), e0 38 (.iload_n 2), ec 39 (.iconst 1) (.int 1), e0 40 .iadd]
theorem oX8_erased_33 : okB ftX8 ctX8 cX8_erased 41 bX8_erased_33 = true := by decide +kernel
def bX8_erased_48 : List Ent := [e0 48 (.aload_n 3), e0 49 (.iload_n 1)]
theorem oX8_erased_48 : okB ftX8 ctX8 cX8_erased 50 bX8_erased_48 = true := by decide +kernel
def bX8_erased_57 : List Ent := [e0 57 .dup]
theorem oX8_erased_57 : okB ftX8 ctX8 cX8_erased 58 bX8_erased_57 = true := by decide +kernel
theorem jX8_erased_1 : decode cX8_erased 1 = .ok (.instanceof 167, 3) := by decide +kernel
theorem jX8_erased_4 : decode cX8_erased 4 = .ok (.ifCond .eq 50, 3) := by decide +kernel
theorem jX8_erased_8 : decode cX8_erased 8 = .ok (.checkcast 167, 3) := by decide +kernel
theorem jX8_erased_14 : decode cX8_erased 14 = .ok (.invokevirtual 172, 3) := by decide +kernel
theorem jX8_erased_21 : decode cX8_erased 21 = .ok (.instanceof 167, 3) := by decide +kernel
theorem jX8_erased_24 : decode cX8_erased 24 = .ok (.ifCond .eq 24, 3) := by decide +kernel
theorem jX8_erased_30 : decode cX8_erased 30 = .ok (.if_icmp .ge 18, 3) := by decide +kernel
theorem jX8_erased_41 : decode cX8_erased 41 = .ok (.invokestatic 79, 3) := by decide +kernel
theorem jX8_erased_44 : decode cX8_erased 44 = .ok (.invokevirtual 175, 3) := by decide +kernel
theorem jX8_erased_47 : decode cX8_erased 47 = .ok (.areturn, 1) := by decide +kernel
theorem jX8_erased_50 : decode cX8_erased 50 = .ok (.invokevirtual 196, 3) := by decide +kernel
theorem jX8_erased_53 : decode cX8_erased 53 = .ok (.areturn, 1) := by decide +kernel
theorem jX8_erased_54 : decode cX8_erased 54 = .ok (.new 22, 3) := by decide +kernel
theorem jX8_erased_58 : decode cX8_erased 58 = .ok (.invokespecial 24, 3) := by decide +kernel
theorem jX8_erased_61 : decode cX8_erased 61 = .ok (.areturn, 1) := by decide +kernel
def bX8_leavesWithin_0 : List Ent := [e0 0 (.aload_n 0)]
theorem oX8_leavesWithin_0 : okB ftX8 ctX8 cX8_leavesWithin 1 bX8_leavesWithin_0 = true := by decide +kernel
def bX8_leavesWithin_7 : List Ent := [e0 7 (.aload_n 0)]
theorem oX8_leavesWithin_7 : okB ftX8 ctX8 cX8_leavesWithin 8 bX8_leavesWithin_7 = true := by decide +kernel
def bX8_leavesWithin_11 : List Ent := [e0 11 (.astore 4), e0 13 (.iload_n 3), ec 14 (.bipush 16) (.int 16)]
theorem oX8_leavesWithin_11 : okB ftX8 ctX8 cX8_leavesWithin 16 bX8_leavesWithin_11 = true := by decide +kernel
def bX8_leavesWithin_19 : List Ent := [e0 19 (.aload 4)]
theorem oX8_leavesWithin_19 : okB ftX8 ctX8 cX8_leavesWithin 21 bX8_leavesWithin_19 = true := by decide +kernel
def bX8_leavesWithin_24 : List Ent := [e0 24 (.iload_n 1), e0 25 (.iload_n 2), e0 26 (.iload_n 3), ec 27 (.iconst 1) (.int 1), e0 28 .iadd]
theorem oX8_leavesWithin_24 : okB ftX8 ctX8 cX8_leavesWithin 29 bX8_leavesWithin_24 = true := by decide +kernel
def bX8_leavesWithin_32 : List Ent := [e0 32 (.aload 4)]
theorem oX8_leavesWithin_32 : okB ftX8 ctX8 cX8_leavesWithin 34 bX8_leavesWithin_32 = true := by decide +kernel
def bX8_leavesWithin_37 : List Ent := [e0 37 (.iload_n 1), e0 38 (.iload_n 2), e0 39 (.iload_n 3), ec 40 (.iconst 1) (.int 1), e0 41 .iadd]
theorem oX8_leavesWithin_37 : okB ftX8 ctX8 cX8_leavesWithin 42 bX8_leavesWithin_37 = true := by decide +kernel
def bX8_leavesWithin_45 : List Ent := [e0 45 .iadd]
theorem oX8_leavesWithin_45 : okB ftX8 ctX8 cX8_leavesWithin 46 bX8_leavesWithin_45 = true := by decide +kernel
def bX8_leavesWithin_47 : List Ent := [e0 47 (.aload_n 0)]
theorem oX8_leavesWithin_47 : okB ftX8 ctX8 cX8_leavesWithin 48 bX8_leavesWithin_47 = true := by decide +kernel
def bX8_leavesWithin_54 : List Ent := [e0 54 (.aload_n 0)]
theorem oX8_leavesWithin_54 : okB ftX8 ctX8 cX8_leavesWithin 55 bX8_leavesWithin_54 = true := by decide +kernel
def bX8_leavesWithin_58 : List Ent := [e0 58 (.astore 4), e0 60 (.aload 4)]
theorem oX8_leavesWithin_58 : okB ftX8 ctX8 cX8_leavesWithin 62 bX8_leavesWithin_58 = true := by decide +kernel
def bX8_leavesWithin_65 : List Ent := [e0 65 (.iload_n 1)]
theorem oX8_leavesWithin_65 : okB ftX8 ctX8 cX8_leavesWithin 66 bX8_leavesWithin_65 = true := by decide +kernel
def bX8_leavesWithin_69 : List Ent := [e0 69 (.aload 4)]
theorem oX8_leavesWithin_69 : okB ftX8 ctX8 cX8_leavesWithin 71 bX8_leavesWithin_69 = true := by decide +kernel
def bX8_leavesWithin_74 : List Ent := [e0 74 (.iload_n 2)]
theorem oX8_leavesWithin_74 : okB ftX8 ctX8 cX8_leavesWithin 75 bX8_leavesWithin_74 = true := by decide +kernel
def bX8_leavesWithin_78 : List Ent := [ec 78 (.iconst 1) (.int 1), e0 79 (.goto 4)]
theorem oX8_leavesWithin_78 : okB ftX8 ctX8 cX8_leavesWithin 83 bX8_leavesWithin_78 = true := by decide +kernel
def bX8_leavesWithin_82 : List Ent := [ec 82 (.iconst 0) (.int 0)]
theorem oX8_leavesWithin_82 : okB ftX8 ctX8 cX8_leavesWithin 83 bX8_leavesWithin_82 = true := by decide +kernel
theorem jX8_leavesWithin_1 : decode cX8_leavesWithin 1 = .ok (.instanceof 167, 3) := by decide +kernel
theorem jX8_leavesWithin_4 : decode cX8_leavesWithin 4 = .ok (.ifCond .eq 43, 3) := by decide +kernel
theorem jX8_leavesWithin_8 : decode cX8_leavesWithin 8 = .ok (.checkcast 167, 3) := by decide +kernel
theorem jX8_leavesWithin_16 : decode cX8_leavesWithin 16 = .ok (.if_icmp .ge 31, 3) := by decide +kernel
theorem jX8_leavesWithin_21 : decode cX8_leavesWithin 21 = .ok (.getfield 199, 3) := by decide +kernel
theorem jX8_leavesWithin_29 : decode cX8_leavesWithin 29 = .ok (.invokestatic 75, 3) := by decide +kernel
theorem jX8_leavesWithin_34 : decode cX8_leavesWithin 34 = .ok (.getfield 202, 3) := by decide +kernel
theorem jX8_leavesWithin_42 : decode cX8_leavesWithin 42 = .ok (.invokestatic 75, 3) := by decide +kernel
theorem jX8_leavesWithin_46 : decode cX8_leavesWithin 46 = .ok (.ireturn, 1) := by decide +kernel
theorem jX8_leavesWithin_48 : decode cX8_leavesWithin 48 = .ok (.instanceof 65, 3) := by decide +kernel
theorem jX8_leavesWithin_51 : decode cX8_leavesWithin 51 = .ok (.ifCond .eq 31, 3) := by decide +kernel
theorem jX8_leavesWithin_55 : decode cX8_leavesWithin 55 = .ok (.checkcast 65, 3) := by decide +kernel
theorem jX8_leavesWithin_62 : decode cX8_leavesWithin 62 = .ok (.getfield 136, 3) := by decide +kernel
theorem jX8_leavesWithin_66 : decode cX8_leavesWithin 66 = .ok (.if_icmp .lt 16, 3) := by decide +kernel
theorem jX8_leavesWithin_71 : decode cX8_leavesWithin 71 = .ok (.getfield 136, 3) := by decide +kernel
theorem jX8_leavesWithin_75 : decode cX8_leavesWithin 75 = .ok (.if_icmp .gt 7, 3) := by decide +kernel
theorem jX8_leavesWithin_83 : decode cX8_leavesWithin 83 = .ok (.ireturn, 1) := by decide +kernel
def bX8_nodesOf_0 : List Ent := [e0 0 (.aload_n 0)]
theorem oX8_nodesOf_0 : okB ftX8 ctX8 cX8_nodesOf 1 bX8_nodesOf_0 = true := by decide +kernel
def bX8_nodesOf_7 : List Ent := [e0 7 (.aload_n 0)]
theorem oX8_nodesOf_7 : okB ftX8 ctX8 cX8_nodesOf 8 bX8_nodesOf_7 = true := by decide +kernel
def bX8_nodesOf_11 : List Ent := [e0 11 (.astore_n 2), e0 12 (.iload_n 1), ec 13 (.bipush 16) (.int 16)]
theorem oX8_nodesOf_11 : okB ftX8 ctX8 cX8_nodesOf 15 bX8_nodesOf_11 = true := by decide +kernel
def bX8_nodesOf_18 : List Ent := [ec 18 (.iconst 1) (.int 1), e0 19 (.aload_n 2)]
theorem oX8_nodesOf_18 : okB ftX8 ctX8 cX8_nodesOf 20 bX8_nodesOf_18 = true := by decide +kernel
def bX8_nodesOf_23 : List Ent := [e0 23 (.iload_n 1), ec 24 (.iconst 1) (.int 1), e0 25 .iadd]
theorem oX8_nodesOf_23 : okB ftX8 ctX8 cX8_nodesOf 26 bX8_nodesOf_23 = true := by decide +kernel
def bX8_nodesOf_29 : List Ent := [e0 29 .iadd, e0 30 (.aload_n 2)]
theorem oX8_nodesOf_29 : okB ftX8 ctX8 cX8_nodesOf 31 bX8_nodesOf_29 = true := by decide +kernel
def bX8_nodesOf_34 : List Ent := [e0 34 (.iload_n 1), ec 35 (.iconst 1) (.int 1), e0 36 .iadd]
theorem oX8_nodesOf_34 : okB ftX8 ctX8 cX8_nodesOf 37 bX8_nodesOf_34 = true := by decide +kernel
def bX8_nodesOf_40 : List Ent := [e0 40 .iadd]
theorem oX8_nodesOf_40 : okB ftX8 ctX8 cX8_nodesOf 41 bX8_nodesOf_40 = true := by decide +kernel
def bX8_nodesOf_42 : List Ent := [e0 42 (.aload_n 0)]
theorem oX8_nodesOf_42 : okB ftX8 ctX8 cX8_nodesOf 43 bX8_nodesOf_42 = true := by decide +kernel
def bX8_nodesOf_46 : List Ent := [ec 46 (.iconst 0) (.int 0), e0 47 (.goto 4)]
theorem oX8_nodesOf_46 : okB ftX8 ctX8 cX8_nodesOf 51 bX8_nodesOf_46 = true := by decide +kernel
def bX8_nodesOf_50 : List Ent := [ec 50 (.iconst 1) (.int 1)]
theorem oX8_nodesOf_50 : okB ftX8 ctX8 cX8_nodesOf 51 bX8_nodesOf_50 = true := by decide +kernel
theorem jX8_nodesOf_1 : decode cX8_nodesOf 1 = .ok (.instanceof 167, 3) := by decide +kernel
theorem jX8_nodesOf_4 : decode cX8_nodesOf 4 = .ok (.ifCond .eq 38, 3) := by decide +kernel
theorem jX8_nodesOf_8 : decode cX8_nodesOf 8 = .ok (.checkcast 167, 3) := by decide +kernel
theorem jX8_nodesOf_15 : decode cX8_nodesOf 15 = .ok (.if_icmp .ge 27, 3) := by decide +kernel
theorem jX8_nodesOf_20 : decode cX8_nodesOf 20 = .ok (.getfield 199, 3) := by decide +kernel
theorem jX8_nodesOf_26 : decode cX8_nodesOf 26 = .ok (.invokestatic 130, 3) := by decide +kernel
theorem jX8_nodesOf_31 : decode cX8_nodesOf 31 = .ok (.getfield 202, 3) := by decide +kernel
theorem jX8_nodesOf_37 : decode cX8_nodesOf 37 = .ok (.invokestatic 130, 3) := by decide +kernel
theorem jX8_nodesOf_41 : decode cX8_nodesOf 41 = .ok (.ireturn, 1) := by decide +kernel
theorem jX8_nodesOf_43 : decode cX8_nodesOf 43 = .ok (.ifnonnull 7, 3) := by decide +kernel
theorem jX8_nodesOf_51 : decode cX8_nodesOf 51 = .ok (.ireturn, 1) := by decide +kernel
def bX8_mostForks_0 : List Ent := [e0 0 (.aload_n 0)]
theorem oX8_mostForks_0 : okB ftX8 ctX8 cX8_mostForks 1 bX8_mostForks_0 = true := by decide +kernel
def bX8_mostForks_7 : List Ent := [e0 7 (.aload_n 0)]
theorem oX8_mostForks_7 : okB ftX8 ctX8 cX8_mostForks 8 bX8_mostForks_7 = true := by decide +kernel
def bX8_mostForks_11 : List Ent := [e0 11 (.astore_n 2), e0 12 (.iload_n 1), ec 13 (.bipush 16) (.int 16)]
theorem oX8_mostForks_11 : okB ftX8 ctX8 cX8_mostForks 15 bX8_mostForks_11 = true := by decide +kernel
def bX8_mostForks_18 : List Ent := [ec 18 (.iconst 1) (.int 1), e0 19 (.aload_n 2)]
theorem oX8_mostForks_18 : okB ftX8 ctX8 cX8_mostForks 20 bX8_mostForks_18 = true := by decide +kernel
def bX8_mostForks_23 : List Ent := [e0 23 (.iload_n 1), ec 24 (.iconst 1) (.int 1), e0 25 .iadd]
theorem oX8_mostForks_23 : okB ftX8 ctX8 cX8_mostForks 26 bX8_mostForks_23 = true := by decide +kernel
def bX8_mostForks_29 : List Ent := [e0 29 (.aload_n 2)]
theorem oX8_mostForks_29 : okB ftX8 ctX8 cX8_mostForks 30 bX8_mostForks_29 = true := by decide +kernel
def bX8_mostForks_33 : List Ent := [e0 33 (.iload_n 1), ec 34 (.iconst 1) (.int 1), e0 35 .iadd]
theorem oX8_mostForks_33 : okB ftX8 ctX8 cX8_mostForks 36 bX8_mostForks_33 = true := by decide +kernel
def bX8_mostForks_42 : List Ent := [e0 42 .iadd]
theorem oX8_mostForks_42 : okB ftX8 ctX8 cX8_mostForks 43 bX8_mostForks_42 = true := by decide +kernel
def bX8_mostForks_44 : List Ent := [ec 44 (.iconst 0) (.int 0)]
theorem oX8_mostForks_44 : okB ftX8 ctX8 cX8_mostForks 45 bX8_mostForks_44 = true := by decide +kernel
theorem jX8_mostForks_1 : decode cX8_mostForks 1 = .ok (.instanceof 167, 3) := by decide +kernel
theorem jX8_mostForks_4 : decode cX8_mostForks 4 = .ok (.ifCond .eq 40, 3) := by decide +kernel
theorem jX8_mostForks_8 : decode cX8_mostForks 8 = .ok (.checkcast 167, 3) := by decide +kernel
theorem jX8_mostForks_15 : decode cX8_mostForks 15 = .ok (.if_icmp .ge 29, 3) := by decide +kernel
theorem jX8_mostForks_20 : decode cX8_mostForks 20 = .ok (.getfield 199, 3) := by decide +kernel
theorem jX8_mostForks_26 : decode cX8_mostForks 26 = .ok (.invokestatic 149, 3) := by decide +kernel
theorem jX8_mostForks_30 : decode cX8_mostForks 30 = .ok (.getfield 202, 3) := by decide +kernel
theorem jX8_mostForks_36 : decode cX8_mostForks 36 = .ok (.invokestatic 149, 3) := by decide +kernel
theorem jX8_mostForks_39 : decode cX8_mostForks 39 = .ok (.invokestatic 205, 3) := by decide +kernel
theorem jX8_mostForks_43 : decode cX8_mostForks 43 = .ok (.ireturn, 1) := by decide +kernel
theorem jX8_mostForks_45 : decode cX8_mostForks 45 = .ok (.ireturn, 1) := by decide +kernel
def bX8_hiddenOver_0 : List Ent := [e0 0 (.aload_n 0)]
theorem oX8_hiddenOver_0 : okB ftX8 ctX8 cX8_hiddenOver 1 bX8_hiddenOver_0 = true := by decide +kernel
def bX8_hiddenOver_7 : List Ent := [e0 7 (.aload_n 0)]
theorem oX8_hiddenOver_7 : okB ftX8 ctX8 cX8_hiddenOver 8 bX8_hiddenOver_7 = true := by decide +kernel
def bX8_hiddenOver_11 : List Ent := [e0 11 (.astore 6), e0 13 (.iload 5), ec 15 (.bipush 16) (.int 16)]
theorem oX8_hiddenOver_11 : okB ftX8 ctX8 cX8_hiddenOver 17 bX8_hiddenOver_11 = true := by decide +kernel
def bX8_hiddenOver_20 : List Ent := [e0 20 (.aload 6)]
theorem oX8_hiddenOver_20 : okB ftX8 ctX8 cX8_hiddenOver 22 bX8_hiddenOver_20 = true := by decide +kernel
def bX8_hiddenOver_25 : List Ent := [e0 25 (.aload 6)]
theorem oX8_hiddenOver_25 : okB ftX8 ctX8 cX8_hiddenOver 27 bX8_hiddenOver_25 = true := by decide +kernel
def bX8_hiddenOver_30 : List Ent := [e0 30 (.aload 6)]
theorem oX8_hiddenOver_30 : okB ftX8 ctX8 cX8_hiddenOver 32 bX8_hiddenOver_30 = true := by decide +kernel
def bX8_hiddenOver_35 : List Ent := [ec 35 (.iconst 1) (.int 1), e0 36 .isub, e0 37 (.iload_n 3), e0 38 (.iload 4), e0 40 (.iload 5), ec 42 (.iconst 1) (.int 1), e0 43 .iadd]
theorem oX8_hiddenOver_35 : okB ftX8 ctX8 cX8_hiddenOver 44 bX8_hiddenOver_35 = true := by decide +kernel
def bX8_hiddenOver_47 : List Ent := [e0 47 (.aload 6)]
theorem oX8_hiddenOver_47 : okB ftX8 ctX8 cX8_hiddenOver 49 bX8_hiddenOver_47 = true := by decide +kernel
def bX8_hiddenOver_52 : List Ent := [e0 52 (.aload 6)]
theorem oX8_hiddenOver_52 : okB ftX8 ctX8 cX8_hiddenOver 54 bX8_hiddenOver_52 = true := by decide +kernel
def bX8_hiddenOver_57 : List Ent := [e0 57 (.aload 6)]
theorem oX8_hiddenOver_57 : okB ftX8 ctX8 cX8_hiddenOver 59 bX8_hiddenOver_57 = true := by decide +kernel
def bX8_hiddenOver_62 : List Ent := [e0 62 (.iload_n 3), e0 63 (.iload 4), e0 65 (.iload 5), ec 67 (.iconst 1) (.int 1), e0 68 .iadd]
theorem oX8_hiddenOver_62 : okB ftX8 ctX8 cX8_hiddenOver 69 bX8_hiddenOver_62 = true := by decide +kernel
def bX8_hiddenOver_72 : List Ent := [e0 72 .iadd]
theorem oX8_hiddenOver_72 : okB ftX8 ctX8 cX8_hiddenOver 73 bX8_hiddenOver_72 = true := by decide +kernel
def bX8_hiddenOver_74 : List Ent := [e0 74 (.aload_n 0)]
theorem oX8_hiddenOver_74 : okB ftX8 ctX8 cX8_hiddenOver 75 bX8_hiddenOver_74 = true := by decide +kernel
def bX8_hiddenOver_81 : List Ent := [e0 81 (.iload_n 1), e0 82 (.iload 4)]
theorem oX8_hiddenOver_81 : okB ftX8 ctX8 cX8_hiddenOver 84 bX8_hiddenOver_81 = true := by decide +kernel
def bX8_hiddenOver_87 : List Ent := [e0 87 (.iload_n 3), e0 88 (.iload_n 2)]
theorem oX8_hiddenOver_87 : okB ftX8 ctX8 cX8_hiddenOver 89 bX8_hiddenOver_87 = true := by decide +kernel
def bX8_hiddenOver_92 : List Ent := [ec 92 (.iconst 1) (.int 1), e0 93 (.goto 4)]
theorem oX8_hiddenOver_92 : okB ftX8 ctX8 cX8_hiddenOver 97 bX8_hiddenOver_92 = true := by decide +kernel
def bX8_hiddenOver_96 : List Ent := [ec 96 (.iconst 0) (.int 0)]
theorem oX8_hiddenOver_96 : okB ftX8 ctX8 cX8_hiddenOver 97 bX8_hiddenOver_96 = true := by decide +kernel
theorem jX8_hiddenOver_1 : decode cX8_hiddenOver 1 = .ok (.instanceof 167, 3) := by decide +kernel
theorem jX8_hiddenOver_4 : decode cX8_hiddenOver 4 = .ok (.ifCond .eq 70, 3) := by decide +kernel
theorem jX8_hiddenOver_8 : decode cX8_hiddenOver 8 = .ok (.checkcast 167, 3) := by decide +kernel
theorem jX8_hiddenOver_17 : decode cX8_hiddenOver 17 = .ok (.if_icmp .ge 57, 3) := by decide +kernel
theorem jX8_hiddenOver_22 : decode cX8_hiddenOver 22 = .ok (.getfield 199, 3) := by decide +kernel
theorem jX8_hiddenOver_27 : decode cX8_hiddenOver 27 = .ok (.getfield 179, 3) := by decide +kernel
theorem jX8_hiddenOver_32 : decode cX8_hiddenOver 32 = .ok (.invokevirtual 210, 3) := by decide +kernel
theorem jX8_hiddenOver_44 : decode cX8_hiddenOver 44 = .ok (.invokestatic 142, 3) := by decide +kernel
theorem jX8_hiddenOver_49 : decode cX8_hiddenOver 49 = .ok (.getfield 202, 3) := by decide +kernel
theorem jX8_hiddenOver_54 : decode cX8_hiddenOver 54 = .ok (.invokevirtual 210, 3) := by decide +kernel
theorem jX8_hiddenOver_59 : decode cX8_hiddenOver 59 = .ok (.invokevirtual 214, 3) := by decide +kernel
theorem jX8_hiddenOver_69 : decode cX8_hiddenOver 69 = .ok (.invokestatic 142, 3) := by decide +kernel
theorem jX8_hiddenOver_73 : decode cX8_hiddenOver 73 = .ok (.ireturn, 1) := by decide +kernel
theorem jX8_hiddenOver_75 : decode cX8_hiddenOver 75 = .ok (.instanceof 134, 3) := by decide +kernel
theorem jX8_hiddenOver_78 : decode cX8_hiddenOver 78 = .ok (.ifCond .eq 18, 3) := by decide +kernel
theorem jX8_hiddenOver_84 : decode cX8_hiddenOver 84 = .ok (.if_icmp .gt 12, 3) := by decide +kernel
theorem jX8_hiddenOver_89 : decode cX8_hiddenOver 89 = .ok (.if_icmp .gt 7, 3) := by decide +kernel
theorem jX8_hiddenOver_97 : decode cX8_hiddenOver 97 = .ok (.ireturn, 1) := by decide +kernel
def bX8_leastFrom_0 : List Ent := [e0 0 (.aload_n 0)]
theorem oX8_leastFrom_0 : okB ftX8 ctX8 cX8_leastFrom 1 bX8_leastFrom_0 = true := by decide +kernel
def bX8_leastFrom_7 : List Ent := [e0 7 (.aload_n 0)]
theorem oX8_leastFrom_7 : okB ftX8 ctX8 cX8_leastFrom 8 bX8_leastFrom_7 = true := by decide +kernel
def bX8_leastFrom_11 : List Ent := [e0 11 (.astore 4), e0 13 (.iload_n 3), ec 14 (.bipush 16) (.int 16)]
theorem oX8_leastFrom_11 : okB ftX8 ctX8 cX8_leastFrom 16 bX8_leastFrom_11 = true := by decide +kernel
def bX8_leastFrom_19 : List Ent := [e0 19 (.aload 4)]
theorem oX8_leastFrom_19 : okB ftX8 ctX8 cX8_leastFrom 21 bX8_leastFrom_19 = true := by decide +kernel
def bX8_leastFrom_24 : List Ent := [e0 24 (.aload 4)]
theorem oX8_leastFrom_24 : okB ftX8 ctX8 cX8_leastFrom 26 bX8_leastFrom_24 = true := by decide +kernel
def bX8_leastFrom_29 : List Ent := [ec 29 (.iconst 1) (.int 1), e0 30 .isub, e0 31 (.iload_n 2), e0 32 (.iload_n 3), ec 33 (.iconst 1) (.int 1), e0 34 .iadd]
theorem oX8_leastFrom_29 : okB ftX8 ctX8 cX8_leastFrom 35 bX8_leastFrom_29 = true := by decide +kernel
def bX8_leastFrom_38 : List Ent := [e0 38 (.istore 5), e0 40 (.iload 5), ec 42 (.bipush (-2)) (.int (-2))]
theorem oX8_leastFrom_38 : okB ftX8 ctX8 cX8_leastFrom 44 bX8_leastFrom_38 = true := by decide +kernel
def bX8_leastFrom_47 : List Ent := [e0 47 (.aload 4)]
theorem oX8_leastFrom_47 : okB ftX8 ctX8 cX8_leastFrom 49 bX8_leastFrom_47 = true := by decide +kernel
def bX8_leastFrom_52 : List Ent := [e0 52 (.aload 4)]
theorem oX8_leastFrom_52 : okB ftX8 ctX8 cX8_leastFrom 54 bX8_leastFrom_52 = true := by decide +kernel
def bX8_leastFrom_57 : List Ent := [e0 57 (.iload_n 2), e0 58 (.iload_n 3), ec 59 (.iconst 1) (.int 1), e0 60 .iadd]
theorem oX8_leastFrom_57 : okB ftX8 ctX8 cX8_leastFrom 61 bX8_leastFrom_57 = true := by decide +kernel
def bX8_leastFrom_64 : List Ent := [e0 64 (.goto 5)]
theorem oX8_leastFrom_64 : okB ftX8 ctX8 cX8_leastFrom 69 bX8_leastFrom_64 = true := by decide +kernel
def bX8_leastFrom_67 : List Ent := [e0 67 (.iload 5)]
theorem oX8_leastFrom_67 : okB ftX8 ctX8 cX8_leastFrom 69 bX8_leastFrom_67 = true := by decide +kernel
def bX8_leastFrom_70 : List Ent := [e0 70 (.aload_n 0)]
theorem oX8_leastFrom_70 : okB ftX8 ctX8 cX8_leastFrom 71 bX8_leastFrom_70 = true := by decide +kernel
def bX8_leastFrom_77 : List Ent := [e0 77 (.aload_n 0)]
theorem oX8_leastFrom_77 : okB ftX8 ctX8 cX8_leastFrom 78 bX8_leastFrom_77 = true := by decide +kernel
def bX8_leastFrom_81 : List Ent := [e0 81 (.astore 4), e0 83 (.aload 4)]
theorem oX8_leastFrom_81 : okB ftX8 ctX8 cX8_leastFrom 85 bX8_leastFrom_81 = true := by decide +kernel
def bX8_leastFrom_88 : List Ent := [e0 88 (.iload_n 2)]
theorem oX8_leastFrom_88 : okB ftX8 ctX8 cX8_leastFrom 89 bX8_leastFrom_88 = true := by decide +kernel
def bX8_leastFrom_92 : List Ent := [e0 92 (.aload 4)]
theorem oX8_leastFrom_92 : okB ftX8 ctX8 cX8_leastFrom 94 bX8_leastFrom_92 = true := by decide +kernel
def bX8_leastFrom_98 : List Ent := [e0 98 (.aload_n 0)]
theorem oX8_leastFrom_98 : okB ftX8 ctX8 cX8_leastFrom 99 bX8_leastFrom_98 = true := by decide +kernel
def bX8_leastFrom_105 : List Ent := [e0 105 (.iload_n 1), e0 106 (.iload_n 2)]
theorem oX8_leastFrom_105 : okB ftX8 ctX8 cX8_leastFrom 107 bX8_leastFrom_105 = true := by decide +kernel
def bX8_leastFrom_110 : List Ent := [ec 110 (.bipush (-4)) (.int (-4)), e0 112 (.goto 5)]
theorem oX8_leastFrom_110 : okB ftX8 ctX8 cX8_leastFrom 117 bX8_leastFrom_110 = true := by decide +kernel
def bX8_leastFrom_115 : List Ent := [ec 115 (.bipush (-2)) (.int (-2))]
theorem oX8_leastFrom_115 : okB ftX8 ctX8 cX8_leastFrom 117 bX8_leastFrom_115 = true := by decide +kernel
theorem jX8_leastFrom_1 : decode cX8_leastFrom 1 = .ok (.instanceof 167, 3) := by decide +kernel
theorem jX8_leastFrom_4 : decode cX8_leastFrom 4 = .ok (.ifCond .eq 66, 3) := by decide +kernel
theorem jX8_leastFrom_8 : decode cX8_leastFrom 8 = .ok (.checkcast 167, 3) := by decide +kernel
theorem jX8_leastFrom_16 : decode cX8_leastFrom 16 = .ok (.if_icmp .ge 54, 3) := by decide +kernel
theorem jX8_leastFrom_21 : decode cX8_leastFrom 21 = .ok (.getfield 199, 3) := by decide +kernel
theorem jX8_leastFrom_26 : decode cX8_leastFrom 26 = .ok (.invokevirtual 210, 3) := by decide +kernel
theorem jX8_leastFrom_35 : decode cX8_leastFrom 35 = .ok (.invokestatic 146, 3) := by decide +kernel
theorem jX8_leastFrom_44 : decode cX8_leastFrom 44 = .ok (.if_icmp .ne 23, 3) := by decide +kernel
theorem jX8_leastFrom_49 : decode cX8_leastFrom 49 = .ok (.getfield 202, 3) := by decide +kernel
theorem jX8_leastFrom_54 : decode cX8_leastFrom 54 = .ok (.invokevirtual 214, 3) := by decide +kernel
theorem jX8_leastFrom_61 : decode cX8_leastFrom 61 = .ok (.invokestatic 146, 3) := by decide +kernel
theorem jX8_leastFrom_69 : decode cX8_leastFrom 69 = .ok (.ireturn, 1) := by decide +kernel
theorem jX8_leastFrom_71 : decode cX8_leastFrom 71 = .ok (.instanceof 65, 3) := by decide +kernel
theorem jX8_leastFrom_74 : decode cX8_leastFrom 74 = .ok (.ifCond .eq 24, 3) := by decide +kernel
theorem jX8_leastFrom_78 : decode cX8_leastFrom 78 = .ok (.checkcast 65, 3) := by decide +kernel
theorem jX8_leastFrom_85 : decode cX8_leastFrom 85 = .ok (.getfield 136, 3) := by decide +kernel
theorem jX8_leastFrom_89 : decode cX8_leastFrom 89 = .ok (.if_icmp .lt 9, 3) := by decide +kernel
theorem jX8_leastFrom_94 : decode cX8_leastFrom 94 = .ok (.getfield 136, 3) := by decide +kernel
theorem jX8_leastFrom_97 : decode cX8_leastFrom 97 = .ok (.ireturn, 1) := by decide +kernel
theorem jX8_leastFrom_99 : decode cX8_leastFrom 99 = .ok (.instanceof 134, 3) := by decide +kernel
theorem jX8_leastFrom_102 : decode cX8_leastFrom 102 = .ok (.ifCond .eq 13, 3) := by decide +kernel
theorem jX8_leastFrom_107 : decode cX8_leastFrom 107 = .ok (.if_icmp .lt 8, 3) := by decide +kernel
theorem jX8_leastFrom_117 : decode cX8_leastFrom 117 = .ok (.ireturn, 1) := by decide +kernel
def bX8_tapeBecomes_0 : List Ent := [e0 0 (.aload_n 0), ef 1 (.getfield 40) .null 7 5, ec 4 (.iconst 0) (.int 0), ef 5 (.putfield 104) (.int 0) 6 1, e0 8 (.aload_n 0), e0 9 (.aload_n 1), ec 10 (.iconst 0) (.int 0), ec 11 (.ldc 74) (.int 65535), ec 13 (.iconst 0) (.int 0)]
theorem oX8_tapeBecomes_0 : okB ftX8 ctX8 cX8_tapeBecomes 14 bX8_tapeBecomes_0 = true := by decide +kernel
def bX8_tapeBecomes_17 : List Ent := [e0 17 (.aload_n 0), ef 18 (.getfield 40) .null 7 5, ef 21 (.getfield 104) .null 6 1, ec 24 (.sipush 4000) (.int 4000)]
theorem oX8_tapeBecomes_17 : okB ftX8 ctX8 cX8_tapeBecomes 27 bX8_tapeBecomes_17 = true := by decide +kernel
def bX8_tapeBecomes_30 : List Ent := [ec 30 (.bipush (-3)) (.int (-3))]
theorem oX8_tapeBecomes_30 : okB ftX8 ctX8 cX8_tapeBecomes 32 bX8_tapeBecomes_30 = true := by decide +kernel
def bX8_tapeBecomes_33 : List Ent := [e0 33 (.aload_n 0), ef 34 (.getfield 36) .null 7 4, e0 37 (.astore_n 2), e0 38 (.aload_n 0), e0 39 (.aload_n 0), ef 40 (.getfield 40) .null 7 5, ef 43 (.putfield 36) .null 7 4, e0 46 (.aload_n 0), e0 47 (.aload_n 2), ef 48 (.putfield 40) .null 7 5, e0 51 (.aload_n 0), ef 52 (.getfield 36) .null 7 4, ef 55 (.getfield 104) .null 6 1]
theorem oX8_tapeBecomes_33 : okB ftX8 ctX8 cX8_tapeBecomes 58 bX8_tapeBecomes_33 = true := by decide +kernel
theorem jX8_tapeBecomes_14 : decode cX8_tapeBecomes 14 = .ok (.invokevirtual 217, 3) := by decide +kernel
theorem jX8_tapeBecomes_27 : decode cX8_tapeBecomes 27 = .ok (.if_icmp .le 6, 3) := by decide +kernel
theorem jX8_tapeBecomes_32 : decode cX8_tapeBecomes 32 = .ok (.ireturn, 1) := by decide +kernel
theorem jX8_tapeBecomes_58 : decode cX8_tapeBecomes 58 = .ok (.ireturn, 1) := by decide +kernel
def bX8_appendShown_0 : List Ent := [e0 0 (.aload_n 1)]
theorem oX8_appendShown_0 : okB ftX8 ctX8 cX8_appendShown 1 bX8_appendShown_0 = true := by decide +kernel
def bX8_appendShown_7 : List Ent := [e0 7 (.aload_n 0), ef 8 (.getfield 18) .null 7 1, e0 11 (.iload_n 2), e0 12 (.iload_n 3)]
theorem oX8_appendShown_7 : okB ftX8 ctX8 cX8_appendShown 13 bX8_appendShown_7 = true := by decide +kernel
def bX8_appendShown_19 : List Ent := [e0 19 (.aload_n 0), ef 20 (.getfield 40) .null 7 5, ec 23 (.iconst 1) (.int 1), ec 24 (.lconst 0) (.long 0)]
theorem oX8_appendShown_19 : okB ftX8 ctX8 cX8_appendShown 25 bX8_appendShown_19 = true := by decide +kernel
def bX8_appendShown_28 : List Ent := [e0 28 (.aload_n 0), ef 29 (.getfield 40) .null 7 5, ec 32 (.bipush 8) (.int 8), e0 34 (.aload_n 1)]
theorem oX8_appendShown_28 : okB ftX8 ctX8 cX8_appendShown 35 bX8_appendShown_28 = true := by decide +kernel
def bX8_appendShown_41 : List Ent := [e0 41 (.goto 177)]
theorem oX8_appendShown_41 : okB ftX8 ctX8 cX8_appendShown 218 bX8_appendShown_41 = true := by decide +kernel
def bX8_appendShown_44 : List Ent := [e0 44 (.aload_n 1)]
theorem oX8_appendShown_44 : okB ftX8 ctX8 cX8_appendShown 45 bX8_appendShown_44 = true := by decide +kernel
def bX8_appendShown_51 : List Ent := [e0 51 (.aload_n 1)]
theorem oX8_appendShown_51 : okB ftX8 ctX8 cX8_appendShown 52 bX8_appendShown_51 = true := by decide +kernel
def bX8_appendShown_55 : List Ent := [e0 55 (.astore 5), e0 57 (.iload 4), ec 59 (.bipush 16) (.int 16)]
theorem oX8_appendShown_55 : okB ftX8 ctX8 cX8_appendShown 61 bX8_appendShown_55 = true := by decide +kernel
def bX8_appendShown_64 : List Ent := [e0 64 (.aload_n 0), ef 65 (.getfield 40) .null 7 5, ec 68 (.iconst 1) (.int 1), ec 69 (.lconst 1) (.long 1)]
theorem oX8_appendShown_64 : okB ftX8 ctX8 cX8_appendShown 70 bX8_appendShown_64 = true := by decide +kernel
def bX8_appendShown_73 : List Ent := [e0 73 (.aload_n 0), ef 74 (.getfield 40) .null 7 5, ec 77 (.iconst 1) (.int 1), e0 78 (.aload 5)]
theorem oX8_appendShown_73 : okB ftX8 ctX8 cX8_appendShown 80 bX8_appendShown_73 = true := by decide +kernel
def bX8_appendShown_83 : List Ent := [e0 83 .i2l]
theorem oX8_appendShown_83 : okB ftX8 ctX8 cX8_appendShown 84 bX8_appendShown_83 = true := by decide +kernel
def bX8_appendShown_87 : List Ent := [e0 87 (.aload_n 0), ef 88 (.getfield 40) .null 7 5, ec 91 (.iconst 2) (.int 2), e0 92 (.aload 5)]
theorem oX8_appendShown_87 : okB ftX8 ctX8 cX8_appendShown 94 bX8_appendShown_87 = true := by decide +kernel
def bX8_appendShown_97 : List Ent := [e0 97 .i2l]
theorem oX8_appendShown_97 : okB ftX8 ctX8 cX8_appendShown 98 bX8_appendShown_97 = true := by decide +kernel
def bX8_appendShown_101 : List Ent := [e0 101 (.aload_n 0), e0 102 (.aload 5)]
theorem oX8_appendShown_101 : okB ftX8 ctX8 cX8_appendShown 104 bX8_appendShown_101 = true := by decide +kernel
def bX8_appendShown_107 : List Ent := [e0 107 (.aload 5)]
theorem oX8_appendShown_107 : okB ftX8 ctX8 cX8_appendShown 109 bX8_appendShown_107 = true := by decide +kernel
def bX8_appendShown_112 : List Ent := [e0 112 (.aload 5)]
theorem oX8_appendShown_112 : okB ftX8 ctX8 cX8_appendShown 114 bX8_appendShown_112 = true := by decide +kernel
def bX8_appendShown_117 : List Ent := [ec 117 (.iconst 1) (.int 1), e0 118 .isub, e0 119 (.iload 4), ec 121 (.iconst 1) (.int 1), e0 122 .iadd]
theorem oX8_appendShown_117 : okB ftX8 ctX8 cX8_appendShown 123 bX8_appendShown_117 = true := by decide +kernel
def bX8_appendShown_126 : List Ent := [e0 126 (.aload_n 0), e0 127 (.aload 5)]
theorem oX8_appendShown_126 : okB ftX8 ctX8 cX8_appendShown 129 bX8_appendShown_126 = true := by decide +kernel
def bX8_appendShown_132 : List Ent := [e0 132 (.aload 5)]
theorem oX8_appendShown_132 : okB ftX8 ctX8 cX8_appendShown 134 bX8_appendShown_132 = true := by decide +kernel
def bX8_appendShown_137 : List Ent := [e0 137 (.aload 5)]
theorem oX8_appendShown_137 : okB ftX8 ctX8 cX8_appendShown 139 bX8_appendShown_137 = true := by decide +kernel
def bX8_appendShown_142 : List Ent := [e0 142 (.iload 4), ec 144 (.iconst 1) (.int 1), e0 145 .iadd]
theorem oX8_appendShown_142 : okB ftX8 ctX8 cX8_appendShown 146 bX8_appendShown_142 = true := by decide +kernel
def bX8_appendShown_149 : List Ent := [e0 149 (.goto 69)]
theorem oX8_appendShown_149 : okB ftX8 ctX8 cX8_appendShown 218 bX8_appendShown_149 = true := by decide +kernel
def bX8_appendShown_152 : List Ent := [e0 152 (.aload_n 1)]
theorem oX8_appendShown_152 : okB ftX8 ctX8 cX8_appendShown 153 bX8_appendShown_152 = true := by decide +kernel
def bX8_appendShown_159 : List Ent := [e0 159 (.aload_n 1)]
theorem oX8_appendShown_159 : okB ftX8 ctX8 cX8_appendShown 160 bX8_appendShown_159 = true := by decide +kernel
def bX8_appendShown_163 : List Ent := [e0 163 (.astore 6), e0 165 (.aload_n 0), ef 166 (.getfield 40) .null 7 5, ec 169 (.iconst 1) (.int 1), ec 170 (.ldc2_w 165) (.long (2))]
theorem oX8_appendShown_163 : okB ftX8 ctX8 cX8_appendShown 173 bX8_appendShown_163 = true := by decide +kernel
def bX8_appendShown_176 : List Ent := [e0 176 (.aload_n 0), ef 177 (.getfield 40) .null 7 5, ec 180 (.iconst 2) (.int 2), e0 181 (.aload 6)]
theorem oX8_appendShown_176 : okB ftX8 ctX8 cX8_appendShown 183 bX8_appendShown_176 = true := by decide +kernel
def bX8_appendShown_186 : List Ent := [e0 186 .i2l]
theorem oX8_appendShown_186 : okB ftX8 ctX8 cX8_appendShown 187 bX8_appendShown_186 = true := by decide +kernel
def bX8_appendShown_190 : List Ent := [e0 190 (.aload_n 0), ef 191 (.getfield 40) .null 7 5, ec 194 (.bipush 8) (.int 8), e0 196 (.aload 6)]
theorem oX8_appendShown_190 : okB ftX8 ctX8 cX8_appendShown 198 bX8_appendShown_190 = true := by decide +kernel
def bX8_appendShown_204 : List Ent := [e0 204 (.goto 14)]
theorem oX8_appendShown_204 : okB ftX8 ctX8 cX8_appendShown 218 bX8_appendShown_204 = true := by decide +kernel
def bX8_appendShown_207 : List Ent := [e0 207 (.aload_n 0), ef 208 (.getfield 40) .null 7 5, ec 211 (.iconst 1) (.int 1), ec 212 (.ldc2_w 159) (.long (3))]
theorem oX8_appendShown_207 : okB ftX8 ctX8 cX8_appendShown 215 bX8_appendShown_207 = true := by decide +kernel
theorem jX8_appendShown_1 : decode cX8_appendShown 1 = .ok (.instanceof 134, 3) := by decide +kernel
theorem jX8_appendShown_4 : decode cX8_appendShown 4 = .ok (.ifCond .ne 15, 3) := by decide +kernel
theorem jX8_appendShown_13 : decode cX8_appendShown 13 = .ok (.invokevirtual 221, 3) := by decide +kernel
theorem jX8_appendShown_16 : decode cX8_appendShown 16 = .ok (.ifCond .ne 28, 3) := by decide +kernel
theorem jX8_appendShown_25 : decode cX8_appendShown 25 = .ok (.invokevirtual 107, 3) := by decide +kernel
theorem jX8_appendShown_35 : decode cX8_appendShown 35 = .ok (.getfield 87, 3) := by decide +kernel
theorem jX8_appendShown_38 : decode cX8_appendShown 38 = .ok (.invokevirtual 107, 3) := by decide +kernel
theorem jX8_appendShown_45 : decode cX8_appendShown 45 = .ok (.instanceof 167, 3) := by decide +kernel
theorem jX8_appendShown_48 : decode cX8_appendShown 48 = .ok (.ifCond .eq 104, 3) := by decide +kernel
theorem jX8_appendShown_52 : decode cX8_appendShown 52 = .ok (.checkcast 167, 3) := by decide +kernel
theorem jX8_appendShown_61 : decode cX8_appendShown 61 = .ok (.if_icmp .ge 91, 3) := by decide +kernel
theorem jX8_appendShown_70 : decode cX8_appendShown 70 = .ok (.invokevirtual 107, 3) := by decide +kernel
theorem jX8_appendShown_80 : decode cX8_appendShown 80 = .ok (.getfield 224, 3) := by decide +kernel
theorem jX8_appendShown_84 : decode cX8_appendShown 84 = .ok (.invokevirtual 107, 3) := by decide +kernel
theorem jX8_appendShown_94 : decode cX8_appendShown 94 = .ok (.getfield 179, 3) := by decide +kernel
theorem jX8_appendShown_98 : decode cX8_appendShown 98 = .ok (.invokevirtual 107, 3) := by decide +kernel
theorem jX8_appendShown_104 : decode cX8_appendShown 104 = .ok (.getfield 199, 3) := by decide +kernel
theorem jX8_appendShown_109 : decode cX8_appendShown 109 = .ok (.getfield 179, 3) := by decide +kernel
theorem jX8_appendShown_114 : decode cX8_appendShown 114 = .ok (.invokevirtual 210, 3) := by decide +kernel
theorem jX8_appendShown_123 : decode cX8_appendShown 123 = .ok (.invokevirtual 217, 3) := by decide +kernel
theorem jX8_appendShown_129 : decode cX8_appendShown 129 = .ok (.getfield 202, 3) := by decide +kernel
theorem jX8_appendShown_134 : decode cX8_appendShown 134 = .ok (.invokevirtual 210, 3) := by decide +kernel
theorem jX8_appendShown_139 : decode cX8_appendShown 139 = .ok (.invokevirtual 214, 3) := by decide +kernel
theorem jX8_appendShown_146 : decode cX8_appendShown 146 = .ok (.invokevirtual 217, 3) := by decide +kernel
theorem jX8_appendShown_153 : decode cX8_appendShown 153 = .ok (.instanceof 65, 3) := by decide +kernel
theorem jX8_appendShown_156 : decode cX8_appendShown 156 = .ok (.ifCond .eq 51, 3) := by decide +kernel
theorem jX8_appendShown_160 : decode cX8_appendShown 160 = .ok (.checkcast 65, 3) := by decide +kernel
theorem jX8_appendShown_173 : decode cX8_appendShown 173 = .ok (.invokevirtual 107, 3) := by decide +kernel
theorem jX8_appendShown_183 : decode cX8_appendShown 183 = .ok (.getfield 136, 3) := by decide +kernel
theorem jX8_appendShown_187 : decode cX8_appendShown 187 = .ok (.invokevirtual 107, 3) := by decide +kernel
theorem jX8_appendShown_198 : decode cX8_appendShown 198 = .ok (.getfield 139, 3) := by decide +kernel
theorem jX8_appendShown_201 : decode cX8_appendShown 201 = .ok (.invokevirtual 107, 3) := by decide +kernel
theorem jX8_appendShown_215 : decode cX8_appendShown 215 = .ok (.invokevirtual 107, 3) := by decide +kernel
theorem jX8_appendShown_218 : decode cX8_appendShown 218 = .ok (.return_, 1) := by decide +kernel
end
section
def ftX9 : List (Nat × Nat × Nat) := [(7, 8, 0), (13, 8, 1), (17, 8, 2), (98, 8, 3), (20, 8, 4), (23, 8, 5), (139, 8, 6), (26, 8, 7), (147, 8, 8), (29, 8, 9), (32, 8, 10), (35, 8, 11), (109, 8, 12), (38, 8, 13), (142, 8, 14), (41, 8, 15), (44, 8, 16), (47, 8, 17), (50, 8, 18), (150, 8, 19), (53, 8, 20), (56, 8, 21), (59, 8, 22), (62, 8, 23), (65, 8, 24), (68, 8, 25), (71, 8, 26), (74, 8, 27), (176, 8, 28), (186, 8, 29), (77, 8, 30), (81, 8, 31), (189, 8, 32), (84, 8, 33), (169, 8, 34), (192, 8, 35), (195, 8, 36), (202, 8, 37), (220, 8, 38), (224, 8, 39), (227, 8, 40), (230, 8, 41)]
theorem foX9 : FTo RX9 ftX9 := List.forall_mem_cons.mpr ⟨⟨(RX9, TX9, 42), rfl, by decide, fl_X9_7⟩, List.forall_mem_cons.mpr ⟨⟨(RX9, TX9, 42), rfl, by decide, fl_X9_13⟩, List.forall_mem_cons.mpr ⟨⟨(RX9, TX9, 42), rfl, by decide, fl_X9_17⟩, List.forall_mem_cons.mpr ⟨⟨(RX9, TX9, 42), rfl, by decide, fl_X9_98⟩, List.forall_mem_cons.mpr ⟨⟨(RX9, TX9, 42), rfl, by decide, fl_X9_20⟩, List.forall_mem_cons.mpr ⟨⟨(RX9, TX9, 42), rfl, by decide, fl_X9_23⟩, List.forall_mem_cons.mpr ⟨⟨(RX9, TX9, 42), rfl, by decide, fl_X9_139⟩, List.forall_mem_cons.mpr ⟨⟨(RX9, TX9, 42), rfl, by decide, fl_X9_26⟩, List.forall_mem_cons.mpr ⟨⟨(RX9, TX9, 42), rfl, by decide, fl_X9_147⟩, List.forall_mem_cons.mpr ⟨⟨(RX9, TX9, 42), rfl, by decide, fl_X9_29⟩, List.forall_mem_cons.mpr ⟨⟨(RX9, TX9, 42), rfl, by decide, fl_X9_32⟩, List.forall_mem_cons.mpr ⟨⟨(RX9, TX9, 42), rfl, by decide, fl_X9_35⟩, List.forall_mem_cons.mpr ⟨⟨(RX9, TX9, 42), rfl, by decide, fl_X9_109⟩, List.forall_mem_cons.mpr ⟨⟨(RX9, TX9, 42), rfl, by decide, fl_X9_38⟩, List.forall_mem_cons.mpr ⟨⟨(RX9, TX9, 42), rfl, by decide, fl_X9_142⟩, List.forall_mem_cons.mpr ⟨⟨(RX9, TX9, 42), rfl, by decide, fl_X9_41⟩, List.forall_mem_cons.mpr ⟨⟨(RX9, TX9, 42), rfl, by decide, fl_X9_44⟩, List.forall_mem_cons.mpr ⟨⟨(RX9, TX9, 42), rfl, by decide, fl_X9_47⟩, List.forall_mem_cons.mpr ⟨⟨(RX9, TX9, 42), rfl, by decide, fl_X9_50⟩, List.forall_mem_cons.mpr ⟨⟨(RX9, TX9, 42), rfl, by decide, fl_X9_150⟩, List.forall_mem_cons.mpr ⟨⟨(RX9, TX9, 42), rfl, by decide, fl_X9_53⟩, List.forall_mem_cons.mpr ⟨⟨(RX9, TX9, 42), rfl, by decide, fl_X9_56⟩, List.forall_mem_cons.mpr ⟨⟨(RX9, TX9, 42), rfl, by decide, fl_X9_59⟩, List.forall_mem_cons.mpr ⟨⟨(RX9, TX9, 42), rfl, by decide, fl_X9_62⟩, List.forall_mem_cons.mpr ⟨⟨(RX9, TX9, 42), rfl, by decide, fl_X9_65⟩, List.forall_mem_cons.mpr ⟨⟨(RX9, TX9, 42), rfl, by decide, fl_X9_68⟩, List.forall_mem_cons.mpr ⟨⟨(RX9, TX9, 42), rfl, by decide, fl_X9_71⟩, List.forall_mem_cons.mpr ⟨⟨(RX9, TX9, 42), rfl, by decide, fl_X9_74⟩, List.forall_mem_cons.mpr ⟨⟨(RX9, TX9, 42), rfl, by decide, fl_X9_176⟩, List.forall_mem_cons.mpr ⟨⟨(RX9, TX9, 42), rfl, by decide, fl_X9_186⟩, List.forall_mem_cons.mpr ⟨⟨(RX9, TX9, 42), rfl, by decide, fl_X9_77⟩, List.forall_mem_cons.mpr ⟨⟨(RX9, TX9, 42), rfl, by decide, fl_X9_81⟩, List.forall_mem_cons.mpr ⟨⟨(RX9, TX9, 42), rfl, by decide, fl_X9_189⟩, List.forall_mem_cons.mpr ⟨⟨(RX9, TX9, 42), rfl, by decide, fl_X9_84⟩, List.forall_mem_cons.mpr ⟨⟨(RX9, TX9, 42), rfl, by decide, fl_X9_169⟩, List.forall_mem_cons.mpr ⟨⟨(RX9, TX9, 42), rfl, by decide, fl_X9_192⟩, List.forall_mem_cons.mpr ⟨⟨(RX9, TX9, 42), rfl, by decide, fl_X9_195⟩, List.forall_mem_cons.mpr ⟨⟨(RX9, TX9, 42), rfl, by decide, fl_X9_202⟩, List.forall_mem_cons.mpr ⟨⟨(RX9, TX9, 42), rfl, by decide, fl_X9_220⟩, List.forall_mem_cons.mpr ⟨⟨(RX9, TX9, 42), rfl, by decide, fl_X9_224⟩, List.forall_mem_cons.mpr ⟨⟨(RX9, TX9, 42), rfl, by decide, fl_X9_227⟩, List.forall_mem_cons.mpr ⟨⟨(RX9, TX9, 42), rfl, by decide, fl_X9_230⟩, fun _ h => absurd h List.not_mem_nil⟩⟩⟩⟩⟩⟩⟩⟩⟩⟩⟩⟩⟩⟩⟩⟩⟩⟩⟩⟩⟩⟩⟩⟩⟩⟩⟩⟩⟩⟩⟩⟩⟩⟩⟩⟩⟩⟩⟩⟩⟩⟩
def ctX9 : List (Nat × Value) := [(87, .int 65535), (112, .long (3)), (88, .long (-7046029254386353131)), (90, .long (-4658895280553007687)), (96, .long (2)), (145, .long (255)), (223, .int 70000)]
theorem coX9 : CTo RX9 ctX9 := List.forall_mem_cons.mpr ⟨co_X9_87, List.forall_mem_cons.mpr ⟨co_X9_112, List.forall_mem_cons.mpr ⟨co_X9_88, List.forall_mem_cons.mpr ⟨co_X9_90, List.forall_mem_cons.mpr ⟨co_X9_96, List.forall_mem_cons.mpr ⟨co_X9_145, List.forall_mem_cons.mpr ⟨co_X9_223, fun _ h => absurd h List.not_mem_nil⟩⟩⟩⟩⟩⟩⟩
def bX9_init_0 : List Ent := [e0 0 (.aload_n 0)]
theorem oX9_init_0 : okB ftX9 ctX9 cX9_init 1 bX9_init_0 = true := by decide +kernel
def bX9_init_4 : List Ent := [e0 4 (.aload_n 0), ec 5 (.sipush 2701) (.int 2701)]
theorem oX9_init_4 : okB ftX9 ctX9 cX9_init 8 bX9_init_4 = true := by decide +kernel
def bX9_init_13 : List Ent := [e0 13 (.aload_n 0), ec 14 (.sipush 2701) (.int 2701)]
theorem oX9_init_13 : okB ftX9 ctX9 cX9_init 17 bX9_init_13 = true := by decide +kernel
def bX9_init_22 : List Ent := [e0 22 (.aload_n 0), ec 23 (.bipush 9) (.int 9)]
theorem oX9_init_22 : okB ftX9 ctX9 cX9_init 25 bX9_init_22 = true := by decide +kernel
def bX9_init_30 : List Ent := [e0 30 (.aload_n 0), ec 31 (.bipush 20) (.int 20)]
theorem oX9_init_30 : okB ftX9 ctX9 cX9_init 33 bX9_init_30 = true := by decide +kernel
def bX9_init_38 : List Ent := [e0 38 (.aload_n 0), ec 39 (.bipush 20) (.int 20)]
theorem oX9_init_38 : okB ftX9 ctX9 cX9_init 41 bX9_init_38 = true := by decide +kernel
def bX9_init_46 : List Ent := [e0 46 (.aload_n 0), ec 47 (.sipush 4000) (.int 4000)]
theorem oX9_init_46 : okB ftX9 ctX9 cX9_init 50 bX9_init_46 = true := by decide +kernel
def bX9_init_55 : List Ent := [e0 55 (.aload_n 0), ec 56 (.sipush 302) (.int 302)]
theorem oX9_init_55 : okB ftX9 ctX9 cX9_init 59 bX9_init_55 = true := by decide +kernel
def bX9_init_64 : List Ent := [e0 64 (.aload_n 0), ec 65 (.sipush 302) (.int 302)]
theorem oX9_init_64 : okB ftX9 ctX9 cX9_init 68 bX9_init_64 = true := by decide +kernel
def bX9_init_73 : List Ent := [e0 73 (.aload_n 0), ec 74 (.sipush 302) (.int 302)]
theorem oX9_init_73 : okB ftX9 ctX9 cX9_init 77 bX9_init_73 = true := by decide +kernel
def bX9_init_82 : List Ent := [e0 82 (.aload_n 0), ec 83 (.sipush 4000) (.int 4000)]
theorem oX9_init_82 : okB ftX9 ctX9 cX9_init 86 bX9_init_82 = true := by decide +kernel
def bX9_init_91 : List Ent := [e0 91 (.aload_n 0), ec 92 (.sipush 800) (.int 800)]
theorem oX9_init_91 : okB ftX9 ctX9 cX9_init 95 bX9_init_91 = true := by decide +kernel
def bX9_init_100 : List Ent := [e0 100 (.aload_n 0), ec 101 (.sipush 800) (.int 800)]
theorem oX9_init_100 : okB ftX9 ctX9 cX9_init 104 bX9_init_100 = true := by decide +kernel
def bX9_init_109 : List Ent := [e0 109 (.aload_n 0), ec 110 (.sipush 800) (.int 800)]
theorem oX9_init_109 : okB ftX9 ctX9 cX9_init 113 bX9_init_109 = true := by decide +kernel
def bX9_init_118 : List Ent := [e0 118 (.aload_n 0), ec 119 (.sipush 800) (.int 800)]
theorem oX9_init_118 : okB ftX9 ctX9 cX9_init 122 bX9_init_118 = true := by decide +kernel
def bX9_init_127 : List Ent := [e0 127 (.aload_n 0), ec 128 (.sipush 1600) (.int 1600)]
theorem oX9_init_127 : okB ftX9 ctX9 cX9_init 131 bX9_init_127 = true := by decide +kernel
def bX9_init_136 : List Ent := [e0 136 (.aload_n 0), ec 137 (.sipush 1600) (.int 1600)]
theorem oX9_init_136 : okB ftX9 ctX9 cX9_init 140 bX9_init_136 = true := by decide +kernel
def bX9_init_145 : List Ent := [e0 145 (.aload_n 0), ec 146 (.sipush 1600) (.int 1600)]
theorem oX9_init_145 : okB ftX9 ctX9 cX9_init 149 bX9_init_145 = true := by decide +kernel
def bX9_init_154 : List Ent := [e0 154 (.aload_n 0), ec 155 (.sipush 1600) (.int 1600)]
theorem oX9_init_154 : okB ftX9 ctX9 cX9_init 158 bX9_init_154 = true := by decide +kernel
def bX9_init_163 : List Ent := [e0 163 (.aload_n 0), ec 164 (.sipush 1600) (.int 1600)]
theorem oX9_init_163 : okB ftX9 ctX9 cX9_init 167 bX9_init_163 = true := by decide +kernel
def bX9_init_172 : List Ent := [e0 172 (.aload_n 0), ec 173 (.sipush 1600) (.int 1600)]
theorem oX9_init_172 : okB ftX9 ctX9 cX9_init 176 bX9_init_172 = true := by decide +kernel
def bX9_init_181 : List Ent := [e0 181 (.aload_n 0), ec 182 (.sipush 1600) (.int 1600)]
theorem oX9_init_181 : okB ftX9 ctX9 cX9_init 185 bX9_init_181 = true := by decide +kernel
def bX9_init_190 : List Ent := [e0 190 (.aload_n 0), ec 191 (.sipush 1600) (.int 1600)]
theorem oX9_init_190 : okB ftX9 ctX9 cX9_init 194 bX9_init_190 = true := by decide +kernel
def bX9_init_199 : List Ent := [e0 199 (.aload_n 0), ec 200 (.bipush (-2)) (.int (-2)), ef 202 (.putfield 77) (.int 0) 8 30, e0 205 (.aload_n 0), ec 206 (.sipush 800) (.int 800)]
theorem oX9_init_199 : okB ftX9 ctX9 cX9_init 209 bX9_init_199 = true := by decide +kernel
def bX9_init_214 : List Ent := [e0 214 (.aload_n 0), ec 215 (.bipush (-2)) (.int (-2)), ef 217 (.putfield 84) (.int 0) 8 33]
theorem oX9_init_214 : okB ftX9 ctX9 cX9_init 220 bX9_init_214 = true := by decide +kernel
theorem jX9_init_1 : decode cX9_init 1 = .ok (.invokespecial 1, 3) := by decide +kernel
theorem jX9_init_8 : decode cX9_init 8 = .ok (.newarray .int, 2) := by decide +kernel
theorem jX9_init_10 : decode cX9_init 10 = .ok (.putfield 7, 3) := by decide +kernel
theorem jX9_init_17 : decode cX9_init 17 = .ok (.newarray .long, 2) := by decide +kernel
theorem jX9_init_19 : decode cX9_init 19 = .ok (.putfield 13, 3) := by decide +kernel
theorem jX9_init_25 : decode cX9_init 25 = .ok (.newarray .int, 2) := by decide +kernel
theorem jX9_init_27 : decode cX9_init 27 = .ok (.putfield 17, 3) := by decide +kernel
theorem jX9_init_33 : decode cX9_init 33 = .ok (.newarray .int, 2) := by decide +kernel
theorem jX9_init_35 : decode cX9_init 35 = .ok (.putfield 20, 3) := by decide +kernel
theorem jX9_init_41 : decode cX9_init 41 = .ok (.newarray .int, 2) := by decide +kernel
theorem jX9_init_43 : decode cX9_init 43 = .ok (.putfield 23, 3) := by decide +kernel
theorem jX9_init_50 : decode cX9_init 50 = .ok (.newarray .int, 2) := by decide +kernel
theorem jX9_init_52 : decode cX9_init 52 = .ok (.putfield 26, 3) := by decide +kernel
theorem jX9_init_59 : decode cX9_init 59 = .ok (.newarray .long, 2) := by decide +kernel
theorem jX9_init_61 : decode cX9_init 61 = .ok (.putfield 29, 3) := by decide +kernel
theorem jX9_init_68 : decode cX9_init 68 = .ok (.newarray .int, 2) := by decide +kernel
theorem jX9_init_70 : decode cX9_init 70 = .ok (.putfield 32, 3) := by decide +kernel
theorem jX9_init_77 : decode cX9_init 77 = .ok (.newarray .int, 2) := by decide +kernel
theorem jX9_init_79 : decode cX9_init 79 = .ok (.putfield 35, 3) := by decide +kernel
theorem jX9_init_86 : decode cX9_init 86 = .ok (.newarray .int, 2) := by decide +kernel
theorem jX9_init_88 : decode cX9_init 88 = .ok (.putfield 38, 3) := by decide +kernel
theorem jX9_init_95 : decode cX9_init 95 = .ok (.newarray .int, 2) := by decide +kernel
theorem jX9_init_97 : decode cX9_init 97 = .ok (.putfield 41, 3) := by decide +kernel
theorem jX9_init_104 : decode cX9_init 104 = .ok (.newarray .int, 2) := by decide +kernel
theorem jX9_init_106 : decode cX9_init 106 = .ok (.putfield 44, 3) := by decide +kernel
theorem jX9_init_113 : decode cX9_init 113 = .ok (.newarray .int, 2) := by decide +kernel
theorem jX9_init_115 : decode cX9_init 115 = .ok (.putfield 47, 3) := by decide +kernel
theorem jX9_init_122 : decode cX9_init 122 = .ok (.newarray .int, 2) := by decide +kernel
theorem jX9_init_124 : decode cX9_init 124 = .ok (.putfield 50, 3) := by decide +kernel
theorem jX9_init_131 : decode cX9_init 131 = .ok (.newarray .int, 2) := by decide +kernel
theorem jX9_init_133 : decode cX9_init 133 = .ok (.putfield 53, 3) := by decide +kernel
theorem jX9_init_140 : decode cX9_init 140 = .ok (.newarray .int, 2) := by decide +kernel
theorem jX9_init_142 : decode cX9_init 142 = .ok (.putfield 56, 3) := by decide +kernel
theorem jX9_init_149 : decode cX9_init 149 = .ok (.newarray .int, 2) := by decide +kernel
theorem jX9_init_151 : decode cX9_init 151 = .ok (.putfield 59, 3) := by decide +kernel
theorem jX9_init_158 : decode cX9_init 158 = .ok (.newarray .long, 2) := by decide +kernel
theorem jX9_init_160 : decode cX9_init 160 = .ok (.putfield 62, 3) := by decide +kernel
theorem jX9_init_167 : decode cX9_init 167 = .ok (.newarray .int, 2) := by decide +kernel
theorem jX9_init_169 : decode cX9_init 169 = .ok (.putfield 65, 3) := by decide +kernel
theorem jX9_init_176 : decode cX9_init 176 = .ok (.newarray .int, 2) := by decide +kernel
theorem jX9_init_178 : decode cX9_init 178 = .ok (.putfield 68, 3) := by decide +kernel
theorem jX9_init_185 : decode cX9_init 185 = .ok (.newarray .long, 2) := by decide +kernel
theorem jX9_init_187 : decode cX9_init 187 = .ok (.putfield 71, 3) := by decide +kernel
theorem jX9_init_194 : decode cX9_init 194 = .ok (.newarray .int, 2) := by decide +kernel
theorem jX9_init_196 : decode cX9_init 196 = .ok (.putfield 74, 3) := by decide +kernel
theorem jX9_init_209 : decode cX9_init 209 = .ok (.newarray .int, 2) := by decide +kernel
theorem jX9_init_211 : decode cX9_init 211 = .ok (.putfield 81, 3) := by decide +kernel
theorem jX9_init_220 : decode cX9_init 220 = .ok (.return_, 1) := by decide +kernel
def bX9_isPath_0 : List Ent := [e0 0 (.iload_n 0)]
theorem oX9_isPath_0 : okB ftX9 ctX9 cX9_isPath 1 bX9_isPath_0 = true := by decide +kernel
def bX9_isPath_4 : List Ent := [e0 4 (.iload_n 0), ec 5 (.ldc 87) (.int 65535)]
theorem oX9_isPath_4 : okB ftX9 ctX9 cX9_isPath 7 bX9_isPath_4 = true := by decide +kernel
def bX9_isPath_10 : List Ent := [ec 10 (.iconst 1) (.int 1), e0 11 (.goto 4)]
theorem oX9_isPath_10 : okB ftX9 ctX9 cX9_isPath 15 bX9_isPath_10 = true := by decide +kernel
def bX9_isPath_14 : List Ent := [ec 14 (.iconst 0) (.int 0)]
theorem oX9_isPath_14 : okB ftX9 ctX9 cX9_isPath 15 bX9_isPath_14 = true := by decide +kernel
theorem jX9_isPath_1 : decode cX9_isPath 1 = .ok (.ifCond .lt 13, 3) := by decide +kernel
theorem jX9_isPath_7 : decode cX9_isPath 7 = .ok (.if_icmp .gt 7, 3) := by decide +kernel
theorem jX9_isPath_15 : decode cX9_isPath 15 = .ok (.ireturn, 1) := by decide +kernel
def bX9_firstBit_0 : List Ent := [ec 0 (.iconst 0) (.int 0), e0 1 (.istore_n 2)]
theorem oX9_firstBit_0 : okB ftX9 ctX9 cX9_firstBit 2 bX9_firstBit_0 = true := by decide +kernel
def bX9_firstBit_2 : List Ent := [e0 2 (.iload_n 2), ec 3 (.bipush 15) (.int 15)]
theorem oX9_firstBit_2 : okB ftX9 ctX9 cX9_firstBit 5 bX9_firstBit_2 = true := by decide +kernel
def bX9_firstBit_8 : List Ent := [e0 8 (.iload_n 0), e0 9 (.iload_n 1), e0 10 .ixor, ec 11 (.bipush 15) (.int 15), e0 13 (.iload_n 2), e0 14 .isub, e0 15 .ishr]
theorem oX9_firstBit_8 : okB ftX9 ctX9 cX9_firstBit 16 bX9_firstBit_8 = true := by decide +kernel
def bX9_firstBit_19 : List Ent := [ec 19 (.iinc 2 1) (.int 1), e0 22 (.goto (-20))]
theorem oX9_firstBit_19 : okB ftX9 ctX9 cX9_firstBit 2 bX9_firstBit_19 = true := by decide +kernel
def bX9_firstBit_25 : List Ent := [e0 25 (.iload_n 2)]
theorem oX9_firstBit_25 : okB ftX9 ctX9 cX9_firstBit 26 bX9_firstBit_25 = true := by decide +kernel
theorem jX9_firstBit_5 : decode cX9_firstBit 5 = .ok (.if_icmp .ge 20, 3) := by decide +kernel
theorem jX9_firstBit_16 : decode cX9_firstBit 16 = .ok (.ifCond .ne 9, 3) := by decide +kernel
theorem jX9_firstBit_26 : decode cX9_firstBit 26 = .ok (.ireturn, 1) := by decide +kernel
def bX9_stemOf_0 : List Ent := [e0 0 (.iload_n 0), ec 1 (.bipush 16) (.int 16), e0 3 (.iload_n 1), e0 4 .isub, e0 5 .ishr, ec 6 (.bipush 16) (.int 16), e0 8 (.iload_n 1), e0 9 .isub, e0 10 .ishl]
theorem oX9_stemOf_0 : okB ftX9 ctX9 cX9_stemOf 11 bX9_stemOf_0 = true := by decide +kernel
theorem jX9_stemOf_11 : decode cX9_stemOf 11 = .ok (.ireturn, 1) := by decide +kernel
def bX9_mix_0 : List Ent := [e0 0 (.lload_n 0), e0 1 (.lload_n 2), e0 2 .lxor, ec 3 (.ldc2_w 88) (.long (-7046029254386353131)), e0 6 .lmul, e0 7 (.lstore 4), e0 9 (.lload 4), e0 11 (.lload 4), ec 13 (.bipush 29) (.int 29), e0 15 .lushr, e0 16 .lxor, ec 17 (.ldc2_w 90) (.long (-4658895280553007687)), e0 20 .lmul, e0 21 (.lstore 4), e0 23 (.lload 4), e0 25 (.lload 4), ec 27 (.bipush 32) (.int 32), e0 29 .lushr, e0 30 .lxor]
theorem oX9_mix_0 : okB ftX9 ctX9 cX9_mix 31 bX9_mix_0 = true := by decide +kernel
theorem jX9_mix_31 : decode cX9_mix 31 = .ok (.lreturn, 1) := by decide +kernel
def bX9_leafDigest_0 : List Ent := [ec 0 (.lconst 0) (.long 0), ec 1 (.lconst 1) (.long 1)]
theorem oX9_leafDigest_0 : okB ftX9 ctX9 cX9_leafDigest 2 bX9_leafDigest_0 = true := by decide +kernel
def bX9_leafDigest_5 : List Ent := [e0 5 (.iload_n 0), e0 6 .i2l]
theorem oX9_leafDigest_5 : okB ftX9 ctX9 cX9_leafDigest 7 bX9_leafDigest_5 = true := by decide +kernel
def bX9_leafDigest_10 : List Ent := [e0 10 (.lload_n 1)]
theorem oX9_leafDigest_10 : okB ftX9 ctX9 cX9_leafDigest 11 bX9_leafDigest_10 = true := by decide +kernel
theorem jX9_leafDigest_2 : decode cX9_leafDigest 2 = .ok (.invokestatic 92, 3) := by decide +kernel
theorem jX9_leafDigest_7 : decode cX9_leafDigest 7 = .ok (.invokestatic 92, 3) := by decide +kernel
theorem jX9_leafDigest_11 : decode cX9_leafDigest 11 = .ok (.invokestatic 92, 3) := by decide +kernel
theorem jX9_leafDigest_14 : decode cX9_leafDigest 14 = .ok (.lreturn, 1) := by decide +kernel
def bX9_forkDigest_0 : List Ent := [ec 0 (.lconst 0) (.long 0), ec 1 (.ldc2_w 96) (.long (2))]
theorem oX9_forkDigest_0 : okB ftX9 ctX9 cX9_forkDigest 4 bX9_forkDigest_0 = true := by decide +kernel
def bX9_forkDigest_7 : List Ent := [e0 7 (.iload_n 0), e0 8 .i2l]
theorem oX9_forkDigest_7 : okB ftX9 ctX9 cX9_forkDigest 9 bX9_forkDigest_7 = true := by decide +kernel
def bX9_forkDigest_12 : List Ent := [e0 12 (.iload_n 1), e0 13 .i2l]
theorem oX9_forkDigest_12 : okB ftX9 ctX9 cX9_forkDigest 14 bX9_forkDigest_12 = true := by decide +kernel
def bX9_forkDigest_17 : List Ent := [e0 17 (.lload_n 2)]
theorem oX9_forkDigest_17 : okB ftX9 ctX9 cX9_forkDigest 18 bX9_forkDigest_17 = true := by decide +kernel
def bX9_forkDigest_21 : List Ent := [e0 21 (.lload 4)]
theorem oX9_forkDigest_21 : okB ftX9 ctX9 cX9_forkDigest 23 bX9_forkDigest_21 = true := by decide +kernel
theorem jX9_forkDigest_4 : decode cX9_forkDigest 4 = .ok (.invokestatic 92, 3) := by decide +kernel
theorem jX9_forkDigest_9 : decode cX9_forkDigest 9 = .ok (.invokestatic 92, 3) := by decide +kernel
theorem jX9_forkDigest_14 : decode cX9_forkDigest 14 = .ok (.invokestatic 92, 3) := by decide +kernel
theorem jX9_forkDigest_18 : decode cX9_forkDigest 18 = .ok (.invokestatic 92, 3) := by decide +kernel
theorem jX9_forkDigest_23 : decode cX9_forkDigest 23 = .ok (.invokestatic 92, 3) := by decide +kernel
theorem jX9_forkDigest_26 : decode cX9_forkDigest 26 = .ok (.lreturn, 1) := by decide +kernel
def bX9_baseOf_0 : List Ent := [e0 0 (.iload_n 1), ec 1 (.iconst (-1)) (.int (-1))]
theorem oX9_baseOf_0 : okB ftX9 ctX9 cX9_baseOf 2 bX9_baseOf_0 = true := by decide +kernel
def bX9_baseOf_5 : List Ent := [ec 5 (.sipush 2400) (.int 2400), e0 8 (.goto 25)]
theorem oX9_baseOf_5 : okB ftX9 ctX9 cX9_baseOf 33 bX9_baseOf_5 = true := by decide +kernel
def bX9_baseOf_11 : List Ent := [e0 11 (.iload_n 1)]
theorem oX9_baseOf_11 : okB ftX9 ctX9 cX9_baseOf 12 bX9_baseOf_11 = true := by decide +kernel
def bX9_baseOf_15 : List Ent := [e0 15 (.iload_n 1), e0 16 (.aload_n 0), ef 17 (.getfield 98) .null 8 3]
theorem oX9_baseOf_15 : okB ftX9 ctX9 cX9_baseOf 20 bX9_baseOf_15 = true := by decide +kernel
def bX9_baseOf_23 : List Ent := [ec 23 (.sipush 300) (.int 300), e0 26 (.iload_n 1), e0 27 .imul, e0 28 (.goto 5)]
theorem oX9_baseOf_23 : okB ftX9 ctX9 cX9_baseOf 33 bX9_baseOf_23 = true := by decide +kernel
def bX9_baseOf_31 : List Ent := [ec 31 (.bipush (-2)) (.int (-2))]
theorem oX9_baseOf_31 : okB ftX9 ctX9 cX9_baseOf 33 bX9_baseOf_31 = true := by decide +kernel
theorem jX9_baseOf_2 : decode cX9_baseOf 2 = .ok (.if_icmp .ne 9, 3) := by decide +kernel
theorem jX9_baseOf_12 : decode cX9_baseOf 12 = .ok (.ifCond .lt 19, 3) := by decide +kernel
theorem jX9_baseOf_20 : decode cX9_baseOf 20 = .ok (.if_icmp .ge 11, 3) := by decide +kernel
theorem jX9_baseOf_33 : decode cX9_baseOf 33 = .ok (.ireturn, 1) := by decide +kernel
def bX9_sizeOf_0 : List Ent := [e0 0 (.aload_n 0), ef 1 (.getfield 17) .null 8 2, e0 4 (.iload_n 1), ec 5 (.iconst (-1)) (.int (-1))]
theorem oX9_sizeOf_0 : okB ftX9 ctX9 cX9_sizeOf 6 bX9_sizeOf_0 = true := by decide +kernel
def bX9_sizeOf_9 : List Ent := [ec 9 (.bipush 8) (.int 8), e0 11 (.goto 4)]
theorem oX9_sizeOf_9 : okB ftX9 ctX9 cX9_sizeOf 15 bX9_sizeOf_9 = true := by decide +kernel
def bX9_sizeOf_14 : List Ent := [e0 14 (.iload_n 1)]
theorem oX9_sizeOf_14 : okB ftX9 ctX9 cX9_sizeOf 15 bX9_sizeOf_14 = true := by decide +kernel
def bX9_sizeOf_15 : List Ent := [e0 15 .iaload]
theorem oX9_sizeOf_15 : okB ftX9 ctX9 cX9_sizeOf 16 bX9_sizeOf_15 = true := by decide +kernel
theorem jX9_sizeOf_6 : decode cX9_sizeOf 6 = .ok (.if_icmp .ne 8, 3) := by decide +kernel
theorem jX9_sizeOf_16 : decode cX9_sizeOf 16 = .ok (.ireturn, 1) := by decide +kernel
def bX9_find_0 : List Ent := [ec 0 (.sipush 2400) (.int 2400), e0 3 (.istore_n 2)]
theorem oX9_find_0 : okB ftX9 ctX9 cX9_find 4 bX9_find_0 = true := by decide +kernel
def bX9_find_4 : List Ent := [e0 4 (.iload_n 2), ec 5 (.sipush 2400) (.int 2400), e0 8 (.aload_n 0), ef 9 (.getfield 17) .null 8 2, ec 12 (.bipush 8) (.int 8), e0 14 .iaload, e0 15 .iadd]
theorem oX9_find_4 : okB ftX9 ctX9 cX9_find 16 bX9_find_4 = true := by decide +kernel
def bX9_find_19 : List Ent := [e0 19 (.aload_n 0), ef 20 (.getfield 7) .null 8 0, e0 23 (.iload_n 2), e0 24 .iaload, e0 25 (.iload_n 1)]
theorem oX9_find_19 : okB ftX9 ctX9 cX9_find 26 bX9_find_19 = true := by decide +kernel
def bX9_find_29 : List Ent := [ec 29 (.iinc 2 1) (.int 1), e0 32 (.goto (-28))]
theorem oX9_find_29 : okB ftX9 ctX9 cX9_find 4 bX9_find_29 = true := by decide +kernel
def bX9_find_35 : List Ent := [e0 35 (.iload_n 2)]
theorem oX9_find_35 : okB ftX9 ctX9 cX9_find 36 bX9_find_35 = true := by decide +kernel
theorem jX9_find_16 : decode cX9_find 16 = .ok (.if_icmp .ge 19, 3) := by decide +kernel
theorem jX9_find_26 : decode cX9_find 26 = .ok (.if_icmp .ge 9, 3) := by decide +kernel
theorem jX9_find_36 : decode cX9_find 36 = .ok (.ireturn, 1) := by decide +kernel
def bX9_put_0 : List Ent := [e0 0 (.iload_n 1)]
theorem oX9_put_0 : okB ftX9 ctX9 cX9_put 1 bX9_put_0 = true := by decide +kernel
def bX9_put_7 : List Ent := [ec 7 (.iconst (-1)) (.int (-1))]
theorem oX9_put_7 : okB ftX9 ctX9 cX9_put 8 bX9_put_7 = true := by decide +kernel
def bX9_put_9 : List Ent := [e0 9 (.aload_n 0), e0 10 (.iload_n 1)]
theorem oX9_put_9 : okB ftX9 ctX9 cX9_put 11 bX9_put_9 = true := by decide +kernel
def bX9_put_14 : List Ent := [e0 14 (.istore 4), e0 16 (.iload 4), ec 18 (.sipush 2400) (.int 2400), e0 21 (.aload_n 0), ef 22 (.getfield 17) .null 8 2, ec 25 (.bipush 8) (.int 8), e0 27 .iaload, e0 28 .iadd]
theorem oX9_put_14 : okB ftX9 ctX9 cX9_put 29 bX9_put_14 = true := by decide +kernel
def bX9_put_32 : List Ent := [e0 32 (.aload_n 0), ef 33 (.getfield 7) .null 8 0, e0 36 (.iload 4), e0 38 .iaload, e0 39 (.iload_n 1)]
theorem oX9_put_32 : okB ftX9 ctX9 cX9_put 40 bX9_put_32 = true := by decide +kernel
def bX9_put_43 : List Ent := [e0 43 (.aload_n 0), ef 44 (.getfield 13) .null 8 1, e0 47 (.iload 4), e0 49 (.lload_n 2), e0 50 .lastore, ec 51 (.iconst 0) (.int 0)]
theorem oX9_put_43 : okB ftX9 ctX9 cX9_put 52 bX9_put_43 = true := by decide +kernel
def bX9_put_53 : List Ent := [e0 53 (.aload_n 0), ef 54 (.getfield 17) .null 8 2, ec 57 (.bipush 8) (.int 8), e0 59 .iaload, ec 60 (.sipush 300) (.int 300)]
theorem oX9_put_53 : okB ftX9 ctX9 cX9_put 63 bX9_put_53 = true := by decide +kernel
def bX9_put_66 : List Ent := [ec 66 (.bipush (-3)) (.int (-3))]
theorem oX9_put_66 : okB ftX9 ctX9 cX9_put 68 bX9_put_66 = true := by decide +kernel
def bX9_put_69 : List Ent := [ec 69 (.sipush 2400) (.int 2400), e0 72 (.aload_n 0), ef 73 (.getfield 17) .null 8 2, ec 76 (.bipush 8) (.int 8), e0 78 .iaload, e0 79 .iadd, e0 80 (.istore 5)]
theorem oX9_put_69 : okB ftX9 ctX9 cX9_put 82 bX9_put_69 = true := by decide +kernel
def bX9_put_82 : List Ent := [e0 82 (.iload 5), e0 84 (.iload 4)]
theorem oX9_put_82 : okB ftX9 ctX9 cX9_put 86 bX9_put_82 = true := by decide +kernel
def bX9_put_89 : List Ent := [e0 89 (.aload_n 0), ef 90 (.getfield 7) .null 8 0, e0 93 (.iload 5), e0 95 (.aload_n 0), ef 96 (.getfield 7) .null 8 0, e0 99 (.iload 5), ec 101 (.iconst 1) (.int 1), e0 102 .isub, e0 103 .iaload, e0 104 .iastore, e0 105 (.aload_n 0), ef 106 (.getfield 13) .null 8 1, e0 109 (.iload 5), e0 111 (.aload_n 0), ef 112 (.getfield 13) .null 8 1, e0 115 (.iload 5), ec 117 (.iconst 1) (.int 1), e0 118 .isub, e0 119 .laload, e0 120 .lastore, ec 121 (.iinc 5 (-1)) (.int (-1)), e0 124 (.goto (-42))]
theorem oX9_put_89 : okB ftX9 ctX9 cX9_put 82 bX9_put_89 = true := by decide +kernel
def bX9_put_127 : List Ent := [e0 127 (.aload_n 0), ef 128 (.getfield 7) .null 8 0, e0 131 (.iload 4), e0 133 (.iload_n 1), e0 134 .iastore, e0 135 (.aload_n 0), ef 136 (.getfield 13) .null 8 1, e0 139 (.iload 4), e0 141 (.lload_n 2), e0 142 .lastore, e0 143 (.aload_n 0), ef 144 (.getfield 17) .null 8 2, ec 147 (.bipush 8) (.int 8), e0 149 .dup2, e0 150 .iaload, ec 151 (.iconst 1) (.int 1), e0 152 .iadd, e0 153 .iastore, ec 154 (.iconst 1) (.int 1)]
theorem oX9_put_127 : okB ftX9 ctX9 cX9_put 155 bX9_put_127 = true := by decide +kernel
theorem jX9_put_1 : decode cX9_put 1 = .ok (.invokestatic 101, 3) := by decide +kernel
theorem jX9_put_4 : decode cX9_put 4 = .ok (.ifCond .ne 5, 3) := by decide +kernel
theorem jX9_put_8 : decode cX9_put 8 = .ok (.ireturn, 1) := by decide +kernel
theorem jX9_put_11 : decode cX9_put 11 = .ok (.invokevirtual 105, 3) := by decide +kernel
theorem jX9_put_29 : decode cX9_put 29 = .ok (.if_icmp .ge 24, 3) := by decide +kernel
theorem jX9_put_40 : decode cX9_put 40 = .ok (.if_icmp .ne 13, 3) := by decide +kernel
theorem jX9_put_52 : decode cX9_put 52 = .ok (.ireturn, 1) := by decide +kernel
theorem jX9_put_63 : decode cX9_put 63 = .ok (.if_icmp .ne 6, 3) := by decide +kernel
theorem jX9_put_68 : decode cX9_put 68 = .ok (.ireturn, 1) := by decide +kernel
theorem jX9_put_86 : decode cX9_put 86 = .ok (.if_icmp .le 41, 3) := by decide +kernel
theorem jX9_put_155 : decode cX9_put 155 = .ok (.ireturn, 1) := by decide +kernel
def bX9_remove_0 : List Ent := [e0 0 (.iload_n 1)]
theorem oX9_remove_0 : okB ftX9 ctX9 cX9_remove 1 bX9_remove_0 = true := by decide +kernel
def bX9_remove_7 : List Ent := [ec 7 (.iconst (-1)) (.int (-1))]
theorem oX9_remove_7 : okB ftX9 ctX9 cX9_remove 8 bX9_remove_7 = true := by decide +kernel
def bX9_remove_9 : List Ent := [e0 9 (.aload_n 0), e0 10 (.iload_n 1)]
theorem oX9_remove_9 : okB ftX9 ctX9 cX9_remove 11 bX9_remove_9 = true := by decide +kernel
def bX9_remove_14 : List Ent := [e0 14 (.istore_n 2), e0 15 (.iload_n 2), ec 16 (.sipush 2400) (.int 2400), e0 19 (.aload_n 0), ef 20 (.getfield 17) .null 8 2, ec 23 (.bipush 8) (.int 8), e0 25 .iaload, e0 26 .iadd]
theorem oX9_remove_14 : okB ftX9 ctX9 cX9_remove 27 bX9_remove_14 = true := by decide +kernel
def bX9_remove_30 : List Ent := [e0 30 (.aload_n 0), ef 31 (.getfield 7) .null 8 0, e0 34 (.iload_n 2), e0 35 .iaload, e0 36 (.iload_n 1)]
theorem oX9_remove_30 : okB ftX9 ctX9 cX9_remove 37 bX9_remove_30 = true := by decide +kernel
def bX9_remove_40 : List Ent := [ec 40 (.iconst 0) (.int 0)]
theorem oX9_remove_40 : okB ftX9 ctX9 cX9_remove 41 bX9_remove_40 = true := by decide +kernel
def bX9_remove_42 : List Ent := [e0 42 (.aload_n 0), ef 43 (.getfield 17) .null 8 2, ec 46 (.bipush 8) (.int 8), e0 48 .dup2, e0 49 .iaload, ec 50 (.iconst 1) (.int 1), e0 51 .isub, e0 52 .iastore, e0 53 (.iload_n 2), e0 54 (.istore_n 3)]
theorem oX9_remove_42 : okB ftX9 ctX9 cX9_remove 55 bX9_remove_42 = true := by decide +kernel
def bX9_remove_55 : List Ent := [e0 55 (.iload_n 3), ec 56 (.sipush 2400) (.int 2400), e0 59 (.aload_n 0), ef 60 (.getfield 17) .null 8 2, ec 63 (.bipush 8) (.int 8), e0 65 .iaload, e0 66 .iadd]
theorem oX9_remove_55 : okB ftX9 ctX9 cX9_remove 67 bX9_remove_55 = true := by decide +kernel
def bX9_remove_70 : List Ent := [e0 70 (.aload_n 0), ef 71 (.getfield 7) .null 8 0, e0 74 (.iload_n 3), e0 75 (.aload_n 0), ef 76 (.getfield 7) .null 8 0, e0 79 (.iload_n 3), ec 80 (.iconst 1) (.int 1), e0 81 .iadd, e0 82 .iaload, e0 83 .iastore, e0 84 (.aload_n 0), ef 85 (.getfield 13) .null 8 1, e0 88 (.iload_n 3), e0 89 (.aload_n 0), ef 90 (.getfield 13) .null 8 1, e0 93 (.iload_n 3), ec 94 (.iconst 1) (.int 1), e0 95 .iadd, e0 96 .laload, e0 97 .lastore, ec 98 (.iinc 3 1) (.int 1), e0 101 (.goto (-46))]
theorem oX9_remove_70 : okB ftX9 ctX9 cX9_remove 55 bX9_remove_70 = true := by decide +kernel
def bX9_remove_104 : List Ent := [ec 104 (.iconst 1) (.int 1)]
theorem oX9_remove_104 : okB ftX9 ctX9 cX9_remove 105 bX9_remove_104 = true := by decide +kernel
theorem jX9_remove_1 : decode cX9_remove 1 = .ok (.invokestatic 101, 3) := by decide +kernel
theorem jX9_remove_4 : decode cX9_remove 4 = .ok (.ifCond .ne 5, 3) := by decide +kernel
theorem jX9_remove_8 : decode cX9_remove 8 = .ok (.ireturn, 1) := by decide +kernel
theorem jX9_remove_11 : decode cX9_remove 11 = .ok (.invokevirtual 105, 3) := by decide +kernel
theorem jX9_remove_27 : decode cX9_remove 27 = .ok (.if_icmp .eq 13, 3) := by decide +kernel
theorem jX9_remove_37 : decode cX9_remove 37 = .ok (.if_icmp .eq 5, 3) := by decide +kernel
theorem jX9_remove_41 : decode cX9_remove 41 = .ok (.ireturn, 1) := by decide +kernel
theorem jX9_remove_67 : decode cX9_remove 67 = .ok (.if_icmp .ge 37, 3) := by decide +kernel
theorem jX9_remove_105 : decode cX9_remove 105 = .ok (.ireturn, 1) := by decide +kernel
def bX9_keep_0 : List Ent := [e0 0 (.aload_n 0), ef 1 (.getfield 98) .null 8 3, ec 4 (.bipush 8) (.int 8)]
theorem oX9_keep_0 : okB ftX9 ctX9 cX9_keep 6 bX9_keep_0 = true := by decide +kernel
def bX9_keep_9 : List Ent := [ec 9 (.bipush (-3)) (.int (-3))]
theorem oX9_keep_9 : okB ftX9 ctX9 cX9_keep 11 bX9_keep_9 = true := by decide +kernel
def bX9_keep_12 : List Ent := [e0 12 (.aload_n 0), ef 13 (.getfield 17) .null 8 2, e0 16 (.aload_n 0), ef 17 (.getfield 98) .null 8 3, e0 20 (.aload_n 0), ef 21 (.getfield 17) .null 8 2, ec 24 (.bipush 8) (.int 8), e0 26 .iaload, e0 27 .iastore, ec 28 (.iconst 0) (.int 0), e0 29 (.istore_n 1)]
theorem oX9_keep_12 : okB ftX9 ctX9 cX9_keep 30 bX9_keep_12 = true := by decide +kernel
def bX9_keep_30 : List Ent := [e0 30 (.iload_n 1), e0 31 (.aload_n 0), ef 32 (.getfield 17) .null 8 2, ec 35 (.bipush 8) (.int 8), e0 37 .iaload]
theorem oX9_keep_30 : okB ftX9 ctX9 cX9_keep 38 bX9_keep_30 = true := by decide +kernel
def bX9_keep_41 : List Ent := [e0 41 (.aload_n 0), ef 42 (.getfield 7) .null 8 0, ec 45 (.sipush 300) (.int 300), e0 48 (.aload_n 0), ef 49 (.getfield 98) .null 8 3, e0 52 .imul, e0 53 (.iload_n 1), e0 54 .iadd, e0 55 (.aload_n 0), ef 56 (.getfield 7) .null 8 0, ec 59 (.sipush 2400) (.int 2400), e0 62 (.iload_n 1), e0 63 .iadd, e0 64 .iaload, e0 65 .iastore, e0 66 (.aload_n 0), ef 67 (.getfield 13) .null 8 1, ec 70 (.sipush 300) (.int 300), e0 73 (.aload_n 0), ef 74 (.getfield 98) .null 8 3, e0 77 .imul, e0 78 (.iload_n 1), e0 79 .iadd, e0 80 (.aload_n 0), ef 81 (.getfield 13) .null 8 1, ec 84 (.sipush 2400) (.int 2400), e0 87 (.iload_n 1), e0 88 .iadd, e0 89 .laload, e0 90 .lastore, ec 91 (.iinc 1 1) (.int 1), e0 94 (.goto (-64))]
theorem oX9_keep_41 : okB ftX9 ctX9 cX9_keep 30 bX9_keep_41 = true := by decide +kernel
def bX9_keep_97 : List Ent := [e0 97 (.aload_n 0), e0 98 .dup, ef 99 (.getfield 98) .null 8 3, ec 102 (.iconst 1) (.int 1), e0 103 .iadd, ef 104 (.putfield 98) (.int 0) 8 3, e0 107 (.aload_n 0), ef 108 (.getfield 98) .null 8 3, ec 111 (.iconst 1) (.int 1), e0 112 .isub]
theorem oX9_keep_97 : okB ftX9 ctX9 cX9_keep 113 bX9_keep_97 = true := by decide +kernel
theorem jX9_keep_6 : decode cX9_keep 6 = .ok (.if_icmp .ne 6, 3) := by decide +kernel
theorem jX9_keep_11 : decode cX9_keep 11 = .ok (.ireturn, 1) := by decide +kernel
theorem jX9_keep_38 : decode cX9_keep 38 = .ok (.if_icmp .ge 59, 3) := by decide +kernel
theorem jX9_keep_113 : decode cX9_keep 113 = .ok (.ireturn, 1) := by decide +kernel
def bX9_digest_0 : List Ent := [e0 0 (.aload_n 0), ec 1 (.iconst 0) (.int 0), ef 2 (.putfield 109) (.int 0) 8 12, e0 5 (.iload_n 1), e0 6 (.iload_n 2)]
theorem oX9_digest_0 : okB ftX9 ctX9 cX9_digest 7 bX9_digest_0 = true := by decide +kernel
def bX9_digest_10 : List Ent := [ec 10 (.lconst 0) (.long 0), ec 11 (.ldc2_w 112) (.long (3))]
theorem oX9_digest_10 : okB ftX9 ctX9 cX9_digest 14 bX9_digest_10 = true := by decide +kernel
def bX9_digest_18 : List Ent := [ec 18 (.iconst 0) (.int 0), e0 19 (.istore_n 3), ec 20 (.lconst 0) (.long 0), e0 21 (.lstore 4), ec 23 (.iconst 0) (.int 0), e0 24 (.istore 6), e0 26 (.iload_n 1), e0 27 (.istore 7)]
theorem oX9_digest_18 : okB ftX9 ctX9 cX9_digest 29 bX9_digest_18 = true := by decide +kernel
def bX9_digest_29 : List Ent := [e0 29 (.iload 7), e0 31 (.iload_n 2)]
theorem oX9_digest_29 : okB ftX9 ctX9 cX9_digest 32 bX9_digest_29 = true := by decide +kernel
def bX9_digest_35 : List Ent := [e0 35 (.iload 7), e0 37 (.iload_n 2)]
theorem oX9_digest_35 : okB ftX9 ctX9 cX9_digest 38 bX9_digest_35 = true := by decide +kernel
def bX9_digest_41 : List Ent := [ec 41 (.iconst (-1)) (.int (-1)), e0 42 (.goto 33)]
theorem oX9_digest_41 : okB ftX9 ctX9 cX9_digest 75 bX9_digest_41 = true := by decide +kernel
def bX9_digest_45 : List Ent := [e0 45 (.iload 7), e0 47 (.iload_n 1)]
theorem oX9_digest_45 : okB ftX9 ctX9 cX9_digest 48 bX9_digest_45 = true := by decide +kernel
def bX9_digest_51 : List Ent := [ec 51 (.bipush 16) (.int 16), e0 53 (.goto 22)]
theorem oX9_digest_51 : okB ftX9 ctX9 cX9_digest 75 bX9_digest_51 = true := by decide +kernel
def bX9_digest_56 : List Ent := [e0 56 (.aload_n 0), ef 57 (.getfield 7) .null 8 0, e0 60 (.iload 7), ec 62 (.iconst 1) (.int 1), e0 63 .isub, e0 64 .iaload, e0 65 (.aload_n 0), ef 66 (.getfield 7) .null 8 0, e0 69 (.iload 7), e0 71 .iaload]
theorem oX9_digest_56 : okB ftX9 ctX9 cX9_digest 72 bX9_digest_56 = true := by decide +kernel
def bX9_digest_75 : List Ent := [e0 75 (.istore 8)]
theorem oX9_digest_75 : okB ftX9 ctX9 cX9_digest 77 bX9_digest_75 = true := by decide +kernel
def bX9_digest_77 : List Ent := [e0 77 (.iload 7), e0 79 (.iload_n 1)]
theorem oX9_digest_77 : okB ftX9 ctX9 cX9_digest 80 bX9_digest_77 = true := by decide +kernel
def bX9_digest_83 : List Ent := [e0 83 (.iload_n 3)]
theorem oX9_digest_83 : okB ftX9 ctX9 cX9_digest 84 bX9_digest_83 = true := by decide +kernel
def bX9_digest_87 : List Ent := [e0 87 (.aload_n 0), ef 88 (.getfield 32) .null 8 10, e0 91 (.iload_n 3), ec 92 (.iconst 1) (.int 1), e0 93 .isub, e0 94 .iaload, e0 95 (.iload 8)]
theorem oX9_digest_87 : okB ftX9 ctX9 cX9_digest 97 bX9_digest_87 = true := by decide +kernel
def bX9_digest_100 : List Ent := [ec 100 (.iinc 3 (-1)) (.int (-1)), e0 103 (.aload_n 0), ef 104 (.getfield 32) .null 8 10, e0 107 (.iload_n 3), e0 108 .iaload, e0 109 (.aload_n 0), ef 110 (.getfield 7) .null 8 0, e0 113 (.iload 7), ec 115 (.iconst 1) (.int 1), e0 116 .isub, e0 117 .iaload, e0 118 (.aload_n 0), ef 119 (.getfield 32) .null 8 10, e0 122 (.iload_n 3), e0 123 .iaload]
theorem oX9_digest_100 : okB ftX9 ctX9 cX9_digest 124 bX9_digest_100 = true := by decide +kernel
def bX9_digest_127 : List Ent := [e0 127 (.aload_n 0), ef 128 (.getfield 29) .null 8 9, e0 131 (.iload_n 3), e0 132 .laload, e0 133 (.lload 4)]
theorem oX9_digest_127 : okB ftX9 ctX9 cX9_digest 135 bX9_digest_127 = true := by decide +kernel
def bX9_digest_138 : List Ent := [e0 138 (.lstore 4), ec 140 (.iconst 1) (.int 1), e0 141 (.aload_n 0), ef 142 (.getfield 35) .null 8 11, e0 145 (.iload_n 3), e0 146 .iaload, e0 147 (.iload 6)]
theorem oX9_digest_138 : okB ftX9 ctX9 cX9_digest 149 bX9_digest_138 = true := by decide +kernel
def bX9_digest_152 : List Ent := [e0 152 (.aload_n 0), ef 153 (.getfield 35) .null 8 11, e0 156 (.iload_n 3), e0 157 .iaload, e0 158 (.goto 5)]
theorem oX9_digest_152 : okB ftX9 ctX9 cX9_digest 163 bX9_digest_152 = true := by decide +kernel
def bX9_digest_161 : List Ent := [e0 161 (.iload 6)]
theorem oX9_digest_161 : okB ftX9 ctX9 cX9_digest 163 bX9_digest_161 = true := by decide +kernel
def bX9_digest_163 : List Ent := [e0 163 .iadd, e0 164 (.istore 6), e0 166 (.goto (-89))]
theorem oX9_digest_163 : okB ftX9 ctX9 cX9_digest 77 bX9_digest_163 = true := by decide +kernel
def bX9_digest_169 : List Ent := [e0 169 (.iload 7), e0 171 (.iload_n 1)]
theorem oX9_digest_169 : okB ftX9 ctX9 cX9_digest 172 bX9_digest_169 = true := by decide +kernel
def bX9_digest_175 : List Ent := [e0 175 (.iload 7), e0 177 (.iload_n 2)]
theorem oX9_digest_175 : okB ftX9 ctX9 cX9_digest 178 bX9_digest_175 = true := by decide +kernel
def bX9_digest_181 : List Ent := [e0 181 (.aload_n 0), ef 182 (.getfield 29) .null 8 9, e0 185 (.iload_n 3), e0 186 (.lload 4), e0 188 .lastore, e0 189 (.aload_n 0), ef 190 (.getfield 32) .null 8 10, e0 193 (.iload_n 3), e0 194 (.iload 8), e0 196 .iastore, e0 197 (.aload_n 0), ef 198 (.getfield 35) .null 8 11, e0 201 (.iload_n 3), e0 202 (.iload 6), e0 204 .iastore, ec 205 (.iinc 3 1) (.int 1)]
theorem oX9_digest_181 : okB ftX9 ctX9 cX9_digest 208 bX9_digest_181 = true := by decide +kernel
def bX9_digest_208 : List Ent := [e0 208 (.iload 7), e0 210 (.iload_n 2)]
theorem oX9_digest_208 : okB ftX9 ctX9 cX9_digest 211 bX9_digest_208 = true := by decide +kernel
def bX9_digest_214 : List Ent := [e0 214 (.aload_n 0), ef 215 (.getfield 7) .null 8 0, e0 218 (.iload 7), e0 220 .iaload, e0 221 (.aload_n 0), ef 222 (.getfield 13) .null 8 1, e0 225 (.iload 7), e0 227 .laload]
theorem oX9_digest_214 : okB ftX9 ctX9 cX9_digest 228 bX9_digest_214 = true := by decide +kernel
def bX9_digest_231 : List Ent := [e0 231 (.lstore 4), ec 233 (.iconst 0) (.int 0), e0 234 (.istore 6)]
theorem oX9_digest_231 : okB ftX9 ctX9 cX9_digest 236 bX9_digest_231 = true := by decide +kernel
def bX9_digest_236 : List Ent := [ec 236 (.iinc 7 1) (.int 1), e0 239 (.goto (-210))]
theorem oX9_digest_236 : okB ftX9 ctX9 cX9_digest 29 bX9_digest_236 = true := by decide +kernel
def bX9_digest_242 : List Ent := [e0 242 (.aload_n 0), e0 243 (.iload 6), ef 245 (.putfield 109) (.int 0) 8 12, e0 248 (.lload 4)]
theorem oX9_digest_242 : okB ftX9 ctX9 cX9_digest 250 bX9_digest_242 = true := by decide +kernel
theorem jX9_digest_7 : decode cX9_digest 7 = .ok (.if_icmp .ne 11, 3) := by decide +kernel
theorem jX9_digest_14 : decode cX9_digest 14 = .ok (.invokestatic 92, 3) := by decide +kernel
theorem jX9_digest_17 : decode cX9_digest 17 = .ok (.lreturn, 1) := by decide +kernel
theorem jX9_digest_32 : decode cX9_digest 32 = .ok (.if_icmp .gt 210, 3) := by decide +kernel
theorem jX9_digest_38 : decode cX9_digest 38 = .ok (.if_icmp .ne 7, 3) := by decide +kernel
theorem jX9_digest_48 : decode cX9_digest 48 = .ok (.if_icmp .ne 8, 3) := by decide +kernel
theorem jX9_digest_72 : decode cX9_digest 72 = .ok (.invokestatic 114, 3) := by decide +kernel
theorem jX9_digest_80 : decode cX9_digest 80 = .ok (.if_icmp .le 89, 3) := by decide +kernel
theorem jX9_digest_84 : decode cX9_digest 84 = .ok (.ifCond .le 85, 3) := by decide +kernel
theorem jX9_digest_97 : decode cX9_digest 97 = .ok (.if_icmp .le 72, 3) := by decide +kernel
theorem jX9_digest_124 : decode cX9_digest 124 = .ok (.invokestatic 118, 3) := by decide +kernel
theorem jX9_digest_135 : decode cX9_digest 135 = .ok (.invokestatic 121, 3) := by decide +kernel
theorem jX9_digest_149 : decode cX9_digest 149 = .ok (.if_icmp .le 12, 3) := by decide +kernel
theorem jX9_digest_172 : decode cX9_digest 172 = .ok (.if_icmp .le 36, 3) := by decide +kernel
theorem jX9_digest_178 : decode cX9_digest 178 = .ok (.if_icmp .ge 30, 3) := by decide +kernel
theorem jX9_digest_211 : decode cX9_digest 211 = .ok (.if_icmp .ge 25, 3) := by decide +kernel
theorem jX9_digest_228 : decode cX9_digest 228 = .ok (.invokestatic 125, 3) := by decide +kernel
theorem jX9_digest_250 : decode cX9_digest 250 = .ok (.lreturn, 1) := by decide +kernel
def bX9_root_0 : List Ent := [e0 0 (.aload_n 0), e0 1 (.iload_n 1)]
theorem oX9_root_0 : okB ftX9 ctX9 cX9_root 2 bX9_root_0 = true := by decide +kernel
def bX9_root_5 : List Ent := [e0 5 (.istore_n 2), e0 6 (.iload_n 2), ec 7 (.bipush (-2)) (.int (-2))]
theorem oX9_root_5 : okB ftX9 ctX9 cX9_root 9 bX9_root_5 = true := by decide +kernel
def bX9_root_12 : List Ent := [ec 12 (.lconst 0) (.long 0), e0 13 (.goto 15)]
theorem oX9_root_12 : okB ftX9 ctX9 cX9_root 28 bX9_root_12 = true := by decide +kernel
def bX9_root_16 : List Ent := [e0 16 (.aload_n 0), e0 17 (.iload_n 2), e0 18 (.iload_n 2), e0 19 (.aload_n 0), e0 20 (.iload_n 1)]
theorem oX9_root_16 : okB ftX9 ctX9 cX9_root 21 bX9_root_16 = true := by decide +kernel
def bX9_root_24 : List Ent := [e0 24 .iadd]
theorem oX9_root_24 : okB ftX9 ctX9 cX9_root 25 bX9_root_24 = true := by decide +kernel
theorem jX9_root_2 : decode cX9_root 2 = .ok (.invokevirtual 129, 3) := by decide +kernel
theorem jX9_root_9 : decode cX9_root 9 = .ok (.if_icmp .ne 7, 3) := by decide +kernel
theorem jX9_root_21 : decode cX9_root 21 = .ok (.invokevirtual 132, 3) := by decide +kernel
theorem jX9_root_25 : decode cX9_root 25 = .ok (.invokevirtual 135, 3) := by decide +kernel
theorem jX9_root_28 : decode cX9_root 28 = .ok (.lreturn, 1) := by decide +kernel
def bX9_leaves_0 : List Ent := [e0 0 (.aload_n 0), e0 1 (.iload_n 1)]
theorem oX9_leaves_0 : okB ftX9 ctX9 cX9_leaves 2 bX9_leaves_0 = true := by decide +kernel
def bX9_leaves_5 : List Ent := [ec 5 (.bipush (-2)) (.int (-2))]
theorem oX9_leaves_5 : okB ftX9 ctX9 cX9_leaves 7 bX9_leaves_5 = true := by decide +kernel
def bX9_leaves_10 : List Ent := [ec 10 (.iconst (-1)) (.int (-1)), e0 11 (.goto 8)]
theorem oX9_leaves_10 : okB ftX9 ctX9 cX9_leaves 19 bX9_leaves_10 = true := by decide +kernel
def bX9_leaves_14 : List Ent := [e0 14 (.aload_n 0), e0 15 (.iload_n 1)]
theorem oX9_leaves_14 : okB ftX9 ctX9 cX9_leaves 16 bX9_leaves_14 = true := by decide +kernel
theorem jX9_leaves_2 : decode cX9_leaves 2 = .ok (.invokevirtual 129, 3) := by decide +kernel
theorem jX9_leaves_7 : decode cX9_leaves 7 = .ok (.if_icmp .ne 7, 3) := by decide +kernel
theorem jX9_leaves_16 : decode cX9_leaves 16 = .ok (.invokevirtual 132, 3) := by decide +kernel
theorem jX9_leaves_19 : decode cX9_leaves 19 = .ok (.ireturn, 1) := by decide +kernel
def bX9_want_0 : List Ent := [e0 0 (.iload_n 1)]
theorem oX9_want_0 : okB ftX9 ctX9 cX9_want 1 bX9_want_0 = true := by decide +kernel
def bX9_want_7 : List Ent := [e0 7 (.iload_n 2)]
theorem oX9_want_7 : okB ftX9 ctX9 cX9_want 8 bX9_want_7 = true := by decide +kernel
def bX9_want_14 : List Ent := [e0 14 (.iload_n 1), e0 15 (.iload_n 2)]
theorem oX9_want_14 : okB ftX9 ctX9 cX9_want 16 bX9_want_14 = true := by decide +kernel
def bX9_want_19 : List Ent := [ec 19 (.iconst (-1)) (.int (-1))]
theorem oX9_want_19 : okB ftX9 ctX9 cX9_want 20 bX9_want_19 = true := by decide +kernel
def bX9_want_21 : List Ent := [e0 21 (.aload_n 0), ef 22 (.getfield 139) .null 8 6, ec 25 (.bipush 20) (.int 20)]
theorem oX9_want_21 : okB ftX9 ctX9 cX9_want 27 bX9_want_21 = true := by decide +kernel
def bX9_want_30 : List Ent := [ec 30 (.bipush (-3)) (.int (-3))]
theorem oX9_want_30 : okB ftX9 ctX9 cX9_want 32 bX9_want_30 = true := by decide +kernel
def bX9_want_33 : List Ent := [e0 33 (.aload_n 0), ef 34 (.getfield 20) .null 8 4, e0 37 (.aload_n 0), ef 38 (.getfield 139) .null 8 6, e0 41 (.iload_n 1), e0 42 .iastore, e0 43 (.aload_n 0), ef 44 (.getfield 23) .null 8 5, e0 47 (.aload_n 0), ef 48 (.getfield 139) .null 8 6, e0 51 (.iload_n 2), e0 52 .iastore, e0 53 (.aload_n 0), e0 54 .dup, ef 55 (.getfield 139) .null 8 6, ec 58 (.iconst 1) (.int 1), e0 59 .iadd, ef 60 (.putfield 139) (.int 0) 8 6, e0 63 (.aload_n 0), ef 64 (.getfield 139) .null 8 6]
theorem oX9_want_33 : okB ftX9 ctX9 cX9_want 67 bX9_want_33 = true := by decide +kernel
theorem jX9_want_1 : decode cX9_want 1 = .ok (.invokestatic 101, 3) := by decide +kernel
theorem jX9_want_4 : decode cX9_want 4 = .ok (.ifCond .eq 15, 3) := by decide +kernel
theorem jX9_want_8 : decode cX9_want 8 = .ok (.invokestatic 101, 3) := by decide +kernel
theorem jX9_want_11 : decode cX9_want 11 = .ok (.ifCond .eq 8, 3) := by decide +kernel
theorem jX9_want_16 : decode cX9_want 16 = .ok (.if_icmp .le 5, 3) := by decide +kernel
theorem jX9_want_20 : decode cX9_want 20 = .ok (.ireturn, 1) := by decide +kernel
theorem jX9_want_27 : decode cX9_want 27 = .ok (.if_icmp .ne 6, 3) := by decide +kernel
theorem jX9_want_32 : decode cX9_want 32 = .ok (.ireturn, 1) := by decide +kernel
theorem jX9_want_67 : decode cX9_want 67 = .ok (.ireturn, 1) := by decide +kernel
def bX9_forget_0 : List Ent := [e0 0 (.aload_n 0), ef 1 (.getfield 139) .null 8 6, e0 4 (.istore_n 1), e0 5 (.aload_n 0), ec 6 (.iconst 0) (.int 0), ef 7 (.putfield 139) (.int 0) 8 6, e0 10 (.iload_n 1)]
theorem oX9_forget_0 : okB ftX9 ctX9 cX9_forget 11 bX9_forget_0 = true := by decide +kernel
theorem jX9_forget_11 : decode cX9_forget 11 = .ok (.ireturn, 1) := by decide +kernel
def bX9_isWanted_0 : List Ent := [ec 0 (.iconst 0) (.int 0), e0 1 (.istore_n 3), ec 2 (.iconst 0) (.int 0), e0 3 (.istore 4)]
theorem oX9_isWanted_0 : okB ftX9 ctX9 cX9_isWanted 5 bX9_isWanted_0 = true := by decide +kernel
def bX9_isWanted_5 : List Ent := [e0 5 (.iload 4), e0 7 (.aload_n 0), ef 8 (.getfield 139) .null 8 6]
theorem oX9_isWanted_5 : okB ftX9 ctX9 cX9_isWanted 11 bX9_isWanted_5 = true := by decide +kernel
def bX9_isWanted_14 : List Ent := [e0 14 (.iload_n 3)]
theorem oX9_isWanted_14 : okB ftX9 ctX9 cX9_isWanted 15 bX9_isWanted_14 = true := by decide +kernel
def bX9_isWanted_18 : List Ent := [e0 18 (.aload_n 0), ef 19 (.getfield 20) .null 8 4, e0 22 (.iload 4), e0 24 .iaload, e0 25 (.iload_n 2)]
theorem oX9_isWanted_18 : okB ftX9 ctX9 cX9_isWanted 26 bX9_isWanted_18 = true := by decide +kernel
def bX9_isWanted_29 : List Ent := [e0 29 (.aload_n 0), ef 30 (.getfield 23) .null 8 5, e0 33 (.iload 4), e0 35 .iaload, e0 36 (.iload_n 1)]
theorem oX9_isWanted_29 : okB ftX9 ctX9 cX9_isWanted 37 bX9_isWanted_29 = true := by decide +kernel
def bX9_isWanted_40 : List Ent := [ec 40 (.iconst 1) (.int 1), e0 41 (.goto 4)]
theorem oX9_isWanted_40 : okB ftX9 ctX9 cX9_isWanted 45 bX9_isWanted_40 = true := by decide +kernel
def bX9_isWanted_44 : List Ent := [ec 44 (.iconst 0) (.int 0)]
theorem oX9_isWanted_44 : okB ftX9 ctX9 cX9_isWanted 45 bX9_isWanted_44 = true := by decide +kernel
def bX9_isWanted_45 : List Ent := [e0 45 (.istore_n 3), ec 46 (.iinc 4 1) (.int 1), e0 49 (.goto (-44))]
theorem oX9_isWanted_45 : okB ftX9 ctX9 cX9_isWanted 5 bX9_isWanted_45 = true := by decide +kernel
def bX9_isWanted_52 : List Ent := [e0 52 (.iload_n 3)]
theorem oX9_isWanted_52 : okB ftX9 ctX9 cX9_isWanted 53 bX9_isWanted_52 = true := by decide +kernel
theorem jX9_isWanted_11 : decode cX9_isWanted 11 = .ok (.if_icmp .ge 41, 3) := by decide +kernel
theorem jX9_isWanted_15 : decode cX9_isWanted 15 = .ok (.ifCond .ne 25, 3) := by decide +kernel
theorem jX9_isWanted_26 : decode cX9_isWanted 26 = .ok (.if_icmp .gt 18, 3) := by decide +kernel
theorem jX9_isWanted_37 : decode cX9_isWanted 37 = .ok (.if_icmp .lt 7, 3) := by decide +kernel
theorem jX9_isWanted_53 : decode cX9_isWanted 53 = .ok (.ireturn, 1) := by decide +kernel
def bX9_lay_0 : List Ent := [e0 0 (.iload_n 3), ec 1 (.iconst 1) (.int 1), e0 2 .isub, e0 3 (.istore 4)]
theorem oX9_lay_0 : okB ftX9 ctX9 cX9_lay 5 bX9_lay_0 = true := by decide +kernel
def bX9_lay_5 : List Ent := [e0 5 (.iload 4)]
theorem oX9_lay_5 : okB ftX9 ctX9 cX9_lay 7 bX9_lay_5 = true := by decide +kernel
def bX9_lay_10 : List Ent := [e0 10 (.aload_n 0), ef 11 (.getfield 142) .null 8 14, ec 14 (.sipush 4000) (.int 4000)]
theorem oX9_lay_10 : okB ftX9 ctX9 cX9_lay 17 bX9_lay_10 = true := by decide +kernel
def bX9_lay_20 : List Ent := [e0 20 (.aload_n 0), ef 21 (.getfield 38) .null 8 13, e0 24 (.aload_n 0), ef 25 (.getfield 142) .null 8 14, e0 28 (.lload_n 1), ec 29 (.bipush 8) (.int 8), e0 31 (.iload 4), e0 33 .imul, e0 34 .lshr, ec 35 (.ldc2_w 145) (.long (255)), e0 38 .land, e0 39 .l2i, e0 40 .iastore]
theorem oX9_lay_20 : okB ftX9 ctX9 cX9_lay 41 bX9_lay_20 = true := by decide +kernel
def bX9_lay_41 : List Ent := [e0 41 (.aload_n 0), e0 42 .dup, ef 43 (.getfield 142) .null 8 14, ec 46 (.iconst 1) (.int 1), e0 47 .iadd, ef 48 (.putfield 142) (.int 0) 8 14, ec 51 (.iinc 4 (-1)) (.int (-1)), e0 54 (.goto (-49))]
theorem oX9_lay_41 : okB ftX9 ctX9 cX9_lay 5 bX9_lay_41 = true := by decide +kernel
theorem jX9_lay_7 : decode cX9_lay 7 = .ok (.ifCond .lt 50, 3) := by decide +kernel
theorem jX9_lay_17 : decode cX9_lay 17 = .ok (.if_icmp .ge 24, 3) := by decide +kernel
theorem jX9_lay_57 : decode cX9_lay 57 = .ok (.return_, 1) := by decide +kernel
def bX9_laidOut_0 : List Ent := [e0 0 (.aload_n 0), ef 1 (.getfield 142) .null 8 14, ec 4 (.sipush 4000) (.int 4000)]
theorem oX9_laidOut_0 : okB ftX9 ctX9 cX9_laidOut 7 bX9_laidOut_0 = true := by decide +kernel
def bX9_laidOut_10 : List Ent := [ec 10 (.bipush (-3)) (.int (-3))]
theorem oX9_laidOut_10 : okB ftX9 ctX9 cX9_laidOut 12 bX9_laidOut_10 = true := by decide +kernel
def bX9_laidOut_13 : List Ent := [ec 13 (.iconst 0) (.int 0), e0 14 (.istore_n 1)]
theorem oX9_laidOut_13 : okB ftX9 ctX9 cX9_laidOut 15 bX9_laidOut_13 = true := by decide +kernel
def bX9_laidOut_15 : List Ent := [e0 15 (.iload_n 1), e0 16 (.aload_n 0), ef 17 (.getfield 142) .null 8 14]
theorem oX9_laidOut_15 : okB ftX9 ctX9 cX9_laidOut 20 bX9_laidOut_15 = true := by decide +kernel
def bX9_laidOut_23 : List Ent := [e0 23 (.aload_n 0), ef 24 (.getfield 26) .null 8 7, e0 27 (.iload_n 1), e0 28 (.aload_n 0), ef 29 (.getfield 38) .null 8 13, e0 32 (.iload_n 1), e0 33 .iaload, e0 34 .iastore, ec 35 (.iinc 1 1) (.int 1), e0 38 (.goto (-23))]
theorem oX9_laidOut_23 : okB ftX9 ctX9 cX9_laidOut 15 bX9_laidOut_23 = true := by decide +kernel
def bX9_laidOut_41 : List Ent := [e0 41 (.aload_n 0), e0 42 (.aload_n 0), ef 43 (.getfield 142) .null 8 14, ef 46 (.putfield 147) (.int 0) 8 8, e0 49 (.aload_n 0), ef 50 (.getfield 147) .null 8 8]
theorem oX9_laidOut_41 : okB ftX9 ctX9 cX9_laidOut 53 bX9_laidOut_41 = true := by decide +kernel
theorem jX9_laidOut_7 : decode cX9_laidOut 7 = .ok (.if_icmp .le 6, 3) := by decide +kernel
theorem jX9_laidOut_12 : decode cX9_laidOut 12 = .ok (.ireturn, 1) := by decide +kernel
theorem jX9_laidOut_20 : decode cX9_laidOut 20 = .ok (.if_icmp .ge 21, 3) := by decide +kernel
theorem jX9_laidOut_53 : decode cX9_laidOut 53 = .ok (.ireturn, 1) := by decide +kernel
def bX9_rest_0 : List Ent := [e0 0 (.aload_n 0), ef 1 (.getfield 41) .null 8 15, e0 4 (.aload_n 0), ef 5 (.getfield 150) .null 8 19, e0 8 (.iload_n 1), e0 9 .iastore, e0 10 (.aload_n 0), ef 11 (.getfield 44) .null 8 16, e0 14 (.aload_n 0), ef 15 (.getfield 150) .null 8 19, e0 18 (.iload_n 2), e0 19 .iastore, e0 20 (.aload_n 0), ef 21 (.getfield 47) .null 8 17, e0 24 (.aload_n 0), ef 25 (.getfield 150) .null 8 19, e0 28 (.iload_n 3), e0 29 .iastore, e0 30 (.aload_n 0), ef 31 (.getfield 50) .null 8 18, e0 34 (.aload_n 0), ef 35 (.getfield 150) .null 8 19, e0 38 (.iload 4), e0 40 .iastore, e0 41 (.aload_n 0), e0 42 .dup, ef 43 (.getfield 150) .null 8 19, ec 46 (.iconst 1) (.int 1), e0 47 .iadd, ef 48 (.putfield 150) (.int 0) 8 19]
theorem oX9_rest_0 : okB ftX9 ctX9 cX9_rest 51 bX9_rest_0 = true := by decide +kernel
theorem jX9_rest_51 : decode cX9_rest 51 = .ok (.return_, 1) := by decide +kernel
def bX9_show_0 : List Ent := [e0 0 (.aload_n 0), e0 1 (.iload_n 1)]
theorem oX9_show_0 : okB ftX9 ctX9 cX9_show 2 bX9_show_0 = true := by decide +kernel
def bX9_show_5 : List Ent := [e0 5 (.istore_n 2), e0 6 (.iload_n 2), ec 7 (.bipush (-2)) (.int (-2))]
theorem oX9_show_5 : okB ftX9 ctX9 cX9_show 9 bX9_show_5 = true := by decide +kernel
def bX9_show_12 : List Ent := [ec 12 (.iconst (-1)) (.int (-1))]
theorem oX9_show_12 : okB ftX9 ctX9 cX9_show 13 bX9_show_12 = true := by decide +kernel
def bX9_show_14 : List Ent := [e0 14 (.aload_n 0), ec 15 (.iconst 0) (.int 0), ef 16 (.putfield 142) (.int 0) 8 14, e0 19 (.aload_n 0), ec 20 (.iconst 0) (.int 0), ef 21 (.putfield 150) (.int 0) 8 19, e0 24 (.aload_n 0), e0 25 (.iload_n 2), e0 26 (.iload_n 2), e0 27 (.aload_n 0), e0 28 (.iload_n 1)]
theorem oX9_show_14 : okB ftX9 ctX9 cX9_show 29 bX9_show_14 = true := by decide +kernel
def bX9_show_32 : List Ent := [e0 32 .iadd, ec 33 (.iconst 0) (.int 0), ec 34 (.ldc 87) (.int 65535)]
theorem oX9_show_32 : okB ftX9 ctX9 cX9_show 36 bX9_show_32 = true := by decide +kernel
def bX9_show_39 : List Ent := [e0 39 (.aload_n 0), ef 40 (.getfield 150) .null 8 19]
theorem oX9_show_39 : okB ftX9 ctX9 cX9_show 43 bX9_show_39 = true := by decide +kernel
def bX9_show_46 : List Ent := [e0 46 (.aload_n 0), e0 47 .dup, ef 48 (.getfield 150) .null 8 19, ec 51 (.iconst 1) (.int 1), e0 52 .isub, ef 53 (.putfield 150) (.int 0) 8 19, e0 56 (.aload_n 0), ef 57 (.getfield 41) .null 8 15, e0 60 (.aload_n 0), ef 61 (.getfield 150) .null 8 19, e0 64 .iaload, e0 65 (.istore_n 3), e0 66 (.aload_n 0), ef 67 (.getfield 44) .null 8 16, e0 70 (.aload_n 0), ef 71 (.getfield 150) .null 8 19, e0 74 .iaload, e0 75 (.istore 4), e0 77 (.aload_n 0), e0 78 (.aload_n 0), ef 79 (.getfield 47) .null 8 17, e0 82 (.aload_n 0), ef 83 (.getfield 150) .null 8 19, e0 86 .iaload, e0 87 (.aload_n 0), ef 88 (.getfield 50) .null 8 18, e0 91 (.aload_n 0), ef 92 (.getfield 150) .null 8 19, e0 95 .iaload]
theorem oX9_show_46 : okB ftX9 ctX9 cX9_show 96 bX9_show_46 = true := by decide +kernel
def bX9_show_102 : List Ent := [e0 102 (.aload_n 0), ec 103 (.lconst 0) (.long 0), ec 104 (.iconst 1) (.int 1)]
theorem oX9_show_102 : okB ftX9 ctX9 cX9_show 105 bX9_show_102 = true := by decide +kernel
def bX9_show_108 : List Ent := [e0 108 (.aload_n 0), e0 109 (.aload_n 0), e0 110 (.iload_n 3), e0 111 (.iload 4)]
theorem oX9_show_108 : okB ftX9 ctX9 cX9_show 113 bX9_show_108 = true := by decide +kernel
def bX9_show_116 : List Ent := [ec 116 (.bipush 8) (.int 8)]
theorem oX9_show_116 : okB ftX9 ctX9 cX9_show 118 bX9_show_116 = true := by decide +kernel
def bX9_show_121 : List Ent := [e0 121 (.goto 186)]
theorem oX9_show_121 : okB ftX9 ctX9 cX9_show 307 bX9_show_121 = true := by decide +kernel
def bX9_show_124 : List Ent := [e0 124 (.iload_n 3), e0 125 (.iload 4)]
theorem oX9_show_124 : okB ftX9 ctX9 cX9_show 127 bX9_show_124 = true := by decide +kernel
def bX9_show_130 : List Ent := [e0 130 (.aload_n 0), ec 131 (.ldc2_w 112) (.long (3)), ec 134 (.iconst 1) (.int 1)]
theorem oX9_show_130 : okB ftX9 ctX9 cX9_show 135 bX9_show_130 = true := by decide +kernel
def bX9_show_138 : List Ent := [e0 138 (.goto 169)]
theorem oX9_show_138 : okB ftX9 ctX9 cX9_show 307 bX9_show_138 = true := by decide +kernel
def bX9_show_141 : List Ent := [e0 141 (.iload 4), e0 143 (.iload_n 3), e0 144 .isub, ec 145 (.iconst 1) (.int 1)]
theorem oX9_show_141 : okB ftX9 ctX9 cX9_show 146 bX9_show_141 = true := by decide +kernel
def bX9_show_149 : List Ent := [e0 149 (.aload_n 0), ec 150 (.ldc2_w 96) (.long (2)), ec 153 (.iconst 1) (.int 1)]
theorem oX9_show_149 : okB ftX9 ctX9 cX9_show 154 bX9_show_149 = true := by decide +kernel
def bX9_show_157 : List Ent := [e0 157 (.aload_n 0), e0 158 (.aload_n 0), ef 159 (.getfield 7) .null 8 0, e0 162 (.iload_n 3), e0 163 .iaload, e0 164 .i2l, ec 165 (.iconst 2) (.int 2)]
theorem oX9_show_157 : okB ftX9 ctX9 cX9_show 166 bX9_show_157 = true := by decide +kernel
def bX9_show_169 : List Ent := [e0 169 (.aload_n 0), e0 170 (.aload_n 0), ef 171 (.getfield 13) .null 8 1, e0 174 (.iload_n 3), e0 175 .laload, ec 176 (.bipush 8) (.int 8)]
theorem oX9_show_169 : okB ftX9 ctX9 cX9_show 178 bX9_show_169 = true := by decide +kernel
def bX9_show_181 : List Ent := [e0 181 (.goto 126)]
theorem oX9_show_181 : okB ftX9 ctX9 cX9_show 307 bX9_show_181 = true := by decide +kernel
def bX9_show_184 : List Ent := [e0 184 (.aload_n 0), ef 185 (.getfield 7) .null 8 0, e0 188 (.iload_n 3), e0 189 .iaload, e0 190 (.aload_n 0), ef 191 (.getfield 7) .null 8 0, e0 194 (.iload 4), ec 196 (.iconst 1) (.int 1), e0 197 .isub, e0 198 .iaload]
theorem oX9_show_184 : okB ftX9 ctX9 cX9_show 199 bX9_show_184 = true := by decide +kernel
def bX9_show_202 : List Ent := [e0 202 (.istore 5), e0 204 (.aload_n 0), ef 205 (.getfield 7) .null 8 0, e0 208 (.iload_n 3), e0 209 .iaload, e0 210 (.iload 5)]
theorem oX9_show_202 : okB ftX9 ctX9 cX9_show 212 bX9_show_202 = true := by decide +kernel
def bX9_show_215 : List Ent := [e0 215 (.istore 6), e0 217 (.iload 6), ec 219 (.iconst 1) (.int 1), ec 220 (.bipush 15) (.int 15), e0 222 (.iload 5), e0 224 .isub, e0 225 .ishl, e0 226 .iadd, e0 227 (.istore 7), e0 229 (.iload_n 3), e0 230 (.istore 8)]
theorem oX9_show_215 : okB ftX9 ctX9 cX9_show 232 bX9_show_215 = true := by decide +kernel
def bX9_show_232 : List Ent := [e0 232 (.aload_n 0), ef 233 (.getfield 7) .null 8 0, e0 236 (.iload 8), e0 238 .iaload, e0 239 (.iload 7)]
theorem oX9_show_232 : okB ftX9 ctX9 cX9_show 241 bX9_show_232 = true := by decide +kernel
def bX9_show_244 : List Ent := [ec 244 (.iinc 8 1) (.int 1), e0 247 (.goto (-15))]
theorem oX9_show_244 : okB ftX9 ctX9 cX9_show 232 bX9_show_244 = true := by decide +kernel
def bX9_show_250 : List Ent := [e0 250 (.aload_n 0), ec 251 (.lconst 1) (.long 1), ec 252 (.iconst 1) (.int 1)]
theorem oX9_show_250 : okB ftX9 ctX9 cX9_show 253 bX9_show_250 = true := by decide +kernel
def bX9_show_256 : List Ent := [e0 256 (.aload_n 0), e0 257 (.iload 5), e0 259 .i2l, ec 260 (.iconst 1) (.int 1)]
theorem oX9_show_256 : okB ftX9 ctX9 cX9_show 261 bX9_show_256 = true := by decide +kernel
def bX9_show_264 : List Ent := [e0 264 (.aload_n 0), e0 265 (.iload 6), e0 267 .i2l, ec 268 (.iconst 2) (.int 2)]
theorem oX9_show_264 : okB ftX9 ctX9 cX9_show 269 bX9_show_264 = true := by decide +kernel
def bX9_show_272 : List Ent := [e0 272 (.aload_n 0), e0 273 (.iload 8), e0 275 (.iload 4), e0 277 (.iload 7), e0 279 (.iload 7), ec 281 (.iconst 1) (.int 1), ec 282 (.bipush 15) (.int 15), e0 284 (.iload 5), e0 286 .isub, e0 287 .ishl, e0 288 .iadd, ec 289 (.iconst 1) (.int 1), e0 290 .isub]
theorem oX9_show_272 : okB ftX9 ctX9 cX9_show 291 bX9_show_272 = true := by decide +kernel
def bX9_show_294 : List Ent := [e0 294 (.aload_n 0), e0 295 (.iload_n 3), e0 296 (.iload 8), e0 298 (.iload 6), e0 300 (.iload 7), ec 302 (.iconst 1) (.int 1), e0 303 .isub]
theorem oX9_show_294 : okB ftX9 ctX9 cX9_show 304 bX9_show_294 = true := by decide +kernel
def bX9_show_307 : List Ent := [e0 307 (.goto (-268))]
theorem oX9_show_307 : okB ftX9 ctX9 cX9_show 39 bX9_show_307 = true := by decide +kernel
def bX9_show_310 : List Ent := [e0 310 (.aload_n 0)]
theorem oX9_show_310 : okB ftX9 ctX9 cX9_show 311 bX9_show_310 = true := by decide +kernel
theorem jX9_show_2 : decode cX9_show 2 = .ok (.invokevirtual 129, 3) := by decide +kernel
theorem jX9_show_9 : decode cX9_show 9 = .ok (.if_icmp .ne 5, 3) := by decide +kernel
theorem jX9_show_13 : decode cX9_show 13 = .ok (.ireturn, 1) := by decide +kernel
theorem jX9_show_29 : decode cX9_show 29 = .ok (.invokevirtual 132, 3) := by decide +kernel
theorem jX9_show_36 : decode cX9_show 36 = .ok (.invokevirtual 153, 3) := by decide +kernel
theorem jX9_show_43 : decode cX9_show 43 = .ok (.ifCond .le 267, 3) := by decide +kernel
theorem jX9_show_96 : decode cX9_show 96 = .ok (.invokevirtual 157, 3) := by decide +kernel
theorem jX9_show_99 : decode cX9_show 99 = .ok (.ifCond .ne 25, 3) := by decide +kernel
theorem jX9_show_105 : decode cX9_show 105 = .ok (.invokevirtual 161, 3) := by decide +kernel
theorem jX9_show_113 : decode cX9_show 113 = .ok (.invokevirtual 135, 3) := by decide +kernel
theorem jX9_show_118 : decode cX9_show 118 = .ok (.invokevirtual 161, 3) := by decide +kernel
theorem jX9_show_127 : decode cX9_show 127 = .ok (.if_icmp .ne 14, 3) := by decide +kernel
theorem jX9_show_135 : decode cX9_show 135 = .ok (.invokevirtual 161, 3) := by decide +kernel
theorem jX9_show_146 : decode cX9_show 146 = .ok (.if_icmp .ne 38, 3) := by decide +kernel
theorem jX9_show_154 : decode cX9_show 154 = .ok (.invokevirtual 161, 3) := by decide +kernel
theorem jX9_show_166 : decode cX9_show 166 = .ok (.invokevirtual 161, 3) := by decide +kernel
theorem jX9_show_178 : decode cX9_show 178 = .ok (.invokevirtual 161, 3) := by decide +kernel
theorem jX9_show_199 : decode cX9_show 199 = .ok (.invokestatic 114, 3) := by decide +kernel
theorem jX9_show_212 : decode cX9_show 212 = .ok (.invokestatic 118, 3) := by decide +kernel
theorem jX9_show_241 : decode cX9_show 241 = .ok (.if_icmp .ge 9, 3) := by decide +kernel
theorem jX9_show_253 : decode cX9_show 253 = .ok (.invokevirtual 161, 3) := by decide +kernel
theorem jX9_show_261 : decode cX9_show 261 = .ok (.invokevirtual 161, 3) := by decide +kernel
theorem jX9_show_269 : decode cX9_show 269 = .ok (.invokevirtual 161, 3) := by decide +kernel
theorem jX9_show_291 : decode cX9_show 291 = .ok (.invokevirtual 153, 3) := by decide +kernel
theorem jX9_show_304 : decode cX9_show 304 = .ok (.invokevirtual 153, 3) := by decide +kernel
theorem jX9_show_311 : decode cX9_show 311 = .ok (.invokevirtual 165, 3) := by decide +kernel
theorem jX9_show_314 : decode cX9_show 314 = .ok (.ireturn, 1) := by decide +kernel
def bX9_feed_0 : List Ent := [e0 0 (.iload_n 1), ec 1 (.iconst 1) (.int 1)]
theorem oX9_feed_0 : okB ftX9 ctX9 cX9_feed 2 bX9_feed_0 = true := by decide +kernel
def bX9_feed_5 : List Ent := [e0 5 (.iload_n 1), ec 6 (.bipush 8) (.int 8)]
theorem oX9_feed_5 : okB ftX9 ctX9 cX9_feed 8 bX9_feed_5 = true := by decide +kernel
def bX9_feed_11 : List Ent := [ec 11 (.iconst (-1)) (.int (-1))]
theorem oX9_feed_11 : okB ftX9 ctX9 cX9_feed 12 bX9_feed_11 = true := by decide +kernel
def bX9_feed_13 : List Ent := [e0 13 (.aload_n 0), ef 14 (.getfield 147) .null 8 8, e0 17 (.iload_n 1), e0 18 .iadd, ec 19 (.sipush 4000) (.int 4000)]
theorem oX9_feed_13 : okB ftX9 ctX9 cX9_feed 22 bX9_feed_13 = true := by decide +kernel
def bX9_feed_25 : List Ent := [ec 25 (.bipush (-3)) (.int (-3))]
theorem oX9_feed_25 : okB ftX9 ctX9 cX9_feed 27 bX9_feed_25 = true := by decide +kernel
def bX9_feed_28 : List Ent := [e0 28 (.iload_n 1), ec 29 (.iconst 1) (.int 1), e0 30 .isub, e0 31 (.istore 4)]
theorem oX9_feed_28 : okB ftX9 ctX9 cX9_feed 33 bX9_feed_28 = true := by decide +kernel
def bX9_feed_33 : List Ent := [e0 33 (.iload 4)]
theorem oX9_feed_33 : okB ftX9 ctX9 cX9_feed 35 bX9_feed_33 = true := by decide +kernel
def bX9_feed_38 : List Ent := [e0 38 (.aload_n 0), ef 39 (.getfield 26) .null 8 7, e0 42 (.aload_n 0), ef 43 (.getfield 147) .null 8 8, e0 46 (.lload_n 2), ec 47 (.bipush 8) (.int 8), e0 49 (.iload 4), e0 51 .imul, e0 52 .lshr, ec 53 (.ldc2_w 145) (.long (255)), e0 56 .land, e0 57 .l2i, e0 58 .iastore, e0 59 (.aload_n 0), e0 60 .dup, ef 61 (.getfield 147) .null 8 8, ec 64 (.iconst 1) (.int 1), e0 65 .iadd, ef 66 (.putfield 147) (.int 0) 8 8, ec 69 (.iinc 4 (-1)) (.int (-1)), e0 72 (.goto (-39))]
theorem oX9_feed_38 : okB ftX9 ctX9 cX9_feed 33 bX9_feed_38 = true := by decide +kernel
def bX9_feed_75 : List Ent := [e0 75 (.aload_n 0), ef 76 (.getfield 147) .null 8 8]
theorem oX9_feed_75 : okB ftX9 ctX9 cX9_feed 79 bX9_feed_75 = true := by decide +kernel
theorem jX9_feed_2 : decode cX9_feed 2 = .ok (.if_icmp .lt 9, 3) := by decide +kernel
theorem jX9_feed_8 : decode cX9_feed 8 = .ok (.if_icmp .le 5, 3) := by decide +kernel
theorem jX9_feed_12 : decode cX9_feed 12 = .ok (.ireturn, 1) := by decide +kernel
theorem jX9_feed_22 : decode cX9_feed 22 = .ok (.if_icmp .le 6, 3) := by decide +kernel
theorem jX9_feed_27 : decode cX9_feed 27 = .ok (.ireturn, 1) := by decide +kernel
theorem jX9_feed_35 : decode cX9_feed 35 = .ok (.ifCond .lt 40, 3) := by decide +kernel
theorem jX9_feed_79 : decode cX9_feed 79 = .ok (.ireturn, 1) := by decide +kernel
def bX9_cut_0 : List Ent := [e0 0 (.iload_n 1)]
theorem oX9_cut_0 : okB ftX9 ctX9 cX9_cut 1 bX9_cut_0 = true := by decide +kernel
def bX9_cut_4 : List Ent := [e0 4 (.iload_n 1), e0 5 (.aload_n 0), ef 6 (.getfield 147) .null 8 8]
theorem oX9_cut_4 : okB ftX9 ctX9 cX9_cut 9 bX9_cut_4 = true := by decide +kernel
def bX9_cut_12 : List Ent := [ec 12 (.iconst (-1)) (.int (-1))]
theorem oX9_cut_12 : okB ftX9 ctX9 cX9_cut 13 bX9_cut_12 = true := by decide +kernel
def bX9_cut_14 : List Ent := [e0 14 (.aload_n 0), ef 15 (.getfield 147) .null 8 8, e0 18 (.iload_n 1), e0 19 .isub, e0 20 (.istore_n 2), e0 21 (.aload_n 0), e0 22 (.iload_n 1), ef 23 (.putfield 147) (.int 0) 8 8, e0 26 (.iload_n 2)]
theorem oX9_cut_14 : okB ftX9 ctX9 cX9_cut 27 bX9_cut_14 = true := by decide +kernel
theorem jX9_cut_1 : decode cX9_cut 1 = .ok (.ifCond .lt 11, 3) := by decide +kernel
theorem jX9_cut_9 : decode cX9_cut 9 = .ok (.if_icmp .le 5, 3) := by decide +kernel
theorem jX9_cut_13 : decode cX9_cut 13 = .ok (.ireturn, 1) := by decide +kernel
theorem jX9_cut_27 : decode cX9_cut 27 = .ok (.ireturn, 1) := by decide +kernel
def bX9_spoil_0 : List Ent := [e0 0 (.iload_n 1)]
theorem oX9_spoil_0 : okB ftX9 ctX9 cX9_spoil 1 bX9_spoil_0 = true := by decide +kernel
def bX9_spoil_4 : List Ent := [e0 4 (.iload_n 1), e0 5 (.aload_n 0), ef 6 (.getfield 147) .null 8 8]
theorem oX9_spoil_4 : okB ftX9 ctX9 cX9_spoil 9 bX9_spoil_4 = true := by decide +kernel
def bX9_spoil_12 : List Ent := [e0 12 (.iload_n 2)]
theorem oX9_spoil_12 : okB ftX9 ctX9 cX9_spoil 13 bX9_spoil_12 = true := by decide +kernel
def bX9_spoil_16 : List Ent := [e0 16 (.iload_n 2), ec 17 (.sipush 255) (.int 255)]
theorem oX9_spoil_16 : okB ftX9 ctX9 cX9_spoil 20 bX9_spoil_16 = true := by decide +kernel
def bX9_spoil_23 : List Ent := [ec 23 (.iconst (-1)) (.int (-1))]
theorem oX9_spoil_23 : okB ftX9 ctX9 cX9_spoil 24 bX9_spoil_23 = true := by decide +kernel
def bX9_spoil_25 : List Ent := [e0 25 (.aload_n 0), ef 26 (.getfield 26) .null 8 7, e0 29 (.iload_n 1), e0 30 .dup2, e0 31 .iaload, e0 32 (.iload_n 2), e0 33 .ixor, e0 34 .iastore, e0 35 (.aload_n 0), ef 36 (.getfield 26) .null 8 7, e0 39 (.iload_n 1), e0 40 .iaload]
theorem oX9_spoil_25 : okB ftX9 ctX9 cX9_spoil 41 bX9_spoil_25 = true := by decide +kernel
theorem jX9_spoil_1 : decode cX9_spoil 1 = .ok (.ifCond .lt 22, 3) := by decide +kernel
theorem jX9_spoil_9 : decode cX9_spoil 9 = .ok (.if_icmp .ge 14, 3) := by decide +kernel
theorem jX9_spoil_13 : decode cX9_spoil 13 = .ok (.ifCond .lt 10, 3) := by decide +kernel
theorem jX9_spoil_20 : decode cX9_spoil 20 = .ok (.if_icmp .le 5, 3) := by decide +kernel
theorem jX9_spoil_24 : decode cX9_spoil 24 = .ok (.ireturn, 1) := by decide +kernel
theorem jX9_spoil_41 : decode cX9_spoil 41 = .ok (.ireturn, 1) := by decide +kernel
def bX9_octet_0 : List Ent := [e0 0 (.iload_n 1)]
theorem oX9_octet_0 : okB ftX9 ctX9 cX9_octet 1 bX9_octet_0 = true := by decide +kernel
def bX9_octet_4 : List Ent := [e0 4 (.iload_n 1), e0 5 (.aload_n 0), ef 6 (.getfield 147) .null 8 8]
theorem oX9_octet_4 : okB ftX9 ctX9 cX9_octet 9 bX9_octet_4 = true := by decide +kernel
def bX9_octet_12 : List Ent := [ec 12 (.iconst (-1)) (.int (-1)), e0 13 (.goto 9)]
theorem oX9_octet_12 : okB ftX9 ctX9 cX9_octet 22 bX9_octet_12 = true := by decide +kernel
def bX9_octet_16 : List Ent := [e0 16 (.aload_n 0), ef 17 (.getfield 26) .null 8 7, e0 20 (.iload_n 1), e0 21 .iaload]
theorem oX9_octet_16 : okB ftX9 ctX9 cX9_octet 22 bX9_octet_16 = true := by decide +kernel
theorem jX9_octet_1 : decode cX9_octet 1 = .ok (.ifCond .lt 11, 3) := by decide +kernel
theorem jX9_octet_9 : decode cX9_octet 9 = .ok (.if_icmp .lt 7, 3) := by decide +kernel
theorem jX9_octet_22 : decode cX9_octet 22 = .ok (.ireturn, 1) := by decide +kernel
def bX9_numeral_0 : List Ent := [ec 0 (.lconst 0) (.long 0), e0 1 (.lstore_n 2), ec 2 (.iconst 0) (.int 0), e0 3 (.istore 4)]
theorem oX9_numeral_0 : okB ftX9 ctX9 cX9_numeral 5 bX9_numeral_0 = true := by decide +kernel
def bX9_numeral_5 : List Ent := [e0 5 (.iload 4), e0 7 (.iload_n 1)]
theorem oX9_numeral_5 : okB ftX9 ctX9 cX9_numeral 8 bX9_numeral_5 = true := by decide +kernel
def bX9_numeral_11 : List Ent := [e0 11 (.lload_n 2), ec 12 (.bipush 8) (.int 8), e0 14 .lshl, e0 15 (.aload_n 0), ef 16 (.getfield 169) .null 8 34, e0 19 (.aload_n 0), ef 20 (.getfield 147) .null 8 8]
theorem oX9_numeral_11 : okB ftX9 ctX9 cX9_numeral 23 bX9_numeral_11 = true := by decide +kernel
def bX9_numeral_26 : List Ent := [e0 26 (.aload_n 0), ef 27 (.getfield 26) .null 8 7, e0 30 (.aload_n 0), ef 31 (.getfield 169) .null 8 34, e0 34 .iaload, e0 35 (.goto 4)]
theorem oX9_numeral_26 : okB ftX9 ctX9 cX9_numeral 39 bX9_numeral_26 = true := by decide +kernel
def bX9_numeral_38 : List Ent := [ec 38 (.iconst 0) (.int 0)]
theorem oX9_numeral_38 : okB ftX9 ctX9 cX9_numeral 39 bX9_numeral_38 = true := by decide +kernel
def bX9_numeral_39 : List Ent := [e0 39 .i2l, e0 40 .lor, e0 41 (.lstore_n 2), e0 42 (.aload_n 0), e0 43 .dup, ef 44 (.getfield 169) .null 8 34, ec 47 (.iconst 1) (.int 1), e0 48 .iadd, ef 49 (.putfield 169) (.int 0) 8 34, ec 52 (.iinc 4 1) (.int 1), e0 55 (.goto (-50))]
theorem oX9_numeral_39 : okB ftX9 ctX9 cX9_numeral 5 bX9_numeral_39 = true := by decide +kernel
def bX9_numeral_58 : List Ent := [e0 58 (.lload_n 2)]
theorem oX9_numeral_58 : okB ftX9 ctX9 cX9_numeral 59 bX9_numeral_58 = true := by decide +kernel
theorem jX9_numeral_8 : decode cX9_numeral 8 = .ok (.if_icmp .ge 50, 3) := by decide +kernel
theorem jX9_numeral_23 : decode cX9_numeral 23 = .ok (.if_icmp .ge 15, 3) := by decide +kernel
theorem jX9_numeral_59 : decode cX9_numeral 59 = .ok (.lreturn, 1) := by decide +kernel
def bX9_sumUp_0 : List Ent := [ec 0 (.iconst 1) (.int 1), e0 1 (.istore_n 2), e0 2 (.aload_n 0), ef 3 (.getfield 74) .null 8 27, ec 6 (.iconst 0) (.int 0), e0 7 (.iload_n 1), e0 8 .iastore, ec 9 (.iconst 0) (.int 0), e0 10 (.istore_n 3)]
theorem oX9_sumUp_0 : okB ftX9 ctX9 cX9_sumUp 11 bX9_sumUp_0 = true := by decide +kernel
def bX9_sumUp_11 : List Ent := [e0 11 (.iload_n 3), e0 12 (.iload_n 2)]
theorem oX9_sumUp_11 : okB ftX9 ctX9 cX9_sumUp 13 bX9_sumUp_11 = true := by decide +kernel
def bX9_sumUp_16 : List Ent := [e0 16 (.aload_n 0), ef 17 (.getfield 74) .null 8 27, e0 20 (.iload_n 3), e0 21 .iaload, e0 22 (.istore 4), e0 24 (.aload_n 0), ef 25 (.getfield 53) .null 8 20, e0 28 (.iload 4), e0 30 .iaload, ec 31 (.iconst 1) (.int 1)]
theorem oX9_sumUp_16 : okB ftX9 ctX9 cX9_sumUp 32 bX9_sumUp_16 = true := by decide +kernel
def bX9_sumUp_35 : List Ent := [e0 35 (.aload_n 0), ef 36 (.getfield 74) .null 8 27, e0 39 (.iload_n 2), e0 40 (.aload_n 0), ef 41 (.getfield 65) .null 8 24, e0 44 (.iload 4), e0 46 .iaload, e0 47 .iastore, e0 48 (.aload_n 0), ef 49 (.getfield 74) .null 8 27, e0 52 (.iload_n 2), ec 53 (.iconst 1) (.int 1), e0 54 .iadd, e0 55 (.aload_n 0), ef 56 (.getfield 68) .null 8 25, e0 59 (.iload 4), e0 61 .iaload, e0 62 .iastore, ec 63 (.iinc 2 2) (.int 2)]
theorem oX9_sumUp_35 : okB ftX9 ctX9 cX9_sumUp 66 bX9_sumUp_35 = true := by decide +kernel
def bX9_sumUp_66 : List Ent := [ec 66 (.iinc 3 1) (.int 1), e0 69 (.goto (-58))]
theorem oX9_sumUp_66 : okB ftX9 ctX9 cX9_sumUp 11 bX9_sumUp_66 = true := by decide +kernel
def bX9_sumUp_72 : List Ent := [e0 72 (.iload_n 2), ec 73 (.iconst 1) (.int 1), e0 74 .isub, e0 75 (.istore_n 3)]
theorem oX9_sumUp_72 : okB ftX9 ctX9 cX9_sumUp 76 bX9_sumUp_72 = true := by decide +kernel
def bX9_sumUp_76 : List Ent := [e0 76 (.iload_n 3)]
theorem oX9_sumUp_76 : okB ftX9 ctX9 cX9_sumUp 77 bX9_sumUp_76 = true := by decide +kernel
def bX9_sumUp_80 : List Ent := [e0 80 (.aload_n 0), ef 81 (.getfield 74) .null 8 27, e0 84 (.iload_n 3), e0 85 .iaload, e0 86 (.istore 4), e0 88 (.aload_n 0), ef 89 (.getfield 71) .null 8 26, e0 92 (.iload 4), e0 94 (.aload_n 0), ef 95 (.getfield 53) .null 8 20, e0 98 (.iload 4), e0 100 .iaload]
theorem oX9_sumUp_80 : okB ftX9 ctX9 cX9_sumUp 101 bX9_sumUp_80 = true := by decide +kernel
def bX9_sumUp_104 : List Ent := [e0 104 (.aload_n 0), ef 105 (.getfield 62) .null 8 23, e0 108 (.iload 4), e0 110 .laload, e0 111 (.goto 96)]
theorem oX9_sumUp_104 : okB ftX9 ctX9 cX9_sumUp 207 bX9_sumUp_104 = true := by decide +kernel
def bX9_sumUp_114 : List Ent := [e0 114 (.aload_n 0), ef 115 (.getfield 53) .null 8 20, e0 118 (.iload 4), e0 120 .iaload, ec 121 (.iconst 2) (.int 2)]
theorem oX9_sumUp_114 : okB ftX9 ctX9 cX9_sumUp 122 bX9_sumUp_114 = true := by decide +kernel
def bX9_sumUp_125 : List Ent := [e0 125 (.aload_n 0), ef 126 (.getfield 59) .null 8 22, e0 129 (.iload 4), e0 131 .iaload, e0 132 (.aload_n 0), ef 133 (.getfield 62) .null 8 23, e0 136 (.iload 4), e0 138 .laload]
theorem oX9_sumUp_125 : okB ftX9 ctX9 cX9_sumUp 139 bX9_sumUp_125 = true := by decide +kernel
def bX9_sumUp_142 : List Ent := [e0 142 (.goto 65)]
theorem oX9_sumUp_142 : okB ftX9 ctX9 cX9_sumUp 207 bX9_sumUp_142 = true := by decide +kernel
def bX9_sumUp_145 : List Ent := [e0 145 (.aload_n 0), ef 146 (.getfield 53) .null 8 20, e0 149 (.iload 4), e0 151 .iaload, ec 152 (.iconst 3) (.int 3)]
theorem oX9_sumUp_145 : okB ftX9 ctX9 cX9_sumUp 153 bX9_sumUp_145 = true := by decide +kernel
def bX9_sumUp_156 : List Ent := [ec 156 (.lconst 0) (.long 0), ec 157 (.ldc2_w 112) (.long (3))]
theorem oX9_sumUp_156 : okB ftX9 ctX9 cX9_sumUp 160 bX9_sumUp_156 = true := by decide +kernel
def bX9_sumUp_163 : List Ent := [e0 163 (.goto 44)]
theorem oX9_sumUp_163 : okB ftX9 ctX9 cX9_sumUp 207 bX9_sumUp_163 = true := by decide +kernel
def bX9_sumUp_166 : List Ent := [e0 166 (.aload_n 0), ef 167 (.getfield 56) .null 8 21, e0 170 (.iload 4), e0 172 .iaload, e0 173 (.aload_n 0), ef 174 (.getfield 59) .null 8 22, e0 177 (.iload 4), e0 179 .iaload, e0 180 (.aload_n 0), ef 181 (.getfield 71) .null 8 26, e0 184 (.aload_n 0), ef 185 (.getfield 65) .null 8 24, e0 188 (.iload 4), e0 190 .iaload, e0 191 .laload, e0 192 (.aload_n 0), ef 193 (.getfield 71) .null 8 26, e0 196 (.aload_n 0), ef 197 (.getfield 68) .null 8 25, e0 200 (.iload 4), e0 202 .iaload, e0 203 .laload]
theorem oX9_sumUp_166 : okB ftX9 ctX9 cX9_sumUp 204 bX9_sumUp_166 = true := by decide +kernel
def bX9_sumUp_207 : List Ent := [e0 207 .lastore, ec 208 (.iinc 3 (-1)) (.int (-1)), e0 211 (.goto (-135))]
theorem oX9_sumUp_207 : okB ftX9 ctX9 cX9_sumUp 76 bX9_sumUp_207 = true := by decide +kernel
def bX9_sumUp_214 : List Ent := [e0 214 (.aload_n 0), ef 215 (.getfield 71) .null 8 26, e0 218 (.iload_n 1), e0 219 .laload]
theorem oX9_sumUp_214 : okB ftX9 ctX9 cX9_sumUp 220 bX9_sumUp_214 = true := by decide +kernel
theorem jX9_sumUp_13 : decode cX9_sumUp 13 = .ok (.if_icmp .ge 59, 3) := by decide +kernel
theorem jX9_sumUp_32 : decode cX9_sumUp 32 = .ok (.if_icmp .ne 34, 3) := by decide +kernel
theorem jX9_sumUp_77 : decode cX9_sumUp 77 = .ok (.ifCond .lt 137, 3) := by decide +kernel
theorem jX9_sumUp_101 : decode cX9_sumUp 101 = .ok (.ifCond .ne 13, 3) := by decide +kernel
theorem jX9_sumUp_122 : decode cX9_sumUp 122 = .ok (.if_icmp .ne 23, 3) := by decide +kernel
theorem jX9_sumUp_139 : decode cX9_sumUp 139 = .ok (.invokestatic 125, 3) := by decide +kernel
theorem jX9_sumUp_153 : decode cX9_sumUp 153 = .ok (.if_icmp .ne 13, 3) := by decide +kernel
theorem jX9_sumUp_160 : decode cX9_sumUp 160 = .ok (.invokestatic 92, 3) := by decide +kernel
theorem jX9_sumUp_204 : decode cX9_sumUp 204 = .ok (.invokestatic 121, 3) := by decide +kernel
theorem jX9_sumUp_220 : decode cX9_sumUp 220 = .ok (.lreturn, 1) := by decide +kernel
def bX9_taken_0 : List Ent := [e0 0 (.aload_n 0), ef 1 (.getfield 169) .null 8 34, e0 4 (.aload_n 0), ef 5 (.getfield 147) .null 8 8]
theorem oX9_taken_0 : okB ftX9 ctX9 cX9_taken 8 bX9_taken_0 = true := by decide +kernel
def bX9_taken_11 : List Ent := [e0 11 (.aload_n 0), e0 12 (.aload_n 0), ef 13 (.getfield 147) .null 8 8, ef 16 (.putfield 84) (.int 0) 8 33, ec 19 (.iconst 1) (.int 1)]
theorem oX9_taken_11 : okB ftX9 ctX9 cX9_taken 20 bX9_taken_11 = true := by decide +kernel
def bX9_taken_21 : List Ent := [e0 21 (.aload_n 0), e0 22 (.aload_n 0), ef 23 (.getfield 169) .null 8 34, ef 26 (.putfield 84) (.int 0) 8 33, e0 29 (.aload_n 0), ef 30 (.getfield 53) .null 8 20, e0 33 (.iload_n 1), e0 34 (.aload_n 0), ef 35 (.getfield 26) .null 8 7, e0 38 (.aload_n 0), ef 39 (.getfield 169) .null 8 34, e0 42 .iaload, e0 43 .iastore, e0 44 (.aload_n 0), e0 45 .dup, ef 46 (.getfield 169) .null 8 34, ec 49 (.iconst 1) (.int 1), e0 50 .iadd, ef 51 (.putfield 169) (.int 0) 8 34, e0 54 (.aload_n 0), ef 55 (.getfield 53) .null 8 20, e0 58 (.iload_n 1), e0 59 .iaload, ec 60 (.iconst 3) (.int 3)]
theorem oX9_taken_21 : okB ftX9 ctX9 cX9_taken 61 bX9_taken_21 = true := by decide +kernel
def bX9_taken_64 : List Ent := [e0 64 (.aload_n 0), ef 65 (.getfield 53) .null 8 20, e0 68 (.iload_n 1), e0 69 .iaload, ec 70 (.iconst 3) (.int 3)]
theorem oX9_taken_64 : okB ftX9 ctX9 cX9_taken 71 bX9_taken_64 = true := by decide +kernel
def bX9_taken_74 : List Ent := [e0 74 (.iload_n 2)]
theorem oX9_taken_74 : okB ftX9 ctX9 cX9_taken 75 bX9_taken_74 = true := by decide +kernel
def bX9_taken_78 : List Ent := [ec 78 (.iconst 2) (.int 2)]
theorem oX9_taken_78 : okB ftX9 ctX9 cX9_taken 79 bX9_taken_78 = true := by decide +kernel
def bX9_taken_80 : List Ent := [e0 80 (.aload_n 0), ef 81 (.getfield 53) .null 8 20, e0 84 (.iload_n 1), e0 85 .iaload]
theorem oX9_taken_80 : okB ftX9 ctX9 cX9_taken 86 bX9_taken_80 = true := by decide +kernel
def bX9_taken_89 : List Ent := [e0 89 (.aload_n 0), ef 90 (.getfield 62) .null 8 23, e0 93 (.iload_n 1), e0 94 (.aload_n 0), ec 95 (.bipush 8) (.int 8)]
theorem oX9_taken_89 : okB ftX9 ctX9 cX9_taken 97 bX9_taken_89 = true := by decide +kernel
def bX9_taken_100 : List Ent := [e0 100 .lastore, e0 101 (.goto 240)]
theorem oX9_taken_100 : okB ftX9 ctX9 cX9_taken 341 bX9_taken_100 = true := by decide +kernel
def bX9_taken_104 : List Ent := [e0 104 (.aload_n 0), ef 105 (.getfield 53) .null 8 20, e0 108 (.iload_n 1), e0 109 .iaload, ec 110 (.iconst 1) (.int 1)]
theorem oX9_taken_104 : okB ftX9 ctX9 cX9_taken 111 bX9_taken_104 = true := by decide +kernel
def bX9_taken_114 : List Ent := [e0 114 (.aload_n 0), e0 115 (.aload_n 0), ef 116 (.getfield 169) .null 8 34, ef 119 (.putfield 84) (.int 0) 8 33, e0 122 (.aload_n 0), ef 123 (.getfield 56) .null 8 21, e0 126 (.iload_n 1), e0 127 (.aload_n 0), ec 128 (.iconst 1) (.int 1)]
theorem oX9_taken_114 : okB ftX9 ctX9 cX9_taken 129 bX9_taken_114 = true := by decide +kernel
def bX9_taken_132 : List Ent := [e0 132 .l2i, e0 133 .iastore, e0 134 (.aload_n 0), ef 135 (.getfield 169) .null 8 34, e0 138 (.aload_n 0), ef 139 (.getfield 147) .null 8 8]
theorem oX9_taken_132 : okB ftX9 ctX9 cX9_taken 142 bX9_taken_132 = true := by decide +kernel
def bX9_taken_145 : List Ent := [e0 145 (.aload_n 0), ef 146 (.getfield 56) .null 8 21, e0 149 (.iload_n 1), e0 150 .iaload, ec 151 (.bipush 15) (.int 15)]
theorem oX9_taken_145 : okB ftX9 ctX9 cX9_taken 153 bX9_taken_145 = true := by decide +kernel
def bX9_taken_156 : List Ent := [ec 156 (.iconst 3) (.int 3)]
theorem oX9_taken_156 : okB ftX9 ctX9 cX9_taken 157 bX9_taken_156 = true := by decide +kernel
def bX9_taken_158 : List Ent := [e0 158 (.aload_n 0), e0 159 (.aload_n 0), ef 160 (.getfield 169) .null 8 34, ef 163 (.putfield 84) (.int 0) 8 33, e0 166 (.aload_n 0), ef 167 (.getfield 59) .null 8 22, e0 170 (.iload_n 1), e0 171 (.aload_n 0), ec 172 (.iconst 2) (.int 2)]
theorem oX9_taken_158 : okB ftX9 ctX9 cX9_taken 173 bX9_taken_158 = true := by decide +kernel
def bX9_taken_176 : List Ent := [e0 176 .l2i, e0 177 .iastore, e0 178 (.aload_n 0), ef 179 (.getfield 169) .null 8 34, e0 182 (.aload_n 0), ef 183 (.getfield 147) .null 8 8]
theorem oX9_taken_176 : okB ftX9 ctX9 cX9_taken 186 bX9_taken_176 = true := by decide +kernel
def bX9_taken_189 : List Ent := [e0 189 (.aload_n 0), ef 190 (.getfield 59) .null 8 22, e0 193 (.iload_n 1), e0 194 .iaload, e0 195 (.aload_n 0), ef 196 (.getfield 56) .null 8 21, e0 199 (.iload_n 1), e0 200 .iaload]
theorem oX9_taken_189 : okB ftX9 ctX9 cX9_taken 201 bX9_taken_189 = true := by decide +kernel
def bX9_taken_204 : List Ent := [e0 204 (.aload_n 0), ef 205 (.getfield 59) .null 8 22, e0 208 (.iload_n 1), e0 209 .iaload]
theorem oX9_taken_204 : okB ftX9 ctX9 cX9_taken 210 bX9_taken_204 = true := by decide +kernel
def bX9_taken_213 : List Ent := [e0 213 (.aload_n 0), ef 214 (.getfield 59) .null 8 22, e0 217 (.iload_n 1), e0 218 .iaload, e0 219 (.iload_n 3)]
theorem oX9_taken_213 : okB ftX9 ctX9 cX9_taken 220 bX9_taken_213 = true := by decide +kernel
def bX9_taken_223 : List Ent := [e0 223 (.aload_n 0), ef 224 (.getfield 59) .null 8 22, e0 227 (.iload_n 1), e0 228 .iaload, ec 229 (.iconst 1) (.int 1), ec 230 (.bipush 16) (.int 16), e0 232 (.aload_n 0), ef 233 (.getfield 56) .null 8 21, e0 236 (.iload_n 1), e0 237 .iaload, e0 238 .isub, e0 239 .ishl, e0 240 .iadd, ec 241 (.iconst 1) (.int 1), e0 242 .isub, e0 243 (.iload 4)]
theorem oX9_taken_223 : okB ftX9 ctX9 cX9_taken 245 bX9_taken_223 = true := by decide +kernel
def bX9_taken_248 : List Ent := [ec 248 (.iconst 1) (.int 1), e0 249 (.goto 4)]
theorem oX9_taken_248 : okB ftX9 ctX9 cX9_taken 253 bX9_taken_248 = true := by decide +kernel
def bX9_taken_252 : List Ent := [ec 252 (.iconst 0) (.int 0)]
theorem oX9_taken_252 : okB ftX9 ctX9 cX9_taken 253 bX9_taken_252 = true := by decide +kernel
def bX9_taken_253 : List Ent := [e0 253 (.istore 5), e0 255 (.iload 5)]
theorem oX9_taken_253 : okB ftX9 ctX9 cX9_taken 257 bX9_taken_253 = true := by decide +kernel
def bX9_taken_260 : List Ent := [ec 260 (.iconst 4) (.int 4)]
theorem oX9_taken_260 : okB ftX9 ctX9 cX9_taken 261 bX9_taken_260 = true := by decide +kernel
def bX9_taken_262 : List Ent := [e0 262 (.goto 79)]
theorem oX9_taken_262 : okB ftX9 ctX9 cX9_taken 341 bX9_taken_262 = true := by decide +kernel
def bX9_taken_265 : List Ent := [e0 265 (.aload_n 0), ef 266 (.getfield 53) .null 8 20, e0 269 (.iload_n 1), e0 270 .iaload, ec 271 (.iconst 2) (.int 2)]
theorem oX9_taken_265 : okB ftX9 ctX9 cX9_taken 272 bX9_taken_265 = true := by decide +kernel
def bX9_taken_275 : List Ent := [e0 275 (.aload_n 0), e0 276 (.aload_n 0), ef 277 (.getfield 169) .null 8 34, ef 280 (.putfield 84) (.int 0) 8 33, e0 283 (.aload_n 0), ef 284 (.getfield 59) .null 8 22, e0 287 (.iload_n 1), e0 288 (.aload_n 0), ec 289 (.iconst 2) (.int 2)]
theorem oX9_taken_275 : okB ftX9 ctX9 cX9_taken 290 bX9_taken_275 = true := by decide +kernel
def bX9_taken_293 : List Ent := [e0 293 .l2i, e0 294 .iastore, e0 295 (.aload_n 0), ef 296 (.getfield 169) .null 8 34, e0 299 (.aload_n 0), ef 300 (.getfield 147) .null 8 8]
theorem oX9_taken_293 : okB ftX9 ctX9 cX9_taken 303 bX9_taken_293 = true := by decide +kernel
def bX9_taken_306 : List Ent := [e0 306 (.aload_n 0), ef 307 (.getfield 59) .null 8 22, e0 310 (.iload_n 1), e0 311 .iaload, e0 312 (.iload_n 3)]
theorem oX9_taken_306 : okB ftX9 ctX9 cX9_taken 313 bX9_taken_306 = true := by decide +kernel
def bX9_taken_316 : List Ent := [e0 316 (.aload_n 0), ef 317 (.getfield 59) .null 8 22, e0 320 (.iload_n 1), e0 321 .iaload, e0 322 (.iload 4)]
theorem oX9_taken_316 : okB ftX9 ctX9 cX9_taken 324 bX9_taken_316 = true := by decide +kernel
def bX9_taken_327 : List Ent := [ec 327 (.iconst 5) (.int 5)]
theorem oX9_taken_327 : okB ftX9 ctX9 cX9_taken 328 bX9_taken_327 = true := by decide +kernel
def bX9_taken_329 : List Ent := [e0 329 (.aload_n 0), ef 330 (.getfield 62) .null 8 23, e0 333 (.iload_n 1), e0 334 (.aload_n 0), ec 335 (.bipush 8) (.int 8)]
theorem oX9_taken_329 : okB ftX9 ctX9 cX9_taken 337 bX9_taken_329 = true := by decide +kernel
def bX9_taken_340 : List Ent := [e0 340 .lastore]
theorem oX9_taken_340 : okB ftX9 ctX9 cX9_taken 341 bX9_taken_340 = true := by decide +kernel
def bX9_taken_341 : List Ent := [e0 341 (.aload_n 0), e0 342 (.aload_n 0), ef 343 (.getfield 169) .null 8 34, e0 346 (.aload_n 0), ef 347 (.getfield 147) .null 8 8]
theorem oX9_taken_341 : okB ftX9 ctX9 cX9_taken 350 bX9_taken_341 = true := by decide +kernel
def bX9_taken_353 : List Ent := [e0 353 (.aload_n 0), ef 354 (.getfield 147) .null 8 8, e0 357 (.goto 7)]
theorem oX9_taken_353 : okB ftX9 ctX9 cX9_taken 364 bX9_taken_353 = true := by decide +kernel
def bX9_taken_360 : List Ent := [e0 360 (.aload_n 0), ef 361 (.getfield 84) .null 8 33]
theorem oX9_taken_360 : okB ftX9 ctX9 cX9_taken 364 bX9_taken_360 = true := by decide +kernel
def bX9_taken_364 : List Ent := [ef 364 (.putfield 84) (.int 0) 8 33, e0 367 (.aload_n 0), ef 368 (.getfield 169) .null 8 34, e0 371 (.aload_n 0), ef 372 (.getfield 147) .null 8 8]
theorem oX9_taken_364 : okB ftX9 ctX9 cX9_taken 375 bX9_taken_364 = true := by decide +kernel
def bX9_taken_378 : List Ent := [ec 378 (.iconst 1) (.int 1), e0 379 (.goto 4)]
theorem oX9_taken_378 : okB ftX9 ctX9 cX9_taken 383 bX9_taken_378 = true := by decide +kernel
def bX9_taken_382 : List Ent := [ec 382 (.iconst 0) (.int 0)]
theorem oX9_taken_382 : okB ftX9 ctX9 cX9_taken 383 bX9_taken_382 = true := by decide +kernel
theorem jX9_taken_8 : decode cX9_taken 8 = .ok (.if_icmp .lt 13, 3) := by decide +kernel
theorem jX9_taken_20 : decode cX9_taken 20 = .ok (.ireturn, 1) := by decide +kernel
theorem jX9_taken_61 : decode cX9_taken 61 = .ok (.if_icmp .gt 17, 3) := by decide +kernel
theorem jX9_taken_71 : decode cX9_taken 71 = .ok (.if_icmp .ne 9, 3) := by decide +kernel
theorem jX9_taken_75 : decode cX9_taken 75 = .ok (.ifCond .ne 5, 3) := by decide +kernel
theorem jX9_taken_79 : decode cX9_taken 79 = .ok (.ireturn, 1) := by decide +kernel
theorem jX9_taken_86 : decode cX9_taken 86 = .ok (.ifCond .ne 18, 3) := by decide +kernel
theorem jX9_taken_97 : decode cX9_taken 97 = .ok (.invokevirtual 172, 3) := by decide +kernel
theorem jX9_taken_111 : decode cX9_taken 111 = .ok (.if_icmp .ne 154, 3) := by decide +kernel
theorem jX9_taken_129 : decode cX9_taken 129 = .ok (.invokevirtual 172, 3) := by decide +kernel
theorem jX9_taken_142 : decode cX9_taken 142 = .ok (.if_icmp .gt 16, 3) := by decide +kernel
theorem jX9_taken_153 : decode cX9_taken 153 = .ok (.if_icmp .le 5, 3) := by decide +kernel
theorem jX9_taken_157 : decode cX9_taken 157 = .ok (.ireturn, 1) := by decide +kernel
theorem jX9_taken_173 : decode cX9_taken 173 = .ok (.invokevirtual 172, 3) := by decide +kernel
theorem jX9_taken_186 : decode cX9_taken 186 = .ok (.if_icmp .gt 62, 3) := by decide +kernel
theorem jX9_taken_201 : decode cX9_taken 201 = .ok (.invokestatic 118, 3) := by decide +kernel
theorem jX9_taken_210 : decode cX9_taken 210 = .ok (.if_icmp .ne 42, 3) := by decide +kernel
theorem jX9_taken_220 : decode cX9_taken 220 = .ok (.if_icmp .lt 32, 3) := by decide +kernel
theorem jX9_taken_245 : decode cX9_taken 245 = .ok (.if_icmp .gt 7, 3) := by decide +kernel
theorem jX9_taken_257 : decode cX9_taken 257 = .ok (.ifCond .ne 5, 3) := by decide +kernel
theorem jX9_taken_261 : decode cX9_taken 261 = .ok (.ireturn, 1) := by decide +kernel
theorem jX9_taken_272 : decode cX9_taken 272 = .ok (.if_icmp .ne 69, 3) := by decide +kernel
theorem jX9_taken_290 : decode cX9_taken 290 = .ok (.invokevirtual 172, 3) := by decide +kernel
theorem jX9_taken_303 : decode cX9_taken 303 = .ok (.if_icmp .gt 26, 3) := by decide +kernel
theorem jX9_taken_313 : decode cX9_taken 313 = .ok (.if_icmp .lt 14, 3) := by decide +kernel
theorem jX9_taken_324 : decode cX9_taken 324 = .ok (.if_icmp .le 5, 3) := by decide +kernel
theorem jX9_taken_328 : decode cX9_taken 328 = .ok (.ireturn, 1) := by decide +kernel
theorem jX9_taken_337 : decode cX9_taken 337 = .ok (.invokevirtual 172, 3) := by decide +kernel
theorem jX9_taken_350 : decode cX9_taken 350 = .ok (.if_icmp .le 10, 3) := by decide +kernel
theorem jX9_taken_375 : decode cX9_taken 375 = .ok (.if_icmp .le 7, 3) := by decide +kernel
theorem jX9_taken_383 : decode cX9_taken 383 = .ok (.ireturn, 1) := by decide +kernel
def bX9_take_0 : List Ent := [ec 0 (.sipush 800) (.int 800), e0 3 (.aload_n 0), ef 4 (.getfield 176) .null 8 28, e0 7 .isub, e0 8 (.istore_n 3), ec 9 (.iconst 1) (.int 1), e0 10 (.istore 4), ec 12 (.iconst 0) (.int 0), e0 13 (.istore 5), e0 15 (.aload_n 0), ec 16 (.iconst 0) (.int 0), ef 17 (.putfield 169) (.int 0) 8 34, e0 20 (.aload_n 0), ec 21 (.iconst 0) (.int 0), ef 22 (.putfield 150) (.int 0) 8 19, e0 25 (.aload_n 0), e0 26 (.iload_n 3), ec 27 (.iconst 0) (.int 0), ec 28 (.iconst 0) (.int 0), ec 29 (.ldc 87) (.int 65535)]
theorem oX9_take_0 : okB ftX9 ctX9 cX9_take 31 bX9_take_0 = true := by decide +kernel
def bX9_take_34 : List Ent := [e0 34 (.aload_n 0), ef 35 (.getfield 150) .null 8 19]
theorem oX9_take_34 : okB ftX9 ctX9 cX9_take 38 bX9_take_34 = true := by decide +kernel
def bX9_take_41 : List Ent := [e0 41 (.iload 5)]
theorem oX9_take_41 : okB ftX9 ctX9 cX9_take 43 bX9_take_41 = true := by decide +kernel
def bX9_take_46 : List Ent := [e0 46 (.aload_n 0), e0 47 .dup, ef 48 (.getfield 150) .null 8 19, ec 51 (.iconst 1) (.int 1), e0 52 .isub, ef 53 (.putfield 150) (.int 0) 8 19, e0 56 (.aload_n 0), ef 57 (.getfield 41) .null 8 15, e0 60 (.aload_n 0), ef 61 (.getfield 150) .null 8 19, e0 64 .iaload, e0 65 (.istore 6), e0 67 (.aload_n 0), e0 68 (.iload 6), e0 70 (.iload 6), e0 72 (.iload_n 3)]
theorem oX9_take_46 : okB ftX9 ctX9 cX9_take 73 bX9_take_46 = true := by decide +kernel
def bX9_take_76 : List Ent := [ec 76 (.iconst 1) (.int 1), e0 77 (.goto 4)]
theorem oX9_take_76 : okB ftX9 ctX9 cX9_take 81 bX9_take_76 = true := by decide +kernel
def bX9_take_80 : List Ent := [ec 80 (.iconst 0) (.int 0)]
theorem oX9_take_80 : okB ftX9 ctX9 cX9_take 81 bX9_take_80 = true := by decide +kernel
def bX9_take_81 : List Ent := [e0 81 (.aload_n 0), ef 82 (.getfield 47) .null 8 17, e0 85 (.aload_n 0), ef 86 (.getfield 150) .null 8 19, e0 89 .iaload, e0 90 (.aload_n 0), ef 91 (.getfield 50) .null 8 18, e0 94 (.aload_n 0), ef 95 (.getfield 150) .null 8 19, e0 98 .iaload]
theorem oX9_take_81 : okB ftX9 ctX9 cX9_take 99 bX9_take_81 = true := by decide +kernel
def bX9_take_102 : List Ent := [e0 102 (.istore 5), e0 104 (.iload 5)]
theorem oX9_take_102 : okB ftX9 ctX9 cX9_take 106 bX9_take_102 = true := by decide +kernel
def bX9_take_109 : List Ent := [e0 109 (.aload_n 0), ef 110 (.getfield 53) .null 8 20, e0 113 (.iload 6), e0 115 .iaload, ec 116 (.iconst 1) (.int 1)]
theorem oX9_take_109 : okB ftX9 ctX9 cX9_take 117 bX9_take_109 = true := by decide +kernel
def bX9_take_120 : List Ent := [e0 120 (.iload 4), ec 122 (.sipush 790) (.int 790)]
theorem oX9_take_120 : okB ftX9 ctX9 cX9_take 125 bX9_take_120 = true := by decide +kernel
def bX9_take_128 : List Ent := [e0 128 (.aload_n 0), ef 129 (.getfield 59) .null 8 22, e0 132 (.iload 6), e0 134 .iaload, ec 135 (.iconst 1) (.int 1), ec 136 (.bipush 15) (.int 15), e0 138 (.aload_n 0), ef 139 (.getfield 56) .null 8 21, e0 142 (.iload 6), e0 144 .iaload, e0 145 .isub, e0 146 .ishl, e0 147 .iadd, e0 148 (.istore 7), e0 150 (.aload_n 0), ef 151 (.getfield 65) .null 8 24, e0 154 (.iload 6), e0 156 (.iload_n 3), e0 157 (.iload 4), e0 159 .iadd, e0 160 .iastore, e0 161 (.aload_n 0), ef 162 (.getfield 68) .null 8 25, e0 165 (.iload 6), e0 167 (.iload_n 3), e0 168 (.iload 4), e0 170 .iadd, ec 171 (.iconst 1) (.int 1), e0 172 .iadd, e0 173 .iastore, ec 174 (.iinc 4 2) (.int 2), e0 177 (.aload_n 0), e0 178 (.aload_n 0), ef 179 (.getfield 68) .null 8 25, e0 182 (.iload 6), e0 184 .iaload, ec 185 (.iconst 0) (.int 0), e0 186 (.iload 7), e0 188 (.iload 7), ec 190 (.iconst 1) (.int 1), ec 191 (.bipush 15) (.int 15), e0 193 (.aload_n 0), ef 194 (.getfield 56) .null 8 21, e0 197 (.iload 6), e0 199 .iaload, e0 200 .isub, e0 201 .ishl, e0 202 .iadd, ec 203 (.iconst 1) (.int 1), e0 204 .isub]
theorem oX9_take_128 : okB ftX9 ctX9 cX9_take 205 bX9_take_128 = true := by decide +kernel
def bX9_take_208 : List Ent := [e0 208 (.aload_n 0), e0 209 (.aload_n 0), ef 210 (.getfield 65) .null 8 24, e0 213 (.iload 6), e0 215 .iaload, ec 216 (.iconst 0) (.int 0), e0 217 (.aload_n 0), ef 218 (.getfield 59) .null 8 22, e0 221 (.iload 6), e0 223 .iaload, e0 224 (.iload 7), ec 226 (.iconst 1) (.int 1), e0 227 .isub]
theorem oX9_take_208 : okB ftX9 ctX9 cX9_take 228 bX9_take_208 = true := by decide +kernel
def bX9_take_231 : List Ent := [e0 231 (.goto (-197))]
theorem oX9_take_231 : okB ftX9 ctX9 cX9_take 34 bX9_take_231 = true := by decide +kernel
def bX9_take_234 : List Ent := [e0 234 (.iload 5)]
theorem oX9_take_234 : okB ftX9 ctX9 cX9_take 236 bX9_take_234 = true := by decide +kernel
def bX9_take_239 : List Ent := [e0 239 (.aload_n 0), ef 240 (.getfield 169) .null 8 34, e0 243 (.aload_n 0), ef 244 (.getfield 147) .null 8 8]
theorem oX9_take_239 : okB ftX9 ctX9 cX9_take 247 bX9_take_239 = true := by decide +kernel
def bX9_take_250 : List Ent := [ec 250 (.bipush 6) (.int 6), e0 252 (.istore 5), e0 254 (.aload_n 0), e0 255 (.aload_n 0), ef 256 (.getfield 169) .null 8 34, ef 259 (.putfield 84) (.int 0) 8 33]
theorem oX9_take_250 : okB ftX9 ctX9 cX9_take 262 bX9_take_250 = true := by decide +kernel
def bX9_take_262 : List Ent := [e0 262 (.iload 5)]
theorem oX9_take_262 : okB ftX9 ctX9 cX9_take 264 bX9_take_262 = true := by decide +kernel
def bX9_take_267 : List Ent := [e0 267 (.aload_n 0), e0 268 (.iload_n 3)]
theorem oX9_take_267 : okB ftX9 ctX9 cX9_take 269 bX9_take_267 = true := by decide +kernel
def bX9_take_272 : List Ent := [e0 272 (.lload_n 1), e0 273 .lcmp]
theorem oX9_take_272 : okB ftX9 ctX9 cX9_take 274 bX9_take_272 = true := by decide +kernel
def bX9_take_277 : List Ent := [ec 277 (.bipush 7) (.int 7), e0 279 (.istore 5), e0 281 (.aload_n 0), ec 282 (.iconst 0) (.int 0), ef 283 (.putfield 84) (.int 0) 8 33]
theorem oX9_take_277 : okB ftX9 ctX9 cX9_take 286 bX9_take_277 = true := by decide +kernel
def bX9_take_286 : List Ent := [e0 286 (.iload 5)]
theorem oX9_take_286 : okB ftX9 ctX9 cX9_take 288 bX9_take_286 = true := by decide +kernel
def bX9_take_291 : List Ent := [ec 291 (.bipush (-10)) (.int (-10)), e0 293 (.iload 5), e0 295 .isub]
theorem oX9_take_291 : okB ftX9 ctX9 cX9_take 296 bX9_take_291 = true := by decide +kernel
def bX9_take_297 : List Ent := [e0 297 (.aload_n 0), ec 298 (.bipush (-2)) (.int (-2)), ef 300 (.putfield 84) (.int 0) 8 33, e0 303 (.aload_n 0), e0 304 (.iload_n 3), ef 305 (.putfield 176) (.int 0) 8 28, e0 308 (.aload_n 0), e0 309 (.iload_n 3), ef 310 (.putfield 77) (.int 0) 8 30, e0 313 (.aload_n 0), e0 314 (.iload 4), ef 316 (.putfield 186) (.int 0) 8 29, e0 319 (.aload_n 0), ec 320 (.iconst 0) (.int 0), ef 321 (.putfield 189) (.int 0) 8 32, ec 324 (.sipush 799) (.int 799), e0 327 (.istore 6)]
theorem oX9_take_297 : okB ftX9 ctX9 cX9_take 329 bX9_take_297 = true := by decide +kernel
def bX9_take_329 : List Ent := [e0 329 (.iload 6), e0 331 (.iload 4)]
theorem oX9_take_329 : okB ftX9 ctX9 cX9_take 333 bX9_take_329 = true := by decide +kernel
def bX9_take_336 : List Ent := [e0 336 (.aload_n 0), ef 337 (.getfield 81) .null 8 31, e0 340 (.aload_n 0), ef 341 (.getfield 189) .null 8 32, e0 344 (.iload_n 3), e0 345 (.iload 6), e0 347 .iadd, e0 348 .iastore, e0 349 (.aload_n 0), e0 350 .dup, ef 351 (.getfield 189) .null 8 32, ec 354 (.iconst 1) (.int 1), e0 355 .iadd, ef 356 (.putfield 189) (.int 0) 8 32, ec 359 (.iinc 6 (-1)) (.int (-1)), e0 362 (.goto (-33))]
theorem oX9_take_336 : okB ftX9 ctX9 cX9_take 329 bX9_take_336 = true := by decide +kernel
def bX9_take_365 : List Ent := [e0 365 (.iload 4)]
theorem oX9_take_365 : okB ftX9 ctX9 cX9_take 367 bX9_take_365 = true := by decide +kernel
theorem jX9_take_31 : decode cX9_take 31 = .ok (.invokevirtual 153, 3) := by decide +kernel
theorem jX9_take_38 : decode cX9_take 38 = .ok (.ifCond .le 196, 3) := by decide +kernel
theorem jX9_take_43 : decode cX9_take 43 = .ok (.ifCond .ne 191, 3) := by decide +kernel
theorem jX9_take_73 : decode cX9_take 73 = .ok (.if_icmp .ne 7, 3) := by decide +kernel
theorem jX9_take_99 : decode cX9_take 99 = .ok (.invokevirtual 179, 3) := by decide +kernel
theorem jX9_take_106 : decode cX9_take 106 = .ok (.ifCond .ne 125, 3) := by decide +kernel
theorem jX9_take_117 : decode cX9_take 117 = .ok (.if_icmp .ne 114, 3) := by decide +kernel
theorem jX9_take_125 : decode cX9_take 125 = .ok (.if_icmp .ge 106, 3) := by decide +kernel
theorem jX9_take_205 : decode cX9_take 205 = .ok (.invokevirtual 153, 3) := by decide +kernel
theorem jX9_take_228 : decode cX9_take 228 = .ok (.invokevirtual 153, 3) := by decide +kernel
theorem jX9_take_236 : decode cX9_take 236 = .ok (.ifCond .ne 26, 3) := by decide +kernel
theorem jX9_take_247 : decode cX9_take 247 = .ok (.if_icmp .ge 15, 3) := by decide +kernel
theorem jX9_take_264 : decode cX9_take 264 = .ok (.ifCond .ne 22, 3) := by decide +kernel
theorem jX9_take_269 : decode cX9_take 269 = .ok (.invokevirtual 183, 3) := by decide +kernel
theorem jX9_take_274 : decode cX9_take 274 = .ok (.ifCond .eq 12, 3) := by decide +kernel
theorem jX9_take_288 : decode cX9_take 288 = .ok (.ifCond .le 9, 3) := by decide +kernel
theorem jX9_take_296 : decode cX9_take 296 = .ok (.ireturn, 1) := by decide +kernel
theorem jX9_take_333 : decode cX9_take 333 = .ok (.if_icmp .lt 32, 3) := by decide +kernel
theorem jX9_take_367 : decode cX9_take 367 = .ok (.ireturn, 1) := by decide +kernel
def bX9_place_0 : List Ent := [e0 0 (.aload_n 0), ef 1 (.getfield 84) .null 8 33]
theorem oX9_place_0 : okB ftX9 ctX9 cX9_place 4 bX9_place_0 = true := by decide +kernel
theorem jX9_place_4 : decode cX9_place 4 = .ok (.ireturn, 1) := by decide +kernel
def bX9_takesIn_0 : List Ent := [e0 0 (.iload_n 0), e0 1 (.iload_n 2)]
theorem oX9_takesIn_0 : okB ftX9 ctX9 cX9_takesIn 2 bX9_takesIn_0 = true := by decide +kernel
def bX9_takesIn_5 : List Ent := [e0 5 (.iload_n 1)]
theorem oX9_takesIn_5 : okB ftX9 ctX9 cX9_takesIn 6 bX9_takesIn_5 = true := by decide +kernel
def bX9_takesIn_9 : List Ent := [ec 9 (.iconst 1) (.int 1), e0 10 (.goto 4)]
theorem oX9_takesIn_9 : okB ftX9 ctX9 cX9_takesIn 14 bX9_takesIn_9 = true := by decide +kernel
def bX9_takesIn_13 : List Ent := [ec 13 (.iconst 0) (.int 0)]
theorem oX9_takesIn_13 : okB ftX9 ctX9 cX9_takesIn 14 bX9_takesIn_13 = true := by decide +kernel
theorem jX9_takesIn_2 : decode cX9_takesIn 2 = .ok (.invokestatic 118, 3) := by decide +kernel
theorem jX9_takesIn_6 : decode cX9_takesIn 6 = .ok (.if_icmp .ne 7, 3) := by decide +kernel
theorem jX9_takesIn_14 : decode cX9_takesIn 14 = .ok (.ireturn, 1) := by decide +kernel
def bX9_way_0 : List Ent := [e0 0 (.aload_n 0), e0 1 (.aload_n 0), ef 2 (.getfield 77) .null 8 30, ef 5 (.putfield 192) (.int 0) 8 35, e0 8 (.aload_n 0), ec 9 (.bipush (-2)) (.int (-2)), ef 11 (.putfield 195) (.int 0) 8 36]
theorem oX9_way_0 : okB ftX9 ctX9 cX9_way 14 bX9_way_0 = true := by decide +kernel
def bX9_way_14 : List Ent := [e0 14 (.aload_n 0), ef 15 (.getfield 53) .null 8 20, e0 18 (.aload_n 0), ef 19 (.getfield 192) .null 8 35, e0 22 .iaload, ec 23 (.iconst 1) (.int 1)]
theorem oX9_way_14 : okB ftX9 ctX9 cX9_way 24 bX9_way_14 = true := by decide +kernel
def bX9_way_27 : List Ent := [e0 27 (.iload_n 1), e0 28 (.aload_n 0), ef 29 (.getfield 59) .null 8 22, e0 32 (.aload_n 0), ef 33 (.getfield 192) .null 8 35, e0 36 .iaload, e0 37 (.aload_n 0), ef 38 (.getfield 56) .null 8 21, e0 41 (.aload_n 0), ef 42 (.getfield 192) .null 8 35, e0 45 .iaload]
theorem oX9_way_27 : okB ftX9 ctX9 cX9_way 46 bX9_way_27 = true := by decide +kernel
def bX9_way_52 : List Ent := [e0 52 (.aload_n 0), e0 53 (.aload_n 0), ef 54 (.getfield 192) .null 8 35, ef 57 (.putfield 195) (.int 0) 8 36, e0 60 (.aload_n 0), e0 61 (.iload_n 1), ec 62 (.bipush 15) (.int 15), e0 64 (.aload_n 0), ef 65 (.getfield 56) .null 8 21, e0 68 (.aload_n 0), ef 69 (.getfield 192) .null 8 35, e0 72 .iaload, e0 73 .isub, e0 74 .ishr, ec 75 (.iconst 1) (.int 1), e0 76 .iand]
theorem oX9_way_52 : okB ftX9 ctX9 cX9_way 77 bX9_way_52 = true := by decide +kernel
def bX9_way_80 : List Ent := [e0 80 (.aload_n 0), ef 81 (.getfield 65) .null 8 24, e0 84 (.aload_n 0), ef 85 (.getfield 192) .null 8 35, e0 88 .iaload, e0 89 (.goto 12)]
theorem oX9_way_80 : okB ftX9 ctX9 cX9_way 101 bX9_way_80 = true := by decide +kernel
def bX9_way_92 : List Ent := [e0 92 (.aload_n 0), ef 93 (.getfield 68) .null 8 25, e0 96 (.aload_n 0), ef 97 (.getfield 192) .null 8 35, e0 100 .iaload]
theorem oX9_way_92 : okB ftX9 ctX9 cX9_way 101 bX9_way_92 = true := by decide +kernel
def bX9_way_101 : List Ent := [ef 101 (.putfield 192) (.int 0) 8 35, e0 104 (.goto (-90))]
theorem oX9_way_101 : okB ftX9 ctX9 cX9_way 14 bX9_way_101 = true := by decide +kernel
theorem jX9_way_24 : decode cX9_way 24 = .ok (.if_icmp .ne 83, 3) := by decide +kernel
theorem jX9_way_46 : decode cX9_way 46 = .ok (.invokestatic 198, 3) := by decide +kernel
theorem jX9_way_49 : decode cX9_way 49 = .ok (.ifCond .eq 58, 3) := by decide +kernel
theorem jX9_way_77 : decode cX9_way 77 = .ok (.ifCond .ne 15, 3) := by decide +kernel
theorem jX9_way_107 : decode cX9_way 107 = .ok (.return_, 1) := by decide +kernel
def bX9_isThere_0 : List Ent := [e0 0 (.aload_n 0), ef 1 (.getfield 53) .null 8 20, e0 4 (.aload_n 0), ef 5 (.getfield 192) .null 8 35, e0 8 .iaload, ec 9 (.iconst 2) (.int 2)]
theorem oX9_isThere_0 : okB ftX9 ctX9 cX9_isThere 10 bX9_isThere_0 = true := by decide +kernel
def bX9_isThere_13 : List Ent := [e0 13 (.aload_n 0), ef 14 (.getfield 59) .null 8 22, e0 17 (.aload_n 0), ef 18 (.getfield 192) .null 8 35, e0 21 .iaload, e0 22 (.iload_n 1)]
theorem oX9_isThere_13 : okB ftX9 ctX9 cX9_isThere 23 bX9_isThere_13 = true := by decide +kernel
def bX9_isThere_26 : List Ent := [ec 26 (.iconst 1) (.int 1), e0 27 (.goto 4)]
theorem oX9_isThere_26 : okB ftX9 ctX9 cX9_isThere 31 bX9_isThere_26 = true := by decide +kernel
def bX9_isThere_30 : List Ent := [ec 30 (.iconst 0) (.int 0)]
theorem oX9_isThere_30 : okB ftX9 ctX9 cX9_isThere 31 bX9_isThere_30 = true := by decide +kernel
theorem jX9_isThere_10 : decode cX9_isThere 10 = .ok (.if_icmp .ne 20, 3) := by decide +kernel
theorem jX9_isThere_23 : decode cX9_isThere 23 = .ok (.if_icmp .ne 7, 3) := by decide +kernel
theorem jX9_isThere_31 : decode cX9_isThere 31 = .ok (.ireturn, 1) := by decide +kernel
def bX9_get_0 : List Ent := [e0 0 (.aload_n 0), ec 1 (.lconst 0) (.long 0), ef 2 (.putfield 202) (.long 0) 8 37, e0 5 (.iload_n 1)]
theorem oX9_get_0 : okB ftX9 ctX9 cX9_get 6 bX9_get_0 = true := by decide +kernel
def bX9_get_12 : List Ent := [e0 12 (.aload_n 0), ef 13 (.getfield 77) .null 8 30, ec 16 (.bipush (-2)) (.int (-2))]
theorem oX9_get_12 : okB ftX9 ctX9 cX9_get 18 bX9_get_12 = true := by decide +kernel
def bX9_get_21 : List Ent := [e0 21 (.iload_n 1)]
theorem oX9_get_21 : okB ftX9 ctX9 cX9_get 22 bX9_get_21 = true := by decide +kernel
def bX9_get_28 : List Ent := [ec 28 (.iconst (-1)) (.int (-1)), e0 29 (.goto 5)]
theorem oX9_get_28 : okB ftX9 ctX9 cX9_get 34 bX9_get_28 = true := by decide +kernel
def bX9_get_32 : List Ent := [ec 32 (.bipush (-2)) (.int (-2))]
theorem oX9_get_32 : okB ftX9 ctX9 cX9_get 34 bX9_get_32 = true := by decide +kernel
def bX9_get_35 : List Ent := [e0 35 (.aload_n 0), e0 36 (.iload_n 1)]
theorem oX9_get_35 : okB ftX9 ctX9 cX9_get 37 bX9_get_35 = true := by decide +kernel
def bX9_get_40 : List Ent := [e0 40 (.aload_n 0), ef 41 (.getfield 53) .null 8 20, e0 44 (.aload_n 0), ef 45 (.getfield 192) .null 8 35, e0 48 .iaload]
theorem oX9_get_40 : okB ftX9 ctX9 cX9_get 49 bX9_get_40 = true := by decide +kernel
def bX9_get_52 : List Ent := [ec 52 (.bipush (-4)) (.int (-4))]
theorem oX9_get_52 : okB ftX9 ctX9 cX9_get 54 bX9_get_52 = true := by decide +kernel
def bX9_get_55 : List Ent := [e0 55 (.aload_n 0), e0 56 (.aload_n 0), e0 57 (.iload_n 1)]
theorem oX9_get_55 : okB ftX9 ctX9 cX9_get 58 bX9_get_55 = true := by decide +kernel
def bX9_get_64 : List Ent := [e0 64 (.aload_n 0), ef 65 (.getfield 62) .null 8 23, e0 68 (.aload_n 0), ef 69 (.getfield 192) .null 8 35, e0 72 .laload, e0 73 (.goto 4)]
theorem oX9_get_64 : okB ftX9 ctX9 cX9_get 77 bX9_get_64 = true := by decide +kernel
def bX9_get_76 : List Ent := [ec 76 (.lconst 0) (.long 0)]
theorem oX9_get_76 : okB ftX9 ctX9 cX9_get 77 bX9_get_76 = true := by decide +kernel
def bX9_get_77 : List Ent := [ef 77 (.putfield 202) (.long 0) 8 37, e0 80 (.aload_n 0), e0 81 (.iload_n 1)]
theorem oX9_get_77 : okB ftX9 ctX9 cX9_get 82 bX9_get_77 = true := by decide +kernel
def bX9_get_88 : List Ent := [ec 88 (.iconst 1) (.int 1), e0 89 (.goto 4)]
theorem oX9_get_88 : okB ftX9 ctX9 cX9_get 93 bX9_get_88 = true := by decide +kernel
def bX9_get_92 : List Ent := [ec 92 (.iconst 0) (.int 0)]
theorem oX9_get_92 : okB ftX9 ctX9 cX9_get 93 bX9_get_92 = true := by decide +kernel
theorem jX9_get_6 : decode cX9_get 6 = .ok (.invokestatic 101, 3) := by decide +kernel
theorem jX9_get_9 : decode cX9_get 9 = .ok (.ifCond .eq 12, 3) := by decide +kernel
theorem jX9_get_18 : decode cX9_get 18 = .ok (.if_icmp .ne 17, 3) := by decide +kernel
theorem jX9_get_22 : decode cX9_get 22 = .ok (.invokestatic 101, 3) := by decide +kernel
theorem jX9_get_25 : decode cX9_get 25 = .ok (.ifCond .ne 7, 3) := by decide +kernel
theorem jX9_get_34 : decode cX9_get 34 = .ok (.ireturn, 1) := by decide +kernel
theorem jX9_get_37 : decode cX9_get 37 = .ok (.invokevirtual 206, 3) := by decide +kernel
theorem jX9_get_49 : decode cX9_get 49 = .ok (.ifCond .ne 6, 3) := by decide +kernel
theorem jX9_get_54 : decode cX9_get 54 = .ok (.ireturn, 1) := by decide +kernel
theorem jX9_get_58 : decode cX9_get 58 = .ok (.invokevirtual 210, 3) := by decide +kernel
theorem jX9_get_61 : decode cX9_get 61 = .ok (.ifCond .eq 15, 3) := by decide +kernel
theorem jX9_get_82 : decode cX9_get 82 = .ok (.invokevirtual 210, 3) := by decide +kernel
theorem jX9_get_85 : decode cX9_get 85 = .ok (.ifCond .eq 7, 3) := by decide +kernel
theorem jX9_get_93 : decode cX9_get 93 = .ok (.ireturn, 1) := by decide +kernel
def bX9_value_0 : List Ent := [e0 0 (.aload_n 0), ef 1 (.getfield 202) .null 8 37]
theorem oX9_value_0 : okB ftX9 ctX9 cX9_value 4 bX9_value_0 = true := by decide +kernel
theorem jX9_value_4 : decode cX9_value 4 = .ok (.lreturn, 1) := by decide +kernel
def bX9_fresh_0 : List Ent := [e0 0 (.aload_n 0), e0 1 .dup, ef 2 (.getfield 189) .null 8 32, ec 5 (.iconst 1) (.int 1), e0 6 .isub, ef 7 (.putfield 189) (.int 0) 8 32, e0 10 (.aload_n 0), ef 11 (.getfield 81) .null 8 31, e0 14 (.aload_n 0), ef 15 (.getfield 189) .null 8 32, e0 18 .iaload]
theorem oX9_fresh_0 : okB ftX9 ctX9 cX9_fresh 19 bX9_fresh_0 = true := by decide +kernel
theorem jX9_fresh_19 : decode cX9_fresh 19 = .ok (.ireturn, 1) := by decide +kernel
def bX9_stand_0 : List Ent := [e0 0 (.iload_n 1), ec 1 (.bipush (-2)) (.int (-2))]
theorem oX9_stand_0 : okB ftX9 ctX9 cX9_stand 3 bX9_stand_0 = true := by decide +kernel
def bX9_stand_6 : List Ent := [e0 6 (.aload_n 0), e0 7 (.iload_n 3), ef 8 (.putfield 77) (.int 0) 8 30, e0 11 (.goto 30)]
theorem oX9_stand_6 : okB ftX9 ctX9 cX9_stand 41 bX9_stand_6 = true := by decide +kernel
def bX9_stand_14 : List Ent := [e0 14 (.aload_n 0), ef 15 (.getfield 65) .null 8 24, e0 18 (.iload_n 1), e0 19 .iaload, e0 20 (.iload_n 2)]
theorem oX9_stand_14 : okB ftX9 ctX9 cX9_stand 21 bX9_stand_14 = true := by decide +kernel
def bX9_stand_24 : List Ent := [e0 24 (.aload_n 0), ef 25 (.getfield 65) .null 8 24, e0 28 (.iload_n 1), e0 29 (.iload_n 3), e0 30 .iastore, e0 31 (.goto 10)]
theorem oX9_stand_24 : okB ftX9 ctX9 cX9_stand 41 bX9_stand_24 = true := by decide +kernel
def bX9_stand_34 : List Ent := [e0 34 (.aload_n 0), ef 35 (.getfield 68) .null 8 25, e0 38 (.iload_n 1), e0 39 (.iload_n 3), e0 40 .iastore]
theorem oX9_stand_34 : okB ftX9 ctX9 cX9_stand 41 bX9_stand_34 = true := by decide +kernel
theorem jX9_stand_3 : decode cX9_stand 3 = .ok (.if_icmp .ne 11, 3) := by decide +kernel
theorem jX9_stand_21 : decode cX9_stand 21 = .ok (.if_icmp .ne 13, 3) := by decide +kernel
theorem jX9_stand_41 : decode cX9_stand 41 = .ok (.return_, 1) := by decide +kernel
def bX9_write_0 : List Ent := [e0 0 (.iload_n 1)]
theorem oX9_write_0 : okB ftX9 ctX9 cX9_write 1 bX9_write_0 = true := by decide +kernel
def bX9_write_7 : List Ent := [e0 7 (.aload_n 0), ef 8 (.getfield 77) .null 8 30, ec 11 (.bipush (-2)) (.int (-2))]
theorem oX9_write_7 : okB ftX9 ctX9 cX9_write 13 bX9_write_7 = true := by decide +kernel
def bX9_write_16 : List Ent := [e0 16 (.iload_n 1)]
theorem oX9_write_16 : okB ftX9 ctX9 cX9_write 17 bX9_write_16 = true := by decide +kernel
def bX9_write_23 : List Ent := [ec 23 (.iconst (-1)) (.int (-1)), e0 24 (.goto 5)]
theorem oX9_write_23 : okB ftX9 ctX9 cX9_write 29 bX9_write_23 = true := by decide +kernel
def bX9_write_27 : List Ent := [ec 27 (.bipush (-2)) (.int (-2))]
theorem oX9_write_27 : okB ftX9 ctX9 cX9_write 29 bX9_write_27 = true := by decide +kernel
def bX9_write_30 : List Ent := [e0 30 (.aload_n 0), e0 31 (.iload_n 1)]
theorem oX9_write_30 : okB ftX9 ctX9 cX9_write 32 bX9_write_30 = true := by decide +kernel
def bX9_write_35 : List Ent := [e0 35 (.aload_n 0), ef 36 (.getfield 53) .null 8 20, e0 39 (.aload_n 0), ef 40 (.getfield 192) .null 8 35, e0 43 .iaload]
theorem oX9_write_35 : okB ftX9 ctX9 cX9_write 44 bX9_write_35 = true := by decide +kernel
def bX9_write_47 : List Ent := [ec 47 (.bipush (-4)) (.int (-4))]
theorem oX9_write_47 : okB ftX9 ctX9 cX9_write 49 bX9_write_47 = true := by decide +kernel
def bX9_write_50 : List Ent := [e0 50 (.aload_n 0), e0 51 (.iload_n 1)]
theorem oX9_write_50 : okB ftX9 ctX9 cX9_write 52 bX9_write_50 = true := by decide +kernel
def bX9_write_58 : List Ent := [e0 58 (.aload_n 0), ef 59 (.getfield 62) .null 8 23, e0 62 (.aload_n 0), ef 63 (.getfield 192) .null 8 35, e0 66 (.lload_n 2), e0 67 .lastore, ec 68 (.iconst 0) (.int 0)]
theorem oX9_write_58 : okB ftX9 ctX9 cX9_write 69 bX9_write_58 = true := by decide +kernel
def bX9_write_70 : List Ent := [e0 70 (.aload_n 0), ef 71 (.getfield 53) .null 8 20, e0 74 (.aload_n 0), ef 75 (.getfield 192) .null 8 35, e0 78 .iaload, ec 79 (.iconst 3) (.int 3)]
theorem oX9_write_70 : okB ftX9 ctX9 cX9_write 80 bX9_write_70 = true := by decide +kernel
def bX9_write_83 : List Ent := [e0 83 (.aload_n 0), ef 84 (.getfield 53) .null 8 20, e0 87 (.aload_n 0), ef 88 (.getfield 192) .null 8 35, ec 91 (.iconst 2) (.int 2), e0 92 .iastore, e0 93 (.aload_n 0), ef 94 (.getfield 59) .null 8 22, e0 97 (.aload_n 0), ef 98 (.getfield 192) .null 8 35, e0 101 (.iload_n 1), e0 102 .iastore, e0 103 (.aload_n 0), ef 104 (.getfield 62) .null 8 23, e0 107 (.aload_n 0), ef 108 (.getfield 192) .null 8 35, e0 111 (.lload_n 2), e0 112 .lastore, ec 113 (.iconst 1) (.int 1)]
theorem oX9_write_83 : okB ftX9 ctX9 cX9_write 114 bX9_write_83 = true := by decide +kernel
def bX9_write_115 : List Ent := [e0 115 (.aload_n 0), ef 116 (.getfield 186) .null 8 29, ec 119 (.iconst 2) (.int 2), e0 120 .iadd, ec 121 (.sipush 700) (.int 700)]
theorem oX9_write_115 : okB ftX9 ctX9 cX9_write 124 bX9_write_115 = true := by decide +kernel
def bX9_write_127 : List Ent := [ec 127 (.bipush (-3)) (.int (-3))]
theorem oX9_write_127 : okB ftX9 ctX9 cX9_write 129 bX9_write_127 = true := by decide +kernel
def bX9_write_130 : List Ent := [e0 130 (.aload_n 0)]
theorem oX9_write_130 : okB ftX9 ctX9 cX9_write 131 bX9_write_130 = true := by decide +kernel
def bX9_write_134 : List Ent := [e0 134 (.istore 4), e0 136 (.aload_n 0)]
theorem oX9_write_134 : okB ftX9 ctX9 cX9_write 137 bX9_write_134 = true := by decide +kernel
def bX9_write_140 : List Ent := [e0 140 (.istore 5), e0 142 (.aload_n 0), e0 143 .dup, ef 144 (.getfield 186) .null 8 29, ec 147 (.iconst 2) (.int 2), e0 148 .iadd, ef 149 (.putfield 186) (.int 0) 8 29, e0 152 (.aload_n 0), ef 153 (.getfield 53) .null 8 20, e0 156 (.iload 4), ec 158 (.iconst 2) (.int 2), e0 159 .iastore, e0 160 (.aload_n 0), ef 161 (.getfield 59) .null 8 22, e0 164 (.iload 4), e0 166 (.iload_n 1), e0 167 .iastore, e0 168 (.aload_n 0), ef 169 (.getfield 62) .null 8 23, e0 172 (.iload 4), e0 174 (.lload_n 2), e0 175 .lastore, e0 176 (.iload_n 1), e0 177 (.aload_n 0), ef 178 (.getfield 59) .null 8 22, e0 181 (.aload_n 0), ef 182 (.getfield 192) .null 8 35, e0 185 .iaload]
theorem oX9_write_140 : okB ftX9 ctX9 cX9_write 186 bX9_write_140 = true := by decide +kernel
def bX9_write_189 : List Ent := [e0 189 (.istore 6), e0 191 (.iload_n 1), ec 192 (.bipush 15) (.int 15), e0 194 (.iload 6), e0 196 .isub, e0 197 .ishr, ec 198 (.iconst 1) (.int 1), e0 199 .iand, ec 200 (.iconst 1) (.int 1)]
theorem oX9_write_189 : okB ftX9 ctX9 cX9_write 201 bX9_write_189 = true := by decide +kernel
def bX9_write_204 : List Ent := [ec 204 (.iconst 1) (.int 1), e0 205 (.goto 4)]
theorem oX9_write_204 : okB ftX9 ctX9 cX9_write 209 bX9_write_204 = true := by decide +kernel
def bX9_write_208 : List Ent := [ec 208 (.iconst 0) (.int 0)]
theorem oX9_write_208 : okB ftX9 ctX9 cX9_write 209 bX9_write_208 = true := by decide +kernel
def bX9_write_209 : List Ent := [e0 209 (.istore 7), e0 211 (.aload_n 0), ef 212 (.getfield 53) .null 8 20, e0 215 (.iload 5), ec 217 (.iconst 1) (.int 1), e0 218 .iastore, e0 219 (.aload_n 0), ef 220 (.getfield 56) .null 8 21, e0 223 (.iload 5), e0 225 (.iload 6), e0 227 .iastore, e0 228 (.aload_n 0), ef 229 (.getfield 59) .null 8 22, e0 232 (.iload 5), e0 234 (.iload_n 1), e0 235 (.iload 6)]
theorem oX9_write_209 : okB ftX9 ctX9 cX9_write 237 bX9_write_209 = true := by decide +kernel
def bX9_write_240 : List Ent := [e0 240 .iastore, e0 241 (.aload_n 0), ef 242 (.getfield 65) .null 8 24, e0 245 (.iload 5), e0 247 (.iload 7)]
theorem oX9_write_240 : okB ftX9 ctX9 cX9_write 249 bX9_write_240 = true := by decide +kernel
def bX9_write_252 : List Ent := [e0 252 (.aload_n 0), ef 253 (.getfield 192) .null 8 35, e0 256 (.goto 5)]
theorem oX9_write_252 : okB ftX9 ctX9 cX9_write 261 bX9_write_252 = true := by decide +kernel
def bX9_write_259 : List Ent := [e0 259 (.iload 4)]
theorem oX9_write_259 : okB ftX9 ctX9 cX9_write 261 bX9_write_259 = true := by decide +kernel
def bX9_write_261 : List Ent := [e0 261 .iastore, e0 262 (.aload_n 0), ef 263 (.getfield 68) .null 8 25, e0 266 (.iload 5), e0 268 (.iload 7)]
theorem oX9_write_261 : okB ftX9 ctX9 cX9_write 270 bX9_write_261 = true := by decide +kernel
def bX9_write_273 : List Ent := [e0 273 (.iload 4), e0 275 (.goto 7)]
theorem oX9_write_273 : okB ftX9 ctX9 cX9_write 282 bX9_write_273 = true := by decide +kernel
def bX9_write_278 : List Ent := [e0 278 (.aload_n 0), ef 279 (.getfield 192) .null 8 35]
theorem oX9_write_278 : okB ftX9 ctX9 cX9_write 282 bX9_write_278 = true := by decide +kernel
def bX9_write_282 : List Ent := [e0 282 .iastore, e0 283 (.aload_n 0), e0 284 (.aload_n 0), ef 285 (.getfield 195) .null 8 36, e0 288 (.aload_n 0), ef 289 (.getfield 192) .null 8 35, e0 292 (.iload 5)]
theorem oX9_write_282 : okB ftX9 ctX9 cX9_write 294 bX9_write_282 = true := by decide +kernel
def bX9_write_297 : List Ent := [ec 297 (.iconst 1) (.int 1)]
theorem oX9_write_297 : okB ftX9 ctX9 cX9_write 298 bX9_write_297 = true := by decide +kernel
theorem jX9_write_1 : decode cX9_write 1 = .ok (.invokestatic 101, 3) := by decide +kernel
theorem jX9_write_4 : decode cX9_write 4 = .ok (.ifCond .eq 12, 3) := by decide +kernel
theorem jX9_write_13 : decode cX9_write 13 = .ok (.if_icmp .ne 17, 3) := by decide +kernel
theorem jX9_write_17 : decode cX9_write 17 = .ok (.invokestatic 101, 3) := by decide +kernel
theorem jX9_write_20 : decode cX9_write 20 = .ok (.ifCond .ne 7, 3) := by decide +kernel
theorem jX9_write_29 : decode cX9_write 29 = .ok (.ireturn, 1) := by decide +kernel
theorem jX9_write_32 : decode cX9_write 32 = .ok (.invokevirtual 206, 3) := by decide +kernel
theorem jX9_write_44 : decode cX9_write 44 = .ok (.ifCond .ne 6, 3) := by decide +kernel
theorem jX9_write_49 : decode cX9_write 49 = .ok (.ireturn, 1) := by decide +kernel
theorem jX9_write_52 : decode cX9_write 52 = .ok (.invokevirtual 210, 3) := by decide +kernel
theorem jX9_write_55 : decode cX9_write 55 = .ok (.ifCond .eq 15, 3) := by decide +kernel
theorem jX9_write_69 : decode cX9_write 69 = .ok (.ireturn, 1) := by decide +kernel
theorem jX9_write_80 : decode cX9_write 80 = .ok (.if_icmp .ne 35, 3) := by decide +kernel
theorem jX9_write_114 : decode cX9_write 114 = .ok (.ireturn, 1) := by decide +kernel
theorem jX9_write_124 : decode cX9_write 124 = .ok (.if_icmp .le 6, 3) := by decide +kernel
theorem jX9_write_129 : decode cX9_write 129 = .ok (.ireturn, 1) := by decide +kernel
theorem jX9_write_131 : decode cX9_write 131 = .ok (.invokevirtual 213, 3) := by decide +kernel
theorem jX9_write_137 : decode cX9_write 137 = .ok (.invokevirtual 213, 3) := by decide +kernel
theorem jX9_write_186 : decode cX9_write 186 = .ok (.invokestatic 114, 3) := by decide +kernel
theorem jX9_write_201 : decode cX9_write 201 = .ok (.if_icmp .ne 7, 3) := by decide +kernel
theorem jX9_write_237 : decode cX9_write 237 = .ok (.invokestatic 118, 3) := by decide +kernel
theorem jX9_write_249 : decode cX9_write 249 = .ok (.ifCond .eq 10, 3) := by decide +kernel
theorem jX9_write_270 : decode cX9_write 270 = .ok (.ifCond .eq 8, 3) := by decide +kernel
theorem jX9_write_294 : decode cX9_write 294 = .ok (.invokevirtual 216, 3) := by decide +kernel
theorem jX9_write_298 : decode cX9_write 298 = .ok (.ireturn, 1) := by decide +kernel
def bX9_erase_0 : List Ent := [e0 0 (.iload_n 1)]
theorem oX9_erase_0 : okB ftX9 ctX9 cX9_erase 1 bX9_erase_0 = true := by decide +kernel
def bX9_erase_7 : List Ent := [e0 7 (.aload_n 0), ef 8 (.getfield 77) .null 8 30, ec 11 (.bipush (-2)) (.int (-2))]
theorem oX9_erase_7 : okB ftX9 ctX9 cX9_erase 13 bX9_erase_7 = true := by decide +kernel
def bX9_erase_16 : List Ent := [e0 16 (.iload_n 1)]
theorem oX9_erase_16 : okB ftX9 ctX9 cX9_erase 17 bX9_erase_16 = true := by decide +kernel
def bX9_erase_23 : List Ent := [ec 23 (.iconst (-1)) (.int (-1)), e0 24 (.goto 5)]
theorem oX9_erase_23 : okB ftX9 ctX9 cX9_erase 29 bX9_erase_23 = true := by decide +kernel
def bX9_erase_27 : List Ent := [ec 27 (.bipush (-2)) (.int (-2))]
theorem oX9_erase_27 : okB ftX9 ctX9 cX9_erase 29 bX9_erase_27 = true := by decide +kernel
def bX9_erase_30 : List Ent := [e0 30 (.aload_n 0), e0 31 (.iload_n 1)]
theorem oX9_erase_30 : okB ftX9 ctX9 cX9_erase 32 bX9_erase_30 = true := by decide +kernel
def bX9_erase_35 : List Ent := [e0 35 (.aload_n 0), ef 36 (.getfield 53) .null 8 20, e0 39 (.aload_n 0), ef 40 (.getfield 192) .null 8 35, e0 43 .iaload]
theorem oX9_erase_35 : okB ftX9 ctX9 cX9_erase 44 bX9_erase_35 = true := by decide +kernel
def bX9_erase_47 : List Ent := [ec 47 (.bipush (-4)) (.int (-4))]
theorem oX9_erase_47 : okB ftX9 ctX9 cX9_erase 49 bX9_erase_47 = true := by decide +kernel
def bX9_erase_50 : List Ent := [e0 50 (.aload_n 0), e0 51 (.iload_n 1)]
theorem oX9_erase_50 : okB ftX9 ctX9 cX9_erase 52 bX9_erase_50 = true := by decide +kernel
def bX9_erase_58 : List Ent := [ec 58 (.iconst 0) (.int 0)]
theorem oX9_erase_58 : okB ftX9 ctX9 cX9_erase 59 bX9_erase_58 = true := by decide +kernel
def bX9_erase_60 : List Ent := [e0 60 (.aload_n 0), ef 61 (.getfield 195) .null 8 36, ec 64 (.bipush (-2)) (.int (-2))]
theorem oX9_erase_60 : okB ftX9 ctX9 cX9_erase 66 bX9_erase_60 = true := by decide +kernel
def bX9_erase_69 : List Ent := [e0 69 (.aload_n 0), ef 70 (.getfield 53) .null 8 20, e0 73 (.aload_n 0), ef 74 (.getfield 192) .null 8 35, ec 77 (.iconst 3) (.int 3), e0 78 .iastore, ec 79 (.iconst 1) (.int 1)]
theorem oX9_erase_69 : okB ftX9 ctX9 cX9_erase 80 bX9_erase_69 = true := by decide +kernel
def bX9_erase_81 : List Ent := [e0 81 (.aload_n 0), ef 82 (.getfield 192) .null 8 35, e0 85 (.istore_n 2), e0 86 (.aload_n 0), ef 87 (.getfield 195) .null 8 36, e0 90 (.istore_n 3), e0 91 (.aload_n 0), ef 92 (.getfield 65) .null 8 24, e0 95 (.iload_n 3), e0 96 .iaload, e0 97 (.iload_n 2)]
theorem oX9_erase_81 : okB ftX9 ctX9 cX9_erase 98 bX9_erase_81 = true := by decide +kernel
def bX9_erase_101 : List Ent := [e0 101 (.aload_n 0), ef 102 (.getfield 68) .null 8 25, e0 105 (.iload_n 3), e0 106 .iaload, e0 107 (.goto 9)]
theorem oX9_erase_101 : okB ftX9 ctX9 cX9_erase 116 bX9_erase_101 = true := by decide +kernel
def bX9_erase_110 : List Ent := [e0 110 (.aload_n 0), ef 111 (.getfield 65) .null 8 24, e0 114 (.iload_n 3), e0 115 .iaload]
theorem oX9_erase_110 : okB ftX9 ctX9 cX9_erase 116 bX9_erase_110 = true := by decide +kernel
def bX9_erase_116 : List Ent := [e0 116 (.istore 4), ec 118 (.bipush (-2)) (.int (-2)), e0 120 (.istore 5), e0 122 (.aload_n 0), ef 123 (.getfield 77) .null 8 30, e0 126 (.istore 6)]
theorem oX9_erase_116 : okB ftX9 ctX9 cX9_erase 128 bX9_erase_116 = true := by decide +kernel
def bX9_erase_128 : List Ent := [e0 128 (.iload 6), e0 130 (.iload_n 3)]
theorem oX9_erase_128 : okB ftX9 ctX9 cX9_erase 131 bX9_erase_128 = true := by decide +kernel
def bX9_erase_134 : List Ent := [e0 134 (.iload 6), e0 136 (.istore 5), e0 138 (.iload_n 1), ec 139 (.bipush 15) (.int 15), e0 141 (.aload_n 0), ef 142 (.getfield 56) .null 8 21, e0 145 (.iload 6), e0 147 .iaload, e0 148 .isub, e0 149 .ishr, ec 150 (.iconst 1) (.int 1), e0 151 .iand]
theorem oX9_erase_134 : okB ftX9 ctX9 cX9_erase 152 bX9_erase_134 = true := by decide +kernel
def bX9_erase_155 : List Ent := [e0 155 (.aload_n 0), ef 156 (.getfield 65) .null 8 24, e0 159 (.iload 6), e0 161 .iaload, e0 162 (.goto 10)]
theorem oX9_erase_155 : okB ftX9 ctX9 cX9_erase 172 bX9_erase_155 = true := by decide +kernel
def bX9_erase_165 : List Ent := [e0 165 (.aload_n 0), ef 166 (.getfield 68) .null 8 25, e0 169 (.iload 6), e0 171 .iaload]
theorem oX9_erase_165 : okB ftX9 ctX9 cX9_erase 172 bX9_erase_165 = true := by decide +kernel
def bX9_erase_172 : List Ent := [e0 172 (.istore 6), e0 174 (.goto (-46))]
theorem oX9_erase_172 : okB ftX9 ctX9 cX9_erase 128 bX9_erase_172 = true := by decide +kernel
def bX9_erase_177 : List Ent := [e0 177 (.aload_n 0), e0 178 (.iload 5), e0 180 (.iload_n 3), e0 181 (.iload 4)]
theorem oX9_erase_177 : okB ftX9 ctX9 cX9_erase 183 bX9_erase_177 = true := by decide +kernel
def bX9_erase_186 : List Ent := [e0 186 (.aload_n 0), ef 187 (.getfield 81) .null 8 31, e0 190 (.aload_n 0), ef 191 (.getfield 189) .null 8 32, e0 194 (.iload_n 2), e0 195 .iastore, e0 196 (.aload_n 0), ef 197 (.getfield 81) .null 8 31, e0 200 (.aload_n 0), ef 201 (.getfield 189) .null 8 32, ec 204 (.iconst 1) (.int 1), e0 205 .iadd, e0 206 (.iload_n 3), e0 207 .iastore, e0 208 (.aload_n 0), e0 209 .dup, ef 210 (.getfield 189) .null 8 32, ec 213 (.iconst 2) (.int 2), e0 214 .iadd, ef 215 (.putfield 189) (.int 0) 8 32, e0 218 (.aload_n 0), e0 219 .dup, ef 220 (.getfield 186) .null 8 29, ec 223 (.iconst 2) (.int 2), e0 224 .isub, ef 225 (.putfield 186) (.int 0) 8 29, ec 228 (.iconst 1) (.int 1)]
theorem oX9_erase_186 : okB ftX9 ctX9 cX9_erase 229 bX9_erase_186 = true := by decide +kernel
theorem jX9_erase_1 : decode cX9_erase 1 = .ok (.invokestatic 101, 3) := by decide +kernel
theorem jX9_erase_4 : decode cX9_erase 4 = .ok (.ifCond .eq 12, 3) := by decide +kernel
theorem jX9_erase_13 : decode cX9_erase 13 = .ok (.if_icmp .ne 17, 3) := by decide +kernel
theorem jX9_erase_17 : decode cX9_erase 17 = .ok (.invokestatic 101, 3) := by decide +kernel
theorem jX9_erase_20 : decode cX9_erase 20 = .ok (.ifCond .ne 7, 3) := by decide +kernel
theorem jX9_erase_29 : decode cX9_erase 29 = .ok (.ireturn, 1) := by decide +kernel
theorem jX9_erase_32 : decode cX9_erase 32 = .ok (.invokevirtual 206, 3) := by decide +kernel
theorem jX9_erase_44 : decode cX9_erase 44 = .ok (.ifCond .ne 6, 3) := by decide +kernel
theorem jX9_erase_49 : decode cX9_erase 49 = .ok (.ireturn, 1) := by decide +kernel
theorem jX9_erase_52 : decode cX9_erase 52 = .ok (.invokevirtual 210, 3) := by decide +kernel
theorem jX9_erase_55 : decode cX9_erase 55 = .ok (.ifCond .ne 5, 3) := by decide +kernel
theorem jX9_erase_59 : decode cX9_erase 59 = .ok (.ireturn, 1) := by decide +kernel
theorem jX9_erase_66 : decode cX9_erase 66 = .ok (.if_icmp .ne 15, 3) := by decide +kernel
theorem jX9_erase_80 : decode cX9_erase 80 = .ok (.ireturn, 1) := by decide +kernel
theorem jX9_erase_98 : decode cX9_erase 98 = .ok (.if_icmp .ne 12, 3) := by decide +kernel
theorem jX9_erase_131 : decode cX9_erase 131 = .ok (.if_icmp .eq 46, 3) := by decide +kernel
theorem jX9_erase_152 : decode cX9_erase 152 = .ok (.ifCond .ne 13, 3) := by decide +kernel
theorem jX9_erase_183 : decode cX9_erase 183 = .ok (.invokevirtual 216, 3) := by decide +kernel
theorem jX9_erase_229 : decode cX9_erase 229 = .ok (.ireturn, 1) := by decide +kernel
def bX9_view_0 : List Ent := [e0 0 (.aload_n 0), ef 1 (.getfield 77) .null 8 30, ec 4 (.bipush (-2)) (.int (-2))]
theorem oX9_view_0 : okB ftX9 ctX9 cX9_view 6 bX9_view_0 = true := by decide +kernel
def bX9_view_9 : List Ent := [ec 9 (.lconst 0) (.long 0), e0 10 (.goto 11)]
theorem oX9_view_9 : okB ftX9 ctX9 cX9_view 21 bX9_view_9 = true := by decide +kernel
def bX9_view_13 : List Ent := [e0 13 (.aload_n 0), e0 14 (.aload_n 0), ef 15 (.getfield 77) .null 8 30]
theorem oX9_view_13 : okB ftX9 ctX9 cX9_view 18 bX9_view_13 = true := by decide +kernel
theorem jX9_view_6 : decode cX9_view 6 = .ok (.if_icmp .ne 7, 3) := by decide +kernel
theorem jX9_view_18 : decode cX9_view 18 = .ok (.invokevirtual 183, 3) := by decide +kernel
theorem jX9_view_21 : decode cX9_view 21 = .ok (.lreturn, 1) := by decide +kernel
def bX9_goThrough_0 : List Ent := [e0 0 (.aload_n 0), ec 1 (.iconst 0) (.int 0), ef 2 (.putfield 220) (.int 0) 8 38, e0 5 (.aload_n 0), ec 6 (.ldc 223) (.int 70000), ef 8 (.putfield 224) (.int 0) 8 39, e0 11 (.aload_n 0), ec 12 (.ldc 223) (.int 70000), ef 14 (.putfield 227) (.int 0) 8 40, e0 17 (.aload_n 0), ec 18 (.iconst 0) (.int 0), ef 19 (.putfield 230) (.int 0) 8 41, e0 22 (.aload_n 0), ec 23 (.iconst 0) (.int 0), ef 24 (.putfield 150) (.int 0) 8 19, e0 27 (.aload_n 0), e0 28 (.aload_n 0), ef 29 (.getfield 77) .null 8 30, ec 32 (.iconst 0) (.int 0), ec 33 (.iconst 0) (.int 0), ec 34 (.ldc 87) (.int 65535)]
theorem oX9_goThrough_0 : okB ftX9 ctX9 cX9_goThrough 36 bX9_goThrough_0 = true := by decide +kernel
def bX9_goThrough_39 : List Ent := [e0 39 (.aload_n 0), ef 40 (.getfield 150) .null 8 19]
theorem oX9_goThrough_39 : okB ftX9 ctX9 cX9_goThrough 43 bX9_goThrough_39 = true := by decide +kernel
def bX9_goThrough_46 : List Ent := [e0 46 (.aload_n 0), e0 47 .dup, ef 48 (.getfield 150) .null 8 19, ec 51 (.iconst 1) (.int 1), e0 52 .isub, ef 53 (.putfield 150) (.int 0) 8 19, e0 56 (.aload_n 0), ef 57 (.getfield 41) .null 8 15, e0 60 (.aload_n 0), ef 61 (.getfield 150) .null 8 19, e0 64 .iaload, e0 65 (.istore_n 3), e0 66 (.aload_n 0), ef 67 (.getfield 47) .null 8 17, e0 70 (.aload_n 0), ef 71 (.getfield 150) .null 8 19, e0 74 .iaload, e0 75 (.istore 4), e0 77 (.aload_n 0), ef 78 (.getfield 50) .null 8 18, e0 81 (.aload_n 0), ef 82 (.getfield 150) .null 8 19, e0 85 .iaload, e0 86 (.istore 5), e0 88 (.aload_n 0), ef 89 (.getfield 53) .null 8 20, e0 92 (.iload_n 3), e0 93 .iaload, ec 94 (.iconst 2) (.int 2)]
theorem oX9_goThrough_46 : okB ftX9 ctX9 cX9_goThrough 95 bX9_goThrough_46 = true := by decide +kernel
def bX9_goThrough_98 : List Ent := [e0 98 (.aload_n 0), ef 99 (.getfield 59) .null 8 22, e0 102 (.iload_n 3), e0 103 .iaload, e0 104 (.iload_n 1)]
theorem oX9_goThrough_98 : okB ftX9 ctX9 cX9_goThrough 105 bX9_goThrough_98 = true := by decide +kernel
def bX9_goThrough_108 : List Ent := [e0 108 (.aload_n 0), ef 109 (.getfield 59) .null 8 22, e0 112 (.iload_n 3), e0 113 .iaload, e0 114 (.iload_n 2)]
theorem oX9_goThrough_108 : okB ftX9 ctX9 cX9_goThrough 115 bX9_goThrough_108 = true := by decide +kernel
def bX9_goThrough_118 : List Ent := [e0 118 (.aload_n 0), e0 119 .dup, ef 120 (.getfield 220) .null 8 38, ec 123 (.iconst 1) (.int 1), e0 124 .iadd, ef 125 (.putfield 220) (.int 0) 8 38, e0 128 (.aload_n 0), e0 129 (.aload_n 0), ef 130 (.getfield 59) .null 8 22, e0 133 (.iload_n 3), e0 134 .iaload, e0 135 (.aload_n 0), ef 136 (.getfield 224) .null 8 39]
theorem oX9_goThrough_118 : okB ftX9 ctX9 cX9_goThrough 139 bX9_goThrough_118 = true := by decide +kernel
def bX9_goThrough_142 : List Ent := [e0 142 (.aload_n 0), ef 143 (.getfield 59) .null 8 22, e0 146 (.iload_n 3), e0 147 .iaload, e0 148 (.goto 7)]
theorem oX9_goThrough_142 : okB ftX9 ctX9 cX9_goThrough 155 bX9_goThrough_142 = true := by decide +kernel
def bX9_goThrough_151 : List Ent := [e0 151 (.aload_n 0), ef 152 (.getfield 224) .null 8 39]
theorem oX9_goThrough_151 : okB ftX9 ctX9 cX9_goThrough 155 bX9_goThrough_151 = true := by decide +kernel
def bX9_goThrough_155 : List Ent := [ef 155 (.putfield 224) (.int 0) 8 39, e0 158 (.goto 154)]
theorem oX9_goThrough_155 : okB ftX9 ctX9 cX9_goThrough 312 bX9_goThrough_155 = true := by decide +kernel
def bX9_goThrough_161 : List Ent := [e0 161 (.aload_n 0), ef 162 (.getfield 53) .null 8 20, e0 165 (.iload_n 3), e0 166 .iaload]
theorem oX9_goThrough_161 : okB ftX9 ctX9 cX9_goThrough 167 bX9_goThrough_161 = true := by decide +kernel
def bX9_goThrough_170 : List Ent := [e0 170 (.aload_n 0), e0 171 .dup, ef 172 (.getfield 230) .null 8 41, ec 175 (.iconst 1) (.int 1), e0 176 .iadd, ef 177 (.putfield 230) (.int 0) 8 41, e0 180 (.iload 4), e0 182 (.iload_n 1)]
theorem oX9_goThrough_170 : okB ftX9 ctX9 cX9_goThrough 183 bX9_goThrough_170 = true := by decide +kernel
def bX9_goThrough_186 : List Ent := [e0 186 (.iload 4), e0 188 (.goto 4)]
theorem oX9_goThrough_186 : okB ftX9 ctX9 cX9_goThrough 192 bX9_goThrough_186 = true := by decide +kernel
def bX9_goThrough_191 : List Ent := [e0 191 (.iload_n 1)]
theorem oX9_goThrough_191 : okB ftX9 ctX9 cX9_goThrough 192 bX9_goThrough_191 = true := by decide +kernel
def bX9_goThrough_192 : List Ent := [e0 192 (.istore 6), e0 194 (.aload_n 0), e0 195 (.iload 6), e0 197 (.iload 5)]
theorem oX9_goThrough_192 : okB ftX9 ctX9 cX9_goThrough 199 bX9_goThrough_192 = true := by decide +kernel
def bX9_goThrough_202 : List Ent := [e0 202 (.iload 6), e0 204 (.iload_n 2)]
theorem oX9_goThrough_202 : okB ftX9 ctX9 cX9_goThrough 205 bX9_goThrough_202 = true := by decide +kernel
def bX9_goThrough_208 : List Ent := [e0 208 (.iload 6), e0 210 (.aload_n 0), ef 211 (.getfield 227) .null 8 40]
theorem oX9_goThrough_208 : okB ftX9 ctX9 cX9_goThrough 214 bX9_goThrough_208 = true := by decide +kernel
def bX9_goThrough_217 : List Ent := [e0 217 (.iload 6), e0 219 (.goto 7)]
theorem oX9_goThrough_217 : okB ftX9 ctX9 cX9_goThrough 226 bX9_goThrough_217 = true := by decide +kernel
def bX9_goThrough_222 : List Ent := [e0 222 (.aload_n 0), ef 223 (.getfield 227) .null 8 40]
theorem oX9_goThrough_222 : okB ftX9 ctX9 cX9_goThrough 226 bX9_goThrough_222 = true := by decide +kernel
def bX9_goThrough_226 : List Ent := [ef 226 (.putfield 227) (.int 0) 8 40, e0 229 (.goto 83)]
theorem oX9_goThrough_226 : okB ftX9 ctX9 cX9_goThrough 312 bX9_goThrough_226 = true := by decide +kernel
def bX9_goThrough_232 : List Ent := [e0 232 (.aload_n 0), ef 233 (.getfield 53) .null 8 20, e0 236 (.iload_n 3), e0 237 .iaload, ec 238 (.iconst 1) (.int 1)]
theorem oX9_goThrough_232 : okB ftX9 ctX9 cX9_goThrough 239 bX9_goThrough_232 = true := by decide +kernel
def bX9_goThrough_242 : List Ent := [e0 242 (.aload_n 0), ef 243 (.getfield 59) .null 8 22, e0 246 (.iload_n 3), e0 247 .iaload, ec 248 (.iconst 1) (.int 1), ec 249 (.bipush 15) (.int 15), e0 251 (.aload_n 0), ef 252 (.getfield 56) .null 8 21, e0 255 (.iload_n 3), e0 256 .iaload, e0 257 .isub, e0 258 .ishl, e0 259 .iadd, e0 260 (.istore 6), e0 262 (.aload_n 0), e0 263 (.aload_n 0), ef 264 (.getfield 68) .null 8 25, e0 267 (.iload_n 3), e0 268 .iaload, ec 269 (.iconst 0) (.int 0), e0 270 (.iload 6), e0 272 (.iload 6), ec 274 (.iconst 1) (.int 1), ec 275 (.bipush 15) (.int 15), e0 277 (.aload_n 0), ef 278 (.getfield 56) .null 8 21, e0 281 (.iload_n 3), e0 282 .iaload, e0 283 .isub, e0 284 .ishl, e0 285 .iadd, ec 286 (.iconst 1) (.int 1), e0 287 .isub]
theorem oX9_goThrough_242 : okB ftX9 ctX9 cX9_goThrough 288 bX9_goThrough_242 = true := by decide +kernel
def bX9_goThrough_291 : List Ent := [e0 291 (.aload_n 0), e0 292 (.aload_n 0), ef 293 (.getfield 65) .null 8 24, e0 296 (.iload_n 3), e0 297 .iaload, ec 298 (.iconst 0) (.int 0), e0 299 (.aload_n 0), ef 300 (.getfield 59) .null 8 22, e0 303 (.iload_n 3), e0 304 .iaload, e0 305 (.iload 6), ec 307 (.iconst 1) (.int 1), e0 308 .isub]
theorem oX9_goThrough_291 : okB ftX9 ctX9 cX9_goThrough 309 bX9_goThrough_291 = true := by decide +kernel
def bX9_goThrough_312 : List Ent := [e0 312 (.goto (-273))]
theorem oX9_goThrough_312 : okB ftX9 ctX9 cX9_goThrough 39 bX9_goThrough_312 = true := by decide +kernel
theorem jX9_goThrough_36 : decode cX9_goThrough 36 = .ok (.invokevirtual 153, 3) := by decide +kernel
theorem jX9_goThrough_43 : decode cX9_goThrough 43 = .ok (.ifCond .le 272, 3) := by decide +kernel
theorem jX9_goThrough_95 : decode cX9_goThrough 95 = .ok (.if_icmp .ne 66, 3) := by decide +kernel
theorem jX9_goThrough_105 : decode cX9_goThrough 105 = .ok (.if_icmp .lt 56, 3) := by decide +kernel
theorem jX9_goThrough_115 : decode cX9_goThrough 115 = .ok (.if_icmp .gt 46, 3) := by decide +kernel
theorem jX9_goThrough_139 : decode cX9_goThrough 139 = .ok (.if_icmp .ge 12, 3) := by decide +kernel
theorem jX9_goThrough_167 : decode cX9_goThrough 167 = .ok (.ifCond .ne 65, 3) := by decide +kernel
theorem jX9_goThrough_183 : decode cX9_goThrough 183 = .ok (.if_icmp .le 8, 3) := by decide +kernel
theorem jX9_goThrough_199 : decode cX9_goThrough 199 = .ok (.if_icmp .gt 23, 3) := by decide +kernel
theorem jX9_goThrough_205 : decode cX9_goThrough 205 = .ok (.if_icmp .gt 17, 3) := by decide +kernel
theorem jX9_goThrough_214 : decode cX9_goThrough 214 = .ok (.if_icmp .ge 8, 3) := by decide +kernel
theorem jX9_goThrough_239 : decode cX9_goThrough 239 = .ok (.if_icmp .ne 73, 3) := by decide +kernel
theorem jX9_goThrough_288 : decode cX9_goThrough 288 = .ok (.invokevirtual 153, 3) := by decide +kernel
theorem jX9_goThrough_309 : decode cX9_goThrough 309 = .ok (.invokevirtual 153, 3) := by decide +kernel
theorem jX9_goThrough_315 : decode cX9_goThrough 315 = .ok (.return_, 1) := by decide +kernel
def bX9_count_0 : List Ent := [e0 0 (.iload_n 1)]
theorem oX9_count_0 : okB ftX9 ctX9 cX9_count 1 bX9_count_0 = true := by decide +kernel
def bX9_count_7 : List Ent := [e0 7 (.iload_n 2)]
theorem oX9_count_7 : okB ftX9 ctX9 cX9_count 8 bX9_count_7 = true := by decide +kernel
def bX9_count_14 : List Ent := [e0 14 (.iload_n 1), e0 15 (.iload_n 2)]
theorem oX9_count_14 : okB ftX9 ctX9 cX9_count 16 bX9_count_14 = true := by decide +kernel
def bX9_count_19 : List Ent := [ec 19 (.iconst (-1)) (.int (-1))]
theorem oX9_count_19 : okB ftX9 ctX9 cX9_count 20 bX9_count_19 = true := by decide +kernel
def bX9_count_21 : List Ent := [e0 21 (.aload_n 0), ef 22 (.getfield 77) .null 8 30, ec 25 (.bipush (-2)) (.int (-2))]
theorem oX9_count_21 : okB ftX9 ctX9 cX9_count 27 bX9_count_21 = true := by decide +kernel
def bX9_count_30 : List Ent := [ec 30 (.bipush (-2)) (.int (-2))]
theorem oX9_count_30 : okB ftX9 ctX9 cX9_count 32 bX9_count_30 = true := by decide +kernel
def bX9_count_33 : List Ent := [e0 33 (.aload_n 0), e0 34 (.iload_n 1), e0 35 (.iload_n 2)]
theorem oX9_count_33 : okB ftX9 ctX9 cX9_count 36 bX9_count_33 = true := by decide +kernel
def bX9_count_39 : List Ent := [e0 39 (.aload_n 0), ef 40 (.getfield 227) .null 8 40, ec 43 (.ldc 223) (.int 70000)]
theorem oX9_count_39 : okB ftX9 ctX9 cX9_count 45 bX9_count_39 = true := by decide +kernel
def bX9_count_48 : List Ent := [ec 48 (.bipush (-4)) (.int (-4)), e0 50 (.goto 7)]
theorem oX9_count_48 : okB ftX9 ctX9 cX9_count 57 bX9_count_48 = true := by decide +kernel
def bX9_count_53 : List Ent := [e0 53 (.aload_n 0), ef 54 (.getfield 220) .null 8 38]
theorem oX9_count_53 : okB ftX9 ctX9 cX9_count 57 bX9_count_53 = true := by decide +kernel
theorem jX9_count_1 : decode cX9_count 1 = .ok (.invokestatic 101, 3) := by decide +kernel
theorem jX9_count_4 : decode cX9_count 4 = .ok (.ifCond .eq 15, 3) := by decide +kernel
theorem jX9_count_8 : decode cX9_count 8 = .ok (.invokestatic 101, 3) := by decide +kernel
theorem jX9_count_11 : decode cX9_count 11 = .ok (.ifCond .eq 8, 3) := by decide +kernel
theorem jX9_count_16 : decode cX9_count 16 = .ok (.if_icmp .le 5, 3) := by decide +kernel
theorem jX9_count_20 : decode cX9_count 20 = .ok (.ireturn, 1) := by decide +kernel
theorem jX9_count_27 : decode cX9_count 27 = .ok (.if_icmp .ne 6, 3) := by decide +kernel
theorem jX9_count_32 : decode cX9_count 32 = .ok (.ireturn, 1) := by decide +kernel
theorem jX9_count_36 : decode cX9_count 36 = .ok (.invokevirtual 233, 3) := by decide +kernel
theorem jX9_count_45 : decode cX9_count 45 = .ok (.if_icmp .ge 8, 3) := by decide +kernel
theorem jX9_count_57 : decode cX9_count 57 = .ok (.ireturn, 1) := by decide +kernel
def bX9_next_0 : List Ent := [e0 0 (.iload_n 1)]
theorem oX9_next_0 : okB ftX9 ctX9 cX9_next 1 bX9_next_0 = true := by decide +kernel
def bX9_next_7 : List Ent := [e0 7 (.aload_n 0), ef 8 (.getfield 77) .null 8 30, ec 11 (.bipush (-2)) (.int (-2))]
theorem oX9_next_7 : okB ftX9 ctX9 cX9_next 13 bX9_next_7 = true := by decide +kernel
def bX9_next_16 : List Ent := [e0 16 (.iload_n 1)]
theorem oX9_next_16 : okB ftX9 ctX9 cX9_next 17 bX9_next_16 = true := by decide +kernel
def bX9_next_23 : List Ent := [ec 23 (.iconst (-1)) (.int (-1)), e0 24 (.goto 5)]
theorem oX9_next_23 : okB ftX9 ctX9 cX9_next 29 bX9_next_23 = true := by decide +kernel
def bX9_next_27 : List Ent := [ec 27 (.bipush (-2)) (.int (-2))]
theorem oX9_next_27 : okB ftX9 ctX9 cX9_next 29 bX9_next_27 = true := by decide +kernel
def bX9_next_30 : List Ent := [e0 30 (.aload_n 0), e0 31 (.iload_n 1), ec 32 (.ldc 87) (.int 65535)]
theorem oX9_next_30 : okB ftX9 ctX9 cX9_next 34 bX9_next_30 = true := by decide +kernel
def bX9_next_37 : List Ent := [e0 37 (.aload_n 0), ef 38 (.getfield 227) .null 8 40, e0 41 (.aload_n 0), ef 42 (.getfield 224) .null 8 39]
theorem oX9_next_37 : okB ftX9 ctX9 cX9_next 45 bX9_next_37 = true := by decide +kernel
def bX9_next_48 : List Ent := [ec 48 (.bipush (-4)) (.int (-4)), e0 50 (.goto 21)]
theorem oX9_next_48 : okB ftX9 ctX9 cX9_next 71 bX9_next_48 = true := by decide +kernel
def bX9_next_53 : List Ent := [e0 53 (.aload_n 0), ef 54 (.getfield 224) .null 8 39, ec 57 (.ldc 223) (.int 70000)]
theorem oX9_next_53 : okB ftX9 ctX9 cX9_next 59 bX9_next_53 = true := by decide +kernel
def bX9_next_62 : List Ent := [e0 62 (.aload_n 0), ef 63 (.getfield 224) .null 8 39, e0 66 (.goto 5)]
theorem oX9_next_62 : okB ftX9 ctX9 cX9_next 71 bX9_next_62 = true := by decide +kernel
def bX9_next_69 : List Ent := [ec 69 (.bipush (-2)) (.int (-2))]
theorem oX9_next_69 : okB ftX9 ctX9 cX9_next 71 bX9_next_69 = true := by decide +kernel
theorem jX9_next_1 : decode cX9_next 1 = .ok (.invokestatic 101, 3) := by decide +kernel
theorem jX9_next_4 : decode cX9_next 4 = .ok (.ifCond .eq 12, 3) := by decide +kernel
theorem jX9_next_13 : decode cX9_next 13 = .ok (.if_icmp .ne 17, 3) := by decide +kernel
theorem jX9_next_17 : decode cX9_next 17 = .ok (.invokestatic 101, 3) := by decide +kernel
theorem jX9_next_20 : decode cX9_next 20 = .ok (.ifCond .ne 7, 3) := by decide +kernel
theorem jX9_next_29 : decode cX9_next 29 = .ok (.ireturn, 1) := by decide +kernel
theorem jX9_next_34 : decode cX9_next 34 = .ok (.invokevirtual 233, 3) := by decide +kernel
theorem jX9_next_45 : decode cX9_next 45 = .ok (.if_icmp .ge 8, 3) := by decide +kernel
theorem jX9_next_59 : decode cX9_next 59 = .ok (.if_icmp .ge 10, 3) := by decide +kernel
theorem jX9_next_71 : decode cX9_next 71 = .ok (.ireturn, 1) := by decide +kernel
def bX9_pass_0 : List Ent := [e0 0 (.aload_n 0), ef 1 (.getfield 77) .null 8 30, ec 4 (.bipush (-2)) (.int (-2))]
theorem oX9_pass_0 : okB ftX9 ctX9 cX9_pass 6 bX9_pass_0 = true := by decide +kernel
def bX9_pass_9 : List Ent := [ec 9 (.bipush (-2)) (.int (-2))]
theorem oX9_pass_9 : okB ftX9 ctX9 cX9_pass 11 bX9_pass_9 = true := by decide +kernel
def bX9_pass_12 : List Ent := [e0 12 (.aload_n 0), e0 13 (.aload_n 0), ef 14 (.getfield 77) .null 8 30]
theorem oX9_pass_12 : okB ftX9 ctX9 cX9_pass 17 bX9_pass_12 = true := by decide +kernel
def bX9_pass_20 : List Ent := [e0 20 (.lstore_n 1), e0 21 (.aload_n 0), ec 22 (.iconst 0) (.int 0), ef 23 (.putfield 142) (.int 0) 8 14, e0 26 (.aload_n 0), ec 27 (.iconst 0) (.int 0), ef 28 (.putfield 150) (.int 0) 8 19, e0 31 (.aload_n 0), e0 32 (.aload_n 0), ef 33 (.getfield 77) .null 8 30, ec 36 (.iconst 0) (.int 0), ec 37 (.iconst 0) (.int 0), ec 38 (.ldc 87) (.int 65535)]
theorem oX9_pass_20 : okB ftX9 ctX9 cX9_pass 40 bX9_pass_20 = true := by decide +kernel
def bX9_pass_43 : List Ent := [e0 43 (.aload_n 0), ef 44 (.getfield 150) .null 8 19]
theorem oX9_pass_43 : okB ftX9 ctX9 cX9_pass 47 bX9_pass_43 = true := by decide +kernel
def bX9_pass_50 : List Ent := [e0 50 (.aload_n 0), e0 51 .dup, ef 52 (.getfield 150) .null 8 19, ec 55 (.iconst 1) (.int 1), e0 56 .isub, ef 57 (.putfield 150) (.int 0) 8 19, e0 60 (.aload_n 0), ef 61 (.getfield 41) .null 8 15, e0 64 (.aload_n 0), ef 65 (.getfield 150) .null 8 19, e0 68 .iaload, e0 69 (.istore_n 3), e0 70 (.aload_n 0), e0 71 (.aload_n 0), ef 72 (.getfield 47) .null 8 17, e0 75 (.aload_n 0), ef 76 (.getfield 150) .null 8 19, e0 79 .iaload, e0 80 (.aload_n 0), ef 81 (.getfield 50) .null 8 18, e0 84 (.aload_n 0), ef 85 (.getfield 150) .null 8 19, e0 88 .iaload]
theorem oX9_pass_50 : okB ftX9 ctX9 cX9_pass 89 bX9_pass_50 = true := by decide +kernel
def bX9_pass_92 : List Ent := [e0 92 (.istore 4), e0 94 (.aload_n 0), e0 95 (.iload 4)]
theorem oX9_pass_92 : okB ftX9 ctX9 cX9_pass 97 bX9_pass_92 = true := by decide +kernel
def bX9_pass_100 : List Ent := [e0 100 (.aload_n 0), ef 101 (.getfield 53) .null 8 20, e0 104 (.iload_n 3), e0 105 .iaload, e0 106 .i2l, e0 107 (.goto 4)]
theorem oX9_pass_100 : okB ftX9 ctX9 cX9_pass 111 bX9_pass_100 = true := by decide +kernel
def bX9_pass_110 : List Ent := [ec 110 (.lconst 0) (.long 0)]
theorem oX9_pass_110 : okB ftX9 ctX9 cX9_pass 111 bX9_pass_110 = true := by decide +kernel
def bX9_pass_111 : List Ent := [ec 111 (.iconst 1) (.int 1)]
theorem oX9_pass_111 : okB ftX9 ctX9 cX9_pass 112 bX9_pass_111 = true := by decide +kernel
def bX9_pass_115 : List Ent := [e0 115 (.iload 4)]
theorem oX9_pass_115 : okB ftX9 ctX9 cX9_pass 117 bX9_pass_115 = true := by decide +kernel
def bX9_pass_120 : List Ent := [e0 120 (.aload_n 0), ef 121 (.getfield 53) .null 8 20, e0 124 (.iload_n 3), e0 125 .iaload]
theorem oX9_pass_120 : okB ftX9 ctX9 cX9_pass 126 bX9_pass_120 = true := by decide +kernel
def bX9_pass_129 : List Ent := [e0 129 (.aload_n 0), e0 130 (.aload_n 0), ef 131 (.getfield 71) .null 8 26, e0 134 (.iload_n 3), e0 135 .laload, ec 136 (.bipush 8) (.int 8)]
theorem oX9_pass_129 : okB ftX9 ctX9 cX9_pass 138 bX9_pass_129 = true := by decide +kernel
def bX9_pass_141 : List Ent := [e0 141 (.goto 144)]
theorem oX9_pass_141 : okB ftX9 ctX9 cX9_pass 285 bX9_pass_141 = true := by decide +kernel
def bX9_pass_144 : List Ent := [e0 144 (.aload_n 0), ef 145 (.getfield 53) .null 8 20, e0 148 (.iload_n 3), e0 149 .iaload, ec 150 (.iconst 2) (.int 2)]
theorem oX9_pass_144 : okB ftX9 ctX9 cX9_pass 151 bX9_pass_144 = true := by decide +kernel
def bX9_pass_154 : List Ent := [e0 154 (.aload_n 0), e0 155 (.aload_n 0), ef 156 (.getfield 59) .null 8 22, e0 159 (.iload_n 3), e0 160 .iaload, e0 161 .i2l, ec 162 (.iconst 2) (.int 2)]
theorem oX9_pass_154 : okB ftX9 ctX9 cX9_pass 163 bX9_pass_154 = true := by decide +kernel
def bX9_pass_166 : List Ent := [e0 166 (.aload_n 0), e0 167 (.aload_n 0), ef 168 (.getfield 62) .null 8 23, e0 171 (.iload_n 3), e0 172 .laload, ec 173 (.bipush 8) (.int 8)]
theorem oX9_pass_166 : okB ftX9 ctX9 cX9_pass 175 bX9_pass_166 = true := by decide +kernel
def bX9_pass_178 : List Ent := [e0 178 (.goto 107)]
theorem oX9_pass_178 : okB ftX9 ctX9 cX9_pass 285 bX9_pass_178 = true := by decide +kernel
def bX9_pass_181 : List Ent := [e0 181 (.aload_n 0), ef 182 (.getfield 53) .null 8 20, e0 185 (.iload_n 3), e0 186 .iaload, ec 187 (.iconst 1) (.int 1)]
theorem oX9_pass_181 : okB ftX9 ctX9 cX9_pass 188 bX9_pass_181 = true := by decide +kernel
def bX9_pass_191 : List Ent := [e0 191 (.aload_n 0), ef 192 (.getfield 59) .null 8 22, e0 195 (.iload_n 3), e0 196 .iaload, ec 197 (.iconst 1) (.int 1), ec 198 (.bipush 15) (.int 15), e0 200 (.aload_n 0), ef 201 (.getfield 56) .null 8 21, e0 204 (.iload_n 3), e0 205 .iaload, e0 206 .isub, e0 207 .ishl, e0 208 .iadd, e0 209 (.istore 5), e0 211 (.aload_n 0), e0 212 (.aload_n 0), ef 213 (.getfield 56) .null 8 21, e0 216 (.iload_n 3), e0 217 .iaload, e0 218 .i2l, ec 219 (.iconst 1) (.int 1)]
theorem oX9_pass_191 : okB ftX9 ctX9 cX9_pass 220 bX9_pass_191 = true := by decide +kernel
def bX9_pass_223 : List Ent := [e0 223 (.aload_n 0), e0 224 (.aload_n 0), ef 225 (.getfield 59) .null 8 22, e0 228 (.iload_n 3), e0 229 .iaload, e0 230 .i2l, ec 231 (.iconst 2) (.int 2)]
theorem oX9_pass_223 : okB ftX9 ctX9 cX9_pass 232 bX9_pass_223 = true := by decide +kernel
def bX9_pass_235 : List Ent := [e0 235 (.aload_n 0), e0 236 (.aload_n 0), ef 237 (.getfield 68) .null 8 25, e0 240 (.iload_n 3), e0 241 .iaload, ec 242 (.iconst 0) (.int 0), e0 243 (.iload 5), e0 245 (.iload 5), ec 247 (.iconst 1) (.int 1), ec 248 (.bipush 15) (.int 15), e0 250 (.aload_n 0), ef 251 (.getfield 56) .null 8 21, e0 254 (.iload_n 3), e0 255 .iaload, e0 256 .isub, e0 257 .ishl, e0 258 .iadd, ec 259 (.iconst 1) (.int 1), e0 260 .isub]
theorem oX9_pass_235 : okB ftX9 ctX9 cX9_pass 261 bX9_pass_235 = true := by decide +kernel
def bX9_pass_264 : List Ent := [e0 264 (.aload_n 0), e0 265 (.aload_n 0), ef 266 (.getfield 65) .null 8 24, e0 269 (.iload_n 3), e0 270 .iaload, ec 271 (.iconst 0) (.int 0), e0 272 (.aload_n 0), ef 273 (.getfield 59) .null 8 22, e0 276 (.iload_n 3), e0 277 .iaload, e0 278 (.iload 5), ec 280 (.iconst 1) (.int 1), e0 281 .isub]
theorem oX9_pass_264 : okB ftX9 ctX9 cX9_pass 282 bX9_pass_264 = true := by decide +kernel
def bX9_pass_285 : List Ent := [e0 285 (.goto (-242))]
theorem oX9_pass_285 : okB ftX9 ctX9 cX9_pass 43 bX9_pass_285 = true := by decide +kernel
def bX9_pass_288 : List Ent := [e0 288 (.aload_n 0)]
theorem oX9_pass_288 : okB ftX9 ctX9 cX9_pass 289 bX9_pass_288 = true := by decide +kernel
theorem jX9_pass_6 : decode cX9_pass 6 = .ok (.if_icmp .ne 6, 3) := by decide +kernel
theorem jX9_pass_11 : decode cX9_pass 11 = .ok (.ireturn, 1) := by decide +kernel
theorem jX9_pass_17 : decode cX9_pass 17 = .ok (.invokevirtual 183, 3) := by decide +kernel
theorem jX9_pass_40 : decode cX9_pass 40 = .ok (.invokevirtual 153, 3) := by decide +kernel
theorem jX9_pass_47 : decode cX9_pass 47 = .ok (.ifCond .le 241, 3) := by decide +kernel
theorem jX9_pass_89 : decode cX9_pass 89 = .ok (.invokevirtual 157, 3) := by decide +kernel
theorem jX9_pass_97 : decode cX9_pass 97 = .ok (.ifCond .eq 13, 3) := by decide +kernel
theorem jX9_pass_112 : decode cX9_pass 112 = .ok (.invokevirtual 161, 3) := by decide +kernel
theorem jX9_pass_117 : decode cX9_pass 117 = .ok (.ifCond .eq 12, 3) := by decide +kernel
theorem jX9_pass_126 : decode cX9_pass 126 = .ok (.ifCond .ne 18, 3) := by decide +kernel
theorem jX9_pass_138 : decode cX9_pass 138 = .ok (.invokevirtual 161, 3) := by decide +kernel
theorem jX9_pass_151 : decode cX9_pass 151 = .ok (.if_icmp .ne 30, 3) := by decide +kernel
theorem jX9_pass_163 : decode cX9_pass 163 = .ok (.invokevirtual 161, 3) := by decide +kernel
theorem jX9_pass_175 : decode cX9_pass 175 = .ok (.invokevirtual 161, 3) := by decide +kernel
theorem jX9_pass_188 : decode cX9_pass 188 = .ok (.if_icmp .ne 97, 3) := by decide +kernel
theorem jX9_pass_220 : decode cX9_pass 220 = .ok (.invokevirtual 161, 3) := by decide +kernel
theorem jX9_pass_232 : decode cX9_pass 232 = .ok (.invokevirtual 161, 3) := by decide +kernel
theorem jX9_pass_261 : decode cX9_pass 261 = .ok (.invokevirtual 153, 3) := by decide +kernel
theorem jX9_pass_282 : decode cX9_pass 282 = .ok (.invokevirtual 153, 3) := by decide +kernel
theorem jX9_pass_289 : decode cX9_pass 289 = .ok (.invokevirtual 165, 3) := by decide +kernel
theorem jX9_pass_292 : decode cX9_pass 292 = .ok (.ireturn, 1) := by decide +kernel
def bX9_told_0 : List Ent := [e0 0 (.iload_n 1)]
theorem oX9_told_0 : okB ftX9 ctX9 cX9_told 1 bX9_told_0 = true := by decide +kernel
def bX9_told_4 : List Ent := [e0 4 (.iload_n 1), ec 5 (.iconst 5) (.int 5)]
theorem oX9_told_4 : okB ftX9 ctX9 cX9_told 6 bX9_told_4 = true := by decide +kernel
def bX9_told_9 : List Ent := [ec 9 (.iconst (-1)) (.int (-1))]
theorem oX9_told_9 : okB ftX9 ctX9 cX9_told 10 bX9_told_9 = true := by decide +kernel
def bX9_told_11 : List Ent := [e0 11 (.iload_n 1), ec 12 (.iconst 4) (.int 4)]
theorem oX9_told_11 : okB ftX9 ctX9 cX9_told 13 bX9_told_11 = true := by decide +kernel
def bX9_told_16 : List Ent := [e0 16 (.aload_n 0), ef 17 (.getfield 77) .null 8 30, ec 20 (.bipush (-2)) (.int (-2))]
theorem oX9_told_16 : okB ftX9 ctX9 cX9_told 22 bX9_told_16 = true := by decide +kernel
def bX9_told_25 : List Ent := [e0 25 (.aload_n 0), ec 26 (.iconst 0) (.int 0), ec 27 (.ldc 87) (.int 65535)]
theorem oX9_told_25 : okB ftX9 ctX9 cX9_told 29 bX9_told_25 = true := by decide +kernel
def bX9_told_32 : List Ent := [e0 32 (.iload_n 1), ec 33 (.iconst 5) (.int 5)]
theorem oX9_told_32 : okB ftX9 ctX9 cX9_told 34 bX9_told_32 = true := by decide +kernel
def bX9_told_37 : List Ent := [e0 37 (.aload_n 0), ec 38 (.sipush 2400) (.int 2400), ec 41 (.sipush 2400) (.int 2400), e0 44 (.aload_n 0), ef 45 (.getfield 17) .null 8 2, ec 48 (.bipush 8) (.int 8), e0 50 .iaload, e0 51 .iadd]
theorem oX9_told_37 : okB ftX9 ctX9 cX9_told 52 bX9_told_37 = true := by decide +kernel
def bX9_told_55 : List Ent := [e0 55 (.goto 4)]
theorem oX9_told_55 : okB ftX9 ctX9 cX9_told 59 bX9_told_55 = true := by decide +kernel
def bX9_told_58 : List Ent := [ec 58 (.lconst 0) (.long 0)]
theorem oX9_told_58 : okB ftX9 ctX9 cX9_told 59 bX9_told_58 = true := by decide +kernel
def bX9_told_59 : List Ent := [e0 59 (.lstore_n 2), e0 60 (.iload_n 1)]
theorem oX9_told_59 : okB ftX9 ctX9 cX9_told 61 bX9_told_59 = true := by decide +kernel
def bX9_told_64 : List Ent := [e0 64 (.aload_n 0), ef 65 (.getfield 147) .null 8 8, e0 68 (.goto 81)]
theorem oX9_told_64 : okB ftX9 ctX9 cX9_told 149 bX9_told_64 = true := by decide +kernel
def bX9_told_71 : List Ent := [e0 71 (.iload_n 1), ec 72 (.iconst 1) (.int 1)]
theorem oX9_told_71 : okB ftX9 ctX9 cX9_told 73 bX9_told_71 = true := by decide +kernel
def bX9_told_76 : List Ent := [e0 76 (.aload_n 0), ef 77 (.getfield 139) .null 8 6, e0 80 (.goto 69)]
theorem oX9_told_76 : okB ftX9 ctX9 cX9_told 149 bX9_told_76 = true := by decide +kernel
def bX9_told_83 : List Ent := [e0 83 (.iload_n 1), ec 84 (.iconst 2) (.int 2)]
theorem oX9_told_83 : okB ftX9 ctX9 cX9_told 85 bX9_told_83 = true := by decide +kernel
def bX9_told_88 : List Ent := [e0 88 (.aload_n 0), ef 89 (.getfield 98) .null 8 3, e0 92 (.goto 57)]
theorem oX9_told_88 : okB ftX9 ctX9 cX9_told 149 bX9_told_88 = true := by decide +kernel
def bX9_told_95 : List Ent := [e0 95 (.iload_n 1), ec 96 (.iconst 3) (.int 3)]
theorem oX9_told_95 : okB ftX9 ctX9 cX9_told 97 bX9_told_95 = true := by decide +kernel
def bX9_told_100 : List Ent := [e0 100 (.aload_n 0), ef 101 (.getfield 77) .null 8 30, ec 104 (.bipush (-2)) (.int (-2))]
theorem oX9_told_100 : okB ftX9 ctX9 cX9_told 106 bX9_told_100 = true := by decide +kernel
def bX9_told_109 : List Ent := [ec 109 (.iconst 0) (.int 0), e0 110 (.goto 39)]
theorem oX9_told_109 : okB ftX9 ctX9 cX9_told 149 bX9_told_109 = true := by decide +kernel
def bX9_told_113 : List Ent := [e0 113 (.aload_n 0), ef 114 (.getfield 186) .null 8 29, e0 117 (.goto 32)]
theorem oX9_told_113 : okB ftX9 ctX9 cX9_told 149 bX9_told_113 = true := by decide +kernel
def bX9_told_120 : List Ent := [e0 120 (.iload_n 1), ec 121 (.iconst 4) (.int 4)]
theorem oX9_told_120 : okB ftX9 ctX9 cX9_told 122 bX9_told_120 = true := by decide +kernel
def bX9_told_125 : List Ent := [e0 125 (.aload_n 0), ef 126 (.getfield 77) .null 8 30, ec 129 (.bipush (-2)) (.int (-2))]
theorem oX9_told_125 : okB ftX9 ctX9 cX9_told 131 bX9_told_125 = true := by decide +kernel
def bX9_told_134 : List Ent := [ec 134 (.iconst 0) (.int 0), e0 135 (.goto 14)]
theorem oX9_told_134 : okB ftX9 ctX9 cX9_told 149 bX9_told_134 = true := by decide +kernel
def bX9_told_138 : List Ent := [e0 138 (.aload_n 0), ef 139 (.getfield 230) .null 8 41, e0 142 (.goto 7)]
theorem oX9_told_138 : okB ftX9 ctX9 cX9_told 149 bX9_told_138 = true := by decide +kernel
def bX9_told_145 : List Ent := [e0 145 (.aload_n 0), ef 146 (.getfield 109) .null 8 12]
theorem oX9_told_145 : okB ftX9 ctX9 cX9_told 149 bX9_told_145 = true := by decide +kernel
theorem jX9_told_1 : decode cX9_told 1 = .ok (.ifCond .lt 8, 3) := by decide +kernel
theorem jX9_told_6 : decode cX9_told 6 = .ok (.if_icmp .le 5, 3) := by decide +kernel
theorem jX9_told_10 : decode cX9_told 10 = .ok (.ireturn, 1) := by decide +kernel
theorem jX9_told_13 : decode cX9_told 13 = .ok (.if_icmp .ne 19, 3) := by decide +kernel
theorem jX9_told_22 : decode cX9_told 22 = .ok (.if_icmp .eq 10, 3) := by decide +kernel
theorem jX9_told_29 : decode cX9_told 29 = .ok (.invokevirtual 233, 3) := by decide +kernel
theorem jX9_told_34 : decode cX9_told 34 = .ok (.if_icmp .ne 24, 3) := by decide +kernel
theorem jX9_told_52 : decode cX9_told 52 = .ok (.invokevirtual 135, 3) := by decide +kernel
theorem jX9_told_61 : decode cX9_told 61 = .ok (.ifCond .ne 10, 3) := by decide +kernel
theorem jX9_told_73 : decode cX9_told 73 = .ok (.if_icmp .ne 10, 3) := by decide +kernel
theorem jX9_told_85 : decode cX9_told 85 = .ok (.if_icmp .ne 10, 3) := by decide +kernel
theorem jX9_told_97 : decode cX9_told 97 = .ok (.if_icmp .ne 23, 3) := by decide +kernel
theorem jX9_told_106 : decode cX9_told 106 = .ok (.if_icmp .ne 7, 3) := by decide +kernel
theorem jX9_told_122 : decode cX9_told 122 = .ok (.if_icmp .ne 23, 3) := by decide +kernel
theorem jX9_told_131 : decode cX9_told 131 = .ok (.if_icmp .ne 7, 3) := by decide +kernel
theorem jX9_told_149 : decode cX9_told 149 = .ok (.ireturn, 1) := by decide +kernel
end
section
/-! what the tables say and nobody changes; the judgement over named cells; soundness of the evaluator -/
def nestL : List (String × Nat × MethodName) := [(RX8, 17, yX5_init), (RX0, 1, yX8_emptyDigest), (RX8, 35, yX7_init), (RX1, 33, yX8_stemOf), (RX1, 37, yX8_isHigh), (RX3, 1, yX8_leafDigest), (RX1, 9, yX8_forkDigest), (RX6, 72, yX8_stemOf)]
def castL : List (String × String) := [("PathProofs$Fork", "PathProofs$Fork"), ("PathProofs$Leaf", "PathProofs$Leaf"), ("PathProofs$Hidden", "PathProofs$Hidden"), ("PathProofs$Empty", "PathProofs$Node"), ("PathProofs$Fork", "PathProofs$Node"), ("PathProofs$Hidden", "PathProofs$Node"), ("PathProofs$Leaf", "PathProofs$Node")]
def notL : List (String × String) := [("PathProofs$Empty", "PathProofs$Fork"), ("PathProofs$Leaf", "PathProofs$Fork"), ("PathProofs$Hidden", "PathProofs$Fork"), ("PathProofs$Empty", "PathProofs$Leaf"), ("PathProofs$Fork", "PathProofs$Leaf"), ("PathProofs$Hidden", "PathProofs$Leaf"), ("PathProofs$Empty", "PathProofs$Hidden"), ("PathProofs$Leaf", "PathProofs$Hidden"), ("PathProofs$Fork", "PathProofs$Hidden")]
def KS (D : va_G) (ca : Nat → ClassId) (U : State) : Prop := va_K D vwCl [(ca 0, .int), (ca 1, .long), (ca 2, .object "PathProofs$Node")] U ∧ (∀ q ∈ nestL, va_Nw (.methodLinkNest q.1 q.2.1 q.2.2 "PathProofs") U) ∧ (∀ q ∈ castL, va_Nw (.castable q.1 q.2) U) ∧ (∀ q ∈ notL, va_Nc q.1 q.2 U) ∧ va_AO "PathProofs$Node" U
theorem KS.warm {D : va_G} {ca : Nat → ClassId} {s U : State} (hW : s.WarmedH U.vm) (h : KS D ca s) : KS D ca U :=
  ⟨va_K.moved hW.alike h.1, fun q hq => va_Nw.warmM hW (h.2.1 q hq), fun q hq => va_Nw.warmC hW (h.2.2.1 q hq), fun q hq => va_Nc.moved hW.alike (h.2.2.2.1 q hq), va_AO.moved hW.alike h.2.2.2.2⟩
theorem KS.call {D : va_G} {ca : Nat → ClassId} {U : State} {g : JFrame} {mk : MethodId} {a : Array Value} (h : KS D ca U) : KS D ca (U.calling g mk a) := KS.warm (s := U) (U := U.calling g mk a) (State.WarmedH.refl U) h
def nno : va_E → Bool
  | .inl x => Nat.ble x.1 2
  | .inr o => Nat.ble 4 o.1
/-- a picture of the heap that no write into a cell that is no node changes -/
def NSt (D : va_G) (ca : Nat → ClassId) (ad : Nat → Nat) (N : Heap → Prop) : Prop := ∀ (H H' : Heap) (t : Nat) (x : va_E), nno x = true → va_at D vwCl (ad t, ce ad ca x) H → H'.size = H.size → (∀ q : Nat, q ≠ ad t → H'[q]? = H[q]?) → N H → N H'
theorem NSt.tt {D : va_G} {ca : Nat → ClassId} {ad : Nat → Nat} : NSt D ca ad (fun _ => True) := fun _ _ _ _ _ _ _ _ _ => trivial
theorem clsOk : ∀ (ci : Nat) (r : vw_C), vwCl[ci]? = some r → (∀ w ∈ u_ws r.1 r.2.1 r.2.2, w ∈ tb) ∧ ∃ ty0 : Nat → FieldType, (∀ k, k < r.2.2 → parseFieldDescriptor (r.2.1 k).2.2.1 = some (ty0 k)) ∧ ∀ a, a < r.2.2 → ∀ b, b < r.2.2 → a ≠ b → (r.2.1 a).2.1 ≠ (r.2.1 b).2.1
  | 0, _, h => by cases h; exact ⟨iw_X0, tyX0, tyX0_ok, nmX0⟩
  | 1, _, h => by cases h; exact ⟨iw_X1, tyX1, tyX1_ok, nmX1⟩
  | 2, _, h => by cases h; exact ⟨iw_X2, tyX2, tyX2_ok, nmX2⟩
  | 3, _, h => by cases h; exact ⟨iw_X3, tyX3, tyX3_ok, nmX3⟩
  | 4, _, h => by cases h; exact ⟨iw_X5, tyX5, tyX5_ok, nmX5⟩
  | 5, _, h => by cases h; exact ⟨iw_X6, tyX6, tyX6_ok, nmX6⟩
  | 6, _, h => by cases h; exact ⟨iw_X7, tyX7, tyX7_ok, nmX7⟩
  | 7, _, h => by cases h; exact ⟨iw_X8, tyX8, tyX8_ok, nmX8⟩
  | 8, _, h => by cases h; exact ⟨iw_X9, tyX9, tyX9_ok, nmX9⟩
  | k + 9, _, h => by simp [vwCl] at h
section
variable {p : Program} {l : Launch} {e : Env} {R : Room} {s : State} {m : MethodId} {args : Array Value} {below : List Frame} {meth : Method} {c : Code} {H : Heap} {locs : List Loc} {cells slots : Nat} {Q : State → Prop}
variable {cc : ByteArray} {pc : Nat} {ls : Array Slot} {rest : List Value} {D : va_G} {A : Nat → Prop} {a : Nat} {tys : List (ClassId × FieldType)} {ws : va_W} {H0 : Heap}
/-- putfield: as the kit's, and what the heap is outside the cell -/
theorem xput (hexec : p.tables.exec = Jvm.exec) (hb : c.code = cc) {own : String} {r : vw_C} {ci index : Nat} (hts : ∀ w ∈ tb, w.before args s = true) (hown : s.vm.findClass own = some m.cls) (hK : va_K D vwCl tys s) (hP : va_P D vwCl ws H) (hD : va_D A ws) (hS0 : va_S A H0 H locs) (q0 : Nat) {fs : List Value} (he : ws[q0]? = some (a, .inr (ci, fs))) (hc : vwCl[ci]? = some r) (k : Nat) (hk : k < r.2.2) (hlink : Cond.fieldLink own index (r.2.1 k).1 (r.2.1 k).2.1 (r.2.1 k).2.2.1 ∈ tb) (hfin : (r.2.1 k).2.2.2 = false) {ty : FieldType} {v : Value} (hd : parseFieldDescriptor (r.2.1 k).2.2.1 = some ty) (hn : narrow ty v = v) (hfit : fits ty v = true) (hl : k < fs.length)
    (hdg : decode cc pc = .ok (.putfield index, 3)) (kk : ∀ (H1 : Heap) (locs1 : List Loc), va_P D vwCl (ws.set q0 (a, .inr (ci, fs.set k v))) H1 → H1.size = H.size → (∀ q : Nat, q ≠ a → H1[q]? = H[q]?) → va_S A H0 H1 locs1 → W p l e R s m args below meth c H1 locs1 cells slots Q (F0 m (pc + 3) ls rest)) : W p l e R s m args below meth c H locs cells slots Q (F0 m pc ls (v :: .ref a :: rest)) := by
  obtain ⟨hin, ty0, hty, hnm⟩ := clsOk ci r hc
  obtain ⟨C, T, N⟩ := r
  have hap := va_apart (own := own) hts hin ty0 hty hnm hK hc
  obtain ⟨r, h1, cell, q1, q2, q3, q4⟩ := hP q0 _ he
  have hr : r = (C, T, N) := Option.some.inj (h1.symm.trans hc)
  subst hr
  obtain ⟨hS, hfc, kC, hkC, hkind⟩ := hK.1 ci _ hc
  obtain ⟨cf, kf, fi, f, hi, hsl⟩ := hS k hk
  have hlay := hts _ (hin _ (u_in_lay hk))
  unfold u_lay at hlay
  rw [if_neg (by rw [hfin]; decide)] at hlay
  have hst := (u_facts hfc hkC (u_lays hts hin hk) hi).1
  have h6 := u_store hfc hkC hkind hlay hi hd hn hfit
  refine W.putK hexec hb (f := f) ⟨hown, hts _ hlink, ⟨_, _, _, hi⟩, hst⟩ (by rw [q2]; exact h6) q1 q3 (by rw [hsl]; exact k2_hasslot (q4 k hk)) rfl rfl hdg fun H' e1 e2 e3 => ?_
  rw [hsl] at e1 ⊢
  exact kk H' _ (hP.set hD he ⟨_, hc, t_OB.to (V := updV (vp_V fs) k v) ⟨_, e1, q2, q3, t_set q4 hap hk v⟩ (fun j _ => vp_updV_set hl v j)⟩ e3) e2 e3 (hS0.put e2 e3 (hD.2 q0 _ he))
theorem xiast (hexec : p.tables.exec = Jvm.exec) (hb : c.code = cc) (hK : va_K D vwCl tys s) (hP : va_P D vwCl ws H) (hD : va_D A ws) (hS : va_S A H0 H locs) (q0 t0 : Nat) {cA : ClassId} {n : Nat} {f : Nat → Int32} (ha : ws[q0]? = some (a, .inl (cA, n, .inl f))) (ht : tys[t0]? = some (cA, .int)) {i : Int32} {x : Int32} (hin : vp_in i n) (hdg : decode cc pc = .ok (.iastore, 1))
    (kk : ∀ (H1 : Heap) (locs1 : List Loc), va_P D vwCl (ws.set q0 (a, .inl (cA, n, .inl (upd f i.toNatClampNeg x)))) H1 → H1.size = H.size → (∀ q : Nat, q ≠ a → H1[q]? = H[q]?) → va_S A H0 H1 locs1 → W p l e R s m args below meth c H1 locs1 cells slots Q (F0 m (pc + 1) ls rest)) : W p l e R s m args below meth c H locs cells slots Q (F0 m pc ls (.int x :: .int i :: .ref a :: rest)) := by
  refine W.iast hexec hb (hP q0 _ ha) ((hK.2 t0 _ ht).1 n (fun j => .int (f j))) (fun q => by cases q) (by show ¬ (i < 0 ∨ (arrV _ _ _).slots.size ≤ _); rw [arrV_size]; exact hin) rfl rfl hdg fun H1 e1 z oq => ?_
  refine kk H1 _ (hP.set hD ha ?_ oq) z oq (hS.put z oq (hD.2 q0 _ ha))
  show H1[a]? = some (vp_cell _ _)
  rw [e1, vp_cell_i, vp_cell_i, arrV_store]
  congr 2
  funext q
  by_cases hq : q = i.toNatClampNeg
  · subst hq
    simp [updV, upd]
  · simp [updV, upd, hq]
theorem xlast (hexec : p.tables.exec = Jvm.exec) (hb : c.code = cc) (hK : va_K D vwCl tys s) (hP : va_P D vwCl ws H) (hD : va_D A ws) (hS : va_S A H0 H locs) (q0 t0 : Nat) {cA : ClassId} {n : Nat} {f : Nat → Int64} (ha : ws[q0]? = some (a, .inl (cA, n, .inr (.inl f)))) (ht : tys[t0]? = some (cA, .long)) {i : Int32} {x : Int64} (hin : vp_in i n) (hdg : decode cc pc = .ok (.lastore, 1))
    (kk : ∀ (H1 : Heap) (locs1 : List Loc), va_P D vwCl (ws.set q0 (a, .inl (cA, n, .inr (.inl (vp_updL f i.toNatClampNeg x))))) H1 → H1.size = H.size → (∀ q : Nat, q ≠ a → H1[q]? = H[q]?) → va_S A H0 H1 locs1 → W p l e R s m args below meth c H1 locs1 cells slots Q (F0 m (pc + 1) ls rest)) : W p l e R s m args below meth c H locs cells slots Q (F0 m pc ls (.long x :: .int i :: .ref a :: rest)) := by
  refine W.last hexec hb (hP q0 _ ha) ((hK.2 t0 _ ht).1 n (fun j => .long (f j))) (fun q => by cases q) (by show ¬ (i < 0 ∨ (arrV _ _ _).slots.size ≤ _); rw [arrV_size]; exact hin) rfl rfl hdg fun H1 e1 z oq => ?_
  refine kk H1 _ (hP.set hD ha ?_ oq) z oq (hS.put z oq (hD.2 q0 _ ha))
  show H1[a]? = some (vp_cell _ _)
  rw [e1, vp_cell_l, vp_cell_l, arrV_store]
  congr 2
  funext q
  by_cases hq : q = i.toNatClampNeg
  · subst hq
    simp [updV, vp_updL]
  · simp [updV, vp_updL, hq]
end
/-- the machine at pc, with locals, stack and cells as named -/
def Wa (p : Program) (l : Launch) (e : Env) (R : Room) (s : State) (m : MethodId) (args : Array Value) (below : List Frame) (meth : Method) (c : Code) (cells slots : Nat) (Q : State → Prop) (D : va_G) (ca : Nat → ClassId) (ad : Nat → Nat) (A : Nat → Prop) (nL : Nat) (N : Heap → Prop) (S : AS) (pc : Nat) : Prop :=
  ∀ (H : Heap) (locs : List Loc) (ls : Array Slot), lv_has ls nL (cl ad S.1) → va_P D vwCl (cw ad ca 0 S.2.2) H → va_S A s.heap H locs → N H → W p l e R s m args below meth c H locs cells slots Q (F0 m pc ls (S.2.1.map (cv ad)))
/-- what stays over a walk -/
def Cx (p : Program) (s : State) (m : MethodId) (args : Array Value) (c : Code) (cc : ByteArray) (nL : Nat) (own : String) (D : va_G) (ca : Nat → ClassId) (ad : Nat → Nat) (A : Nat → Prop) (N : Heap → Prop) (n : Nat) : Prop :=
  CallFix p m c cc nL s args tb own ∧ KS D ca s ∧ NSt D ca ad N ∧ AD ad n ∧ (∀ k, k < n → A (ad k)) ∧ ∀ q : Nat, s.heap.size ≤ q → A q
section
variable {p : Program} {l : Launch} {e : Env} {R : Room} {s : State} {m : MethodId} {args : Array Value} {below : List Frame} {meth : Method} {c : Code} {cells slots : Nat} {Q : State → Prop}
variable {cc : ByteArray} {nL n : Nat} {own : String} {D : va_G} {ca : Nat → ClassId} {ad : Nat → Nat} {A : Nat → Prop} {N : Heap → Prop} {ft : List (Nat × Nat × Nat)} {ct : List (Nat × Value)}
set_option maxHeartbeats 4000000 in
theorem ev1_sound (C : Cx p s m args c cc nL own D ca ad A N n) (hft : FTo own ft) (hct : CTo own ct) {q : Nat} {i : Instr} {w : Value} {a b : Nat} (hdec : decode cc q = .ok (i, ilen i)) (hax : axo ft ct q i w a b = true) {lv : List (Nat × Value)} {st : List Value} {ws : List va_E} {S' : AS} {cnd cnd' : Prop} (hev : ev1 nL i w a b lv st ws cnd = some (S', cnd')) (hn : ws.length = n) (hc : cnd')
    (k : Wa p l e R s m args below meth c cells slots Q D ca ad A nL N S' (npc q i)) : cnd ∧ S'.2.2.length = n ∧ Wa p l e R s m args below meth c cells slots Q D ca ad A nL N (lv, st, ws) q := by
  obtain ⟨⟨hx, hb, hml, hown, hts⟩, ⟨hK, -⟩, hNS, hAD, hAa, -⟩ := C
  have hDD : va_D A (cw ad ca 0 ws) := cw_D hn hAD hAa
  cases i
  case iconst z =>
    cases hev
    have hw : w = .int (Int32.ofInt z) := by simpa [axo] using hax
    exact ⟨hc, hn, fun H locs ls h1 h2 h3 h4 => lv_iconst hx hb hdec rfl (by have := k H locs ls h1 h2 h3 h4; rw [hw] at this; exact this)⟩
  case bipush z =>
    cases hev
    have hw : w = .int (Int8.ofInt z).toInt32 := by simpa [axo] using hax
    exact ⟨hc, hn, fun H locs ls h1 h2 h3 h4 => lv_bipush hx hb hdec rfl (by have := k H locs ls h1 h2 h3 h4; rw [hw] at this; exact this)⟩
  case sipush z =>
    cases hev
    have hw : w = .int (Int16.ofInt z).toInt32 := by simpa [axo] using hax
    exact ⟨hc, hn, fun H locs ls h1 h2 h3 h4 => lv_sipush hx hb hdec rfl (by have := k H locs ls h1 h2 h3 h4; rw [hw] at this; exact this)⟩
  case lconst z =>
    cases hev
    have hw : w = .long (Int64.ofNat (z : Nat)) := by simpa [axo] using hax
    exact ⟨hc, hn, fun H locs ls h1 h2 h3 h4 => lv_lconst hx hb hdec rfl (by have := k H locs ls h1 h2 h3 h4; rw [hw] at this; exact this)⟩
  case ldc z =>
    cases hev
    cases w with
    | int v =>
      have h1 : (z, Value.int v) ∈ ct := by simpa [axo] using hax
      have h2 : Cond.constant own z v ∈ tb := hct _ h1
      exact ⟨hc, hn, fun H locs ls h3 h4 h5 h6 => lv_ldc hx hb hown (hts _ h2) hdec (k H locs ls h3 h4 h5 h6)⟩
    | _ => simp [axo] at hax
  case ldc2_w z =>
    cases hev
    cases w with
    | long v =>
      have h1 : (z, Value.long v) ∈ ct := by simpa [axo] using hax
      have h2 : Cond.constantLong own z v ∈ tb := hct _ h1
      exact ⟨hc, hn, fun H locs ls h3 h4 h5 h6 => lv_ldc2 hx hb hown (hts _ h2) hdec (k H locs ls h3 h4 h5 h6)⟩
    | _ => simp [axo] at hax
  case aconst_null =>
    cases hev
    exact ⟨hc, hn, fun H locs ls h1 h2 h3 h4 => lv_null hx hb hdec (k H locs ls h1 h2 h3 h4)⟩
  case iload z =>
    simp only [ev1] at hev
    split at hev
    next x hf =>
      cases hev
      exact ⟨hc, hn, fun H locs ls h1 h2 h3 h4 => lv_iload hx hb hdec (cl_fnd h1 hf) (k H locs ls h1 h2 h3 h4)⟩
    next => cases hev
  case iload_n z =>
    simp only [ev1] at hev
    split at hev
    next x hf =>
      cases hev
      exact ⟨hc, hn, fun H locs ls h1 h2 h3 h4 => lv_iload_n hx hb hdec rfl (cl_fnd h1 hf) (k H locs ls h1 h2 h3 h4)⟩
    next => cases hev
  case lload z =>
    simp only [ev1] at hev
    split at hev
    next x hf =>
      cases hev
      exact ⟨hc, hn, fun H locs ls h1 h2 h3 h4 => lv_lload hx hb hdec (cl_fnd h1 hf) (k H locs ls h1 h2 h3 h4)⟩
    next => cases hev
  case lload_n z =>
    simp only [ev1] at hev
    split at hev
    next x hf =>
      cases hev
      exact ⟨hc, hn, fun H locs ls h1 h2 h3 h4 => lv_lload_n hx hb hdec rfl (cl_fnd h1 hf) (k H locs ls h1 h2 h3 h4)⟩
    next => cases hev
  case aload z =>
    simp only [ev1] at hev
    split at hev
    next x hf =>
      cases hev
      exact ⟨hc, hn, fun H locs ls h1 h2 h3 h4 => lv_aload hx hb hdec (cl_fnd h1 hf) (k H locs ls h1 h2 h3 h4)⟩
    next hf =>
      cases hev
      exact ⟨hc, hn, fun H locs ls h1 h2 h3 h4 => lv_aloadN hx hb hdec (cl_fnd h1 hf) (k H locs ls h1 h2 h3 h4)⟩
    next => cases hev
  case aload_n z =>
    simp only [ev1] at hev
    split at hev
    next x hf =>
      cases hev
      exact ⟨hc, hn, fun H locs ls h1 h2 h3 h4 => lv_aload_n hx hb hdec rfl (cl_fnd h1 hf) (k H locs ls h1 h2 h3 h4)⟩
    next hf =>
      cases hev
      exact ⟨hc, hn, fun H locs ls h1 h2 h3 h4 => lv_aload_nN hx hb hdec rfl (cl_fnd h1 hf) (k H locs ls h1 h2 h3 h4)⟩
    next => cases hev
  case istore z =>
    simp only [ev1] at hev
    split at hev
    next x r =>
      split at hev
      next hz =>
        split at hev
        next lv2 h9 =>
          cases hev
          exact ⟨hc, hn, fun H locs ls h1 h2 h3 h4 => lv_istore hx hb hdec h1 (Nat.blt_eq.mp hz) rfl (fun ls' h' => k H locs ls' (so1_has h9 h') h2 h3 h4)⟩
        next => cases hev
      next => cases hev
    next => cases hev
  case istore_n z =>
    simp only [ev1] at hev
    split at hev
    next x r =>
      split at hev
      next hz =>
        split at hev
        next lv2 h9 =>
          cases hev
          exact ⟨hc, hn, fun H locs ls h1 h2 h3 h4 => lv_istore_n hx hb hdec rfl h1 (Nat.blt_eq.mp hz) rfl (fun ls' h' => k H locs ls' (so1_has h9 h') h2 h3 h4)⟩
        next => cases hev
      next => cases hev
    next => cases hev
  case lstore z =>
    simp only [ev1] at hev
    split at hev
    next x r =>
      split at hev
      next hz =>
        split at hev
        next lv2 h9 =>
          cases hev
          exact ⟨hc, hn, fun H locs ls h1 h2 h3 h4 => lv_lstore hx hb hdec h1 (Nat.blt_eq.mp hz) rfl (fun ls' h' => k H locs ls' (so2_has h9 h') h2 h3 h4)⟩
        next => cases hev
      next => cases hev
    next => cases hev
  case lstore_n z =>
    simp only [ev1] at hev
    split at hev
    next x r =>
      split at hev
      next hz =>
        split at hev
        next lv2 h9 =>
          cases hev
          exact ⟨hc, hn, fun H locs ls h1 h2 h3 h4 => lv_lstore_n hx hb hdec rfl h1 (Nat.blt_eq.mp hz) rfl (fun ls' h' => k H locs ls' (so2_has h9 h') h2 h3 h4)⟩
        next => cases hev
      next => cases hev
    next => cases hev
  case astore z =>
    simp only [ev1] at hev
    split at hev
    next x r =>
      split at hev
      next hz =>
        split at hev
        next lv2 h9 =>
          cases hev
          exact ⟨hc, hn, fun H locs ls h1 h2 h3 h4 => lv_astore hx hb hdec h1 (Nat.blt_eq.mp hz) rfl (fun ls' h' => k H locs ls' (so1_has h9 h') h2 h3 h4)⟩
        next => cases hev
      next => cases hev
    next r =>
      split at hev
      next hz =>
        split at hev
        next lv2 h9 =>
          cases hev
          exact ⟨hc, hn, fun H locs ls h1 h2 h3 h4 => lv_astoreN hx hb hdec h1 (Nat.blt_eq.mp hz) rfl (fun ls' h' => k H locs ls' (so1_has h9 h') h2 h3 h4)⟩
        next => cases hev
      next => cases hev
    next => cases hev
  case astore_n z =>
    simp only [ev1] at hev
    split at hev
    next x r =>
      split at hev
      next hz =>
        split at hev
        next lv2 h9 =>
          cases hev
          exact ⟨hc, hn, fun H locs ls h1 h2 h3 h4 => lv_astore_n hx hb hdec rfl h1 (Nat.blt_eq.mp hz) rfl (fun ls' h' => k H locs ls' (so1_has h9 h') h2 h3 h4)⟩
        next => cases hev
      next => cases hev
    next r =>
      split at hev
      next hz =>
        split at hev
        next lv2 h9 =>
          cases hev
          exact ⟨hc, hn, fun H locs ls h1 h2 h3 h4 => lv_astore_nN hx hb hdec rfl h1 (Nat.blt_eq.mp hz) rfl (fun ls' h' => k H locs ls' (so1_has h9 h') h2 h3 h4)⟩
        next => cases hev
      next => cases hev
    next => cases hev
  case iinc z d =>
    simp only [ev1] at hev
    split at hev
    next x hf =>
      split at hev
      next w d2 =>
        split at hev
        next hz =>
          split at hev
          next lv2 h9 =>
            cases hev
            have hw : d2 = Int32.ofInt d := by simpa [axo] using hax
            obtain ⟨kk, hkk⟩ := List.getElem?_of_mem (fnd_mem lv hf)
            refine ⟨hc, hn, fun H locs ls h1 h2 h3 h4 => lv_iinc (k := kk) (x := x) (v := x + d2) hx hb hdec h1 ?_ (by rw [hw]) (Nat.blt_eq.mp hz) rfl (fun ls' h' => k H locs ls' (so1_has h9 h') h2 h3 h4)⟩
            simp [cl, hkk, cv]
          next => cases hev
        next => cases hev
      next => cases hev
    next => cases hev
  case iadd =>
    simp only [ev1] at hev
    split at hev
    next x y r => cases hev; exact ⟨hc, hn, fun H locs ls h1 h2 h3 h4 => lv_iadd hx hb hdec (k H locs ls h1 h2 h3 h4)⟩
    next => cases hev
  case isub =>
    simp only [ev1] at hev
    split at hev
    next x y r => cases hev; exact ⟨hc, hn, fun H locs ls h1 h2 h3 h4 => lv_isub hx hb hdec (k H locs ls h1 h2 h3 h4)⟩
    next => cases hev
  case imul =>
    simp only [ev1] at hev
    split at hev
    next x y r => cases hev; exact ⟨hc, hn, fun H locs ls h1 h2 h3 h4 => lv_imul hx hb hdec (k H locs ls h1 h2 h3 h4)⟩
    next => cases hev
  case iand =>
    simp only [ev1] at hev
    split at hev
    next x y r => cases hev; exact ⟨hc, hn, fun H locs ls h1 h2 h3 h4 => lv_iand hx hb hdec (k H locs ls h1 h2 h3 h4)⟩
    next => cases hev
  case ixor =>
    simp only [ev1] at hev
    split at hev
    next x y r => cases hev; exact ⟨hc, hn, fun H locs ls h1 h2 h3 h4 => lv_ixor hx hb hdec (k H locs ls h1 h2 h3 h4)⟩
    next => cases hev
  case ishl =>
    simp only [ev1] at hev
    split at hev
    next x y r => cases hev; exact ⟨hc, hn, fun H locs ls h1 h2 h3 h4 => lv_ishl hx hb hdec (k H locs ls h1 h2 h3 h4)⟩
    next => cases hev
  case ishr =>
    simp only [ev1] at hev
    split at hev
    next x y r => cases hev; exact ⟨hc, hn, fun H locs ls h1 h2 h3 h4 => lv_ishr hx hb hdec (k H locs ls h1 h2 h3 h4)⟩
    next => cases hev
  case iushr =>
    simp only [ev1] at hev
    split at hev
    next x y r => cases hev; exact ⟨hc, hn, fun H locs ls h1 h2 h3 h4 => lv_iushr hx hb hdec rfl (k H locs ls h1 h2 h3 h4)⟩
    next => cases hev
  case i2l =>
    simp only [ev1] at hev
    split at hev
    next x r => cases hev; exact ⟨hc, hn, fun H locs ls h1 h2 h3 h4 => lv_i2l hx hb hdec rfl (k H locs ls h1 h2 h3 h4)⟩
    next => cases hev
  case l2i =>
    simp only [ev1] at hev
    split at hev
    next x r => cases hev; exact ⟨hc, hn, fun H locs ls h1 h2 h3 h4 => lv_l2i hx hb hdec rfl (k H locs ls h1 h2 h3 h4)⟩
    next => cases hev
  case lmul =>
    simp only [ev1] at hev
    split at hev
    next x y r => cases hev; exact ⟨hc, hn, fun H locs ls h1 h2 h3 h4 => lv_lmul hx hb hdec (k H locs ls h1 h2 h3 h4)⟩
    next => cases hev
  case land =>
    simp only [ev1] at hev
    split at hev
    next x y r => cases hev; exact ⟨hc, hn, fun H locs ls h1 h2 h3 h4 => lv_land hx hb hdec (k H locs ls h1 h2 h3 h4)⟩
    next => cases hev
  case lor =>
    simp only [ev1] at hev
    split at hev
    next x y r => cases hev; exact ⟨hc, hn, fun H locs ls h1 h2 h3 h4 => lv_lor hx hb hdec (k H locs ls h1 h2 h3 h4)⟩
    next => cases hev
  case lxor =>
    simp only [ev1] at hev
    split at hev
    next x y r => cases hev; exact ⟨hc, hn, fun H locs ls h1 h2 h3 h4 => lv_lxor hx hb hdec (k H locs ls h1 h2 h3 h4)⟩
    next => cases hev
  case lshl =>
    simp only [ev1] at hev
    split at hev
    next x y r => cases hev; exact ⟨hc, hn, fun H locs ls h1 h2 h3 h4 => lv_lshl hx hb hdec rfl (k H locs ls h1 h2 h3 h4)⟩
    next => cases hev
  case lshr =>
    simp only [ev1] at hev
    split at hev
    next x y r => cases hev; exact ⟨hc, hn, fun H locs ls h1 h2 h3 h4 => lv_lshr hx hb hdec rfl (k H locs ls h1 h2 h3 h4)⟩
    next => cases hev
  case lushr =>
    simp only [ev1] at hev
    split at hev
    next x y r => cases hev; exact ⟨hc, hn, fun H locs ls h1 h2 h3 h4 => lv_lushr hx hb hdec rfl (k H locs ls h1 h2 h3 h4)⟩
    next => cases hev
  case lcmp =>
    simp only [ev1] at hev
    split at hev
    next x y r => cases hev; exact ⟨hc, hn, fun H locs ls h1 h2 h3 h4 => W.lcmp hx hb hdec (k H locs ls h1 h2 h3 h4)⟩
    next => cases hev
  case dup =>
    simp only [ev1] at hev
    split at hev
    next x r => cases hev; exact ⟨hc, hn, fun H locs ls h1 h2 h3 h4 => lv_dup hx hb hdec rfl (k H locs ls h1 h2 h3 h4)⟩
    next x r => cases hev; exact ⟨hc, hn, fun H locs ls h1 h2 h3 h4 => lv_dup hx hb hdec rfl (k H locs ls h1 h2 h3 h4)⟩
    next => cases hev
  case dup2 =>
    simp only [ev1] at hev
    split at hev
    next x y r => cases hev; exact ⟨hc, hn, fun H locs ls h1 h2 h3 h4 => lv_dup2_11 hx hb hdec rfl rfl (k H locs ls h1 h2 h3 h4)⟩
    next => cases hev
  case pop =>
    simp only [ev1] at hev
    split at hev
    next x r => cases hev; exact ⟨hc, hn, fun H locs ls h1 h2 h3 h4 => lv_pop hx hb hdec rfl (k H locs ls h1 h2 h3 h4)⟩
    next x r => cases hev; exact ⟨hc, hn, fun H locs ls h1 h2 h3 h4 => lv_pop hx hb hdec rfl (k H locs ls h1 h2 h3 h4)⟩
    next r => cases hev; exact ⟨hc, hn, fun H locs ls h1 h2 h3 h4 => lv_pop hx hb hdec rfl (k H locs ls h1 h2 h3 h4)⟩
    next => cases hev
  case goto off =>
    cases hev
    have h9 : 0 ≤ (q : Int) + off := by simpa [axo] using hax
    exact ⟨hc, hn, fun H locs ls h1 h2 h3 h4 => lv_goto (tgt := ((q : Int) + off).toNat) hx hb hdec (Int.toNat_of_nonneg h9).symm (k H locs ls h1 h2 h3 h4)⟩
  case getfield z =>
    simp only [ev1] at hev
    split at hev
    next t r =>
      split at hev
      next o ho =>
        split at hev
        next hb2 =>
          split at hev
          next v hv =>
            cases hev
            have e1 := Nat.eq_of_beq_eq_true hb2
            have h1 : (z, a, b) ∈ ft := by simpa [axo] using hax
            obtain ⟨rr, g1, g2, g3⟩ := hft _ h1
            obtain ⟨C9, T9, N9⟩ := rr
            rw [nth_eq] at ho hv
            refine ⟨hc, hn, fun H locs ls h1 h2 h3 h4 => va_get (D := D) (ci := a) (C := C9) (T := T9) (N := N9) (fs := o.2.map (cv ad)) (v := cv ad v) hx hb hts (clsOk a _ g1).1 hown hK h2 t ?_ g1 b g2 (hts _ g3) (fun _ h9 => h9) ?_ hdec (k H locs ls h1 h2 h3 h4)⟩
            · rw [cw_at, ho, ← e1]; simp [ce]
            · simp [hv]
          next => cases hev
        next => cases hev
      next => cases hev
    next => cases hev
  case putfield z =>
    simp only [ev1] at hev
    split at hev
    next v t r =>
      split at hev
      next o ho =>
        split at hev
        next hb2 =>
          split at hev
          next hk9 =>
            split at hev
            next fs hfs =>
              split at hev
              next ws2 hws =>
                cases hev
                have e1 := Nat.eq_of_beq_eq_true hb2
                simp only [axo, Bool.and_eq_true] at hax
                obtain ⟨hx1, hx2, hx3⟩ := hax
                have h1 : (z, a, b) ∈ ft := by simpa using hx1
                obtain ⟨rr, g1, g2, g3⟩ := hft _ h1
                rw [g1] at hx3
                simp only [Bool.and_eq_true, Bool.not_eq_true'] at hx3
                obtain ⟨hx3, hx4⟩ := hx3
                rw [nth_eq] at ho
                obtain ⟨f1, f2⟩ := setl_eq _ _ _ _ hfs
                obtain ⟨w1, w2⟩ := setl_eq _ _ _ _ hws
                have hty : ∃ ty, parseFieldDescriptor (rr.2.1 b).2.2.1 = some ty ∧ narrow ty (cv ad v) = cv ad v ∧ fits ty (cv ad v) = true := by
                  split at hx4
                  next hp => split at hk9 <;> first | (cases hk9; done) | (refine ⟨_, hp, rfl, rfl⟩) | (simp at *)
                  next hp => split at hk9 <;> first | (cases hk9; done) | (refine ⟨_, hp, rfl, rfl⟩) | (simp at *)
                  next hp => split at hk9 <;> first | (cases hk9; done) | (refine ⟨_, hp, rfl, rfl⟩) | (simp at *)
                  next hp => split at hk9 <;> first | (cases hk9; done) | (refine ⟨_, hp, rfl, rfl⟩) | (simp at *)
                  next => cases hx4
                obtain ⟨ty, t1, t2, t3⟩ := hty
                have hat : (cw ad ca 0 ws)[t]? = some (ad t, .inr (a, o.2.map (cv ad))) := by rw [cw_at, ho, ← e1]; simp [ce]
                refine ⟨hc, by rw [w1]; simpa using hn, fun H locs ls h1 h2 h3 h4 => xput (D := D) (ci := a) (r := rr) (fs := o.2.map (cv ad)) hx hb hts hown hK h2 hDD h3 t hat g1 b g2 g3 hx3 t1 t2 t3 (by simpa using f2) hdec (fun H1 locs1 j1 j2 j3 j4 => k H1 locs1 ls h1 ?_ j4 ?_)⟩
                · rw [w1, cw_set]
                  rw [Nat.zero_add, f1, e1]
                  simpa [ce, List.map_set] using j1
                · exact hNS H H1 t (.inr o) (by rw [nno, e1]; exact hx2) (by have := h2 t _ hat; simpa [ce, e1] using this) j2 j3 h4
              next => cases hev
            next => cases hev
          next => cases hev
        next => cases hev
      next => cases hev
    next => cases hev
  case iaload =>
    simp only [ev1] at hev
    split at hev
    next x t r =>
      split at hev
      next nn f ho =>
        cases hev
        rw [nth_eq] at ho
        exact ⟨hc.2, hn, fun H locs ls h1 h2 h3 h4 => va_iald (D := D) (cA := ca 0) (n := nn) (f := f) hx hb hK h2 t 0 (by rw [cw_at, ho]; simp [ce]) rfl hc.1 hdec (k H locs ls h1 h2 h3 h4)⟩
      next => cases hev
    next => cases hev
  case laload =>
    simp only [ev1] at hev
    split at hev
    next x t r =>
      split at hev
      next nn f ho =>
        cases hev
        rw [nth_eq] at ho
        exact ⟨hc.2, hn, fun H locs ls h1 h2 h3 h4 => va_lald (D := D) (cA := ca 1) (n := nn) (f := f) hx hb hK h2 t 1 (by rw [cw_at, ho]; simp [ce]) rfl hc.1 hdec (k H locs ls h1 h2 h3 h4)⟩
      next => cases hev
    next => cases hev
  case iastore =>
    simp only [ev1] at hev
    split at hev
    next z x t r =>
      split at hev
      next nn f ho =>
        split at hev
        next ws2 hws =>
          cases hev
          rw [nth_eq] at ho
          obtain ⟨w1, w2⟩ := setl_eq _ _ _ _ hws
          have hat : (cw ad ca 0 ws)[t]? = some (ad t, .inl (ca 0, nn, .inl f)) := by rw [cw_at, ho]; simp [ce]
          refine ⟨hc.2, by rw [w1]; simpa using hn, fun H locs ls h1 h2 h3 h4 => xiast (D := D) (cA := ca 0) (n := nn) (f := f) hx hb hK h2 hDD h3 t 0 hat rfl hc.1 hdec (fun H1 locs1 j1 j2 j3 j4 => k H1 locs1 ls h1 ?_ j4 ?_)⟩
          · rw [w1, cw_set, Nat.zero_add]
            exact j1
          · exact hNS H H1 t (.inl (0, nn, .inl f)) rfl (h2 t _ hat) j2 j3 h4
        next => cases hev
      next => cases hev
    next => cases hev
  case lastore =>
    simp only [ev1] at hev
    split at hev
    next z x t r =>
      split at hev
      next nn f ho =>
        split at hev
        next ws2 hws =>
          cases hev
          rw [nth_eq] at ho
          obtain ⟨w1, w2⟩ := setl_eq _ _ _ _ hws
          have hat : (cw ad ca 0 ws)[t]? = some (ad t, .inl (ca 1, nn, .inr (.inl f))) := by rw [cw_at, ho]; simp [ce]
          refine ⟨hc.2, by rw [w1]; simpa using hn, fun H locs ls h1 h2 h3 h4 => xlast (D := D) (cA := ca 1) (n := nn) (f := f) hx hb hK h2 hDD h3 t 1 hat rfl hc.1 hdec (fun H1 locs1 j1 j2 j3 j4 => k H1 locs1 ls h1 ?_ j4 ?_)⟩
          · rw [w1, cw_set, Nat.zero_add]
            exact j1
          · exact hNS H H1 t (.inl (1, nn, .inr (.inl f))) rfl (h2 t _ hat) j2 j3 h4
        next => cases hev
      next => cases hev
    next => cases hev
  all_goals (exact absurd hev (by simp [ev1]))
end
end
section
/-! blocks, branches, entries, returns, calls over named cells -/
def Fr (ad : Nat → Nat) (n sz : Nat) : Nat → Prop := fun q => (∃ k, k < n ∧ q = ad k) ∨ sz ≤ q
def CPre (D : va_G) (ca : Nat → ClassId) (ad : Nat → Nat) (ws : List va_E) (sz : Nat) (av : List Value) (N : Heap → Prop) : Array Value → State → Prop := va_Pc (av.map (cv ad)) (fun U => U.heap.size = sz ∧ va_P D vwCl (cw ad ca 0 ws) U.heap ∧ KS D ca U ∧ N U.heap)
def CQ (D : va_G) (ca : Nat → ClassId) (ad : Nat → Nat) (G : Option Value → List va_E → Heap → Prop) (A : Nat → Prop) : Array Value → State → Outcome → State → Prop := fun _ st oc t => (∃ (v : Option Value) (ws' : List va_E), oc = .returned (v.map (cv ad)) ∧ va_P D vwCl (cw ad ca 0 ws') t.heap ∧ G v ws' t.heap) ∧ va_F A st t
/-- a method's contract, over the cells ws, with the answer and the cells behind it as G says -/
def Ct (l : Launch) (y : MethodName) (bytes : ByteArray) (maxL : Nat) (ret : Option FieldType) (rm : Room) (D : va_G) (ca : Nat → ClassId) (ad : Nat → Nat) (ws : List va_E) (n : Nat) (av : List Value) (N : Heap → Prop) (G : Option Value → List va_E → Heap → Prop) : Prop :=
  ∀ sz : Nat, Met l y (Cond.code y bytes maxL ret :: tb) rm (CPre D ca ad ws sz av N) (CQ D ca ad G (Fr ad n sz)) rm.cells rm.slots (Fr ad n sz)
theorem lv_args_cl (ad : Nat → Nat) : ∀ (av : List Value) (i : Nat), lv_args i (av.map (cv ad)) = cl ad (lv_args i av) := by
  intro av
  induction av with
  | nil => intro i; rfl
  | cons v r ih =>
    intro i
    show (i, cv ad v) :: lv_args (if (cv ad v).category = 2 then i + 2 else i + 1) (r.map (cv ad)) = _
    rw [ih, cv_cat]
    rfl
theorem ev1_len {nL : Nat} {i : Instr} {w : Value} {a b : Nat} {lv : List (Nat × Value)} {st : List Value} {ws : List va_E} {cnd cnd' : Prop} {S' : AS} (h : ev1 nL i w a b lv st ws cnd = some (S', cnd')) : S'.2.2.length = ws.length := by
  cases i <;> simp only [ev1] at h <;> (repeat' split at h) <;> first | (cases h; done) | (cases h; rfl) | (cases h; rename_i hws; rw [(setl_eq _ _ _ _ hws).1]; simp)
section
variable {p : Program} {l : Launch} {e : Env} {R : Room} {s : State} {m : MethodId} {args : Array Value} {below : List Frame} {meth : Method} {c : Code} {cells slots : Nat} {Q : State → Prop}
variable {cc : ByteArray} {nL n : Nat} {own : String} {D : va_G} {ca : Nat → ClassId} {ad : Nat → Nat} {A : Nat → Prop} {N : Heap → Prop} {ft : List (Nat × Nat × Nat)} {ct : List (Nat × Value)}
theorem seg (C : Cx p s m args c cc nL own D ca ad A N n) (hft : FTo own ft) (hct : CTo own ct) (qe : Nat) : ∀ (blk : List Ent) (S S' : AS) (c0 c' : Prop), okB ft ct cc qe blk = true → evB nL blk S c0 = some (S', c') → S.2.2.length = n → c' → Wa p l e R s m args below meth c cells slots Q D ca ad A nL N S' qe → c0 ∧ Wa p l e R s m args below meth c cells slots Q D ca ad A nL N S (hdq qe blk) := by
  intro blk
  induction blk with
  | nil =>
    intro S S' c0 c' _ hev _ hc k
    cases hev
    exact ⟨hc, k⟩
  | cons x r ih =>
    intro S S' c0 c' hok hev hn hc k
    simp only [okB, Bool.and_eq_true, decide_eq_true_eq] at hok
    obtain ⟨h1, h2, h3, h4⟩ := hok
    obtain ⟨lv, st, ws⟩ := S
    obtain ⟨q0, i0, w0, a0, b0⟩ := x
    simp only [evB] at hev
    split at hev
    next S1 c1 he =>
      obtain ⟨g1, g2⟩ := ih S1 S' c1 c' h4 hev ((ev1_len he).trans hn) hc k
      have h5 := Nat.eq_of_beq_eq_true h3
      obtain ⟨j1, -, j3⟩ := ev1_sound (l := l) (e := e) (R := R) (below := below) (meth := meth) (cells := cells) (slots := slots) (Q := Q) C hft hct h1 h2 he hn g1 (by rw [h5]; exact g2)
      exact ⟨j1, j3⟩
    next => cases hev
/-- a stretch -/
theorem sg (C : Cx p s m args c cc nL own D ca ad A N n) (hft : FTo own ft) (hct : CTo own ct) {qe q : Nat} {blk : List Ent} {S S' : AS} {c' : Prop} (hok : okB ft ct cc qe blk = true) (hq : hdq qe blk = q) (hev : evB nL blk S True = some (S', c')) (hn : S.2.2.length = n) (hc : c') (k : Wa p l e R s m args below meth c cells slots Q D ca ad A nL N S' qe) : Wa p l e R s m args below meth c cells slots Q D ca ad A nL N S q := hq ▸ (seg C hft hct qe blk S S' True c' hok hev hn hc k).2
/-- a stretch that reads and writes no array -/
theorem sg0 (C : Cx p s m args c cc nL own D ca ad A N n) (hft : FTo own ft) (hct : CTo own ct) {qe q : Nat} {blk : List Ent} {S S' : AS} (hok : okB ft ct cc qe blk = true) (hq : hdq qe blk = q) (hev : evB nL blk S True = some (S', True)) (hn : S.2.2.length = n) (k : Wa p l e R s m args below meth c cells slots Q D ca ad A nL N S' qe) : Wa p l e R s m args below meth c cells slots Q D ca ad A nL N S q := sg C hft hct hok hq hev hn trivial k
theorem Wa.ex {α : Type} {P : α → Heap → Prop} {S : AS} {pc : Nat} (h : ∀ x, Wa p l e R s m args below meth c cells slots Q D ca ad A nL (P x) S pc) : Wa p l e R s m args below meth c cells slots Q D ca ad A nL (fun H => ∃ x, P x H) S pc := fun H locs ls h1 h2 h3 ⟨x, h4⟩ => h x H locs ls h1 h2 h3 h4
theorem Wa.and {P : Prop} {S : AS} {pc : Nat} (h : P → Wa p l e R s m args below meth c cells slots Q D ca ad A nL N S pc) : Wa p l e R s m args below meth c cells slots Q D ca ad A nL (fun H => P ∧ N H) S pc := fun H locs ls h1 h2 h3 h4 => h h4.1 H locs ls h1 h2 h3 h4.2
theorem Wa.mono {N2 : Heap → Prop} {S : AS} {pc : Nat} (hN : ∀ H, N H → N2 H) (h : Wa p l e R s m args below meth c cells slots Q D ca ad A nL N2 S pc) : Wa p l e R s m args below meth c cells slots Q D ca ad A nL N S pc := fun H locs ls h1 h2 h3 h4 => h H locs ls h1 h2 h3 (hN H h4)
theorem Wa.wid {k1 k2 : Nat} {S : AS} {pc : Nat} (h1 : cells ≤ k1) (h2 : slots ≤ k2) (h : Wa p l e R s m args below meth c k1 k2 Q D ca ad A nL N S pc) : Wa p l e R s m args below meth c cells slots Q D ca ad A nL N S pc := fun H locs ls a1 a2 a3 a4 => W.widen h1 h2 (h H locs ls a1 a2 a3 a4)
/-- fewer locals -/
theorem Wa.lv {lv lv2 : List (Nat × Value)} {st : List Value} {ws : List va_E} {pc : Nat} (hs : ∀ x ∈ lv2, x ∈ lv) (h : Wa p l e R s m args below meth c cells slots Q D ca ad A nL N (lv2, st, ws) pc) : Wa p l e R s m args below meth c cells slots Q D ca ad A nL N (lv, st, ws) pc := fun H locs ls h1 h2 h3 h4 => h H locs ls ⟨h1.1, h1.2.1, fun x hx => by
  obtain ⟨y, hy, rfl⟩ := List.mem_map.mp hx
  exact h1.2.2 _ (List.mem_map.mpr ⟨y, hs y hy, rfl⟩)⟩ h2 h3 h4
theorem b1_eq (C : Cx p s m args c cc nL own D ca ad A N n) {x : Int32} {off : Int} {tgt pc : Nat} {lv : List (Nat × Value)} {st : List Value} {ws : List va_E} (hdg : decode cc pc = .ok (.ifCond .eq off, 3)) (ht : (pc : Int) + off = (tgt : Int)) (kt : x = 0 → Wa p l e R s m args below meth c cells slots Q D ca ad A nL N (lv, st, ws) tgt) (kf : ¬ x = 0 → Wa p l e R s m args below meth c cells slots Q D ca ad A nL N (lv, st, ws) (pc + 3)) : Wa p l e R s m args below meth c cells slots Q D ca ad A nL N (lv, .int x :: st, ws) pc :=
  fun H locs ls h1 h2 h3 h4 => lv_if_eq C.1.1 C.1.2.1 hdg ht (fun q => kt q H locs ls h1 h2 h3 h4) (fun q => kf q H locs ls h1 h2 h3 h4)
theorem b2_eq (C : Cx p s m args c cc nL own D ca ad A N n) {x y : Int32} {off : Int} {tgt pc : Nat} {lv : List (Nat × Value)} {st : List Value} {ws : List va_E} (hdg : decode cc pc = .ok (.if_icmp .eq off, 3)) (ht : (pc : Int) + off = (tgt : Int)) (kt : x = y → Wa p l e R s m args below meth c cells slots Q D ca ad A nL N (lv, st, ws) tgt) (kf : ¬ x = y → Wa p l e R s m args below meth c cells slots Q D ca ad A nL N (lv, st, ws) (pc + 3)) : Wa p l e R s m args below meth c cells slots Q D ca ad A nL N (lv, .int y :: .int x :: st, ws) pc :=
  fun H locs ls h1 h2 h3 h4 => lv_icmp_eq C.1.1 C.1.2.1 hdg ht (fun q => kt q H locs ls h1 h2 h3 h4) (fun q => kf q H locs ls h1 h2 h3 h4)
theorem b1_ne (C : Cx p s m args c cc nL own D ca ad A N n) {x : Int32} {off : Int} {tgt pc : Nat} {lv : List (Nat × Value)} {st : List Value} {ws : List va_E} (hdg : decode cc pc = .ok (.ifCond .ne off, 3)) (ht : (pc : Int) + off = (tgt : Int)) (kt : ¬ x = 0 → Wa p l e R s m args below meth c cells slots Q D ca ad A nL N (lv, st, ws) tgt) (kf : x = 0 → Wa p l e R s m args below meth c cells slots Q D ca ad A nL N (lv, st, ws) (pc + 3)) : Wa p l e R s m args below meth c cells slots Q D ca ad A nL N (lv, .int x :: st, ws) pc :=
  fun H locs ls h1 h2 h3 h4 => lv_if_ne C.1.1 C.1.2.1 hdg ht (fun q => kt q H locs ls h1 h2 h3 h4) (fun q => kf q H locs ls h1 h2 h3 h4)
theorem b2_ne (C : Cx p s m args c cc nL own D ca ad A N n) {x y : Int32} {off : Int} {tgt pc : Nat} {lv : List (Nat × Value)} {st : List Value} {ws : List va_E} (hdg : decode cc pc = .ok (.if_icmp .ne off, 3)) (ht : (pc : Int) + off = (tgt : Int)) (kt : ¬ x = y → Wa p l e R s m args below meth c cells slots Q D ca ad A nL N (lv, st, ws) tgt) (kf : x = y → Wa p l e R s m args below meth c cells slots Q D ca ad A nL N (lv, st, ws) (pc + 3)) : Wa p l e R s m args below meth c cells slots Q D ca ad A nL N (lv, .int y :: .int x :: st, ws) pc :=
  fun H locs ls h1 h2 h3 h4 => lv_icmp_ne C.1.1 C.1.2.1 hdg ht (fun q => kt q H locs ls h1 h2 h3 h4) (fun q => kf q H locs ls h1 h2 h3 h4)
theorem b1_lt (C : Cx p s m args c cc nL own D ca ad A N n) {x : Int32} {off : Int} {tgt pc : Nat} {lv : List (Nat × Value)} {st : List Value} {ws : List va_E} (hdg : decode cc pc = .ok (.ifCond .lt off, 3)) (ht : (pc : Int) + off = (tgt : Int)) (kt : x < 0 → Wa p l e R s m args below meth c cells slots Q D ca ad A nL N (lv, st, ws) tgt) (kf : ¬ x < 0 → Wa p l e R s m args below meth c cells slots Q D ca ad A nL N (lv, st, ws) (pc + 3)) : Wa p l e R s m args below meth c cells slots Q D ca ad A nL N (lv, .int x :: st, ws) pc :=
  fun H locs ls h1 h2 h3 h4 => lv_if_lt C.1.1 C.1.2.1 hdg ht (fun q => kt q H locs ls h1 h2 h3 h4) (fun q => kf q H locs ls h1 h2 h3 h4)
theorem b2_lt (C : Cx p s m args c cc nL own D ca ad A N n) {x y : Int32} {off : Int} {tgt pc : Nat} {lv : List (Nat × Value)} {st : List Value} {ws : List va_E} (hdg : decode cc pc = .ok (.if_icmp .lt off, 3)) (ht : (pc : Int) + off = (tgt : Int)) (kt : x < y → Wa p l e R s m args below meth c cells slots Q D ca ad A nL N (lv, st, ws) tgt) (kf : ¬ x < y → Wa p l e R s m args below meth c cells slots Q D ca ad A nL N (lv, st, ws) (pc + 3)) : Wa p l e R s m args below meth c cells slots Q D ca ad A nL N (lv, .int y :: .int x :: st, ws) pc :=
  fun H locs ls h1 h2 h3 h4 => lv_icmp_lt C.1.1 C.1.2.1 hdg ht (fun q => kt q H locs ls h1 h2 h3 h4) (fun q => kf q H locs ls h1 h2 h3 h4)
theorem b1_ge (C : Cx p s m args c cc nL own D ca ad A N n) {x : Int32} {off : Int} {tgt pc : Nat} {lv : List (Nat × Value)} {st : List Value} {ws : List va_E} (hdg : decode cc pc = .ok (.ifCond .ge off, 3)) (ht : (pc : Int) + off = (tgt : Int)) (kt : 0 ≤ x → Wa p l e R s m args below meth c cells slots Q D ca ad A nL N (lv, st, ws) tgt) (kf : ¬ 0 ≤ x → Wa p l e R s m args below meth c cells slots Q D ca ad A nL N (lv, st, ws) (pc + 3)) : Wa p l e R s m args below meth c cells slots Q D ca ad A nL N (lv, .int x :: st, ws) pc :=
  fun H locs ls h1 h2 h3 h4 => lv_if_ge C.1.1 C.1.2.1 hdg ht (fun q => kt q H locs ls h1 h2 h3 h4) (fun q => kf q H locs ls h1 h2 h3 h4)
theorem b2_ge (C : Cx p s m args c cc nL own D ca ad A N n) {x y : Int32} {off : Int} {tgt pc : Nat} {lv : List (Nat × Value)} {st : List Value} {ws : List va_E} (hdg : decode cc pc = .ok (.if_icmp .ge off, 3)) (ht : (pc : Int) + off = (tgt : Int)) (kt : y ≤ x → Wa p l e R s m args below meth c cells slots Q D ca ad A nL N (lv, st, ws) tgt) (kf : ¬ y ≤ x → Wa p l e R s m args below meth c cells slots Q D ca ad A nL N (lv, st, ws) (pc + 3)) : Wa p l e R s m args below meth c cells slots Q D ca ad A nL N (lv, .int y :: .int x :: st, ws) pc :=
  fun H locs ls h1 h2 h3 h4 => lv_icmp_ge C.1.1 C.1.2.1 hdg ht (fun q => kt q H locs ls h1 h2 h3 h4) (fun q => kf q H locs ls h1 h2 h3 h4)
theorem b1_gt (C : Cx p s m args c cc nL own D ca ad A N n) {x : Int32} {off : Int} {tgt pc : Nat} {lv : List (Nat × Value)} {st : List Value} {ws : List va_E} (hdg : decode cc pc = .ok (.ifCond .gt off, 3)) (ht : (pc : Int) + off = (tgt : Int)) (kt : 0 < x → Wa p l e R s m args below meth c cells slots Q D ca ad A nL N (lv, st, ws) tgt) (kf : ¬ 0 < x → Wa p l e R s m args below meth c cells slots Q D ca ad A nL N (lv, st, ws) (pc + 3)) : Wa p l e R s m args below meth c cells slots Q D ca ad A nL N (lv, .int x :: st, ws) pc :=
  fun H locs ls h1 h2 h3 h4 => lv_if_gt C.1.1 C.1.2.1 hdg ht (fun q => kt q H locs ls h1 h2 h3 h4) (fun q => kf q H locs ls h1 h2 h3 h4)
theorem b2_gt (C : Cx p s m args c cc nL own D ca ad A N n) {x y : Int32} {off : Int} {tgt pc : Nat} {lv : List (Nat × Value)} {st : List Value} {ws : List va_E} (hdg : decode cc pc = .ok (.if_icmp .gt off, 3)) (ht : (pc : Int) + off = (tgt : Int)) (kt : y < x → Wa p l e R s m args below meth c cells slots Q D ca ad A nL N (lv, st, ws) tgt) (kf : ¬ y < x → Wa p l e R s m args below meth c cells slots Q D ca ad A nL N (lv, st, ws) (pc + 3)) : Wa p l e R s m args below meth c cells slots Q D ca ad A nL N (lv, .int y :: .int x :: st, ws) pc :=
  fun H locs ls h1 h2 h3 h4 => lv_icmp_gt C.1.1 C.1.2.1 hdg ht (fun q => kt q H locs ls h1 h2 h3 h4) (fun q => kf q H locs ls h1 h2 h3 h4)
theorem b1_le (C : Cx p s m args c cc nL own D ca ad A N n) {x : Int32} {off : Int} {tgt pc : Nat} {lv : List (Nat × Value)} {st : List Value} {ws : List va_E} (hdg : decode cc pc = .ok (.ifCond .le off, 3)) (ht : (pc : Int) + off = (tgt : Int)) (kt : x ≤ 0 → Wa p l e R s m args below meth c cells slots Q D ca ad A nL N (lv, st, ws) tgt) (kf : ¬ x ≤ 0 → Wa p l e R s m args below meth c cells slots Q D ca ad A nL N (lv, st, ws) (pc + 3)) : Wa p l e R s m args below meth c cells slots Q D ca ad A nL N (lv, .int x :: st, ws) pc :=
  fun H locs ls h1 h2 h3 h4 => lv_if_le C.1.1 C.1.2.1 hdg ht (fun q => kt q H locs ls h1 h2 h3 h4) (fun q => kf q H locs ls h1 h2 h3 h4)
theorem b2_le (C : Cx p s m args c cc nL own D ca ad A N n) {x y : Int32} {off : Int} {tgt pc : Nat} {lv : List (Nat × Value)} {st : List Value} {ws : List va_E} (hdg : decode cc pc = .ok (.if_icmp .le off, 3)) (ht : (pc : Int) + off = (tgt : Int)) (kt : x ≤ y → Wa p l e R s m args below meth c cells slots Q D ca ad A nL N (lv, st, ws) tgt) (kf : ¬ x ≤ y → Wa p l e R s m args below meth c cells slots Q D ca ad A nL N (lv, st, ws) (pc + 3)) : Wa p l e R s m args below meth c cells slots Q D ca ad A nL N (lv, .int y :: .int x :: st, ws) pc :=
  fun H locs ls h1 h2 h3 h4 => lv_icmp_le C.1.1 C.1.2.1 hdg ht (fun q => kt q H locs ls h1 h2 h3 h4) (fun q => kf q H locs ls h1 h2 h3 h4)
theorem bn_r (C : Cx p s m args c cc nL own D ca ad A N n) {x : Nat} {off : Int} {pc : Nat} {lv : List (Nat × Value)} {st : List Value} {ws : List va_E} (hdg : decode cc pc = .ok (.ifnull off, 3)) (k : Wa p l e R s m args below meth c cells slots Q D ca ad A nL N (lv, st, ws) (pc + 3)) : Wa p l e R s m args below meth c cells slots Q D ca ad A nL N (lv, .ref x :: st, ws) pc := fun H locs ls h1 h2 h3 h4 => lv_ifnull C.1.1 C.1.2.1 hdg (k H locs ls h1 h2 h3 h4)
theorem bn_n (C : Cx p s m args c cc nL own D ca ad A N n) {off : Int} {pc tgt : Nat} {lv : List (Nat × Value)} {st : List Value} {ws : List va_E} (hdg : decode cc pc = .ok (.ifnull off, 3)) (ht : (pc : Int) + off = (tgt : Int)) (k : Wa p l e R s m args below meth c cells slots Q D ca ad A nL N (lv, st, ws) tgt) : Wa p l e R s m args below meth c cells slots Q D ca ad A nL N (lv, .null :: st, ws) pc := fun H locs ls h1 h2 h3 h4 => lv_ifnullN C.1.1 C.1.2.1 hdg ht (k H locs ls h1 h2 h3 h4)
theorem bnn_r (C : Cx p s m args c cc nL own D ca ad A N n) {x : Nat} {off : Int} {pc tgt : Nat} {lv : List (Nat × Value)} {st : List Value} {ws : List va_E} (hdg : decode cc pc = .ok (.ifnonnull off, 3)) (ht : (pc : Int) + off = (tgt : Int)) (k : Wa p l e R s m args below meth c cells slots Q D ca ad A nL N (lv, st, ws) tgt) : Wa p l e R s m args below meth c cells slots Q D ca ad A nL N (lv, .ref x :: st, ws) pc := fun H locs ls h1 h2 h3 h4 => lv_ifnonnull C.1.1 C.1.2.1 hdg ht (k H locs ls h1 h2 h3 h4)
theorem bnn_n (C : Cx p s m args c cc nL own D ca ad A N n) {off : Int} {pc : Nat} {lv : List (Nat × Value)} {st : List Value} {ws : List va_E} (hdg : decode cc pc = .ok (.ifnonnull off, 3)) (k : Wa p l e R s m args below meth c cells slots Q D ca ad A nL N (lv, st, ws) (pc + 3)) : Wa p l e R s m args below meth c cells slots Q D ca ad A nL N (lv, .null :: st, ws) pc := fun H locs ls h1 h2 h3 h4 => lv_ifnonnullN C.1.1 C.1.2.1 hdg (k H locs ls h1 h2 h3 h4)
theorem rt_i (C : Cx p s m args c cc nL own D ca ad A N n) {G : Option Value → List va_E → Heap → Prop} {v : Int32} {pc : Nat} {lv : List (Nat × Value)} {ws : List va_E} (hr : meth.sig.returnType = some .int) (hlocks : meth.locks = false) (hdg : decode cc pc = .ok (.ireturn, 1)) (hq : ∀ H, N H → G (some (.int v)) ws H) : Wa p l e R s m args below meth c cells slots (MQ below (CQ D ca ad G A) args s cells slots A) D ca ad A nL N (lv, [.int v], ws) pc := fun H locs ls _ h2 h3 h4 => W.iret C.1.1 C.1.2.1 hr (fun t ht _ => ⟨⟨some (.int v), ws, rfl, by rw [ht]; exact h2, by rw [ht]; exact hq H h4⟩, h3.F ht⟩) h3.2.2 hdg
theorem rt_z (C : Cx p s m args c cc nL own D ca ad A N n) {G : Option Value → List va_E → Heap → Prop} {v : Int32} {pc : Nat} {lv : List (Nat × Value)} {ws : List va_E} (hr : meth.sig.returnType = some .boolean) (hlocks : meth.locks = false) (hn : narrow .boolean (.int v) = .int v) (hdg : decode cc pc = .ok (.ireturn, 1)) (hq : ∀ H, N H → G (some (.int v)) ws H) : Wa p l e R s m args below meth c cells slots (MQ below (CQ D ca ad G A) args s cells slots A) D ca ad A nL N (lv, [.int v], ws) pc := fun H locs ls _ h2 h3 h4 => W.zret C.1.1 C.1.2.1 hr hn (fun t ht _ => ⟨⟨some (.int v), ws, rfl, by rw [ht]; exact h2, by rw [ht]; exact hq H h4⟩, h3.F ht⟩) h3.2.2 hdg
theorem rt_l (C : Cx p s m args c cc nL own D ca ad A N n) {G : Option Value → List va_E → Heap → Prop} {v : Int64} {pc : Nat} {lv : List (Nat × Value)} {ws : List va_E} (hr : meth.sig.returnType = some .long) (hlocks : meth.locks = false) (hdg : decode cc pc = .ok (.lreturn, 1)) (hq : ∀ H, N H → G (some (.long v)) ws H) : Wa p l e R s m args below meth c cells slots (MQ below (CQ D ca ad G A) args s cells slots A) D ca ad A nL N (lv, [.long v], ws) pc := fun H locs ls _ h2 h3 h4 => W.lret C.1.1 C.1.2.1 hr (fun t ht _ => ⟨⟨some (.long v), ws, rfl, by rw [ht]; exact h2, by rw [ht]; exact hq H h4⟩, h3.F ht⟩) h3.2.2 hdg
theorem rt_v (C : Cx p s m args c cc nL own D ca ad A N n) {G : Option Value → List va_E → Heap → Prop} {pc : Nat} {lv : List (Nat × Value)} {ws : List va_E} (hr : meth.sig.returnType = none) (hlocks : meth.locks = false) (hdg : decode cc pc = .ok (.return_, 1)) (hq : ∀ H, N H → G none ws H) : Wa p l e R s m args below meth c cells slots (MQ below (CQ D ca ad G A) args s cells slots A) D ca ad A nL N (lv, [], ws) pc := fun H locs ls _ h2 h3 h4 => W.vret C.1.1 C.1.2.1 hr (fun t ht _ => ⟨⟨none, ws, rfl, by rw [ht]; exact h2, by rw [ht]; exact hq H h4⟩, h3.F ht⟩) h3.2.2 hdg
theorem rt_a (C : Cx p s m args c cc nL own D ca ad A N n) {G : Option Value → List va_E → Heap → Prop} {rt : FieldType} {x : Nat} {pc : Nat} {lv : List (Nat × Value)} {ws : List va_E} (hr : meth.sig.returnType = some rt) (hrt : (∃ n, rt = .object n) ∨ ∃ t, rt = .array t) (hlocks : meth.locks = false) (hdg : decode cc pc = .ok (.areturn, 1)) (hq : ∀ H, N H → G (some (.ref x)) ws H) : Wa p l e R s m args below meth c cells slots (MQ below (CQ D ca ad G A) args s cells slots A) D ca ad A nL N (lv, [.ref x], ws) pc := fun H locs ls _ h2 h3 h4 => W.aret C.1.1 C.1.2.1 hr hrt (Or.inr ⟨_, rfl⟩) (fun t ht _ => ⟨⟨some (.ref x), ws, rfl, by rw [ht]; exact h2, by rw [ht]; exact hq H h4⟩, h3.F ht⟩) h3.2.2 hdg
theorem rt_n (C : Cx p s m args c cc nL own D ca ad A N n) {G : Option Value → List va_E → Heap → Prop} {rt : FieldType} {pc : Nat} {lv : List (Nat × Value)} {ws : List va_E} (hr : meth.sig.returnType = some rt) (hrt : (∃ n, rt = .object n) ∨ ∃ t, rt = .array t) (hlocks : meth.locks = false) (hdg : decode cc pc = .ok (.areturn, 1)) (hq : ∀ H, N H → G (some .null) ws H) : Wa p l e R s m args below meth c cells slots (MQ below (CQ D ca ad G A) args s cells slots A) D ca ad A nL N (lv, [.null], ws) pc := fun H locs ls _ h2 h3 h4 => W.aret C.1.1 C.1.2.1 hr hrt (Or.inl rfl) (fun t ht _ => ⟨⟨some .null, ws, rfl, by rw [ht]; exact h2, by rw [ht]; exact hq H h4⟩, h3.F ht⟩) h3.2.2 hdg
theorem Fr_le {sz sz2 q : Nat} (h : sz ≤ sz2) (hq : Fr ad n sz2 q) : Fr ad n sz q := hq.elim Or.inl (fun h2 => Or.inr (Nat.le_trans h h2))
theorem CPre_blind {ws : List va_E} {sz : Nat} {av : List Value} : FrameBlind (CPre D ca ad ws sz av N) := fun a U g mk h => ⟨h.1, h.2.1, h.2.2.1, h.2.2.2.1.call, h.2.2.2.2⟩
/-- behind a call -/
theorem gcall (C : Cx p s m args c cc nL own D ca ad A N n) {pc mc ms : Nat} {ls : Array Slot} {H : Heap} {locs : List Loc} {st0 rest : List Value} {a : Array Value} {G : Option Value → List va_E → Heap → Prop} {lv : List (Nat × Value)} (hr : va_Run p l e R s m args below meth c H locs cells slots mc ms (F0 m pc ls st0) (rest.map (cv ad)) (CQ D ca ad G (Fr ad n H.size) a) (Fr ad n H.size)) (hl : lv_has ls nL (cl ad lv)) (hS : va_S A s.heap H locs)
    (kk : ∀ (v : Option Value) (ws' : List va_E), Wa p l e R s m args below meth c (cells + mc) (slots + ms) Q D ca ad A nL (G v ws') (lv, v.toList ++ rest, ws') (pc + 3)) : W p l e R s m args below meth c H locs cells slots Q (F0 m pc ls st0) := by
  intro T hT X
  obtain ⟨v, st₀, t, T', L, h0, X', hL, e1, e2, ⟨⟨v2, ws2, hv, hp, hg⟩, hz, hk⟩, st⟩ := hr T hT X
  cases hv
  rw [h0] at hz hk
  have hA : ∀ q, Fr ad n H.size q → A q := fun q h => h.elim (fun ⟨k, h1, h2⟩ => by rw [h2]; exact C.2.2.2.2.1 k h1) (fun h => C.2.2.2.2.2 q (Nat.le_trans hS.1 h))
  have hS1 : va_S A s.heap T'.heap (locs ++ L) := ⟨Nat.le_trans hS.1 (by rw [e1]; exact hz), fun q h1 h2 => by rw [e1, hk q (Nat.lt_of_lt_of_le h1 hS.1) (fun z => h2 (hA q z))]; exact hS.2.1 q h1 h2, fun q hq => by
      rcases List.mem_append.mp hq with h | h
      · exact hS.2.2 q h
      · exact hA _ (hL q h)⟩
  obtain ⟨t2, a1, b1⟩ := kk v2 ws2 T'.heap (locs ++ L) ls hl (by rw [e1]; exact hp) hS1 (by rw [e1]; exact hg) T' rfl X'
  have hst : (v2.toList ++ rest).map (cv ad) = (v2.map (cv ad)).toList ++ rest.map (cv ad) := by cases v2 <;> simp
  rw [hst] at a1
  exact ⟨t2, st t2 a1, b1⟩
theorem rev_map (av rest : List Value) : (av.reverse ++ rest).map (cv ad) = (av.map (cv ad)).reverse ++ rest.map (cv ad) := by simp
theorem cat_map (rest : List Value) : ((rest.map (cv ad)).map fun v => v.category).sum = (rest.map fun v => v.category).sum := by
  rw [List.map_map]
  congr 1
  apply List.map_congr_left
  intro v _
  exact cv_cat ad v
/-- a static method of the own class -/
theorem cl_s (C : Cx p s m args c cc nL own D ca ad A N n) {y : MethodName} {bytes : ByteArray} {maxL k idx pc : Nat} {ret : Option FieldType} {rm : Room} {ws : List va_E} {av rest st : List Value} {lv : List (Nat × Value)} {G : Option Value → List va_E → Heap → Prop} (hM : Ct l y bytes maxL ret rm D ca ad ws n av N G) (hcd : Cond.code y bytes maxL ret ∈ tb) (hini : Cond.initialized y.cls ∈ tb) (hlk : Cond.methodLink own idx y ∈ tb) (hsm : Cond.static y ∈ tb)
    (hd : y.cls ≠ "java/lang/invoke/MethodHandle" ∧ y.cls ≠ "java/lang/invoke/VarHandle" ∧ (parseMethodDescriptor y.desc).map (fun d => d.parameters.length) = some k) (hk : av.length = k) (hst : av.reverse ++ rest = st) (hR : rm.frames + 1 ≤ R.frames ∧ 8 + (maxL + 11) + rm.locals ≤ R.locals) (hR2 : cells + rm.cells ≤ R.cells ∧ slots + rm.slots ≤ R.slots) (hcat : (rest.map fun v => v.category).sum ≤ 8) (hdg : decode cc pc = .ok (.invokestatic idx, 3))
    (kk : ∀ (v : Option Value) (ws' : List va_E), Wa p l e R s m args below meth c (cells + rm.cells) (slots + rm.slots) Q D ca ad A nL (G v ws') (lv, v.toList ++ rest, ws') (pc + 3)) : Wa p l e R s m args below meth c cells slots Q D ca ad A nL N (lv, st, ws) pc := by
  intro H locs ls h1 h2 h3 h4
  subst hst
  have hts := C.1.2.2.2.2
  refine gcall C (a := (av.map (cv ad)).toArray) (va_runS (As := av.map (cv ad)) (n := k) C.1 (hM H.size) ⟨callB_of k hts (tb_gi hcd) rfl rfl rfl (hts _ hini) (hts _ hlk) hd hR, hts _ hsm⟩ ⟨CPre_blind, fun U hU hW => ⟨rfl, by rw [hU], by rw [hU]; exact h2, C.2.1.warm hW, by rw [hU]; exact h4⟩⟩ rfl (by simpa using hk) h1.1 (rev_map av rest) (lv_room (by rw [cat_map]; exact hcat)) hdg hR2) h1 h3 kk
/-- a static method of the nest's host -/
theorem cl_sn (C : Cx p s m args c cc nL own D ca ad A N n) {y : MethodName} {bytes : ByteArray} {maxL k idx pc : Nat} {ret : Option FieldType} {rm : Room} {ws : List va_E} {av rest st : List Value} {lv : List (Nat × Value)} {G : Option Value → List va_E → Heap → Prop} (hM : Ct l y bytes maxL ret rm D ca ad ws n av N G) (hcd : Cond.code y bytes maxL ret ∈ tb) (hini : Cond.initialized y.cls ∈ tb) (hlk : (own, idx, y) ∈ nestL) (hsm : Cond.static y ∈ tb)
    (hd : y.cls ≠ "java/lang/invoke/MethodHandle" ∧ y.cls ≠ "java/lang/invoke/VarHandle" ∧ (parseMethodDescriptor y.desc).map (fun d => d.parameters.length) = some k) (hk : av.length = k) (hst : av.reverse ++ rest = st) (hR : rm.frames + 1 ≤ R.frames ∧ 8 + (maxL + 11) + rm.locals ≤ R.locals) (hR2 : cells + rm.cells ≤ R.cells ∧ slots + rm.slots ≤ R.slots) (hcat : (rest.map fun v => v.category).sum ≤ 8) (hdg : decode cc pc = .ok (.invokestatic idx, 3))
    (kk : ∀ (v : Option Value) (ws' : List va_E), Wa p l e R s m args below meth c (cells + rm.cells) (slots + rm.slots) Q D ca ad A nL (G v ws') (lv, v.toList ++ rest, ws') (pc + 3)) : Wa p l e R s m args below meth c cells slots Q D ca ad A nL N (lv, st, ws) pc := by
  intro H locs ls h1 h2 h3 h4
  subst hst
  have hts := C.1.2.2.2.2
  refine gcall C (a := (av.map (cv ad)).toArray) (va_runSN (As := av.map (cv ad)) (n := k) C.1 (hM H.size) ⟨va_cnB k hts (tb_gi hcd) rfl rfl rfl (C.2.1.2.1 _ hlk) (hts _ hini) hd hR, hts _ hsm, trivial⟩ ⟨CPre_blind, fun U hU hW => ⟨rfl, by rw [hU], by rw [hU]; exact h2, C.2.1.warm hW, by rw [hU]; exact h4⟩⟩ rfl (by simpa using hk) h1.1 (rev_map av rest) (lv_room (by rw [cat_map]; exact hcat)) hdg hR2) h1 h3 kk
/-- a method of an object -/
theorem cl_v (C : Cx p s m args c cc nL own D ca ad A N n) {y : MethodName} {bytes : ByteArray} {maxL k idx pc t : Nat} {ret : Option FieldType} {rm : Room} {ws : List va_E} {av rest st : List Value} {lv : List (Nat × Value)} {G : Option Value → List va_E → Heap → Prop} (hM : Ct l y bytes maxL ret rm D ca ad ws n (.ref t :: av) N G) (hrec : ∀ H, va_P D vwCl (cw ad ca 0 ws) H → N H → ∃ cell : Cell, H[ad t]? = some cell ∧ cell.vm.isStatics = false ∧ s.vm.findClass y.cls = some cell.cls) (hcd : Cond.code y bytes maxL ret ∈ tb) (hini : Cond.initialized y.cls ∈ tb) (hlk : Cond.methodLink own idx y ∈ tb) (him : Cond.instanceMethod y ∈ tb) (hse : Cond.selects y.cls y y ∈ tb)
    (hd : y.cls ≠ "java/lang/invoke/MethodHandle" ∧ y.cls ≠ "java/lang/invoke/VarHandle" ∧ (parseMethodDescriptor y.desc).map (fun d => d.parameters.length) = some k) (hk : av.length = k) (hst : av.reverse ++ .ref t :: rest = st) (hR : rm.frames + 1 ≤ R.frames ∧ 8 + (maxL + 11) + rm.locals ≤ R.locals) (hR2 : cells + rm.cells ≤ R.cells ∧ slots + rm.slots ≤ R.slots) (hcat : (rest.map fun v => v.category).sum ≤ 8) (hdg : decode cc pc = .ok (.invokevirtual idx, 3))
    (kk : ∀ (v : Option Value) (ws' : List va_E), Wa p l e R s m args below meth c (cells + rm.cells) (slots + rm.slots) Q D ca ad A nL (G v ws') (lv, v.toList ++ rest, ws') (pc + 3)) : Wa p l e R s m args below meth c cells slots Q D ca ad A nL N (lv, st, ws) pc := by
  intro H locs ls h1 h2 h3 h4
  subst hst
  have hts := C.1.2.2.2.2
  refine gcall C (a := (Value.ref (ad t) :: av.map (cv ad)).toArray) (va_runV (As := av.map (cv ad)) (b := ad t) (n := k) C.1 (hM H.size) ⟨callB_of k hts (tb_gi hcd) rfl rfl rfl (hts _ hini) (hts _ hlk) hd hR, hts _ him, hts _ hse⟩ ⟨CPre_blind, hrec H h2 h4, fun U hU hW => ⟨rfl, by rw [hU], by rw [hU]; exact h2, C.2.1.warm hW, by rw [hU]; exact h4⟩⟩ rfl (by simpa using hk) h1.1 (by rw [show (.ref (ad t) : Value) = cv ad (.ref t) from rfl]; simp) (lv_room (by rw [cat_map]; exact hcat)) hdg hR2) h1 h3 kk
/-- the receiver is a named cell -/
theorem rcv (hK : KS D ca s) {ws : List va_E} {t ci : Nat} {fs : List Value} {r : vw_C} (hc : vwCl[ci]? = some r) (ht : nth ws t = some (.inr (ci, fs))) : ∀ H, va_P D vwCl (cw ad ca 0 ws) H → N H → ∃ cell : Cell, H[ad t]? = some cell ∧ cell.vm.isStatics = false ∧ s.vm.findClass r.1 = some cell.cls := fun H h2 _ => va_recv hK.1 h2 hc (q0 := t) (fs := fs.map (cv ad)) (by rw [nth_eq] at ht; rw [cw_at, ht]; simp [ce])
end
/-- into a method -/
theorem enter {l : Launch} {y : MethodName} {cc : ByteArray} {maxL n : Nat} {ret : Option FieldType} {rm : Room} {D : va_G} {ca : Nat → ClassId} {ad : Nat → Nat} {ws : List va_E} {av : List Value} {N : Heap → Prop} {G : Option Value → List va_E → Heap → Prop} {lv : List (Nat × Value)} (hy : plainName y.cls = true) (hlen : (lg_sl (av.map (cv ad))).length ≤ maxL) (hlv : lv_args 0 av = lv) (hAD : AD ad n) (hNS : ∀ U, KS D ca U → NSt D ca ad N)
    (body : ∀ (p : Program) (e : Env) (s : State) (m : MethodId) (below : List Frame) (meth : Method) (c : Code) (A : Nat → Prop) (args : Array Value), A = Fr ad n s.heap.size → Cx p s m args c cc maxL y.cls D ca ad A N n → meth.sig.returnType = ret → meth.locks = false → meth.name = y.name → Wa p l e rm s m args below meth c 0 0 (MQ below (CQ D ca ad G A) args s rm.cells rm.slots A) D ca ad A maxL N (lv, [], ws) 0) : Ct l y cc maxL ret rm D ca ad ws n av N G := by
  intro sz
  refine Met.ofW (cc := cc) (maxL := maxL) (ret := ret) hy rfl ?_
  intro p e s m args below meth c s₁ B hml hv
  obtain ⟨rfl, hsz, hP, hK, hN⟩ := hv
  have hts := atoms_spec (ws := Cond.code y cc maxL ret :: tb) B.pre
  have hown : s.vm.findClass y.cls = some m.cls := findClass_of_methodNamed B.named
  subst hsz
  have hl := lv_entry (av.map (cv ad)) (n := maxL) hlen
  rw [lg_entry_eq]
  generalize (lg_sl (av.map (cv ad)) ++ List.replicate (maxL - (lg_sl (av.map (cv ad))).length) Slot.unset).toArray = ls at hl ⊢
  rw [lv_args_cl, hlv] at hl
  exact body p e s m below meth c (Fr ad n s.heap.size) _ rfl ⟨⟨B.exec, B.bytes, hml, hown, fun w hw => hts w (List.mem_cons_of_mem _ hw)⟩, hK, hNS s hK, hAD, fun k hk => Or.inl ⟨k, hk, rfl⟩, fun q hq => Or.inr hq⟩ B.returns B.notSynchronized (name_of_methodNamed B.named B.method).1 s.heap [] ls hl hP va_S.rf hN
end
section
/-! nodes: trees with addresses; what a heap holds of them; rows for reading, testing and making nodes -/
abbrev rZ : Room := { frames := 0, cells := 0, slots := 0, locals := 0 }
abbrev pG (ws : List va_E) (N : Heap → Prop) (r : Option Value) : Option Value → List va_E → Heap → Prop := fun v ws' H => (v = r ∧ ws' = ws) ∧ N H
def mixF (h x : Int64) : Int64 := ((((h ^^^ x) * (-7046029254386353131)) ^^^ (((h ^^^ x) * (-7046029254386353131)).toUInt64 >>> ((29 : Int32).toInt64.toUInt64 &&& Int64.toUInt64 63)).toInt64) * (-4658895280553007687)) ^^^ ((((((h ^^^ x) * (-7046029254386353131)) ^^^ (((h ^^^ x) * (-7046029254386353131)).toUInt64 >>> ((29 : Int32).toInt64.toUInt64 &&& Int64.toUInt64 63)).toInt64) * (-4658895280553007687))).toUInt64 >>> ((32 : Int32).toInt64.toUInt64 &&& Int64.toUInt64 63)).toInt64
def emptyF : Int64 := mixF 0 3
def leafF (P : Nat) (v : Int64) : Int64 := mixF (mixF (mixF 0 1) (nI P).toInt64) v
def forkF (B S : Nat) (x y : Int64) : Int64 := mixF (mixF (mixF (mixF (mixF 0 2) (nI B).toInt64) (nI S).toInt64) x) y
/-- trees: a node's address, and what it is -/
abbrev tE (q : Nat) : Term := .add (.arg q) .null
abbrev tH (q : Nat) (d : Int64) : Term := .add (.arg q) (.long d)
abbrev tL (q P : Nat) (v : Int64) : Term := .add (.arg q) (.elem (.arg P) (.long v))
abbrev tF (q B S : Nat) (x y : Term) : Term := .add (.arg q) (.sub (.elem (.arg B) (.arg S)) (.mul x y))
def isT : Term → Prop
  | .add (.arg _) .null => True
  | .add (.arg _) (.long _) => True
  | .add (.arg _) (.elem (.arg _) (.long _)) => True
  | .add (.arg _) (.sub (.elem (.arg _) (.arg _)) (.mul x y)) => isT x ∧ isT y
  | _ => False
theorem tr_ind {P : Term → Prop} (hE : ∀ q, P (tE q)) (hH : ∀ q d, P (tH q d)) (hL : ∀ q p v, P (tL q p v)) (hF : ∀ q B S x y, isT x → isT y → P x → P y → P (tF q B S x y)) : ∀ T, isT T → P T := by
  intro T
  induction T using isT.induct with
  | case1 q => intro _; exact hE q
  | case2 q d => intro _; exact hH q d
  | case3 q p v => intro _; exact hL q p v
  | case4 q B S x y i1 i2 => intro h; exact hF q B S x y h.1 h.2 (i1 h.1) (i2 h.2)
  | case5 T h1 h2 h3 h4 => intro h; exfalso; unfold isT at h; split at h <;> first | exact h | (simp_all; done) | (rename_i e; exact h4 _ _ _ _ _ rfl)
def adr : Term → Nat
  | .add (.arg q) _ => q
  | _ => 0
def dig : Term → Int64
  | .add (.arg _) .null => emptyF
  | .add (.arg _) (.long d) => d
  | .add (.arg _) (.elem (.arg P) (.long v)) => leafF P v
  | .add (.arg _) (.sub (.elem (.arg B) (.arg S)) (.mul x y)) => forkF B S (dig x) (dig y)
  | _ => 0
def nodeAt (D : va_G) (H : Heap) : Term → Prop
  | .add (.arg q) .null => va_at D vwCl (q, .inr (0, [.long emptyF])) H
  | .add (.arg q) (.long d) => va_at D vwCl (q, .inr (2, [.long d])) H
  | .add (.arg q) (.elem (.arg P) (.long v)) => va_at D vwCl (q, .inr (3, [.long (leafF P v), .int (nI P), .long v])) H
  | .add (.arg q) (.sub (.elem (.arg B) (.arg S)) (.mul x y)) => va_at D vwCl (q, .inr (1, [.long (forkF B S (dig x) (dig y)), .int (nI B), .int (nI S), .ref (adr x), .ref (adr y)])) H ∧ nodeAt D H x ∧ nodeAt D H y
  | _ => False
def isNd (D : va_G) (cell : Cell) : Prop := cell.cls = D.1 0 ∨ cell.cls = D.1 1 ∨ cell.cls = D.1 2 ∨ cell.cls = D.1 3
/-- all nodes of H are in H', as they were -/
def Snap (D : va_G) (H H' : Heap) : Prop := H.size ≤ H'.size ∧ ∀ (q : Nat) (cell : Cell), H[q]? = some cell → isNd D cell → H'[q]? = some cell
/-- a picture of nodes alone -/
def NS (D : va_G) (N : Heap → Prop) : Prop := ∀ H H' : Heap, N H → Snap D H H' → N H'
theorem Snap.rf {D : va_G} {H : Heap} : Snap D H H := ⟨Nat.le_refl _, fun _ _ h _ => h⟩
theorem Snap.tr {D : va_G} {H H1 H2 : Heap} (h1 : Snap D H H1) (h2 : Snap D H1 H2) : Snap D H H2 := ⟨Nat.le_trans h1.1 h2.1, fun q cell a b => h2.2 q cell (h1.2 q cell a b) b⟩
theorem Snap.ns {D : va_G} {H0 : Heap} : NS D (Snap D H0) := fun _ _ h1 h2 => h1.tr h2
theorem NS.tt {D : va_G} : NS D (fun _ => True) := fun _ _ _ _ => trivial
theorem NS.and {D : va_G} {N1 N2 : Heap → Prop} (h1 : NS D N1) (h2 : NS D N2) : NS D (fun H => N1 H ∧ N2 H) := fun H H' h hs => ⟨h1 H H' h.1 hs, h2 H H' h.2 hs⟩
theorem at_nd {D : va_G} {q ci : Nat} {fs : List Value} {H : Heap} (hci : ci < 4) (h : va_at D vwCl (q, .inr (ci, fs)) H) : ∃ cell : Cell, H[q]? = some cell ∧ isNd D cell := by
  obtain ⟨r, -, cell, h2, h3, -⟩ := h
  refine ⟨cell, h2, ?_⟩
  have h3 : cell.cls = D.1 ci := h3
  rcases (show ci = 0 ∨ ci = 1 ∨ ci = 2 ∨ ci = 3 by omega) with rfl | rfl | rfl | rfl
  · exact Or.inl h3
  · exact Or.inr (Or.inl h3)
  · exact Or.inr (Or.inr (Or.inl h3))
  · exact Or.inr (Or.inr (Or.inr h3))
theorem at_snap {D : va_G} {q ci : Nat} {fs : List Value} {H H' : Heap} (hci : ci < 4) (h : va_at D vwCl (q, .inr (ci, fs)) H) (hs : Snap D H H') : va_at D vwCl (q, .inr (ci, fs)) H' := by
  obtain ⟨cell, h1, h2⟩ := at_nd hci h
  exact h.kept ((hs.2 q cell h1 h2).trans h1.symm)
theorem nodeAt.T {D : va_G} {H : Heap} : ∀ T, nodeAt D H T → isT T := by
  intro T
  induction T using nodeAt.induct with
  | case1 q => intro _; exact trivial
  | case2 q d => intro _; exact trivial
  | case3 q p v => intro _; exact trivial
  | case4 q B S x y i1 i2 => intro h; exact ⟨i1 h.2.1, i2 h.2.2⟩
  | case5 T h1 h2 h3 h4 => intro h; exfalso; unfold nodeAt at h; split at h <;> first | exact h | (simp_all; done) | (exact h4 _ _ _ _ _ rfl)
theorem nodeAt.ns {D : va_G} (T : Term) : NS D (fun H => nodeAt D H T) := by
  intro H H' h hs
  have hT := nodeAt.T T h
  revert h
  refine tr_ind (P := fun T => nodeAt D H T → nodeAt D H' T) ?_ ?_ ?_ ?_ T hT
  · exact fun q h => at_snap (by decide) h hs
  · exact fun q d h => at_snap (by decide) h hs
  · exact fun q p v h => at_snap (by decide) h hs
  · exact fun q B S x y _ _ i1 i2 h => ⟨at_snap (by decide) h.1 hs, i1 h.2.1, i2 h.2.2⟩
theorem fc_inj {U : State} {a b : String} {c : ClassId} (h1 : U.vm.findClass a = some c) (h2 : U.vm.findClass b = some c) : a = b := by
  obtain ⟨k1, e1, n1⟩ := Vm.findClass_spec h1
  obtain ⟨k2, e2, n2⟩ := Vm.findClass_spec h2
  rw [e1] at e2
  cases e2
  exact n1.symm.trans n2
theorem KS.ne {D : va_G} {ca : Nat → ClassId} {U : State} (h : KS D ca U) {i j : Nat} {r1 r2 : vw_C} (h1 : vwCl[i]? = some r1) (h2 : vwCl[j]? = some r2) (hn : r1.1 ≠ r2.1) : D.1 i ≠ D.1 j := by
  intro hq
  have a1 := (h.1.1 i r1 h1).2.1
  have a2 := (h.1.1 j r2 h2).2.1
  rw [hq] at a1
  exact hn (fc_inj a1 a2)
theorem KS.arr {D : va_G} {ca : Nat → ClassId} {U : State} (h : KS D ca U) {i j : Nat} {r1 : vw_C} (h1 : vwCl[i]? = some r1) (hj : j ≤ 2) : D.1 i ≠ ca j := by
  intro hq
  obtain ⟨kC, a1, a2⟩ := (h.1.1 i r1 h1).2.2
  have key : ∀ ty : FieldType, ArrOfT U (ca j) ty → False := by
    intro ty ha
    obtain ⟨-, k, b1, comp, b2⟩ := ha 0 (fun _ => .null)
    have b1 : U.vm.classes[ca j]? = some k := b1
    rw [← hq, a1] at b1
    cases b1
    rw [a2] at b2
    cases b2
  rcases (show j = 0 ∨ j = 1 ∨ j = 2 by omega) with rfl | rfl | rfl
  · exact key _ (h.1.2 0 _ rfl).1
  · exact key _ (h.1.2 1 _ rfl).1
  · exact key _ (h.1.2 2 _ rfl).1
theorem nd_big {D : va_G} {ca : Nat → ClassId} {U : State} (h : KS D ca U) {ci : Nat} {r : vw_C} (h1 : vwCl[ci]? = some r) (hci : 4 ≤ ci) {cell : Cell} (hc : cell.cls = D.1 ci) : ¬ isNd D cell := by
  have key : ∀ (i : Nat) (r1 : vw_C), vwCl[i]? = some r1 → r.1 ≠ r1.1 → ¬ cell.cls = D.1 i := fun i r1 a1 a2 a3 => h.ne h1 a1 a2 (hc.symm.trans a3)
  have hr : r.1 ≠ RX0 ∧ r.1 ≠ RX1 ∧ r.1 ≠ RX2 ∧ r.1 ≠ RX3 := by
    have hlt : ci < 9 := by
      have := (List.getElem?_eq_some_iff.mp h1).1
      simpa [vwCl] using this
    rcases (show ci = 4 ∨ ci = 5 ∨ ci = 6 ∨ ci = 7 ∨ ci = 8 by omega) with rfl | rfl | rfl | rfl | rfl <;> (cases h1; decide +kernel)
  rintro (q | q | q | q)
  · exact key 0 _ rfl hr.1 q
  · exact key 1 _ rfl hr.2.1 q
  · exact key 2 _ rfl hr.2.2.1 q
  · exact key 3 _ rfl hr.2.2.2 q
theorem nd_arr {D : va_G} {ca : Nat → ClassId} {U : State} (h : KS D ca U) {j : Nat} (hj : j ≤ 2) {cell : Cell} (hc : cell.cls = ca j) : ¬ isNd D cell := by
  rintro (q | q | q | q)
  · exact h.arr (i := 0) rfl hj (q.symm.trans hc)
  · exact h.arr (i := 1) rfl hj (q.symm.trans hc)
  · exact h.arr (i := 2) rfl hj (q.symm.trans hc)
  · exact h.arr (i := 3) rfl hj (q.symm.trans hc)
theorem vp_cls (cA : ClassId) (a : vp_A) : (vp_cell cA a).cls = cA := by
  obtain ⟨n, f | f | f | f | f⟩ := a <;> rfl
/-- a named cell is no node -/
theorem nm_nd {D : va_G} {ca : Nat → ClassId} {U : State} (h : KS D ca U) {ad : Nat → Nat} {t : Nat} {x : va_E} {H : Heap} (hx : nno x = true) (ha : va_at D vwCl (ad t, ce ad ca x) H) {cell : Cell} (hc : H[ad t]? = some cell) : ¬ isNd D cell := by
  cases x with
  | inl y =>
    have ha : H[ad t]? = some (vp_cell (ca y.1) y.2) := ha
    rw [hc] at ha
    cases ha
    exact nd_arr h (Nat.le_of_ble_eq_true hx) (vp_cls _ _)
  | inr o =>
    obtain ⟨r, g1, cell2, g2, g3, -⟩ := ha
    have g2 : H[ad t]? = some cell2 := g2
    rw [hc] at g2
    cases g2
    exact nd_big h g1 (Nat.le_of_ble_eq_true hx) g3
theorem ns_write {D : va_G} {ca : Nat → ClassId} {U : State} (h : KS D ca U) {ad : Nat → Nat} {N : Heap → Prop} (hN : NS D N) : NSt D ca ad N := by
  intro H H' t x hx ha hz ho hH
  refine hN H H' hH ⟨by rw [hz]; exact Nat.le_refl _, fun q cell hq hnd => ?_⟩
  by_cases e : q = ad t
  · subst e
    exact absurd hnd (nm_nd h hx ha hq)
  · rw [ho q e]; exact hq
section
variable {p : Program} {l : Launch} {e : Env} {R : Room} {s : State} {m : MethodId} {args : Array Value} {below : List Frame} {meth : Method} {c : Code} {cells slots : Nat} {Q : State → Prop}
variable {cc : ByteArray} {nL n : Nat} {own : String} {D : va_G} {ca : Nat → ClassId} {ad : Nat → Nat} {A : Nat → Prop} {N N2 : Heap → Prop}
theorem Cx.to (C : Cx p s m args c cc nL own D ca ad A N n) (h : NS D N2) : Cx p s m args c cc nL own D ca ad A N2 n := ⟨C.1, C.2.1, ns_write C.2.1 h, C.2.2.2⟩
theorem cv_raw (C : Cx p s m args c cc nL own D ca ad A N n) (q : Nat) : cv ad (.ref (q + 100)) = .ref q := by rw [cv, C.2.2.2.1.2]
/-- a node's field -/
theorem ng (C : Cx p s m args c cc nL own D ca ad A N n) {q ci k idx pc : Nat} {fs : List Value} {r : vw_C} {v : Value} {lv : List (Nat × Value)} {st : List Value} {ws : List va_E} (hat : ∀ H, N H → va_at D vwCl (q, .inr (ci, fs)) H) (hc : vwCl[ci]? = some r) (hk : k < r.2.2) (hfl : Cond.fieldLink own idx (r.2.1 k).1 (r.2.1 k).2.1 (r.2.1 k).2.2.1 ∈ tb) (hv : fs[k]? = some (cv ad v)) (hdg : decode cc pc = .ok (.getfield idx, 3))
    (kk : Wa p l e R s m args below meth c cells slots Q D ca ad A nL N (lv, v :: st, ws) (pc + 3)) : Wa p l e R s m args below meth c cells slots Q D ca ad A nL N (lv, .ref (q + 100) :: st, ws) pc := by
  intro H locs ls h1 h2 h3 h4
  obtain ⟨C9, T9, N9⟩ := r
  show W p l e R s m args below meth c H locs cells slots Q (F0 m pc ls (cv ad (.ref (q + 100)) :: st.map (cv ad)))
  rw [cv_raw C]
  exact va_get (D := D) (cl := vwCl) (ci := ci) (C := C9) (T := T9) (N := N9) (ws := [(q, .inr (ci, fs))]) (fs := fs) (v := cv ad v) C.1.1 C.1.2.1 C.1.2.2.2.2 (clsOk ci _ hc).1 C.1.2.2.2.1 C.2.1.1 (fun k x hx => by
    have hz : k < 1 := (List.getElem?_eq_some_iff.mp hx).1
    rw [show k = 0 by omega] at hx
    cases hx
    exact hat H h4) 0 rfl hc k hk (C.1.2.2.2.2 _ hfl) (fun _ h9 => h9) hv hdg (kk H locs ls h1 h2 h3 h4)
/-- a node as a receiver -/
theorem nrc (C : Cx p s m args c cc nL own D ca ad A N n) {q ci : Nat} {fs : List Value} {r : vw_C} {ws : List va_E} (hat : ∀ H, N H → va_at D vwCl (q, .inr (ci, fs)) H) (hc : vwCl[ci]? = some r) : ∀ H, va_P D vwCl (cw ad ca 0 ws) H → N H → ∃ cell : Cell, H[ad (q + 100)]? = some cell ∧ cell.vm.isStatics = false ∧ s.vm.findClass r.1 = some cell.cls := by
  intro H _ h4
  rw [C.2.2.2.1.2]
  obtain ⟨r2, g1, cell, g2, g3, g4, -⟩ := hat H h4
  exact ⟨cell, g2, by rw [g4]; rfl, by rw [g3]; exact (C.2.1.1.1 ci r hc).2.1⟩
theorem ni_y (C : Cx p s m args c cc nL own D ca ad A N n) {q ci idx pc : Nat} {nm : String} {fs : List Value} {r : vw_C} {lv : List (Nat × Value)} {st : List Value} {ws : List va_E} (hat : ∀ H, N H → va_at D vwCl (q, .inr (ci, fs)) H) (hc : vwCl[ci]? = some r) (hkl : Cond.classLink own idx nm ∈ tb) (hca : (r.1, nm) ∈ castL) (hdg : decode cc pc = .ok (.instanceof idx, 3))
    (kk : Wa p l e R s m args below meth c cells slots Q D ca ad A nL N (lv, .int 1 :: st, ws) (pc + 3)) : Wa p l e R s m args below meth c cells slots Q D ca ad A nL N (lv, .ref (q + 100) :: st, ws) pc := fun H locs ls h1 h2 h3 h4 => va_instY C.1.1 C.1.2.1 C.1.2.2.2.1 (C.1.2.2.2.2 _ hkl) (C.2.1.2.2.1 _ hca) (nrc C hat hc H h2 h4) hdg (kk H locs ls h1 h2 h3 h4)
theorem ni_n (C : Cx p s m args c cc nL own D ca ad A N n) {q ci idx pc : Nat} {nm : String} {fs : List Value} {r : vw_C} {lv : List (Nat × Value)} {st : List Value} {ws : List va_E} (hat : ∀ H, N H → va_at D vwCl (q, .inr (ci, fs)) H) (hc : vwCl[ci]? = some r) (hkl : Cond.classLink own idx nm ∈ tb) (hca : (r.1, nm) ∈ notL) (hdg : decode cc pc = .ok (.instanceof idx, 3))
    (kk : Wa p l e R s m args below meth c cells slots Q D ca ad A nL N (lv, .int 0 :: st, ws) (pc + 3)) : Wa p l e R s m args below meth c cells slots Q D ca ad A nL N (lv, .ref (q + 100) :: st, ws) pc := fun H locs ls h1 h2 h3 h4 => va_instNo C.1.1 C.1.2.1 C.1.2.2.2.1 (C.1.2.2.2.2 _ hkl) (C.2.1.2.2.2.1 _ hca) (nrc C hat hc H h2 h4) hdg (kk H locs ls h1 h2 h3 h4)
theorem nc_y (C : Cx p s m args c cc nL own D ca ad A N n) {q ci idx pc : Nat} {nm : String} {fs : List Value} {r : vw_C} {lv : List (Nat × Value)} {st : List Value} {ws : List va_E} (hat : ∀ H, N H → va_at D vwCl (q, .inr (ci, fs)) H) (hc : vwCl[ci]? = some r) (hkl : Cond.classLink own idx nm ∈ tb) (hca : (r.1, nm) ∈ castL) (hdg : decode cc pc = .ok (.checkcast idx, 3))
    (kk : Wa p l e R s m args below meth c cells slots Q D ca ad A nL N (lv, .ref (q + 100) :: st, ws) (pc + 3)) : Wa p l e R s m args below meth c cells slots Q D ca ad A nL N (lv, .ref (q + 100) :: st, ws) pc := fun H locs ls h1 h2 h3 h4 => va_castY C.1.1 C.1.2.1 C.1.2.2.2.1 (C.1.2.2.2.2 _ hkl) (C.2.1.2.2.1 _ hca) (nrc C hat hc H h2 h4) hdg (kk H locs ls h1 h2 h3 h4)
theorem ni_0 (C : Cx p s m args c cc nL own D ca ad A N n) {idx pc : Nat} {lv : List (Nat × Value)} {st : List Value} {ws : List va_E} (hdg : decode cc pc = .ok (.instanceof idx, 3))
    (kk : Wa p l e R s m args below meth c cells slots Q D ca ad A nL N (lv, .int 0 :: st, ws) (pc + 3)) : Wa p l e R s m args below meth c cells slots Q D ca ad A nL N (lv, .null :: st, ws) pc := fun H locs ls h1 h2 h3 h4 => lv_instN C.1.1 C.1.2.1 hdg (kk H locs ls h1 h2 h3 h4)
/-- Object() -/
theorem oi (C : Cx p s m args c cc nL own D ca ad A N n) {idx pc t : Nat} {lv : List (Nat × Value)} {st : List Value} {ws : List va_E} (hlk : Cond.methodLink own idx objectInit ∈ tb) (hfr : 1 ≤ R.frames) (hlo : (st.map fun v => v.category).sum + 12 ≤ R.locals) (hdg : decode cc pc = .ok (.invokespecial idx, 3))
    (kk : Wa p l e R s m args below meth c cells slots Q D ca ad A nL N (lv, st, ws) (pc + 3)) : Wa p l e R s m args below meth c cells slots Q D ca ad A nL N (lv, .ref t :: st, ws) pc := by
  intro H locs ls h1 h2 h3 h4
  have hts := C.1.2.2.2.2
  exact W.objInit C.1.1 C.1.2.1 C.1.2.2.2.1 (hts _ hlk) (hts _ im_objectInit) (hts _ cd_objectInit) rfl (h1.1.trans C.1.2.2.1.symm) rfl hdg hfr (by
    have e1 : 2 * (F0 m pc ls ((Value.ref t :: st).map (cv ad))).monitorRoom = 0 := rfl
    rw [cat_map]
    exact (by rw [e1]; omega)) (kk H locs ls h1 h2 h3 h4)
/-- a node that is being made: what was there before, and its own cell -/
def BN (D : va_G) (H0 : Heap) (q ci : Nat) (fs : List Value) : Heap → Prop := fun H => (H0.size ≤ q ∧ ci < 4) ∧ Snap D H0 H ∧ va_at D vwCl (q, .inr (ci, fs)) H
theorem BN.ns {H0 : Heap} {q ci : Nat} {fs : List Value} : NS D (BN D H0 q ci fs) := fun _ _ h hs => ⟨h.1, h.2.1.tr hs, at_snap h.1.2 h.2.2 hs⟩
/-- new, of a node -/
theorem nw (C : Cx p s m args c cc nL own D ca ad A N n) (hN : NS D N) {ci idx pc : Nat} {r : vw_C} {fs : List Value} {lv : List (Nat × Value)} {st : List Value} {ws : List va_E} (hc : vwCl[ci]? = some r) (hci : ci < 4) (hkl : Cond.classLink own idx r.1 ∈ tb) (his : Cond.instantiable r.1 r.2.2 ∈ tb) (hin : Cond.initialized r.1 ∈ tb) (ty : Nat → FieldType) (hty : ∀ k, k < r.2.2 → parseFieldDescriptor (r.2.1 k).2.2.1 = some (ty k)) (hfs : ∀ j, j < r.2.2 → defaultValue (ty j) = vp_V fs j) (hR : cells + 1 ≤ R.cells ∧ slots + r.2.2 ≤ R.slots) (hdg : decode cc pc = .ok (.new idx, 3))
    (kk : ∀ (H0 : Heap) (q : Nat), N H0 → s.heap.size ≤ q → Wa p l e R s m args below meth c (cells + 1) (slots + r.2.2) Q D ca ad A nL (BN D H0 q ci fs) (lv, .ref (q + 100) :: st, ws) (pc + 3)) : Wa p l e R s m args below meth c cells slots Q D ca ad A nL N (lv, st, ws) pc := by
  intro H locs ls h1 h2 h3 h4
  have hts := C.1.2.2.2.2
  have hKn := C.2.1.1.1 ci _ hc
  obtain ⟨C9, T9, N9⟩ := r
  refine W.newcK C.1.1 C.1.2.1 C.1.2.2.2.1 (hts _ hkl) (hts _ his) (hts _ hin) rfl hdg hR.1 hR.2 hKn.2.1 rfl fun H1 kC hkC e1 z1 o1 => ?_
  have hs : Snap D H H1 := ⟨by omega, fun q cell hq _ => by rw [o1 q (Array.getElem?_eq_some_iff.mp hq).1]; exact hq⟩
  have h9 := kk H H.size h4 h3.1 H1 locs ls h1 (h2.kept fun k x hx => o1 x.1 ((h2 k x hx).lt)) ⟨Nat.le_trans h3.1 (by omega), fun x a1 a2 => (o1 x (Nat.lt_of_lt_of_le a1 h3.1)).trans (h3.2.1 x a1 a2), h3.2.2⟩ ⟨⟨Nat.le_refl _, hci⟩, hs, ⟨_, hc, (u_born ty hts (clsOk ci _ hc).1 hKn hkC e1 hty).to hfs⟩⟩
  show W p l e R s m args below meth c H1 locs (cells + 1) (slots + N9) Q (F0 m (pc + 3) ls (.ref H.size :: st.map (cv ad)))
  rw [← cv_raw C H.size]
  exact h9
/-- a final field of a node that is being made -/
theorem np (C : Cx p s m args c cc nL own D ca ad A N n) {H0 : Heap} {q ci k idx pc : Nat} {fs : List Value} {r : vw_C} {v : Value} {ty : FieldType} {lv : List (Nat × Value)} {st : List Value} {ws : List va_E} (hN : ∀ H, N H → BN D H0 q ci fs H) (hww : ws.all nno = true) (hc : vwCl[ci]? = some r) (hk : k < r.2.2) (hfl : Cond.fieldLink own idx (r.2.1 k).1 (r.2.1 k).2.1 (r.2.1 k).2.2.1 ∈ tb) (hfin : (r.2.1 k).2.2.2 = true) (hin : meth.name = "<init>") (hdecl : (r.2.1 k).1 = own) (hd : parseFieldDescriptor (r.2.1 k).2.2.1 = some ty) (hn : narrow ty (cv ad v) = cv ad v) (hfit : fits ty (cv ad v) = true) (hl : k < fs.length) (hAq : A q) (hdg : decode cc pc = .ok (.putfield idx, 3))
    (kk : Wa p l e R s m args below meth c cells slots Q D ca ad A nL (BN D H0 q ci (fs.set k (cv ad v))) (lv, st, ws) (pc + 3)) : Wa p l e R s m args below meth c cells slots Q D ca ad A nL N (lv, v :: .ref (q + 100) :: st, ws) pc := by
  intro H locs ls h1 h2 h3 h4
  have hts := C.1.2.2.2.2
  have hK := C.2.1.1
  obtain ⟨⟨hq0, hci⟩, hsn, hat⟩ := hN H h4
  obtain ⟨hin9, ty0, hty, hnm⟩ := clsOk ci r hc
  obtain ⟨C9, T9, N9⟩ := r
  have hap := va_apart (own := own) hts hin9 ty0 hty hnm hK hc
  have hnd := at_nd hci hat
  obtain ⟨r, g1, cell, q1, q2, q3, q4⟩ := hat
  have hr : r = (C9, T9, N9) := Option.some.inj (g1.symm.trans hc)
  subst hr
  obtain ⟨hS, hfc, kC, hkC, hkind⟩ := hK.1 ci _ hc
  obtain ⟨cf, kf, fi, f, hi, hsl⟩ := hS k hk
  have hlay := hts _ (hin9 _ (u_in_lay hk))
  unfold u_lay at hlay
  rw [if_pos hfin] at hlay
  have hst := (u_facts hfc hkC (u_lays hts hin9 hk) hi).1
  have hcf : m.cls = cf := by
    obtain ⟨_, _, c', _, _, _, -, -, hf', -, -, -, hown2, -⟩ := Cond.laysFinal_spec hlay
    have e1 : c' = cf := by have := hi.symm.trans hf'; simp at this; exact this.1.symm
    rw [hdecl] at hown2
    rw [← e1]; exact Option.some.inj (C.1.2.2.2.1.symm.trans hown2)
  have h6 := u_fits hfc hkC hkind (Or.inr hlay) hi hd hn hfit
  show W p l e R s m args below meth c H locs cells slots Q (F0 m pc ls (cv ad v :: cv ad (.ref (q + 100)) :: st.map (cv ad)))
  rw [cv_raw C]
  refine W.putFinK C.1.1 C.1.2.1 C.1.2.2.2.1 (hts _ hfl) hi hst hcf hin (by rw [q2]; exact h6) q1 q3 (by rw [hsl]; exact k2_hasslot (q4 k hk)) rfl rfl hdg fun H' e1 e2 e3 => ?_
  rw [hsl] at e1 ⊢
  have hsn2 : Snap D H0 H' := ⟨by rw [e2]; exact hsn.1, fun x cl2 a1 a2 => by
    have hx : x < H0.size := (Array.getElem?_eq_some_iff.mp a1).1
    rw [e3 x (Nat.ne_of_lt (Nat.lt_of_lt_of_le hx hq0))]
    exact hsn.2 x cl2 a1 a2⟩
  refine kk H' _ ls h1 (h2.kept fun j x hx => e3 x.1 fun hxe => ?_) (h3.put e2 e3 hAq) ⟨⟨hq0, hci⟩, hsn2, _, hc, t_OB.to (V := updV (vp_V fs) k (cv ad v)) ⟨_, e1, q2, q3, t_set q4 hap hk (cv ad v)⟩ (fun j _ => vp_updV_set hl (cv ad v) j)⟩
  obtain ⟨y, w1, rfl, -⟩ := cw_some hx
  have hny : nno y = true := List.all_eq_true.mp hww y (List.mem_of_getElem? w1)
  obtain ⟨c9, n1, n2⟩ := hnd
  have hxe : ad j = q := hxe
  exact nm_nd C.2.1 hny (h2 j _ hx) (by rw [hxe]; exact n1) n2
end
end
section
/-! numbers: shifts of paths, stems, the first bit in which two paths differ -/
abbrev rK (k c s : Nat) : Room := { frames := k, cells := c, slots := s, locals := 40 * k }
theorem sm_l : ∀ k, k < 32 → ((nI k &&& 31).toBitVec.smod 32).toNat = k := by decide +kernel
theorem sm_u : ∀ k, k < 32 → (((nI k).toUInt32 &&& Int32.toUInt32 31).toBitVec % 32).toNat = k := by decide +kernel
theorem c15 {B : Nat} (h : B ≤ 15) : (15 : Int32) - nI B = nI (15 - B) := by
  rw [show (15 : Int32) = nI 15 by decide]; exact pk_sub h
theorem c16 {B : Nat} (h : B ≤ 16) : (16 : Int32) - nI B = nI (16 - B) := by
  rw [show (16 : Int32) = nI 16 by decide]; exact pk_sub h
/-- bit B of the path P, 0 or 1 -/
def bitA (P B : Nat) : Nat := P / 2 ^ (15 - B) % 2
theorem bit_u {P B : Nat} (hP : P < 65536) (hB : B ≤ 15) : ((nI P).toUInt32 >>> (((15 : Int32) - nI B).toUInt32 &&& Int32.toUInt32 31)).toInt32 &&& 1 = nI (bitA P B) := by
  rw [c15 hB, pk_ushrN (by omega) _ (15 - B) (sm_u _ (by omega))]
  have h1 : P / 2 ^ (15 - B) ≤ P := Nat.div_le_self _ _
  exact pk_andN (by omega) 1 (by decide)
theorem bit_s {P B : Nat} (hP : P < 65536) (hB : B ≤ 15) : (nI P >>> (((15 : Int32) - nI B) &&& 31)) &&& 1 = nI (bitA P B) := by
  rw [c15 hB, pk_shrN (by omega) _ (15 - B) (sm_l _ (by omega))]
  have h1 : P / 2 ^ (15 - B) ≤ P := Nat.div_le_self _ _
  exact pk_andN (by omega) 1 (by decide)
/-- the path with 0 from bit B on -/
def stm (P B : Nat) : Nat := P / 2 ^ (16 - B) * 2 ^ (16 - B)
theorem stm_le (P B : Nat) : stm P B ≤ P := Nat.div_mul_le_self _ _
theorem stm_u {P B : Nat} (hP : P < 65536) (hB : B ≤ 16) : ((nI P).toUInt32 >>> (((16 : Int32) - nI B).toUInt32 &&& Int32.toUInt32 31)).toInt32 <<< (((16 : Int32) - nI B) &&& 31) = nI (stm P B) := by
  rw [c16 hB, pk_ushrN (by omega) _ (16 - B) (sm_u _ (by omega))]
  have h1 := stm_le P B
  exact pk_shlN _ (16 - B) (sm_l _ (by omega)) (by unfold stm at h1; omega)
theorem stm_s {P B : Nat} (hP : P < 65536) (hB : B ≤ 16) : (nI P >>> (((16 : Int32) - nI B) &&& 31)) <<< (((16 : Int32) - nI B) &&& 31) = nI (stm P B) := by
  rw [c16 hB, pk_shrN (by omega) _ (16 - B) (sm_l _ (by omega))]
  have h1 := stm_le P B
  exact pk_shlN _ (16 - B) (sm_l _ (by omega)) (by unfold stm at h1; omega)
theorem one_shl15 {B : Nat} (hB : B ≤ 15) : (1 : Int32) <<< (((15 : Int32) - nI B) &&& 31) = nI (2 ^ (15 - B)) := by
  have h1 : 2 ^ (15 - B) ≤ 2 ^ 15 := Nat.pow_le_pow_right (by decide) (by omega)
  have h2 := pk_shlN (n := 1) (((15 : Int32) - nI B) &&& 31) (15 - B) (by rw [c15 hB]; exact sm_l _ (by omega)) (by omega)
  rw [Nat.one_mul] at h2
  exact h2
theorem one_shl16 {B : Nat} (hB : B ≤ 16) : (1 : Int32) <<< (((16 : Int32) - nI B) &&& 31) = nI (2 ^ (16 - B)) := by
  have h1 : 2 ^ (16 - B) ≤ 2 ^ 16 := Nat.pow_le_pow_right (by decide) (by omega)
  have h2 := pk_shlN (n := 1) (((16 : Int32) - nI B) &&& 31) (16 - B) (by rw [c16 hB]; exact sm_l _ (by omega)) (by omega)
  rw [Nat.one_mul] at h2
  exact h2
/-- the first bit in which two paths differ; 16: in none -/
def fbg (P Q : Nat) : Nat → Nat
  | 0 => 16
  | k + 1 => if P / 2 ^ k = Q / 2 ^ k then fbg P Q k else 15 - k
def fbit (P Q : Nat) : Nat := fbg P Q 16
theorem bit_split {P Q k : Nat} (h : P / 2 ^ (k + 1) = Q / 2 ^ (k + 1)) : P / 2 ^ k = Q / 2 ^ k ↔ P / 2 ^ k % 2 = Q / 2 ^ k % 2 := by
  rw [Nat.pow_succ, ← Nat.div_div_eq_div_mul, ← Nat.div_div_eq_div_mul] at h
  constructor
  · intro h1; rw [h1]
  · intro h1; omega
theorem fbg_spec (P Q : Nat) (hne : P ≠ Q) : ∀ k, k ≤ 16 → P / 2 ^ k = Q / 2 ^ k → ∃ B, fbg P Q k = B ∧ B ≤ 15 ∧ 16 ≤ B + k ∧ P / 2 ^ (16 - B) = Q / 2 ^ (16 - B) ∧ P / 2 ^ (15 - B) ≠ Q / 2 ^ (15 - B) := by
  intro k
  induction k with
  | zero => intro _ h; simp at h; exact absurd h hne
  | succ k ih =>
    intro hk h
    unfold fbg
    split
    next h1 =>
      obtain ⟨B, e1, e2, e3, e4⟩ := ih (by omega) h1
      exact ⟨B, e1, e2, by omega, e4⟩
    next h1 =>
      refine ⟨15 - k, rfl, by omega, by omega, ?_, ?_⟩
      · rw [show 16 - (15 - k) = k + 1 by omega]; exact h
      · rw [show 15 - (15 - k) = k by omega]; exact h1
theorem p16 {P : Nat} (h : P < 65536) : P / 2 ^ 16 = 0 := Nat.div_eq_of_lt h
theorem fbit_spec {P Q : Nat} (hP : P < 65536) (hQ : Q < 65536) (hne : P ≠ Q) : fbit P Q ≤ 15 ∧ P / 2 ^ (16 - fbit P Q) = Q / 2 ^ (16 - fbit P Q) ∧ P / 2 ^ (15 - fbit P Q) ≠ Q / 2 ^ (15 - fbit P Q) := by
  obtain ⟨B, e1, e2, -, e3, e4⟩ := fbg_spec P Q hne 16 (by decide) (by rw [p16 hP, p16 hQ])
  unfold fbit
  rw [e1]
  exact ⟨e2, e3, e4⟩
end
section
theorem hi_0 {P B : Nat} (h : ¬ nI (bitA P B) = 1) : nI (bitA P B) = 0 := by
  have h1 : bitA P B < 2 := Nat.mod_lt _ (by decide)
  rcases (show bitA P B = 0 ∨ bitA P B = 1 by omega) with e | e
  · rw [e]; rfl
  · rw [e] at h; exact absurd rfl h
theorem bitA_lt (P B : Nat) : bitA P B < 2 := Nat.mod_lt _ (by decide)
/-! small methods without cells, of the class -/
section
variable {l : Launch} {D : va_G} {ca : Nat → ClassId} {ad : Nat → Nat} {ws : List va_E} {n : Nat} {N : Heap → Prop}
set_option maxRecDepth 100000 in
set_option maxHeartbeats 4000000 in
theorem kX8_isPath (hAD : AD ad n) (hn : ws.length = n) (hN : NS D N) (x : Int32) : Ct l yX8_isPath cX8_isPath 1 (some .boolean) (rK 0 0 0) D ca ad ws n [.int x] N (pG ws N (some (.int (if 0 ≤ x ∧ x ≤ 65535 then 1 else 0)))) := by
  refine enter (lv := [(0, .int x)]) (by decide +kernel) (Nat.le_of_ble_eq_true rfl) rfl hAD (fun U hK => ns_write hK hN) ?_
  intro p e s m below meth c A args hA C hr hlk hnm
  refine sg0 C foX8 coX8 oX8_isPath_0 rfl rfl hn ?_
  refine b1_lt (tgt := 14) C jX8_isPath_1 (by decide) (fun h1 => ?_) (fun h1 => ?_)
  · refine sg0 C foX8 coX8 oX8_isPath_14 rfl rfl hn ?_
    exact rt_z C hr hlk (by decide) jX8_isPath_15 (fun H hN => ⟨⟨by rw [if_neg (fun h => absurd h.1 (Int32.not_le.mpr h1))], rfl⟩, hN⟩)
  · refine sg0 C foX8 coX8 oX8_isPath_4 rfl rfl hn ?_
    refine b2_gt (tgt := 14) C jX8_isPath_7 (by decide) (fun h7 => ?_) (fun h7 => ?_)
    · refine sg0 C foX8 coX8 oX8_isPath_14 rfl rfl hn ?_
      exact rt_z C hr hlk (by decide) jX8_isPath_15 (fun H hN => ⟨⟨by rw [if_neg (fun h => absurd h.2 (Int32.not_le.mpr h7))], rfl⟩, hN⟩)
    · refine sg0 C foX8 coX8 oX8_isPath_10 rfl rfl hn ?_
      exact rt_z C hr hlk (by decide) jX8_isPath_15 (fun H hN => ⟨⟨by rw [if_pos ⟨Int32.not_lt.mp h1, Int32.not_lt.mp h7⟩], rfl⟩, hN⟩)
set_option maxRecDepth 100000 in
set_option maxHeartbeats 4000000 in
theorem kX8_mix (hAD : AD ad n) (hn : ws.length = n) (hN : NS D N) (x y : Int64) : Ct l yX8_mix cX8_mix 6 (some .long) (rK 0 0 0) D ca ad ws n [.long x, .long y] N (pG ws N (some (.long (mixF x y)))) := by
  refine enter (lv := [(0, .long x), (2, .long y)]) (by decide +kernel) (Nat.le_of_ble_eq_true rfl) rfl hAD (fun U hK => ns_write hK hN) ?_
  intro p e s m below meth c A args hA C hr hlk hnm
  refine sg0 C foX8 coX8 oX8_mix_0 rfl rfl hn ?_
  exact rt_l C hr hlk jX8_mix_31 (fun H hN => ⟨⟨rfl, rfl⟩, hN⟩)
set_option maxRecDepth 100000 in
set_option maxHeartbeats 4000000 in
theorem kX8_leafDigest (hAD : AD ad n) (hn : ws.length = n) (hN : NS D N) (P : Nat) (v : Int64) : Ct l yX8_leafDigest cX8_leafDigest 3 (some .long) (rK 1 0 0) D ca ad ws n [.int (nI P), .long v] N (pG ws N (some (.long (leafF P v)))) := by
  refine enter (lv := [(0, .int (nI P)), (1, .long v)]) (by decide +kernel) (Nat.le_of_ble_eq_true rfl) rfl hAD (fun U hK => ns_write hK hN) ?_
  intro p e s m below meth c A args hA C hr hlk hnm
  refine sg0 C foX8 coX8 oX8_leafDigest_0 rfl rfl hn ?_
  refine cl_s C (kX8_mix hAD hn hN 0 1) cd_X8_mix in_X8 ml_X8_161 sm_X8_mix hd_X8_mix rfl rfl ⟨(Nat.le_of_ble_eq_true rfl), (Nat.le_of_ble_eq_true rfl)⟩ ⟨(Nat.le_of_ble_eq_true rfl), (Nat.le_of_ble_eq_true rfl)⟩ (Nat.le_of_ble_eq_true rfl) jX8_leafDigest_2 (fun v ws' => Wa.and (fun hv => ?_))
  obtain ⟨rfl, rfl⟩ := hv
  refine sg0 C foX8 coX8 oX8_leafDigest_5 rfl rfl hn ?_
  refine cl_s C (kX8_mix hAD hn hN _ _) cd_X8_mix in_X8 ml_X8_161 sm_X8_mix hd_X8_mix rfl rfl ⟨(Nat.le_of_ble_eq_true rfl), (Nat.le_of_ble_eq_true rfl)⟩ ⟨(Nat.le_of_ble_eq_true rfl), (Nat.le_of_ble_eq_true rfl)⟩ (Nat.le_of_ble_eq_true rfl) jX8_leafDigest_7 (fun v ws' => Wa.and (fun hv => ?_))
  obtain ⟨rfl, rfl⟩ := hv
  refine sg0 C foX8 coX8 oX8_leafDigest_10 rfl rfl hn ?_
  refine cl_s C (kX8_mix hAD hn hN _ _) cd_X8_mix in_X8 ml_X8_161 sm_X8_mix hd_X8_mix rfl rfl ⟨(Nat.le_of_ble_eq_true rfl), (Nat.le_of_ble_eq_true rfl)⟩ ⟨(Nat.le_of_ble_eq_true rfl), (Nat.le_of_ble_eq_true rfl)⟩ (Nat.le_of_ble_eq_true rfl) jX8_leafDigest_11 (fun v ws' => Wa.and (fun hv => ?_))
  obtain ⟨rfl, rfl⟩ := hv
  exact rt_l C hr hlk jX8_leafDigest_14 (fun H hN => ⟨⟨rfl, rfl⟩, hN⟩)
set_option maxRecDepth 100000 in
set_option maxHeartbeats 4000000 in
theorem kX8_forkDigest (hAD : AD ad n) (hn : ws.length = n) (hN : NS D N) (B S : Nat) (x y : Int64) : Ct l yX8_forkDigest cX8_forkDigest 6 (some .long) (rK 1 0 0) D ca ad ws n [.int (nI B), .int (nI S), .long x, .long y] N (pG ws N (some (.long (forkF B S x y)))) := by
  refine enter (lv := [(0, .int (nI B)), (1, .int (nI S)), (2, .long x), (4, .long y)]) (by decide +kernel) (Nat.le_of_ble_eq_true rfl) rfl hAD (fun U hK => ns_write hK hN) ?_
  intro p e s m below meth c A args hA C hr hlk hnm
  refine sg0 C foX8 coX8 oX8_forkDigest_0 rfl rfl hn ?_
  refine cl_s C (kX8_mix hAD hn hN _ _) cd_X8_mix in_X8 ml_X8_161 sm_X8_mix hd_X8_mix rfl rfl ⟨(Nat.le_of_ble_eq_true rfl), (Nat.le_of_ble_eq_true rfl)⟩ ⟨(Nat.le_of_ble_eq_true rfl), (Nat.le_of_ble_eq_true rfl)⟩ (Nat.le_of_ble_eq_true rfl) jX8_forkDigest_4 (fun v ws' => Wa.and (fun hv => ?_))
  obtain ⟨rfl, rfl⟩ := hv
  refine sg0 C foX8 coX8 oX8_forkDigest_7 rfl rfl hn ?_
  refine cl_s C (kX8_mix hAD hn hN _ _) cd_X8_mix in_X8 ml_X8_161 sm_X8_mix hd_X8_mix rfl rfl ⟨(Nat.le_of_ble_eq_true rfl), (Nat.le_of_ble_eq_true rfl)⟩ ⟨(Nat.le_of_ble_eq_true rfl), (Nat.le_of_ble_eq_true rfl)⟩ (Nat.le_of_ble_eq_true rfl) jX8_forkDigest_9 (fun v ws' => Wa.and (fun hv => ?_))
  obtain ⟨rfl, rfl⟩ := hv
  refine sg0 C foX8 coX8 oX8_forkDigest_12 rfl rfl hn ?_
  refine cl_s C (kX8_mix hAD hn hN _ _) cd_X8_mix in_X8 ml_X8_161 sm_X8_mix hd_X8_mix rfl rfl ⟨(Nat.le_of_ble_eq_true rfl), (Nat.le_of_ble_eq_true rfl)⟩ ⟨(Nat.le_of_ble_eq_true rfl), (Nat.le_of_ble_eq_true rfl)⟩ (Nat.le_of_ble_eq_true rfl) jX8_forkDigest_14 (fun v ws' => Wa.and (fun hv => ?_))
  obtain ⟨rfl, rfl⟩ := hv
  refine sg0 C foX8 coX8 oX8_forkDigest_17 rfl rfl hn ?_
  refine cl_s C (kX8_mix hAD hn hN _ _) cd_X8_mix in_X8 ml_X8_161 sm_X8_mix hd_X8_mix rfl rfl ⟨(Nat.le_of_ble_eq_true rfl), (Nat.le_of_ble_eq_true rfl)⟩ ⟨(Nat.le_of_ble_eq_true rfl), (Nat.le_of_ble_eq_true rfl)⟩ (Nat.le_of_ble_eq_true rfl) jX8_forkDigest_18 (fun v ws' => Wa.and (fun hv => ?_))
  obtain ⟨rfl, rfl⟩ := hv
  refine sg0 C foX8 coX8 oX8_forkDigest_21 rfl rfl hn ?_
  refine cl_s C (kX8_mix hAD hn hN _ _) cd_X8_mix in_X8 ml_X8_161 sm_X8_mix hd_X8_mix rfl rfl ⟨(Nat.le_of_ble_eq_true rfl), (Nat.le_of_ble_eq_true rfl)⟩ ⟨(Nat.le_of_ble_eq_true rfl), (Nat.le_of_ble_eq_true rfl)⟩ (Nat.le_of_ble_eq_true rfl) jX8_forkDigest_23 (fun v ws' => Wa.and (fun hv => ?_))
  obtain ⟨rfl, rfl⟩ := hv
  exact rt_l C hr hlk jX8_forkDigest_26 (fun H hN => ⟨⟨rfl, rfl⟩, hN⟩)
set_option maxRecDepth 100000 in
set_option maxHeartbeats 4000000 in
theorem kX9_isPath (hAD : AD ad n) (hn : ws.length = n) (hN : NS D N) (x : Int32) : Ct l yX9_isPath cX9_isPath 1 (some .boolean) (rK 0 0 0) D ca ad ws n [.int x] N (pG ws N (some (.int (if 0 ≤ x ∧ x ≤ 65535 then 1 else 0)))) := by
  refine enter (lv := [(0, .int x)]) (by decide +kernel) (Nat.le_of_ble_eq_true rfl) rfl hAD (fun U hK => ns_write hK hN) ?_
  intro p e s m below meth c A args hA C hr hlk hnm
  refine sg0 C foX9 coX9 oX9_isPath_0 rfl rfl hn ?_
  refine b1_lt (tgt := 14) C jX9_isPath_1 (by decide) (fun h1 => ?_) (fun h1 => ?_)
  · refine sg0 C foX9 coX9 oX9_isPath_14 rfl rfl hn ?_
    exact rt_z C hr hlk (by decide) jX9_isPath_15 (fun H hN => ⟨⟨by rw [if_neg (fun h => absurd h.1 (Int32.not_le.mpr h1))], rfl⟩, hN⟩)
  · refine sg0 C foX9 coX9 oX9_isPath_4 rfl rfl hn ?_
    refine b2_gt (tgt := 14) C jX9_isPath_7 (by decide) (fun h7 => ?_) (fun h7 => ?_)
    · refine sg0 C foX9 coX9 oX9_isPath_14 rfl rfl hn ?_
      exact rt_z C hr hlk (by decide) jX9_isPath_15 (fun H hN => ⟨⟨by rw [if_neg (fun h => absurd h.2 (Int32.not_le.mpr h7))], rfl⟩, hN⟩)
    · refine sg0 C foX9 coX9 oX9_isPath_10 rfl rfl hn ?_
      exact rt_z C hr hlk (by decide) jX9_isPath_15 (fun H hN => ⟨⟨by rw [if_pos ⟨Int32.not_lt.mp h1, Int32.not_lt.mp h7⟩], rfl⟩, hN⟩)
set_option maxRecDepth 100000 in
set_option maxHeartbeats 4000000 in
theorem kX9_mix (hAD : AD ad n) (hn : ws.length = n) (hN : NS D N) (x y : Int64) : Ct l yX9_mix cX9_mix 6 (some .long) (rK 0 0 0) D ca ad ws n [.long x, .long y] N (pG ws N (some (.long (mixF x y)))) := by
  refine enter (lv := [(0, .long x), (2, .long y)]) (by decide +kernel) (Nat.le_of_ble_eq_true rfl) rfl hAD (fun U hK => ns_write hK hN) ?_
  intro p e s m below meth c A args hA C hr hlk hnm
  refine sg0 C foX9 coX9 oX9_mix_0 rfl rfl hn ?_
  exact rt_l C hr hlk jX9_mix_31 (fun H hN => ⟨⟨rfl, rfl⟩, hN⟩)
set_option maxRecDepth 100000 in
set_option maxHeartbeats 4000000 in
theorem kX9_leafDigest (hAD : AD ad n) (hn : ws.length = n) (hN : NS D N) (P : Nat) (v : Int64) : Ct l yX9_leafDigest cX9_leafDigest 3 (some .long) (rK 1 0 0) D ca ad ws n [.int (nI P), .long v] N (pG ws N (some (.long (leafF P v)))) := by
  refine enter (lv := [(0, .int (nI P)), (1, .long v)]) (by decide +kernel) (Nat.le_of_ble_eq_true rfl) rfl hAD (fun U hK => ns_write hK hN) ?_
  intro p e s m below meth c A args hA C hr hlk hnm
  refine sg0 C foX9 coX9 oX9_leafDigest_0 rfl rfl hn ?_
  refine cl_s C (kX9_mix hAD hn hN 0 1) cd_X9_mix in_X9 ml_X9_92 sm_X9_mix hd_X9_mix rfl rfl ⟨(Nat.le_of_ble_eq_true rfl), (Nat.le_of_ble_eq_true rfl)⟩ ⟨(Nat.le_of_ble_eq_true rfl), (Nat.le_of_ble_eq_true rfl)⟩ (Nat.le_of_ble_eq_true rfl) jX9_leafDigest_2 (fun v ws' => Wa.and (fun hv => ?_))
  obtain ⟨rfl, rfl⟩ := hv
  refine sg0 C foX9 coX9 oX9_leafDigest_5 rfl rfl hn ?_
  refine cl_s C (kX9_mix hAD hn hN _ _) cd_X9_mix in_X9 ml_X9_92 sm_X9_mix hd_X9_mix rfl rfl ⟨(Nat.le_of_ble_eq_true rfl), (Nat.le_of_ble_eq_true rfl)⟩ ⟨(Nat.le_of_ble_eq_true rfl), (Nat.le_of_ble_eq_true rfl)⟩ (Nat.le_of_ble_eq_true rfl) jX9_leafDigest_7 (fun v ws' => Wa.and (fun hv => ?_))
  obtain ⟨rfl, rfl⟩ := hv
  refine sg0 C foX9 coX9 oX9_leafDigest_10 rfl rfl hn ?_
  refine cl_s C (kX9_mix hAD hn hN _ _) cd_X9_mix in_X9 ml_X9_92 sm_X9_mix hd_X9_mix rfl rfl ⟨(Nat.le_of_ble_eq_true rfl), (Nat.le_of_ble_eq_true rfl)⟩ ⟨(Nat.le_of_ble_eq_true rfl), (Nat.le_of_ble_eq_true rfl)⟩ (Nat.le_of_ble_eq_true rfl) jX9_leafDigest_11 (fun v ws' => Wa.and (fun hv => ?_))
  obtain ⟨rfl, rfl⟩ := hv
  exact rt_l C hr hlk jX9_leafDigest_14 (fun H hN => ⟨⟨rfl, rfl⟩, hN⟩)
set_option maxRecDepth 100000 in
set_option maxHeartbeats 4000000 in
theorem kX9_forkDigest (hAD : AD ad n) (hn : ws.length = n) (hN : NS D N) (B S : Nat) (x y : Int64) : Ct l yX9_forkDigest cX9_forkDigest 6 (some .long) (rK 1 0 0) D ca ad ws n [.int (nI B), .int (nI S), .long x, .long y] N (pG ws N (some (.long (forkF B S x y)))) := by
  refine enter (lv := [(0, .int (nI B)), (1, .int (nI S)), (2, .long x), (4, .long y)]) (by decide +kernel) (Nat.le_of_ble_eq_true rfl) rfl hAD (fun U hK => ns_write hK hN) ?_
  intro p e s m below meth c A args hA C hr hlk hnm
  refine sg0 C foX9 coX9 oX9_forkDigest_0 rfl rfl hn ?_
  refine cl_s C (kX9_mix hAD hn hN _ _) cd_X9_mix in_X9 ml_X9_92 sm_X9_mix hd_X9_mix rfl rfl ⟨(Nat.le_of_ble_eq_true rfl), (Nat.le_of_ble_eq_true rfl)⟩ ⟨(Nat.le_of_ble_eq_true rfl), (Nat.le_of_ble_eq_true rfl)⟩ (Nat.le_of_ble_eq_true rfl) jX9_forkDigest_4 (fun v ws' => Wa.and (fun hv => ?_))
  obtain ⟨rfl, rfl⟩ := hv
  refine sg0 C foX9 coX9 oX9_forkDigest_7 rfl rfl hn ?_
  refine cl_s C (kX9_mix hAD hn hN _ _) cd_X9_mix in_X9 ml_X9_92 sm_X9_mix hd_X9_mix rfl rfl ⟨(Nat.le_of_ble_eq_true rfl), (Nat.le_of_ble_eq_true rfl)⟩ ⟨(Nat.le_of_ble_eq_true rfl), (Nat.le_of_ble_eq_true rfl)⟩ (Nat.le_of_ble_eq_true rfl) jX9_forkDigest_9 (fun v ws' => Wa.and (fun hv => ?_))
  obtain ⟨rfl, rfl⟩ := hv
  refine sg0 C foX9 coX9 oX9_forkDigest_12 rfl rfl hn ?_
  refine cl_s C (kX9_mix hAD hn hN _ _) cd_X9_mix in_X9 ml_X9_92 sm_X9_mix hd_X9_mix rfl rfl ⟨(Nat.le_of_ble_eq_true rfl), (Nat.le_of_ble_eq_true rfl)⟩ ⟨(Nat.le_of_ble_eq_true rfl), (Nat.le_of_ble_eq_true rfl)⟩ (Nat.le_of_ble_eq_true rfl) jX9_forkDigest_14 (fun v ws' => Wa.and (fun hv => ?_))
  obtain ⟨rfl, rfl⟩ := hv
  refine sg0 C foX9 coX9 oX9_forkDigest_17 rfl rfl hn ?_
  refine cl_s C (kX9_mix hAD hn hN _ _) cd_X9_mix in_X9 ml_X9_92 sm_X9_mix hd_X9_mix rfl rfl ⟨(Nat.le_of_ble_eq_true rfl), (Nat.le_of_ble_eq_true rfl)⟩ ⟨(Nat.le_of_ble_eq_true rfl), (Nat.le_of_ble_eq_true rfl)⟩ (Nat.le_of_ble_eq_true rfl) jX9_forkDigest_18 (fun v ws' => Wa.and (fun hv => ?_))
  obtain ⟨rfl, rfl⟩ := hv
  refine sg0 C foX9 coX9 oX9_forkDigest_21 rfl rfl hn ?_
  refine cl_s C (kX9_mix hAD hn hN _ _) cd_X9_mix in_X9 ml_X9_92 sm_X9_mix hd_X9_mix rfl rfl ⟨(Nat.le_of_ble_eq_true rfl), (Nat.le_of_ble_eq_true rfl)⟩ ⟨(Nat.le_of_ble_eq_true rfl), (Nat.le_of_ble_eq_true rfl)⟩ (Nat.le_of_ble_eq_true rfl) jX9_forkDigest_23 (fun v ws' => Wa.and (fun hv => ?_))
  obtain ⟨rfl, rfl⟩ := hv
  exact rt_l C hr hlk jX9_forkDigest_26 (fun H hN => ⟨⟨rfl, rfl⟩, hN⟩)
set_option maxRecDepth 100000 in
set_option maxHeartbeats 4000000 in
theorem kX8_emptyDigest (hAD : AD ad n) (hn : ws.length = n) (hN : NS D N)  : Ct l yX8_emptyDigest cX8_emptyDigest 0 (some .long) (rK 1 0 0) D ca ad ws n [] N (pG ws N (some (.long emptyF))) := by
  refine enter (lv := []) (by decide +kernel) (Nat.le_of_ble_eq_true rfl) rfl hAD (fun U hK => ns_write hK hN) ?_
  intro p e s m below meth c A args hA C hr hlk hnm
  refine sg0 C foX8 coX8 oX8_emptyDigest_0 rfl rfl hn ?_
  refine cl_s C (kX8_mix hAD hn hN _ _) cd_X8_mix in_X8 ml_X8_161 sm_X8_mix hd_X8_mix rfl rfl ⟨(Nat.le_of_ble_eq_true rfl), (Nat.le_of_ble_eq_true rfl)⟩ ⟨(Nat.le_of_ble_eq_true rfl), (Nat.le_of_ble_eq_true rfl)⟩ (Nat.le_of_ble_eq_true rfl) jX8_emptyDigest_4 (fun v ws' => Wa.and (fun hv => ?_))
  obtain ⟨rfl, rfl⟩ := hv
  exact rt_l C hr hlk jX8_emptyDigest_7 (fun H hN => ⟨⟨rfl, rfl⟩, hN⟩)
set_option maxRecDepth 100000 in
set_option maxHeartbeats 4000000 in
theorem kX8_isRange (hAD : AD ad n) (hn : ws.length = n) (hN : NS D N) (x y : Int32) : Ct l yX8_isRange cX8_isRange 2 (some .boolean) (rK 1 0 0) D ca ad ws n [.int x, .int y] N (pG ws N (some (.int (if (0 ≤ x ∧ x ≤ 65535) ∧ (0 ≤ y ∧ y ≤ 65535) ∧ x ≤ y then 1 else 0)))) := by
  refine enter (lv := [(0, .int x), (1, .int y)]) (by decide +kernel) (Nat.le_of_ble_eq_true rfl) rfl hAD (fun U hK => ns_write hK hN) ?_
  intro p e s m below meth c A args hA C hr hlk hnm
  refine sg0 C foX8 coX8 oX8_isRange_0 rfl rfl hn ?_
  refine cl_s C (kX8_isPath hAD hn hN _) cd_X8_isPath in_X8 ml_X8_53 sm_X8_isPath hd_X8_isPath rfl rfl ⟨(Nat.le_of_ble_eq_true rfl), (Nat.le_of_ble_eq_true rfl)⟩ ⟨(Nat.le_of_ble_eq_true rfl), (Nat.le_of_ble_eq_true rfl)⟩ (Nat.le_of_ble_eq_true rfl) jX8_isRange_1 (fun v ws' => Wa.and (fun hv => ?_))
  obtain ⟨rfl, rfl⟩ := hv
  refine b1_eq (tgt := 23) C jX8_isRange_4 (by decide) (fun h4 => ?_) (fun h4 => ?_)
  · refine sg0 C foX8 coX8 oX8_isRange_23 rfl rfl hn ?_
    exact rt_z C hr hlk (by decide) jX8_isRange_24 (fun H hN => ⟨⟨by rw [if_neg (fun h => by rw [if_pos h.1] at h4; cases h4)], rfl⟩, hN⟩)
  · refine sg0 C foX8 coX8 oX8_isRange_7 rfl rfl hn ?_
    refine cl_s C (kX8_isPath hAD hn hN _) cd_X8_isPath in_X8 ml_X8_53 sm_X8_isPath hd_X8_isPath rfl rfl ⟨(Nat.le_of_ble_eq_true rfl), (Nat.le_of_ble_eq_true rfl)⟩ ⟨(Nat.le_of_ble_eq_true rfl), (Nat.le_of_ble_eq_true rfl)⟩ (Nat.le_of_ble_eq_true rfl) jX8_isRange_8 (fun v ws' => Wa.and (fun hv => ?_))
    obtain ⟨rfl, rfl⟩ := hv
    refine b1_eq (tgt := 23) C jX8_isRange_11 (by decide) (fun h11 => ?_) (fun h11 => ?_)
    · refine sg0 C foX8 coX8 oX8_isRange_23 rfl rfl hn ?_
      exact rt_z C hr hlk (by decide) jX8_isRange_24 (fun H hN => ⟨⟨by rw [if_neg (fun h => by rw [if_pos h.2.1] at h11; cases h11)], rfl⟩, hN⟩)
    · refine sg0 C foX8 coX8 oX8_isRange_14 rfl rfl hn ?_
      refine b2_gt (tgt := 23) C jX8_isRange_16 (by decide) (fun h16 => ?_) (fun h16 => ?_)
      · refine sg0 C foX8 coX8 oX8_isRange_23 rfl rfl hn ?_
        exact rt_z C hr hlk (by decide) jX8_isRange_24 (fun H hN => ⟨⟨by rw [if_neg (fun h => absurd h.2.2 (Int32.not_le.mpr h16))], rfl⟩, hN⟩)
      · refine sg0 C foX8 coX8 oX8_isRange_19 rfl rfl hn ?_
        exact rt_z C hr hlk (by decide) jX8_isRange_24 (fun H hN => ⟨⟨by rw [if_pos ⟨Decidable.byContradiction fun h => h4 (if_neg h), Decidable.byContradiction fun h => h11 (if_neg h), Int32.not_lt.mp h16⟩], rfl⟩, hN⟩)
set_option maxRecDepth 100000 in
set_option maxHeartbeats 4000000 in
theorem kX8_isHigh (hAD : AD ad n) (hn : ws.length = n) (hN : NS D N) {P B : Nat} (hP : P < 65536) (hB : B ≤ 15) : Ct l yX8_isHigh cX8_isHigh 2 (some .boolean) (rK 0 0 0) D ca ad ws n [.int (nI P), .int (nI B)] N (pG ws N (some (.int (nI (bitA P B))))) := by
  refine enter (lv := [(0, .int (nI P)), (1, .int (nI B))]) (by decide +kernel) (Nat.le_of_ble_eq_true rfl) rfl hAD (fun U hK => ns_write hK hN) ?_
  intro p e s m below meth c A args hA C hr hlk hnm
  refine sg0 C foX8 coX8 oX8_isHigh_0 rfl rfl hn ?_
  refine b2_ne (tgt := 16) C jX8_isHigh_9 (by decide) (fun h9 => ?_) (fun h9 => ?_)
  · rw [bit_u hP hB] at h9
    refine sg0 C foX8 coX8 oX8_isHigh_16 rfl rfl hn ?_
    exact rt_z C hr hlk (by decide) jX8_isHigh_17 (fun H hN => ⟨⟨by rw [hi_0 h9], rfl⟩, hN⟩)
  · rw [bit_u hP hB] at h9
    refine sg0 C foX8 coX8 oX8_isHigh_12 rfl rfl hn ?_
    exact rt_z C hr hlk (by decide) jX8_isHigh_17 (fun H hN => ⟨⟨by rw [h9], rfl⟩, hN⟩)
set_option maxRecDepth 100000 in
set_option maxHeartbeats 4000000 in
theorem kX8_stemOf (hAD : AD ad n) (hn : ws.length = n) (hN : NS D N) {P B : Nat} (hP : P < 65536) (hB : B ≤ 16) : Ct l yX8_stemOf cX8_stemOf 2 (some .int) (rK 0 0 0) D ca ad ws n [.int (nI P), .int (nI B)] N (pG ws N (some (.int (nI (stm P B))))) := by
  refine enter (lv := [(0, .int (nI P)), (1, .int (nI B))]) (by decide +kernel) (Nat.le_of_ble_eq_true rfl) rfl hAD (fun U hK => ns_write hK hN) ?_
  intro p e s m below meth c A args hA C hr hlk hnm
  refine sg0 C foX8 coX8 oX8_stemOf_0 rfl rfl hn ?_
  exact rt_i C hr hlk jX8_stemOf_11 (fun H hN => ⟨⟨by rw [stm_u hP hB], rfl⟩, hN⟩)
set_option maxRecDepth 100000 in
set_option maxHeartbeats 4000000 in
theorem kX9_stemOf (hAD : AD ad n) (hn : ws.length = n) (hN : NS D N) {P B : Nat} (hP : P < 65536) (hB : B ≤ 16) : Ct l yX9_stemOf cX9_stemOf 2 (some .int) (rK 0 0 0) D ca ad ws n [.int (nI P), .int (nI B)] N (pG ws N (some (.int (nI (stm P B))))) := by
  refine enter (lv := [(0, .int (nI P)), (1, .int (nI B))]) (by decide +kernel) (Nat.le_of_ble_eq_true rfl) rfl hAD (fun U hK => ns_write hK hN) ?_
  intro p e s m below meth c A args hA C hr hlk hnm
  refine sg0 C foX9 coX9 oX9_stemOf_0 rfl rfl hn ?_
  exact rt_i C hr hlk jX9_stemOf_11 (fun H hN => ⟨⟨by rw [stm_s hP hB], rfl⟩, hN⟩)
end
end
section
/-! constructors of nodes -/
def FrX (ad : Nat → Nat) (n sz q : Nat) : Nat → Prop := fun x => x = q ∨ Fr ad n sz x
/-- a constructor's contract: it may write into the cell q that it makes -/
def CtI (l : Launch) (y : MethodName) (bytes : ByteArray) (maxL : Nat) (rm : Room) (D : va_G) (ca : Nat → ClassId) (ad : Nat → Nat) (ws : List va_E) (n q : Nat) (av : List Value) (N : Heap → Prop) (G : Option Value → List va_E → Heap → Prop) : Prop :=
  ∀ sz : Nat, Met l y (Cond.code y bytes maxL none :: tb) rm (CPre D ca ad ws sz av N) (CQ D ca ad G (FrX ad n sz q)) rm.cells rm.slots (FrX ad n sz q)
theorem enterI {l : Launch} {y : MethodName} {cc : ByteArray} {maxL n q : Nat} {rm : Room} {D : va_G} {ca : Nat → ClassId} {ad : Nat → Nat} {ws : List va_E} {av : List Value} {N : Heap → Prop} {G : Option Value → List va_E → Heap → Prop} {lv : List (Nat × Value)} (hy : plainName y.cls = true) (hlen : (lg_sl (av.map (cv ad))).length ≤ maxL) (hlv : lv_args 0 av = lv) (hAD : AD ad n) (hNS : ∀ U, KS D ca U → NSt D ca ad N)
    (body : ∀ (p : Program) (e : Env) (s : State) (m : MethodId) (below : List Frame) (meth : Method) (c : Code) (A : Nat → Prop) (args : Array Value), A q → Cx p s m args c cc maxL y.cls D ca ad A N n → meth.sig.returnType = none → meth.locks = false → meth.name = y.name → Wa p l e rm s m args below meth c 0 0 (MQ below (CQ D ca ad G A) args s rm.cells rm.slots A) D ca ad A maxL N (lv, [], ws) 0) : CtI l y cc maxL rm D ca ad ws n q av N G := by
  intro sz
  refine Met.ofW (cc := cc) (maxL := maxL) (ret := none) hy rfl ?_
  intro p e s m args below meth c s₁ B hml hv
  obtain ⟨rfl, hsz, hP, hK, hN⟩ := hv
  have hts := atoms_spec (ws := Cond.code y cc maxL none :: tb) B.pre
  have hown : s.vm.findClass y.cls = some m.cls := findClass_of_methodNamed B.named
  subst hsz
  have hl := lv_entry (av.map (cv ad)) (n := maxL) hlen
  rw [lg_entry_eq]
  generalize (lg_sl (av.map (cv ad)) ++ List.replicate (maxL - (lg_sl (av.map (cv ad))).length) Slot.unset).toArray = ls at hl ⊢
  rw [lv_args_cl, hlv] at hl
  exact body p e s m below meth c (FrX ad n s.heap.size q) _ (Or.inl rfl) ⟨⟨B.exec, B.bytes, hml, hown, fun w hw => hts w (List.mem_cons_of_mem _ hw)⟩, hK, hNS s hK, hAD, fun k hk => Or.inr (Or.inl ⟨k, hk, rfl⟩), fun q hq => Or.inr (Or.inr hq)⟩ B.returns B.notSynchronized (name_of_methodNamed B.named B.method).1 s.heap [] ls hl hP va_S.rf hN
section
variable {p : Program} {l : Launch} {e : Env} {R : Room} {s : State} {m : MethodId} {args : Array Value} {below : List Frame} {meth : Method} {c : Code} {cells slots : Nat} {Q : State → Prop}
variable {cc : ByteArray} {nL n : Nat} {own : String} {D : va_G} {ca : Nat → ClassId} {ad : Nat → Nat} {A : Nat → Prop} {N : Heap → Prop}
theorem gcallX (C : Cx p s m args c cc nL own D ca ad A N n) {pc mc ms q0 : Nat} {ls : Array Slot} {H : Heap} {locs : List Loc} {st0 rest : List Value} {a : Array Value} {G : Option Value → List va_E → Heap → Prop} {lv : List (Nat × Value)} (hAq : A q0) (hr : va_Run p l e R s m args below meth c H locs cells slots mc ms (F0 m pc ls st0) (rest.map (cv ad)) (CQ D ca ad G (FrX ad n H.size q0) a) (FrX ad n H.size q0)) (hl : lv_has ls nL (cl ad lv)) (hS : va_S A s.heap H locs)
    (kk : ∀ (v : Option Value) (ws' : List va_E), Wa p l e R s m args below meth c (cells + mc) (slots + ms) Q D ca ad A nL (G v ws') (lv, v.toList ++ rest, ws') (pc + 3)) : W p l e R s m args below meth c H locs cells slots Q (F0 m pc ls st0) := by
  intro T hT X
  obtain ⟨v, st₀, t, T', L, h0, X', hL, e1, e2, ⟨⟨v2, ws2, hv, hp, hg⟩, hz, hk⟩, st⟩ := hr T hT X
  cases hv
  rw [h0] at hz hk
  have hA : ∀ q, FrX ad n H.size q0 q → A q := fun q h => h.elim (fun h1 => by rw [h1]; exact hAq) (fun h => h.elim (fun ⟨k, h1, h2⟩ => by rw [h2]; exact C.2.2.2.2.1 k h1) (fun h => C.2.2.2.2.2 q (Nat.le_trans hS.1 h)))
  have hS1 : va_S A s.heap T'.heap (locs ++ L) := ⟨Nat.le_trans hS.1 (by rw [e1]; exact hz), fun q h1 h2 => by rw [e1, hk q (Nat.lt_of_lt_of_le h1 hS.1) (fun z => h2 (hA q z))]; exact hS.2.1 q h1 h2, fun q hq => by
      rcases List.mem_append.mp hq with h | h
      · exact hS.2.2 q h
      · exact hA _ (hL q h)⟩
  obtain ⟨t2, a1, b1⟩ := kk v2 ws2 T'.heap (locs ++ L) ls hl (by rw [e1]; exact hp) hS1 (by rw [e1]; exact hg) T' rfl X'
  have hst : (v2.toList ++ rest).map (cv ad) = (v2.map (cv ad)).toList ++ rest.map (cv ad) := by cases v2 <;> simp
  rw [hst] at a1
  exact ⟨t2, st t2 a1, b1⟩
/-- a constructor, on a node that is being made -/
theorem cl_i (C : Cx p s m args c cc nL own D ca ad A N n) {y : MethodName} {bytes : ByteArray} {maxL k idx pc q : Nat} {rm : Room} {ws : List va_E} {av rest st : List Value} {lv : List (Nat × Value)} {G : Option Value → List va_E → Heap → Prop} (hM : CtI l y bytes maxL rm D ca ad ws n q (.ref (q + 100) :: av) N G) (hAq : A q) (hcd : Cond.code y bytes maxL none ∈ tb) (hini : Cond.initialized y.cls ∈ tb) (hlk : Cond.methodLink own idx y ∈ tb) (him : Cond.instanceMethod y ∈ tb) (hnm : y.name = "<init>")
    (hd : y.cls ≠ "java/lang/invoke/MethodHandle" ∧ y.cls ≠ "java/lang/invoke/VarHandle" ∧ (parseMethodDescriptor y.desc).map (fun d => d.parameters.length) = some k) (hk : av.length = k) (hst : av.reverse ++ .ref (q + 100) :: rest = st) (hR : rm.frames + 1 ≤ R.frames ∧ 8 + (maxL + 11) + rm.locals ≤ R.locals) (hR2 : cells + rm.cells ≤ R.cells ∧ slots + rm.slots ≤ R.slots) (hcat : (rest.map fun v => v.category).sum ≤ 8) (hdg : decode cc pc = .ok (.invokespecial idx, 3))
    (kk : ∀ (v : Option Value) (ws' : List va_E), Wa p l e R s m args below meth c (cells + rm.cells) (slots + rm.slots) Q D ca ad A nL (G v ws') (lv, v.toList ++ rest, ws') (pc + 3)) : Wa p l e R s m args below meth c cells slots Q D ca ad A nL N (lv, st, ws) pc := by
  intro H locs ls h1 h2 h3 h4
  subst hst
  have hts := C.1.2.2.2.2
  have hraw := C.2.2.2.1.2 q
  refine gcallX C (a := (Value.ref (ad (q + 100)) :: av.map (cv ad)).toArray) (q0 := q) hAq (va_runI (As := av.map (cv ad)) (b := ad (q + 100)) (n := k) C.1 (hM H.size) ⟨callB_of k hts (tb_gi hcd) rfl rfl rfl (hts _ hini) (hts _ hlk) hd hR, hnm, hts _ him⟩ ⟨CPre_blind, fun U hU hW => ⟨rfl, by rw [hU], by rw [hU]; exact h2, C.2.1.warm hW, by rw [hU]; exact h4⟩⟩ rfl (by simpa using hk) h1.1 (by rw [show (.ref (ad (q + 100)) : Value) = cv ad (.ref (q + 100)) from rfl]; simp) (lv_room (by rw [cat_map]; exact hcat)) hdg hR2) h1 h3 kk
end
/-- what a constructor of a node leaves -/
abbrev bG (D : va_G) (ws : List va_E) (H0 : Heap) (q ci : Nat) (fs : List Value) : Option Value → List va_E → Heap → Prop := fun v ws' H => (v = none ∧ ws' = ws) ∧ BN D H0 q ci fs H
section
variable {l : Launch} {D : va_G} {ca : Nat → ClassId} {ad : Nat → Nat} {ws : List va_E} {n q : Nat} {H0 : Heap}
set_option maxRecDepth 100000 in
set_option maxHeartbeats 4000000 in
theorem kX4_init (hAD : AD ad n) (hn : ws.length = n) (hww : ws.all nno = true) {ci : Nat} {r : vw_C} {fs : List Value} (hc : vwCl[ci]? = some r) (hk : 0 < r.2.2) (hl : 0 < fs.length) (h0 : r.2.1 0 = ("PathProofs$Node", "digest", "J", true)) (d : Int64) : CtI l yX4_init cX4_init 3 (rK 1 0 0) D ca ad ws n q [.ref (q + 100), .long d] (BN D H0 q ci fs) (bG D ws H0 q ci (fs.set 0 (.long d))) := by
  refine enterI (lv := [(0, .ref (q + 100)), (1, .long d)]) (by decide +kernel) (Nat.le_of_ble_eq_true rfl) rfl hAD (fun U hK => ns_write hK BN.ns) ?_
  intro p e s m below meth c A args hA C hr hlk hnm
  refine sg0 C foX4 coX4 oX4_init_0 rfl rfl hn ?_
  refine oi C ml_X4_1 (Nat.le_of_ble_eq_true rfl) (Nat.le_of_ble_eq_true rfl) jX4_init_1 ?_
  refine sg0 C foX4 coX4 oX4_init_4 rfl rfl hn ?_
  refine np (k := 0) (ty := .long) C (fun _ h => h) hww hc hk (by rw [h0]; exact fl_X4_7) (by rw [h0]) hnm (by rw [h0]; rfl) (by rw [h0]; decide +kernel) rfl rfl hl hA jX4_init_6 ?_
  have C := C.to (N2 := BN D H0 q ci (fs.set 0 (.long d))) BN.ns
  exact rt_v C hr hlk jX4_init_9 (fun H hN => ⟨⟨rfl, rfl⟩, hN⟩)
set_option maxRecDepth 100000 in
set_option maxHeartbeats 4000000 in
theorem kX2_init (hAD : AD ad n) (hn : ws.length = n) (hww : ws.all nno = true) (d : Int64) : CtI l yX2_init cX2_init 3 (rK 2 0 0) D ca ad ws n q [.ref (q + 100), .long d] (BN D H0 q 2 [.long 0]) (bG D ws H0 q 2 [.long d]) := by
  refine enterI (lv := [(0, .ref (q + 100)), (1, .long d)]) (by decide +kernel) (Nat.le_of_ble_eq_true rfl) rfl hAD (fun U hK => ns_write hK BN.ns) ?_
  intro p e s m below meth c A args hA C hr hlk hnm
  refine sg0 C foX2 coX2 oX2_init_0 rfl rfl hn ?_
  refine cl_i C (kX4_init hAD hn hww (ci := 2) rfl (by decide) (by simp) rfl d) hA cd_X4_init in_X4 ml_X2_1 im_X4_init rfl hd_X4_init rfl rfl ⟨Nat.le_of_ble_eq_true rfl, Nat.le_of_ble_eq_true rfl⟩ ⟨Nat.le_of_ble_eq_true rfl, Nat.le_of_ble_eq_true rfl⟩ (Nat.le_of_ble_eq_true rfl) jX2_init_2 (fun v ws' => Wa.and (fun hv => ?_))
  obtain ⟨rfl, rfl⟩ := hv
  have C := C.to (N2 := BN D H0 q 2 [.long d]) BN.ns
  exact rt_v C hr hlk jX2_init_5 (fun H hN => ⟨⟨rfl, rfl⟩, hN⟩)
set_option maxRecDepth 100000 in
set_option maxHeartbeats 4000000 in
theorem kX0_init (hAD : AD ad n) (hn : ws.length = n) (hww : ws.all nno = true) : CtI l yX0_init cX0_init 1 (rK 2 0 0) D ca ad ws n q [.ref (q + 100)] (BN D H0 q 0 [.long 0]) (bG D ws H0 q 0 [.long emptyF]) := by
  refine enterI (lv := [(0, .ref (q + 100))]) (by decide +kernel) (Nat.le_of_ble_eq_true rfl) rfl hAD (fun U hK => ns_write hK BN.ns) ?_
  intro p e s m below meth c A args hA C hr hlk hnm
  refine sg0 C foX0 coX0 oX0_init_0 rfl rfl hn ?_
  refine cl_sn C (kX8_emptyDigest hAD hn BN.ns) cd_X8_emptyDigest in_X8 (by decide) sm_X8_emptyDigest hd_X8_emptyDigest rfl rfl ⟨Nat.le_of_ble_eq_true rfl, Nat.le_of_ble_eq_true rfl⟩ ⟨Nat.le_of_ble_eq_true rfl, Nat.le_of_ble_eq_true rfl⟩ (Nat.le_of_ble_eq_true rfl) jX0_init_1 (fun v ws' => Wa.and (fun hv => ?_))
  obtain ⟨rfl, rfl⟩ := hv
  refine cl_i C (kX4_init hAD hn hww (ci := 0) rfl (by decide) (by simp) rfl emptyF) hA cd_X4_init in_X4 ml_X0_7 im_X4_init rfl hd_X4_init rfl rfl ⟨Nat.le_of_ble_eq_true rfl, Nat.le_of_ble_eq_true rfl⟩ ⟨Nat.le_of_ble_eq_true rfl, Nat.le_of_ble_eq_true rfl⟩ (Nat.le_of_ble_eq_true rfl) jX0_init_4 (fun v ws' => Wa.and (fun hv => ?_))
  obtain ⟨rfl, rfl⟩ := hv
  have C := C.to (N2 := BN D H0 q 0 [.long emptyF]) BN.ns
  exact rt_v C hr hlk jX0_init_7 (fun H hN => ⟨⟨rfl, rfl⟩, hN⟩)
set_option maxRecDepth 100000 in
set_option maxHeartbeats 4000000 in
theorem kX3_init (hAD : AD ad n) (hn : ws.length = n) (hww : ws.all nno = true) (P : Nat) (v : Int64) : CtI l yX3_init cX3_init 4 (rK 2 0 0) D ca ad ws n q [.ref (q + 100), .int (nI P), .long v] (BN D H0 q 3 [.long 0, .int 0, .long 0]) (bG D ws H0 q 3 [.long (leafF P v), .int (nI P), .long v]) := by
  refine enterI (lv := [(0, .ref (q + 100)), (1, .int (nI P)), (2, .long v)]) (by decide +kernel) (Nat.le_of_ble_eq_true rfl) rfl hAD (fun U hK => ns_write hK BN.ns) ?_
  intro p e s m below meth c A args hA C hr hlk hnm
  refine sg0 C foX3 coX3 oX3_init_0 rfl rfl hn ?_
  refine cl_sn C (kX8_leafDigest hAD hn BN.ns P v) cd_X8_leafDigest in_X8 (by decide) sm_X8_leafDigest hd_X8_leafDigest rfl rfl ⟨Nat.le_of_ble_eq_true rfl, Nat.le_of_ble_eq_true rfl⟩ ⟨Nat.le_of_ble_eq_true rfl, Nat.le_of_ble_eq_true rfl⟩ (Nat.le_of_ble_eq_true rfl) jX3_init_3 (fun v ws' => Wa.and (fun hv => ?_))
  obtain ⟨rfl, rfl⟩ := hv
  refine cl_i C (kX4_init hAD hn hww (ci := 3) rfl (by decide) (by simp) rfl (leafF P v)) hA cd_X4_init in_X4 ml_X3_7 im_X4_init rfl hd_X4_init rfl rfl ⟨Nat.le_of_ble_eq_true rfl, Nat.le_of_ble_eq_true rfl⟩ ⟨Nat.le_of_ble_eq_true rfl, Nat.le_of_ble_eq_true rfl⟩ (Nat.le_of_ble_eq_true rfl) jX3_init_6 (fun v ws' => Wa.and (fun hv => ?_))
  obtain ⟨rfl, rfl⟩ := hv
  have C := C.to (N2 := BN D H0 q 3 [.long (leafF P v), .int 0, .long 0]) BN.ns
  refine sg0 C foX3 coX3 oX3_init_9 rfl rfl hn ?_
  refine np (k := 1) (ty := .int) C (fun _ h => h) hww rfl (by decide) fl_X3_13 rfl hnm rfl (by decide +kernel) rfl rfl (by simp) hA jX3_init_11 ?_
  have C := C.to (N2 := BN D H0 q 3 [.long (leafF P v), .int (nI P), .long 0]) BN.ns
  refine sg0 C foX3 coX3 oX3_init_14 rfl rfl hn ?_
  refine np (k := 2) (ty := .long) C (fun _ h => h) hww rfl (by decide) fl_X3_19 rfl hnm rfl (by decide +kernel) rfl rfl (by simp) hA jX3_init_16 ?_
  have C := C.to (N2 := BN D H0 q 3 [.long (leafF P v), .int (nI P), .long v]) BN.ns
  exact rt_v C hr hlk jX3_init_19 (fun H hN => ⟨⟨rfl, rfl⟩, hN⟩)
end
/-- the digest of a node, by its cell -/
theorem dig_at {D : va_G} {H : Heap} {T : Term} (h : nodeAt D H T) : ∃ (ci : Nat) (r : vw_C) (fs : List Value), ci < 4 ∧ vwCl[ci]? = some r ∧ 0 < r.2.2 ∧ r.2.1 0 = ("PathProofs$Node", "digest", "J", true) ∧ va_at D vwCl (adr T, .inr (ci, fs)) H ∧ fs[0]? = some (.long (dig T)) := by
  have hT := nodeAt.T T h
  revert h
  refine tr_ind (P := fun T => nodeAt D H T → ∃ (ci : Nat) (r : vw_C) (fs : List Value), ci < 4 ∧ vwCl[ci]? = some r ∧ 0 < r.2.2 ∧ r.2.1 0 = ("PathProofs$Node", "digest", "J", true) ∧ va_at D vwCl (adr T, .inr (ci, fs)) H ∧ fs[0]? = some (.long (dig T))) ?_ ?_ ?_ ?_ T hT
  · exact fun q h => ⟨0, _, _, by decide, rfl, by decide, rfl, h, rfl⟩
  · exact fun q d h => ⟨2, _, _, by decide, rfl, by decide, rfl, h, rfl⟩
  · exact fun q p v h => ⟨3, _, _, by decide, rfl, by decide, rfl, h, rfl⟩
  · exact fun q B S x y _ _ _ _ h => ⟨1, _, _, by decide, rfl, by decide, rfl, h.1, rfl⟩
end
section
/-! functions of trees; addresses don't matter to them -/
/-- forks, stems and paths are such as fit a place of 2^k paths -/
def fitT : Term → Nat → Prop
  | .add (.arg _) .null, _ => True
  | .add (.arg _) (.long _), _ => True
  | .add (.arg _) (.elem (.arg P) (.long _)), _ => P < 65536
  | .add (.arg _) (.sub (.elem (.arg B) (.arg S)) (.mul x y)), k => (B ≤ 15 ∧ 16 ≤ k + B ∧ S + 2 ^ (16 - B) ≤ 65536 ∧ stm S B = S) ∧ fitT x (15 - B) ∧ fitT y (15 - B)
  | _, _ => False
/-- how many leaves have a path a .. b -/
def cntT : Term → Nat → Nat → Nat
  | .add (.arg _) (.elem (.arg P) (.long _)), a, b => if a ≤ P ∧ P ≤ b then 1 else 0
  | .add (.arg _) (.sub (.elem (.arg _) (.arg _)) (.mul x y)), a, b => cntT x a b + cntT y a b
  | _, _, _ => 0
def nodT : Term → Nat
  | .add (.arg _) (.sub (.elem (.arg _) (.arg _)) (.mul x y)) => 1 + nodT x + nodT y
  | _ => 1
def frkT : Term → Nat
  | .add (.arg _) (.sub (.elem (.arg _) (.arg _)) (.mul x y)) => 1 + max (frkT x) (frkT y)
  | _ => 0
/-- how many hidden nodes have a path a .. b in their place; first .. last is the place -/
def hidT : Term → Nat → Nat → Nat → Nat → Nat
  | .add (.arg _) (.long _), f, t, a, b => if f ≤ b ∧ a ≤ t then 1 else 0
  | .add (.arg _) (.sub (.elem (.arg B) (.arg S)) (.mul x y)), _, _, a, b => hidT x S (S + 2 ^ (15 - B) - 1) a b + hidT y (S + 2 ^ (15 - B)) (S + 2 ^ (16 - B) - 1) a b
  | _, _, _, _, _ => 0
/-- the least path from a on: the path, none, or hidden -/
def lstT : Term → Nat → Nat → Int32
  | .add (.arg _) (.long _), t, a => if a ≤ t then -4 else -2
  | .add (.arg _) (.elem (.arg P) (.long _)), _, a => if a ≤ P then nI P else -2
  | .add (.arg _) (.sub (.elem (.arg B) (.arg S)) (.mul x y)), _, a => if lstT x (S + 2 ^ (15 - B) - 1) a = -2 then lstT y (S + 2 ^ (16 - B) - 1) a else lstT x (S + 2 ^ (15 - B) - 1) a
  | _, _, _ => -2
/-- where the way to a path ends -/
def wayT : Term → Nat → Term
  | .add (.arg q) (.sub (.elem (.arg B) (.arg S)) (.mul x y)), P => if stm P B = S then (if bitA P B = 1 then wayT y P else wayT x P) else tF q B S x y
  | T, _ => T
/-- the fork of a node, of which one path is known, and a leaf -/
def fkT (T : Term) (pn P : Nat) (L : Term) : Term := if bitA P (fbit pn P) = 1 then tF 0 (fbit pn P) (stm P (fbit pn P)) T L else tF 0 (fbit pn P) (stm P (fbit pn P)) L T
/-- to write the path of a leaf -/
def wrtT : Term → Nat → Term → Term
  | .add (.arg q) (.elem (.arg p) (.long v)), P, L => if p = P then L else fkT (tL q p v) p P L
  | .add (.arg q) (.sub (.elem (.arg B) (.arg S)) (.mul x y)), P, L => if stm P B = S then (if bitA P B = 1 then tF 0 B S x (wrtT y P L) else tF 0 B S (wrtT x P L) y) else fkT (tF q B S x y) S P L
  | _, _, L => L
def isF : Term → Bool
  | .add (.arg _) (.sub (.elem (.arg _) (.arg _)) (.mul _ _)) => true
  | _ => false
/-- to erase a path that is there -/
def delT : Term → Nat → Term
  | .add (.arg _) (.sub (.elem (.arg B) (.arg S)) (.mul x y)), P => if bitA P B = 1 then (if isF y = true then tF 0 B S x (delT y P) else x) else (if isF x = true then tF 0 B S (delT x P) y else y)
  | _, _ => tE 0
/-- without addresses -/
def strp : Term → Term
  | .add (.arg _) .null => tE 0
  | .add (.arg _) (.long d) => tH 0 d
  | .add (.arg _) (.elem (.arg P) (.long v)) => tL 0 P v
  | .add (.arg _) (.sub (.elem (.arg B) (.arg S)) (.mul x y)) => tF 0 B S (strp x) (strp y)
  | T => T
theorem strp_T (T : Term) (h : isT T) : isT (strp T) := by
  refine tr_ind (P := fun T => isT (strp T)) ?_ ?_ ?_ ?_ T h
  · exact fun q => trivial
  · exact fun q d => trivial
  · exact fun q p v => trivial
  · exact fun q B S x y _ _ i1 i2 => ⟨i1, i2⟩
theorem strp_dig (T : Term) (h : isT T) : dig (strp T) = dig T := by
  refine tr_ind (P := fun T => dig (strp T) = dig T) ?_ ?_ ?_ ?_ T h
  · exact fun q => rfl
  · exact fun q d => rfl
  · exact fun q p v => rfl
  · exact fun q B S x y _ _ i1 i2 => by simp only [strp, dig, i1, i2]
theorem strp_fit (T : Term) (h : isT T) : ∀ k, fitT (strp T) k ↔ fitT T k := by
  refine tr_ind (P := fun T => ∀ k, fitT (strp T) k ↔ fitT T k) ?_ ?_ ?_ ?_ T h
  · exact fun q k => Iff.rfl
  · exact fun q d k => Iff.rfl
  · exact fun q p v k => Iff.rfl
  · exact fun q B S x y _ _ i1 i2 k => by simp only [strp, fitT, i1, i2]
theorem strp_cnt (T : Term) (h : isT T) (a b : Nat) : cntT (strp T) a b = cntT T a b := by
  refine tr_ind (P := fun T => cntT (strp T) a b = cntT T a b) ?_ ?_ ?_ ?_ T h
  · exact fun q => rfl
  · exact fun q d => rfl
  · exact fun q p v => rfl
  · exact fun q B S x y _ _ i1 i2 => by simp only [strp, cntT, i1, i2]
theorem strp_nod (T : Term) (h : isT T) : nodT (strp T) = nodT T := by
  refine tr_ind (P := fun T => nodT (strp T) = nodT T) ?_ ?_ ?_ ?_ T h
  · exact fun q => rfl
  · exact fun q d => rfl
  · exact fun q p v => rfl
  · exact fun q B S x y _ _ i1 i2 => by simp only [strp, nodT, i1, i2]
theorem strp_frk (T : Term) (h : isT T) : frkT (strp T) = frkT T := by
  refine tr_ind (P := fun T => frkT (strp T) = frkT T) ?_ ?_ ?_ ?_ T h
  · exact fun q => rfl
  · exact fun q d => rfl
  · exact fun q p v => rfl
  · exact fun q B S x y _ _ i1 i2 => by simp only [strp, frkT, i1, i2]
theorem strp_hid (T : Term) (h : isT T) : ∀ f t a b : Nat, hidT (strp T) f t a b = hidT T f t a b := by
  refine tr_ind (P := fun T => ∀ f t a b : Nat, hidT (strp T) f t a b = hidT T f t a b) ?_ ?_ ?_ ?_ T h
  · exact fun q f t a b => rfl
  · exact fun q d f t a b => rfl
  · exact fun q p v f t a b => rfl
  · exact fun q B S x y _ _ i1 i2 f t a b => by simp only [strp, hidT, i1, i2]
theorem strp_lst (T : Term) (h : isT T) : ∀ t a : Nat, lstT (strp T) t a = lstT T t a := by
  refine tr_ind (P := fun T => ∀ t a : Nat, lstT (strp T) t a = lstT T t a) ?_ ?_ ?_ ?_ T h
  · exact fun q t a => rfl
  · exact fun q d t a => rfl
  · exact fun q p v t a => rfl
  · exact fun q B S x y _ _ i1 i2 t a => by simp only [strp, lstT, i1, i2]
theorem strp_way (T : Term) (h : isT T) (P : Nat) : strp (wayT T P) = wayT (strp T) P := by
  refine tr_ind (P := fun T => strp (wayT T P) = wayT (strp T) P) ?_ ?_ ?_ ?_ T h
  · exact fun q => rfl
  · exact fun q d => rfl
  · exact fun q p v => rfl
  · intro q B S x y _ _ i1 i2
    simp only [strp, wayT]
    split
    · split
      · exact i2
      · exact i1
    · rfl
theorem way_T (T : Term) (h : isT T) (P : Nat) : isT (wayT T P) := by
  refine tr_ind (P := fun T => isT (wayT T P)) ?_ ?_ ?_ ?_ T h
  · exact fun q => trivial
  · exact fun q d => trivial
  · exact fun q p v => trivial
  · intro q B S x y h1 h2 i1 i2
    simp only [wayT]
    split
    · split
      · exact i2
      · exact i1
    · exact ⟨h1, h2⟩
theorem way_node {D : va_G} {H : Heap} (T : Term) (P : Nat) (hN : nodeAt D H T) : nodeAt D H (wayT T P) := by
  have h := nodeAt.T T hN
  revert hN
  refine tr_ind (P := fun T => nodeAt D H T → nodeAt D H (wayT T P)) ?_ ?_ ?_ ?_ T h
  · exact fun q h => h
  · exact fun q d h => h
  · exact fun q p v h => h
  · intro q B S x y h1 h2 i1 i2 h
    simp only [wayT]
    split
    · split
      · exact i2 h.2.2
      · exact i1 h.2.1
    · exact h
end
section
/-! forks: their constructor and methods; the first other bit -/
theorem dfX3 : ∀ j, j < 3 → defaultValue (tyX3 j) = vp_V [.long 0, .int 0, .long 0] j := fun j hj => by rcases (show j = 0 ∨ j = 1 ∨ j = 2 by omega) with rfl | rfl | rfl <;> rfl
theorem dfX1 : ∀ j, j < 5 → defaultValue (tyX1 j) = vp_V [.long 0, .int 0, .int 0, .null, .null] j := fun j hj => by rcases (show j = 0 ∨ j = 1 ∨ j = 2 ∨ j = 3 ∨ j = 4 by omega) with rfl | rfl | rfl | rfl | rfl <;> rfl
theorem bz {P B : Nat} (h : nI (bitA P B) = 0) : ¬ bitA P B = 1 := fun e1 => by rw [e1] at h; exact absurd h (by decide)
theorem bo {P B : Nat} (h : ¬ nI (bitA P B) = 0) : bitA P B = 1 := by
  have h1 := bitA_lt P B
  rcases (show bitA P B = 0 ∨ bitA P B = 1 by omega) with e1 | e1
  · rw [e1] at h; exact absurd rfl h
  · exact e1
section
variable {l : Launch} {D : va_G} {ca : Nat → ClassId} {ad : Nat → Nat} {ws : List va_E} {n : Nat} {N : Heap → Prop}
set_option maxRecDepth 100000 in
set_option maxHeartbeats 4000000 in
theorem kX1_takesIn (hAD : AD ad n) (hn : ws.length = n) (hN : NS D N) {q B S ql qh : Nat} {dg : Int64} (hat : ∀ H, N H → va_at D vwCl (q, .inr (1, [.long dg, .int (nI B), .int (nI S), .ref ql, .ref qh])) H) {P : Nat} (hP : P < 65536) (hB : B ≤ 15) (hS : S < 65536) : Ct l yX1_takesIn cX1_takesIn 2 (some .boolean) (rK 1 0 0) D ca ad ws n [.ref (q + 100), .int (nI P)] N (pG ws N (some (.int (if stm P B = S then 1 else 0)))) := by
  refine enter (lv := [(0, .ref (q + 100)), (1, .int (nI P))]) (by decide +kernel) (Nat.le_of_ble_eq_true rfl) rfl hAD (fun U hK => ns_write hK hN) ?_
  intro p e s m below meth c A args hA C hr hlk hnm
  refine sg0 C foX1 coX1 oX1_takesIn_0 rfl rfl hn ?_
  refine ng (ci := 1) (k := 1) (v := .int (nI B)) C (hat) rfl (by decide) fl_X1_17 rfl jX1_takesIn_2 ?_
  refine cl_sn C (kX8_stemOf hAD hn hN hP (show B ≤ 16 by omega)) cd_X8_stemOf in_X8 (by decide) sm_X8_stemOf hd_X8_stemOf rfl rfl ⟨(Nat.le_of_ble_eq_true rfl), (Nat.le_of_ble_eq_true rfl)⟩ ⟨(Nat.le_of_ble_eq_true rfl), (Nat.le_of_ble_eq_true rfl)⟩ (Nat.le_of_ble_eq_true rfl) jX1_takesIn_5 (fun v ws' => Wa.and (fun hv => ?_))
  obtain ⟨rfl, rfl⟩ := hv
  refine sg0 C foX1 coX1 oX1_takesIn_8 rfl rfl hn ?_
  refine ng (ci := 1) (k := 2) (v := .int (nI S)) C (hat) rfl (by decide) fl_X1_23 rfl jX1_takesIn_9 ?_
  refine b2_ne (tgt := 19) C jX1_takesIn_12 (by decide) (fun h12 => ?_) (fun h12 => ?_)
  · refine sg0 C foX1 coX1 oX1_takesIn_19 rfl rfl hn ?_
    exact rt_z C hr hlk (by decide) jX1_takesIn_20 (fun H hN => ⟨⟨by rw [if_neg (fun e1 => h12 (by rw [e1]))], rfl⟩, hN⟩)
  · refine sg0 C foX1 coX1 oX1_takesIn_15 rfl rfl hn ?_
    exact rt_z C hr hlk (by decide) jX1_takesIn_20 (fun H hN => ⟨⟨by rw [if_pos ((nI_eq (Nat.lt_of_le_of_lt (stm_le P B) (by omega)) (by omega)).mp h12)], rfl⟩, hN⟩)
set_option maxRecDepth 100000 in
set_option maxHeartbeats 4000000 in
theorem kX1_middle (hAD : AD ad n) (hn : ws.length = n) (hN : NS D N) {q B S ql qh : Nat} {dg : Int64} (hat : ∀ H, N H → va_at D vwCl (q, .inr (1, [.long dg, .int (nI B), .int (nI S), .ref ql, .ref qh])) H) (hB : B ≤ 15) : Ct l yX1_middle cX1_middle 1 (some .int) (rK 0 0 0) D ca ad ws n [.ref (q + 100)] N (pG ws N (some (.int (nI (S + 2 ^ (15 - B)))))) := by
  refine enter (lv := [(0, .ref (q + 100))]) (by decide +kernel) (Nat.le_of_ble_eq_true rfl) rfl hAD (fun U hK => ns_write hK hN) ?_
  intro p e s m below meth c A args hA C hr hlk hnm
  refine sg0 C foX1 coX1 oX1_middle_0 rfl rfl hn ?_
  refine ng (ci := 1) (k := 2) (v := .int (nI S)) C (hat) rfl (by decide) fl_X1_23 rfl jX1_middle_1 ?_
  refine sg0 C foX1 coX1 oX1_middle_4 rfl rfl hn ?_
  refine ng (ci := 1) (k := 1) (v := .int (nI B)) C (hat) rfl (by decide) fl_X1_17 rfl jX1_middle_8 ?_
  refine sg0 C foX1 coX1 oX1_middle_11 rfl rfl hn ?_
  exact rt_i C hr hlk jX1_middle_14 (fun H hN => ⟨⟨by rw [one_shl15 hB, nI_add], rfl⟩, hN⟩)
set_option maxRecDepth 100000 in
set_option maxHeartbeats 4000000 in
theorem kX1_last (hAD : AD ad n) (hn : ws.length = n) (hN : NS D N) {q B S ql qh : Nat} {dg : Int64} (hat : ∀ H, N H → va_at D vwCl (q, .inr (1, [.long dg, .int (nI B), .int (nI S), .ref ql, .ref qh])) H) (hB : B ≤ 15) : Ct l yX1_last cX1_last 1 (some .int) (rK 0 0 0) D ca ad ws n [.ref (q + 100)] N (pG ws N (some (.int (nI (S + 2 ^ (16 - B) - 1))))) := by
  refine enter (lv := [(0, .ref (q + 100))]) (by decide +kernel) (Nat.le_of_ble_eq_true rfl) rfl hAD (fun U hK => ns_write hK hN) ?_
  intro p e s m below meth c A args hA C hr hlk hnm
  refine sg0 C foX1 coX1 oX1_last_0 rfl rfl hn ?_
  refine ng (ci := 1) (k := 2) (v := .int (nI S)) C (hat) rfl (by decide) fl_X1_23 rfl jX1_last_1 ?_
  refine sg0 C foX1 coX1 oX1_last_4 rfl rfl hn ?_
  refine ng (ci := 1) (k := 1) (v := .int (nI B)) C (hat) rfl (by decide) fl_X1_17 rfl jX1_last_8 ?_
  refine sg0 C foX1 coX1 oX1_last_11 rfl rfl hn ?_
  exact rt_i C hr hlk jX1_last_16 (fun H hN => ⟨⟨by rw [one_shl16 (show B ≤ 16 by omega), nI_add, show (1 : Int32) = nI 1 from rfl, pk_sub (Nat.le_trans (Nat.one_le_two_pow) (Nat.le_add_left _ _))], rfl⟩, hN⟩)
set_option maxRecDepth 100000 in
set_option maxHeartbeats 4000000 in
theorem kX1_toward (hAD : AD ad n) (hn : ws.length = n) (hN : NS D N) {q B S ql qh : Nat} {dg : Int64} (hat : ∀ H, N H → va_at D vwCl (q, .inr (1, [.long dg, .int (nI B), .int (nI S), .ref ql, .ref qh])) H) {P : Nat} (hP : P < 65536) (hB : B ≤ 15) : Ct l yX1_toward cX1_toward 2 (some (.object "PathProofs$Node")) (rK 1 0 0) D ca ad ws n [.ref (q + 100), .int (nI P)] N (pG ws N (some (.ref ((if bitA P B = 1 then qh else ql) + 100)))) := by
  refine enter (lv := [(0, .ref (q + 100)), (1, .int (nI P))]) (by decide +kernel) (Nat.le_of_ble_eq_true rfl) rfl hAD (fun U hK => ns_write hK hN) ?_
  intro p e s m below meth c A args hA C hr hlk hnm
  refine sg0 C foX1 coX1 oX1_toward_0 rfl rfl hn ?_
  refine ng (ci := 1) (k := 1) (v := .int (nI B)) C (hat) rfl (by decide) fl_X1_17 rfl jX1_toward_2 ?_
  refine cl_sn C (kX8_isHigh hAD hn hN hP hB) cd_X8_isHigh in_X8 (by decide) sm_X8_isHigh hd_X8_isHigh rfl rfl ⟨(Nat.le_of_ble_eq_true rfl), (Nat.le_of_ble_eq_true rfl)⟩ ⟨(Nat.le_of_ble_eq_true rfl), (Nat.le_of_ble_eq_true rfl)⟩ (Nat.le_of_ble_eq_true rfl) jX1_toward_5 (fun v ws' => Wa.and (fun hv => ?_))
  obtain ⟨rfl, rfl⟩ := hv
  refine b1_eq (tgt := 18) C jX1_toward_8 (by decide) (fun h8 => ?_) (fun h8 => ?_)
  · refine sg0 C foX1 coX1 oX1_toward_18 rfl rfl hn ?_
    refine ng (ci := 1) (k := 3) (v := .ref (ql + 100)) C (hat) rfl (by decide) fl_X1_26 (by rw [cv_raw C]; rfl) jX1_toward_19 ?_
    exact rt_a C hr (Or.inl ⟨_, rfl⟩) hlk jX1_toward_22 (fun H hN => ⟨⟨by rw [if_neg (bz h8)], rfl⟩, hN⟩)
  · refine sg0 C foX1 coX1 oX1_toward_11 rfl rfl hn ?_
    refine ng (ci := 1) (k := 4) (v := .ref (qh + 100)) C (hat) rfl (by decide) fl_X1_30 (by rw [cv_raw C]; rfl) jX1_toward_12 ?_
    refine sg0 C foX1 coX1 oX1_toward_15 rfl rfl hn ?_
    exact rt_a C hr (Or.inl ⟨_, rfl⟩) hlk jX1_toward_22 (fun H hN => ⟨⟨by rw [if_pos (bo h8)], rfl⟩, hN⟩)
set_option maxRecDepth 100000 in
set_option maxHeartbeats 4000000 in
theorem kX1_besides (hAD : AD ad n) (hn : ws.length = n) (hN : NS D N) {q B S ql qh : Nat} {dg : Int64} (hat : ∀ H, N H → va_at D vwCl (q, .inr (1, [.long dg, .int (nI B), .int (nI S), .ref ql, .ref qh])) H) {P : Nat} (hP : P < 65536) (hB : B ≤ 15) : Ct l yX1_besides cX1_besides 2 (some (.object "PathProofs$Node")) (rK 1 0 0) D ca ad ws n [.ref (q + 100), .int (nI P)] N (pG ws N (some (.ref ((if bitA P B = 1 then ql else qh) + 100)))) := by
  refine enter (lv := [(0, .ref (q + 100)), (1, .int (nI P))]) (by decide +kernel) (Nat.le_of_ble_eq_true rfl) rfl hAD (fun U hK => ns_write hK hN) ?_
  intro p e s m below meth c A args hA C hr hlk hnm
  refine sg0 C foX1 coX1 oX1_besides_0 rfl rfl hn ?_
  refine ng (ci := 1) (k := 1) (v := .int (nI B)) C (hat) rfl (by decide) fl_X1_17 rfl jX1_besides_2 ?_
  refine cl_sn C (kX8_isHigh hAD hn hN hP hB) cd_X8_isHigh in_X8 (by decide) sm_X8_isHigh hd_X8_isHigh rfl rfl ⟨(Nat.le_of_ble_eq_true rfl), (Nat.le_of_ble_eq_true rfl)⟩ ⟨(Nat.le_of_ble_eq_true rfl), (Nat.le_of_ble_eq_true rfl)⟩ (Nat.le_of_ble_eq_true rfl) jX1_besides_5 (fun v ws' => Wa.and (fun hv => ?_))
  obtain ⟨rfl, rfl⟩ := hv
  refine b1_eq (tgt := 18) C jX1_besides_8 (by decide) (fun h8 => ?_) (fun h8 => ?_)
  · refine sg0 C foX1 coX1 oX1_besides_18 rfl rfl hn ?_
    refine ng (ci := 1) (k := 4) (v := .ref (qh + 100)) C (hat) rfl (by decide) fl_X1_30 (by rw [cv_raw C]; rfl) jX1_besides_19 ?_
    exact rt_a C hr (Or.inl ⟨_, rfl⟩) hlk jX1_besides_22 (fun H hN => ⟨⟨by rw [if_neg (bz h8)], rfl⟩, hN⟩)
  · refine sg0 C foX1 coX1 oX1_besides_11 rfl rfl hn ?_
    refine ng (ci := 1) (k := 3) (v := .ref (ql + 100)) C (hat) rfl (by decide) fl_X1_26 (by rw [cv_raw C]; rfl) jX1_besides_12 ?_
    refine sg0 C foX1 coX1 oX1_besides_15 rfl rfl hn ?_
    exact rt_a C hr (Or.inl ⟨_, rfl⟩) hlk jX1_besides_22 (fun H hN => ⟨⟨by rw [if_pos (bo h8)], rfl⟩, hN⟩)
end
section
variable {l : Launch} {D : va_G} {ca : Nat → ClassId} {ad : Nat → Nat} {ws : List va_E} {n q : Nat} {H0 : Heap}
set_option maxRecDepth 100000 in
set_option maxHeartbeats 4000000 in
theorem kX1_init (hAD : AD ad n) (hn : ws.length = n) (hww : ws.all nno = true) (B S : Nat) {x y : Term} (hx : nodeAt D H0 x) (hy : nodeAt D H0 y) : CtI l yX1_init cX1_init 5 (rK 2 0 0) D ca ad ws n q [.ref (q + 100), .int (nI B), .int (nI S), .ref (adr x + 100), .ref (adr y + 100)] (BN D H0 q 1 [.long 0, .int 0, .int 0, .null, .null]) (bG D ws H0 q 1 [.long (forkF B S (dig x) (dig y)), .int (nI B), .int (nI S), .ref (adr x), .ref (adr y)]) := by
  obtain ⟨cx, rx, fx, x1, x2, x3, x4, x5, x6⟩ := dig_at hx
  obtain ⟨cy, ry, fy, y1, y2, y3, y4, y5, y6⟩ := dig_at hy
  refine enterI (lv := [(0, .ref (q + 100)), (1, .int (nI B)), (2, .int (nI S)), (3, .ref (adr x + 100)), (4, .ref (adr y + 100))]) (by decide +kernel) (Nat.le_of_ble_eq_true rfl) rfl hAD (fun U hK => ns_write hK BN.ns) ?_
  intro p e s m below meth c A args hA C hr hlk hnm
  refine sg0 C foX1 coX1 oX1_init_0 rfl rfl hn ?_
  refine ng (ci := cx) (k := 0) (v := .long (dig x)) C (fun H hH => at_snap x1 x5 hH.2.1) x2 x3 (by rw [x4]; exact fl_X1_3) x6 jX1_init_4 ?_
  refine sg0 C foX1 coX1 oX1_init_7 rfl rfl hn ?_
  refine ng (ci := cy) (k := 0) (v := .long (dig y)) C (fun H hH => at_snap y1 y5 hH.2.1) y2 y3 (by rw [y4]; exact fl_X1_3) y6 jX1_init_9 ?_
  refine cl_sn C (kX8_forkDigest hAD hn BN.ns B S (dig x) (dig y)) cd_X8_forkDigest in_X8 (by decide) sm_X8_forkDigest hd_X8_forkDigest rfl rfl ⟨Nat.le_of_ble_eq_true rfl, Nat.le_of_ble_eq_true rfl⟩ ⟨Nat.le_of_ble_eq_true rfl, Nat.le_of_ble_eq_true rfl⟩ (Nat.le_of_ble_eq_true rfl) jX1_init_12 (fun v ws' => Wa.and (fun hv => ?_))
  obtain ⟨rfl, rfl⟩ := hv
  refine cl_i C (kX4_init hAD hn hww (ci := 1) rfl (by decide) (by simp) rfl (forkF B S (dig x) (dig y))) hA cd_X4_init in_X4 ml_X1_13 im_X4_init rfl hd_X4_init rfl rfl ⟨Nat.le_of_ble_eq_true rfl, Nat.le_of_ble_eq_true rfl⟩ ⟨Nat.le_of_ble_eq_true rfl, Nat.le_of_ble_eq_true rfl⟩ (Nat.le_of_ble_eq_true rfl) jX1_init_15 (fun v ws' => Wa.and (fun hv => ?_))
  obtain ⟨rfl, rfl⟩ := hv
  have C := C.to (N2 := BN D H0 q 1 [.long (forkF B S (dig x) (dig y)), .int 0, .int 0, .null, .null]) BN.ns
  refine sg0 C foX1 coX1 oX1_init_18 rfl rfl hn ?_
  refine np (k := 1) (ty := .int) C (fun _ h => h) hww rfl (by decide) fl_X1_17 rfl hnm rfl (by decide +kernel) rfl rfl (by simp) hA jX1_init_20 ?_
  have C := C.to (N2 := BN D H0 q 1 [.long (forkF B S (dig x) (dig y)), .int (nI B), .int 0, .null, .null]) BN.ns
  refine sg0 C foX1 coX1 oX1_init_23 rfl rfl hn ?_
  refine np (k := 2) (ty := .int) C (fun _ h => h) hww rfl (by decide) fl_X1_23 rfl hnm rfl (by decide +kernel) rfl rfl (by simp) hA jX1_init_25 ?_
  have C := C.to (N2 := BN D H0 q 1 [.long (forkF B S (dig x) (dig y)), .int (nI B), .int (nI S), .null, .null]) BN.ns
  refine sg0 C foX1 coX1 oX1_init_28 rfl rfl hn ?_
  refine np (k := 3) (ty := .object "PathProofs$Node") C (fun _ h => h) hww rfl (by decide) fl_X1_26 rfl hnm rfl (by decide +kernel) rfl rfl (by simp) hA jX1_init_30 ?_
  rw [cv_raw C]
  have C := C.to (N2 := BN D H0 q 1 [.long (forkF B S (dig x) (dig y)), .int (nI B), .int (nI S), .ref (adr x), .null]) BN.ns
  refine sg0 C foX1 coX1 oX1_init_33 rfl rfl hn ?_
  refine np (k := 4) (ty := .object "PathProofs$Node") C (fun _ h => h) hww rfl (by decide) fl_X1_30 rfl hnm rfl (by decide +kernel) rfl rfl (by simp) hA jX1_init_36 ?_
  rw [cv_raw C]
  have C := C.to (N2 := BN D H0 q 1 [.long (forkF B S (dig x) (dig y)), .int (nI B), .int (nI S), .ref (adr x), .ref (adr y)]) BN.ns
  exact rt_v C hr hlk jX1_init_39 (fun H hN => ⟨⟨rfl, rfl⟩, hN⟩)
end
/-- a method that answers with a node, made or not: what it is; nothing that was there has changed -/
abbrev nG (D : va_G) (ws : List va_E) (N : Heap → Prop) (K : Term → Prop) : Option Value → List va_E → Heap → Prop := fun v ws' H => ∃ T : Term, (v = some (.ref (adr T + 100)) ∧ ws' = ws ∧ K T) ∧ N H ∧ nodeAt D H T
section
variable {l : Launch} {D : va_G} {ca : Nat → ClassId} {ad : Nat → Nat} {ws : List va_E} {n : Nat} {N : Heap → Prop}
set_option maxRecDepth 100000 in
set_option maxHeartbeats 4000000 in
theorem kX1_with (hAD : AD ad n) (hn : ws.length = n) (hN : NS D N) (hww : ws.all nno = true) {q B S : Nat} {x y z : Term} (hx : ∀ H, N H → nodeAt D H (tF q B S x y)) (hz : ∀ H, N H → nodeAt D H z) {P : Nat} (hP : P < 65536) (hB : B ≤ 15) : Ct l yX1_with cX1_with 3 (some (.object "PathProofs$Fork")) (rK 3 1 5) D ca ad ws n [.ref (q + 100), .int (nI P), .ref (adr z + 100)] N (nG D ws N (fun T => (∃ q2, bitA P B = 1 ∧ T = tF q2 B S x z) ∨ ∃ q2, ¬ bitA P B = 1 ∧ T = tF q2 B S z y)) := by
  refine enter (lv := [(0, .ref (q + 100)), (1, .int (nI P)), (2, .ref (adr z + 100))]) (by decide +kernel) (Nat.le_of_ble_eq_true rfl) rfl hAD (fun U hK => ns_write hK hN) ?_
  intro p e s m below meth c A args hA C hr hlk hnm
  refine sg0 C foX1 coX1 oX1_with_0 rfl rfl hn ?_
  refine ng (ci := 1) (k := 1) (v := .int (nI B)) C (fun H hH => (hx H hH).1) rfl (by decide) fl_X1_17 rfl jX1_with_2 ?_
  refine cl_sn C (kX8_isHigh hAD hn hN hP hB) cd_X8_isHigh in_X8 (by decide) sm_X8_isHigh hd_X8_isHigh rfl rfl ⟨(Nat.le_of_ble_eq_true rfl), (Nat.le_of_ble_eq_true rfl)⟩ ⟨(Nat.le_of_ble_eq_true rfl), (Nat.le_of_ble_eq_true rfl)⟩ (Nat.le_of_ble_eq_true rfl) jX1_with_5 (fun v ws' => Wa.and (fun hv => ?_))
  obtain ⟨rfl, rfl⟩ := hv
  refine b1_eq (tgt := 32) C jX1_with_8 (by decide) (fun h8 => ?_) (fun h8 => ?_)
  · refine nw (ci := 1) (fs := [.long 0, .int 0, .int 0, .null, .null]) C hN rfl (by decide) kl_X1_18 is_X1 in_X1 tyX1 tyX1_ok dfX1 ⟨(Nat.le_of_ble_eq_true rfl), (Nat.le_of_ble_eq_true rfl)⟩ jX1_with_32 (fun H1 q1 hN_q1 hq1 => ?_)
    have C := C.to (N2 := BN D H1 q1 1 [.long 0, .int 0, .int 0, .null, .null]) BN.ns
    refine sg0 C foX1 coX1 oX1_with_35 rfl rfl hn ?_
    refine ng (ci := 1) (k := 1) (v := .int (nI B)) C (fun H hH => at_snap (by decide) (hx H1 hN_q1).1 hH.2.1) rfl (by decide) fl_X1_17 rfl jX1_with_37 ?_
    refine sg0 C foX1 coX1 oX1_with_40 rfl rfl hn ?_
    refine ng (ci := 1) (k := 2) (v := .int (nI S)) C (fun H hH => at_snap (by decide) (hx H1 hN_q1).1 hH.2.1) rfl (by decide) fl_X1_23 rfl jX1_with_41 ?_
    refine sg0 C foX1 coX1 oX1_with_44 rfl rfl hn ?_
    refine ng (ci := 1) (k := 4) (v := .ref (adr y + 100)) C (fun H hH => at_snap (by decide) (hx H1 hN_q1).1 hH.2.1) rfl (by decide) fl_X1_30 (by rw [cv_raw C]; rfl) jX1_with_46 ?_
    refine cl_i C (kX1_init hAD hn hww B S (x := z) (y := y) (hz H1 hN_q1) (hx H1 hN_q1).2.2) (C.2.2.2.2.2 _ hq1) cd_X1_init in_X1 ml_X1_41 im_X1_init rfl hd_X1_init rfl rfl ⟨(Nat.le_of_ble_eq_true rfl), (Nat.le_of_ble_eq_true rfl)⟩ ⟨(Nat.le_of_ble_eq_true rfl), (Nat.le_of_ble_eq_true rfl)⟩ (Nat.le_of_ble_eq_true rfl) jX1_with_49 (fun v ws' => Wa.and (fun hv => ?_))
    obtain ⟨rfl, rfl⟩ := hv
    have C := C.to (N2 := BN D H1 q1 1 [.long (forkF B S (dig z) (dig y)), .int (nI B), .int (nI S), .ref (adr z), .ref (adr y)]) BN.ns
    exact rt_a C hr (Or.inl ⟨_, rfl⟩) hlk jX1_with_52 (fun H hH => ⟨tF q1 B S z y, ⟨rfl, rfl, Or.inr ⟨q1, bz h8, rfl⟩⟩, hN _ _ hN_q1 hH.2.1, hH.2.2, nodeAt.ns z _ _ (hz H1 hN_q1) hH.2.1, nodeAt.ns y _ _ (hx H1 hN_q1).2.2 hH.2.1⟩)
  · refine nw (ci := 1) (fs := [.long 0, .int 0, .int 0, .null, .null]) C hN rfl (by decide) kl_X1_18 is_X1 in_X1 tyX1 tyX1_ok dfX1 ⟨(Nat.le_of_ble_eq_true rfl), (Nat.le_of_ble_eq_true rfl)⟩ jX1_with_11 (fun H1 q1 hN_q1 hq1 => ?_)
    have C := C.to (N2 := BN D H1 q1 1 [.long 0, .int 0, .int 0, .null, .null]) BN.ns
    refine sg0 C foX1 coX1 oX1_with_14 rfl rfl hn ?_
    refine ng (ci := 1) (k := 1) (v := .int (nI B)) C (fun H hH => at_snap (by decide) (hx H1 hN_q1).1 hH.2.1) rfl (by decide) fl_X1_17 rfl jX1_with_16 ?_
    refine sg0 C foX1 coX1 oX1_with_19 rfl rfl hn ?_
    refine ng (ci := 1) (k := 2) (v := .int (nI S)) C (fun H hH => at_snap (by decide) (hx H1 hN_q1).1 hH.2.1) rfl (by decide) fl_X1_23 rfl jX1_with_20 ?_
    refine sg0 C foX1 coX1 oX1_with_23 rfl rfl hn ?_
    refine ng (ci := 1) (k := 3) (v := .ref (adr x + 100)) C (fun H hH => at_snap (by decide) (hx H1 hN_q1).1 hH.2.1) rfl (by decide) fl_X1_26 (by rw [cv_raw C]; rfl) jX1_with_24 ?_
    refine sg0 C foX1 coX1 oX1_with_27 rfl rfl hn ?_
    refine cl_i C (kX1_init hAD hn hww B S (x := x) (y := z) (hx H1 hN_q1).2.1 (hz H1 hN_q1)) (C.2.2.2.2.2 _ hq1) cd_X1_init in_X1 ml_X1_41 im_X1_init rfl hd_X1_init rfl rfl ⟨(Nat.le_of_ble_eq_true rfl), (Nat.le_of_ble_eq_true rfl)⟩ ⟨(Nat.le_of_ble_eq_true rfl), (Nat.le_of_ble_eq_true rfl)⟩ (Nat.le_of_ble_eq_true rfl) jX1_with_28 (fun v ws' => Wa.and (fun hv => ?_))
    obtain ⟨rfl, rfl⟩ := hv
    have C := C.to (N2 := BN D H1 q1 1 [.long (forkF B S (dig x) (dig z)), .int (nI B), .int (nI S), .ref (adr x), .ref (adr z)]) BN.ns
    exact rt_a C hr (Or.inl ⟨_, rfl⟩) hlk jX1_with_31 (fun H hH => ⟨tF q1 B S x z, ⟨rfl, rfl, Or.inl ⟨q1, bo h8, rfl⟩⟩, hN _ _ hN_q1 hH.2.1, hH.2.2, nodeAt.ns x _ _ (hx H1 hN_q1).2.1 hH.2.1, nodeAt.ns z _ _ (hz H1 hN_q1) hH.2.1⟩)
end
section
variable {p : Program} {l : Launch} {e : Env} {R : Room} {s : State} {m : MethodId} {args : Array Value} {below : List Frame} {meth : Method} {c : Code} {cells slots : Nat} {QQ : State → Prop} {D : va_G} {ca : Nat → ClassId} {ad : Nat → Nat} {A : Nat → Prop} {N : Heap → Prop} {ws : List va_E} {n : Nat}
theorem bits_eq {P Q k : Nat} (hk : k + 1 ≤ 16) (h : P / 2 ^ (k + 1) = Q / 2 ^ (k + 1)) (hb : nI (bitA P (16 - (k + 1))) = nI (bitA Q (16 - (k + 1)))) : P / 2 ^ k = Q / 2 ^ k := by
  refine (bit_split h).mpr ?_
  have h1 := (nI_eq (Nat.lt_trans (bitA_lt _ _) (by decide)) (Nat.lt_trans (bitA_lt _ _) (by decide))).mp hb
  unfold bitA at h1
  rw [show 15 - (16 - (k + 1)) = k by omega] at h1
  exact h1
theorem bits_ne {P Q k : Nat} (hk : k + 1 ≤ 16) (hb : ¬ nI (bitA P (16 - (k + 1))) = nI (bitA Q (16 - (k + 1)))) : ¬ P / 2 ^ k = Q / 2 ^ k := by
  intro h
  apply hb
  unfold bitA
  rw [show 15 - (16 - (k + 1)) = k by omega, h]
theorem fbg_eq {P Q k : Nat} (h : P / 2 ^ k = Q / 2 ^ k) : fbg P Q (k + 1) = fbg P Q k := by rw [fbg, if_pos h]
theorem fbg_ne {P Q k : Nat} (hk : k + 1 ≤ 16) (h : ¬ P / 2 ^ k = Q / 2 ^ k) : fbg P Q (k + 1) = 16 - (k + 1) := by rw [fbg, if_neg h]; omega

set_option maxRecDepth 100000 in
set_option maxHeartbeats 4000000 in
theorem lp_firstOtherBit (C : Cx p s m args c cX8_firstOtherBit 3 RX8 D ca ad A N n) (hAD : AD ad n) (hn : ws.length = n) (hN : NS D N) {P Q : Nat} (hP : P < 65536) (hQ : Q < 65536) (hR : 1 ≤ R.frames ∧ 40 ≤ R.locals ∧ cells ≤ R.cells ∧ slots ≤ R.slots) : ∀ k : Nat, k ≤ 16 → P / 2 ^ k = Q / 2 ^ k → Wa p l e R s m args below meth c cells slots QQ D ca ad A 3 N ([(0, .int (nI P)), (1, .int (nI Q)), (2, .int (nI (fbg P Q k)))], [], ws) 27 → Wa p l e R s m args below meth c cells slots QQ D ca ad A 3 N ([(0, .int (nI P)), (1, .int (nI Q)), (2, .int (nI (16 - k)))], [], ws) 2 := by
  obtain ⟨hR1, hR2, hR3, hR4⟩ := hR
  intro k
  induction k with
  | zero =>
    intro _ _ hK
    refine sg0 C foX8 coX8 oX8_firstOtherBit_2 rfl rfl hn ?_
    exact b2_ge (tgt := 27) C jX8_firstOtherBit_5 (by decide) (fun _ => hK) (fun h5 => absurd (Int32.le_refl _) h5)
  | succ k ih =>
    intro hk hPQ hK
    refine sg0 C foX8 coX8 oX8_firstOtherBit_2 rfl rfl hn ?_
    refine b2_ge (tgt := 27) C jX8_firstOtherBit_5 (by decide) (fun h5 => ?_) (fun h5 => ?_)
    · exact absurd h5 (by rw [show (16 : Int32) = nI 16 from rfl]; exact nI_ge (by omega) (by decide))
    · refine sg0 C foX8 coX8 oX8_firstOtherBit_8 rfl rfl hn ?_
      refine cl_s C (kX8_isHigh hAD hn hN hP (show 16 - (k + 1) ≤ 15 by omega)) cd_X8_isHigh in_X8 ml_X8_152 sm_X8_isHigh hd_X8_isHigh rfl rfl ⟨by omega, by simp; omega⟩ ⟨by simp; omega, by simp; omega⟩ (Nat.le_of_ble_eq_true rfl) jX8_firstOtherBit_10 (fun v ws' => Wa.and (fun hv => ?_))
      obtain ⟨rfl, rfl⟩ := hv
      refine sg0 C foX8 coX8 oX8_firstOtherBit_13 rfl rfl hn ?_
      refine cl_s C (kX8_isHigh hAD hn hN hQ (show 16 - (k + 1) ≤ 15 by omega)) cd_X8_isHigh in_X8 ml_X8_152 sm_X8_isHigh hd_X8_isHigh rfl rfl ⟨by omega, by simp; omega⟩ ⟨by simp; omega, by simp; omega⟩ (Nat.le_of_ble_eq_true rfl) jX8_firstOtherBit_15 (fun v ws' => Wa.and (fun hv => ?_))
      obtain ⟨rfl, rfl⟩ := hv
      refine b2_ne (tgt := 27) C jX8_firstOtherBit_18 (by decide) (fun h18 => ?_) (fun h18 => ?_)
      · rw [fbg_ne hk (bits_ne hk h18)] at hK
        exact hK
      · rw [fbg_eq (bits_eq hk hPQ h18)] at hK
        refine sg0 C foX8 coX8 oX8_firstOtherBit_21 rfl rfl hn ?_
        rw [show nI (16 - (k + 1)) + 1 = nI (16 - k) by rw [nI_1, show 16 - (k + 1) + 1 = 16 - k by omega]]
        exact ih (by omega) (bits_eq hk hPQ h18) hK
end
section
variable {l : Launch} {D : va_G} {ca : Nat → ClassId} {ad : Nat → Nat} {ws : List va_E} {n : Nat} {N : Heap → Prop}
set_option maxRecDepth 100000 in
set_option maxHeartbeats 4000000 in
theorem kX8_firstOtherBit (hAD : AD ad n) (hn : ws.length = n) (hN : NS D N) {P Q : Nat} (hP : P < 65536) (hQ : Q < 65536) : Ct l yX8_firstOtherBit cX8_firstOtherBit 3 (some .int) (rK 1 0 0) D ca ad ws n [.int (nI P), .int (nI Q)] N (pG ws N (some (.int (nI (fbit P Q))))) := by
  refine enter (lv := [(0, .int (nI P)), (1, .int (nI Q))]) (by decide +kernel) (Nat.le_of_ble_eq_true rfl) rfl hAD (fun U hK => ns_write hK hN) ?_
  intro p e s m below meth c A args hA C hr hlk hnm
  refine sg0 C foX8 coX8 oX8_firstOtherBit_0 rfl rfl hn ?_
  refine lp_firstOtherBit C hAD hn hN hP hQ ⟨(Nat.le_of_ble_eq_true rfl), (Nat.le_of_ble_eq_true rfl), (Nat.le_of_ble_eq_true rfl), (Nat.le_of_ble_eq_true rfl)⟩ 16 (by decide) (by rw [p16 hP, p16 hQ]) ?_
  refine sg0 C foX8 coX8 oX8_firstOtherBit_27 rfl rfl hn ?_
  exact rt_i C hr hlk jX8_firstOtherBit_28 (fun H hN => ⟨⟨rfl, rfl⟩, hN⟩)
end
end
section
/-! the methods that read trees -/
theorem Wa.lvp {p : Program} {l : Launch} {e : Env} {R : Room} {s : State} {m : MethodId} {args : Array Value} {below : List Frame} {meth : Method} {c : Code} {cells slots : Nat} {Q : State → Prop} {D : va_G} {ca : Nat → ClassId} {ad : Nat → Nat} {A : Nat → Prop} {nL : Nat} {N : Heap → Prop} {lv lv2 : List (Nat × Value)} {st : List Value} {ws : List va_E} {pc : Nat} (ks : List Nat) (hs : lv_pick lv ks = lv2) (h : Wa p l e R s m args below meth c cells slots Q D ca ad A nL N (lv2, st, ws) pc) : Wa p l e R s m args below meth c cells slots Q D ca ad A nL N (lv, st, ws) pc := Wa.lv (fun x hx => by
  rw [← hs] at hx
  obtain ⟨k, -, hk⟩ := List.mem_filterMap.mp hx
  exact List.mem_of_getElem? hk) h
theorem fitF {q B S k : Nat} {x y : Term} (h : fitT (tF q B S x y) k) : (B ≤ 15 ∧ 16 ≤ k + B ∧ S + 2 ^ (16 - B) ≤ 65536 ∧ stm S B = S) ∧ fitT x (15 - B) ∧ fitT y (15 - B) := h
theorem fitF2 {q B S k : Nat} {x y : Term} (h : fitT (tF q B S x y) k) : S < 65536 := by
  have h1 := (fitF h).1.2.2.1
  have h2 : 0 < 2 ^ (16 - B) := Nat.two_pow_pos _
  omega
section
variable {l : Launch} {D : va_G} {ca : Nat → ClassId} {ad : Nat → Nat} {ws : List va_E} {n : Nat}
theorem cl_max {p : Program} {e : Env} {R : Room} {s : State} {m : MethodId} {args : Array Value} {below : List Frame} {meth : Method} {c : Code} {cells slots : Nat} {Q : State → Prop} {cc : ByteArray} {nL : Nat} {own : String} {A : Nat → Prop} {N : Heap → Prop} (C : Cx p s m args c cc nL own D ca ad A N n) {x y : Int32} {idx pc : Nat} {lv : List (Nat × Value)} {st : List Value} (hlk : Cond.methodLink own idx yJ9_max_7cf53 ∈ tb) (hR : 1 ≤ R.frames) (hlo : (st.map fun v => v.category).sum + 13 ≤ R.locals) (hc : cells ≤ R.cells) (hs : slots ≤ R.slots) (hdg : decode cc pc = .ok (.invokestatic idx, 3))
    (kk : Wa p l e R s m args below meth c cells slots Q D ca ad A nL N (lv, .int (if x < y then y else x) :: st, ws) (pc + 3)) : Wa p l e R s m args below meth c cells slots Q D ca ad A nL N (lv, .int y :: .int x :: st, ws) pc := fun H locs ls h1 h2 h3 h4 => va_mmax C.1.1 C.1.2.1 (C.1.2.2.1.trans h1.1.symm) C.1.2.2.2.1 (C.1.2.2.2.2 _ hlk) (C.1.2.2.2.2 _ sm_J9_max_7cf53) (C.1.2.2.2.2 _ in_J9) (C.1.2.2.2.2 _ cd_J9_max_7cf53) hR (by rw [cat_map]; exact hlo) hc hs hdg (kk H locs ls h1 h2 h3 h4)
set_option maxRecDepth 100000 in
set_option maxHeartbeats 4000000 in
theorem kX8_leavesWithin (hAD : AD ad n) (hn : ws.length = n) {a b : Nat} (ha : a < 65536) (hb : b < 65536) (T : Term) (hT : isT T) : ∀ (k d : Nat) (N : Heap → Prop), fitT (T) k → d + k ≤ 16 → NS D N → (∀ H, N H → nodeAt D H (T)) → Ct l yX8_leavesWithin cX8_leavesWithin 5 (some .int) (rK (k + 1) 0 0) D ca ad ws n [.ref (adr (T) + 100), .int (nI a), .int (nI b), .int (nI d)] N (pG ws N (some (.int (nI (cntT (T) a b))))) := by
  refine tr_ind (P := fun T => ∀ (k d : Nat) (N : Heap → Prop), fitT (T) k → d + k ≤ 16 → NS D N → (∀ H, N H → nodeAt D H (T)) → Ct l yX8_leavesWithin cX8_leavesWithin 5 (some .int) (rK (k + 1) 0 0) D ca ad ws n [.ref (adr (T) + 100), .int (nI a), .int (nI b), .int (nI d)] N (pG ws N (some (.int (nI (cntT (T) a b)))))) ?_ ?_ ?_ ?_ T hT
  · intro q k d N  hfit hdk hN hx
    refine enter (lv := [(0, .ref (adr (tE q) + 100)), (1, .int (nI a)), (2, .int (nI b)), (3, .int (nI d))]) (by decide +kernel) (Nat.le_of_ble_eq_true rfl) rfl hAD (fun U hK => ns_write hK hN) ?_
    intro p e s m below meth c A args hA C hr hlk hnm
    refine sg0 C foX8 coX8 oX8_leavesWithin_0 rfl rfl hn ?_
    refine ni_n (ci := 0) C (fun H hH => hx H hH) rfl kl_X8_167 (by decide) jX8_leavesWithin_1 ?_
    refine b1_eq (tgt := 47) C jX8_leavesWithin_4 (by decide) (fun h4 => ?_) (fun h4 => ?_)
    · refine sg0 C foX8 coX8 oX8_leavesWithin_47 rfl rfl hn ?_
      refine ni_n (ci := 0) C (fun H hH => hx H hH) rfl kl_X8_65 (by decide) jX8_leavesWithin_48 ?_
      refine b1_eq (tgt := 82) C jX8_leavesWithin_51 (by decide) (fun h51 => ?_) (fun h51 => ?_)
      · refine sg0 C foX8 coX8 oX8_leavesWithin_82 rfl rfl hn ?_
        exact rt_i C hr hlk jX8_leavesWithin_83 (fun H hN => ⟨⟨by rfl, rfl⟩, hN⟩)
      · exact absurd h51 (by decide)
    · exact absurd h4 (by decide)
  · intro q d0 k d N  hfit hdk hN hx
    refine enter (lv := [(0, .ref (adr (tH q d0) + 100)), (1, .int (nI a)), (2, .int (nI b)), (3, .int (nI d))]) (by decide +kernel) (Nat.le_of_ble_eq_true rfl) rfl hAD (fun U hK => ns_write hK hN) ?_
    intro p e s m below meth c A args hA C hr hlk hnm
    refine sg0 C foX8 coX8 oX8_leavesWithin_0 rfl rfl hn ?_
    refine ni_n (ci := 2) C (fun H hH => hx H hH) rfl kl_X8_167 (by decide) jX8_leavesWithin_1 ?_
    refine b1_eq (tgt := 47) C jX8_leavesWithin_4 (by decide) (fun h4 => ?_) (fun h4 => ?_)
    · refine sg0 C foX8 coX8 oX8_leavesWithin_47 rfl rfl hn ?_
      refine ni_n (ci := 2) C (fun H hH => hx H hH) rfl kl_X8_65 (by decide) jX8_leavesWithin_48 ?_
      refine b1_eq (tgt := 82) C jX8_leavesWithin_51 (by decide) (fun h51 => ?_) (fun h51 => ?_)
      · refine sg0 C foX8 coX8 oX8_leavesWithin_82 rfl rfl hn ?_
        exact rt_i C hr hlk jX8_leavesWithin_83 (fun H hN => ⟨⟨by rfl, rfl⟩, hN⟩)
      · exact absurd h51 (by decide)
    · exact absurd h4 (by decide)
  · intro q P v0 k d N  hfit hdk hN hx
    have hP : P < 65536 := hfit
    refine enter (lv := [(0, .ref (adr (tL q P v0) + 100)), (1, .int (nI a)), (2, .int (nI b)), (3, .int (nI d))]) (by decide +kernel) (Nat.le_of_ble_eq_true rfl) rfl hAD (fun U hK => ns_write hK hN) ?_
    intro p e s m below meth c A args hA C hr hlk hnm
    refine sg0 C foX8 coX8 oX8_leavesWithin_0 rfl rfl hn ?_
    refine ni_n (ci := 3) C (fun H hH => hx H hH) rfl kl_X8_167 (by decide) jX8_leavesWithin_1 ?_
    refine b1_eq (tgt := 47) C jX8_leavesWithin_4 (by decide) (fun h4 => ?_) (fun h4 => ?_)
    · refine sg0 C foX8 coX8 oX8_leavesWithin_47 rfl rfl hn ?_
      refine ni_y (ci := 3) C (fun H hH => hx H hH) rfl kl_X8_65 (by decide) jX8_leavesWithin_48 ?_
      refine b1_eq (tgt := 82) C jX8_leavesWithin_51 (by decide) (fun h51 => ?_) (fun h51 => ?_)
      · exact absurd h51 (by decide)
      · refine sg0 C foX8 coX8 oX8_leavesWithin_54 rfl rfl hn ?_
        refine nc_y (ci := 3) C (fun H hH => hx H hH) rfl kl_X8_65 (by decide) jX8_leavesWithin_55 ?_
        refine sg0 C foX8 coX8 oX8_leavesWithin_58 rfl rfl hn ?_
        refine ng (ci := 3) (k := 1) (v := .int (nI P)) C (fun H hH => hx H hH) rfl (by decide) fl_X8_136 rfl jX8_leavesWithin_62 ?_
        refine sg0 C foX8 coX8 oX8_leavesWithin_65 rfl rfl hn ?_
        refine b2_lt (tgt := 82) C jX8_leavesWithin_66 (by decide) (fun h66 => ?_) (fun h66 => ?_)
        · refine sg0 C foX8 coX8 oX8_leavesWithin_82 rfl rfl hn ?_
          exact rt_i C hr hlk jX8_leavesWithin_83 (fun H hN => ⟨⟨by simp only [cntT]; rw [if_neg (fun h => absurd h.1 (Nat.not_le.mpr ((nI_ltI (by omega) (by omega)).mp h66)))]; rfl, rfl⟩, hN⟩)
        · refine sg0 C foX8 coX8 oX8_leavesWithin_69 rfl rfl hn ?_
          refine ng (ci := 3) (k := 1) (v := .int (nI P)) C (fun H hH => hx H hH) rfl (by decide) fl_X8_136 rfl jX8_leavesWithin_71 ?_
          refine sg0 C foX8 coX8 oX8_leavesWithin_74 rfl rfl hn ?_
          refine b2_gt (tgt := 82) C jX8_leavesWithin_75 (by decide) (fun h75 => ?_) (fun h75 => ?_)
          · refine sg0 C foX8 coX8 oX8_leavesWithin_82 rfl rfl hn ?_
            exact rt_i C hr hlk jX8_leavesWithin_83 (fun H hN => ⟨⟨by simp only [cntT]; rw [if_neg (fun h => absurd h.2 (Nat.not_le.mpr ((nI_ltI (by omega) (by omega)).mp h75)))]; rfl, rfl⟩, hN⟩)
          · refine sg0 C foX8 coX8 oX8_leavesWithin_78 rfl rfl hn ?_
            exact rt_i C hr hlk jX8_leavesWithin_83 (fun H hN => ⟨⟨by simp only [cntT]; rw [if_pos ⟨Nat.not_lt.mp fun h => h66 ((nI_ltI (by omega) (by omega)).mpr h), Nat.not_lt.mp fun h => h75 ((nI_ltI (by omega) (by omega)).mpr h)⟩]; rfl, rfl⟩, hN⟩)
    · exact absurd h4 (by decide)
  · intro q B S x y hT1 hT2 i1 i2 k d N  hfit hdk hN hx
    obtain ⟨⟨hB, hkB, hS, hstm⟩, hfx, hfy⟩ := fitF hfit
    have hS2 := fitF2 hfit
    refine enter (lv := [(0, .ref (adr (tF q B S x y) + 100)), (1, .int (nI a)), (2, .int (nI b)), (3, .int (nI d))]) (by decide +kernel) (Nat.le_of_ble_eq_true rfl) rfl hAD (fun U hK => ns_write hK hN) ?_
    intro p e s m below meth c A args hA C hr hlk hnm
    refine sg0 C foX8 coX8 oX8_leavesWithin_0 rfl rfl hn ?_
    refine ni_y (ci := 1) C (fun H hH => (hx H hH).1) rfl kl_X8_167 (by decide) jX8_leavesWithin_1 ?_
    refine b1_eq (tgt := 47) C jX8_leavesWithin_4 (by decide) (fun h4 => ?_) (fun h4 => ?_)
    · exact absurd h4 (by decide)
    · refine sg0 C foX8 coX8 oX8_leavesWithin_7 rfl rfl hn ?_
      refine nc_y (ci := 1) C (fun H hH => (hx H hH).1) rfl kl_X8_167 (by decide) jX8_leavesWithin_8 ?_
      refine sg0 C foX8 coX8 oX8_leavesWithin_11 rfl rfl hn ?_
      refine b2_ge (tgt := 47) C jX8_leavesWithin_16 (by decide) (fun h16 => ?_) (fun h16 => ?_)
      · exact absurd h16 (by rw [show (16 : Int32) = nI 16 from rfl]; exact nI_ge (by omega) (by decide))
      · refine sg0 C foX8 coX8 oX8_leavesWithin_19 rfl rfl hn ?_
        refine ng (ci := 1) (k := 3) (v := .ref (adr x + 100)) C (fun H hH => (hx H hH).1) rfl (by decide) fl_X8_199 (by rw [cv_raw C]; rfl) jX8_leavesWithin_21 ?_
        refine sg0 C foX8 coX8 oX8_leavesWithin_24 rfl rfl hn ?_
        rw [nI_1]
        refine cl_s C (i1 (15 - B) (d + 1) N hfx (by omega) hN (fun H hH => (hx H hH).2.1)) cd_X8_leavesWithin in_X8 ml_X8_75 sm_X8_leavesWithin hd_X8_leavesWithin rfl rfl ⟨by show 15 - B + 1 + 1 ≤ k + 1; omega, by show 8 + (5 + 11) + 40 * (15 - B + 1) ≤ 40 * (k + 1); omega⟩ ⟨(Nat.le_of_ble_eq_true rfl), (Nat.le_of_ble_eq_true rfl)⟩ (Nat.le_of_ble_eq_true rfl) jX8_leavesWithin_29 (fun v ws' => Wa.and (fun hv => ?_))
        obtain ⟨rfl, rfl⟩ := hv
        refine sg0 C foX8 coX8 oX8_leavesWithin_32 rfl rfl hn ?_
        refine ng (ci := 1) (k := 4) (v := .ref (adr y + 100)) C (fun H hH => (hx H hH).1) rfl (by decide) fl_X8_202 (by rw [cv_raw C]; rfl) jX8_leavesWithin_34 ?_
        refine sg0 C foX8 coX8 oX8_leavesWithin_37 rfl rfl hn ?_
        rw [nI_1]
        refine cl_s C (i2 (15 - B) (d + 1) N hfy (by omega) hN (fun H hH => (hx H hH).2.2)) cd_X8_leavesWithin in_X8 ml_X8_75 sm_X8_leavesWithin hd_X8_leavesWithin rfl rfl ⟨by show 15 - B + 1 + 1 ≤ k + 1; omega, by show 8 + (5 + 11) + 40 * (15 - B + 1) ≤ 40 * (k + 1); omega⟩ ⟨(Nat.le_of_ble_eq_true rfl), (Nat.le_of_ble_eq_true rfl)⟩ (Nat.le_of_ble_eq_true rfl) jX8_leavesWithin_42 (fun v ws' => Wa.and (fun hv => ?_))
        obtain ⟨rfl, rfl⟩ := hv
        refine sg0 C foX8 coX8 oX8_leavesWithin_45 rfl rfl hn ?_
        exact rt_i C hr hlk jX8_leavesWithin_46 (fun H hN => ⟨⟨by rw [nI_add]; simp only [cntT], rfl⟩, hN⟩)
set_option maxRecDepth 100000 in
set_option maxHeartbeats 4000000 in
theorem kX8_nodesOf (hAD : AD ad n) (hn : ws.length = n)  (T : Term) (hT : isT T) : ∀ (k d : Nat) (N : Heap → Prop), fitT (T) k → d + k ≤ 16 → NS D N → (∀ H, N H → nodeAt D H (T)) → Ct l yX8_nodesOf cX8_nodesOf 3 (some .int) (rK (k + 1) 0 0) D ca ad ws n [.ref (adr (T) + 100), .int (nI d)] N (pG ws N (some (.int (nI (nodT (T)))))) := by
  refine tr_ind (P := fun T => ∀ (k d : Nat) (N : Heap → Prop), fitT (T) k → d + k ≤ 16 → NS D N → (∀ H, N H → nodeAt D H (T)) → Ct l yX8_nodesOf cX8_nodesOf 3 (some .int) (rK (k + 1) 0 0) D ca ad ws n [.ref (adr (T) + 100), .int (nI d)] N (pG ws N (some (.int (nI (nodT (T))))))) ?_ ?_ ?_ ?_ T hT
  · intro q k d N  hfit hdk hN hx
    refine enter (lv := [(0, .ref (adr (tE q) + 100)), (1, .int (nI d))]) (by decide +kernel) (Nat.le_of_ble_eq_true rfl) rfl hAD (fun U hK => ns_write hK hN) ?_
    intro p e s m below meth c A args hA C hr hlk hnm
    refine sg0 C foX8 coX8 oX8_nodesOf_0 rfl rfl hn ?_
    refine ni_n (ci := 0) C (fun H hH => hx H hH) rfl kl_X8_167 (by decide) jX8_nodesOf_1 ?_
    refine b1_eq (tgt := 42) C jX8_nodesOf_4 (by decide) (fun h4 => ?_) (fun h4 => ?_)
    · refine sg0 C foX8 coX8 oX8_nodesOf_42 rfl rfl hn ?_
      refine bnn_r (tgt := 50) C jX8_nodesOf_43 (by decide) ?_
      refine sg0 C foX8 coX8 oX8_nodesOf_50 rfl rfl hn ?_
      exact rt_i C hr hlk jX8_nodesOf_51 (fun H hN => ⟨⟨by rfl, rfl⟩, hN⟩)
    · exact absurd h4 (by decide)
  · intro q d0 k d N  hfit hdk hN hx
    refine enter (lv := [(0, .ref (adr (tH q d0) + 100)), (1, .int (nI d))]) (by decide +kernel) (Nat.le_of_ble_eq_true rfl) rfl hAD (fun U hK => ns_write hK hN) ?_
    intro p e s m below meth c A args hA C hr hlk hnm
    refine sg0 C foX8 coX8 oX8_nodesOf_0 rfl rfl hn ?_
    refine ni_n (ci := 2) C (fun H hH => hx H hH) rfl kl_X8_167 (by decide) jX8_nodesOf_1 ?_
    refine b1_eq (tgt := 42) C jX8_nodesOf_4 (by decide) (fun h4 => ?_) (fun h4 => ?_)
    · refine sg0 C foX8 coX8 oX8_nodesOf_42 rfl rfl hn ?_
      refine bnn_r (tgt := 50) C jX8_nodesOf_43 (by decide) ?_
      refine sg0 C foX8 coX8 oX8_nodesOf_50 rfl rfl hn ?_
      exact rt_i C hr hlk jX8_nodesOf_51 (fun H hN => ⟨⟨by rfl, rfl⟩, hN⟩)
    · exact absurd h4 (by decide)
  · intro q P v0 k d N  hfit hdk hN hx
    have hP : P < 65536 := hfit
    refine enter (lv := [(0, .ref (adr (tL q P v0) + 100)), (1, .int (nI d))]) (by decide +kernel) (Nat.le_of_ble_eq_true rfl) rfl hAD (fun U hK => ns_write hK hN) ?_
    intro p e s m below meth c A args hA C hr hlk hnm
    refine sg0 C foX8 coX8 oX8_nodesOf_0 rfl rfl hn ?_
    refine ni_n (ci := 3) C (fun H hH => hx H hH) rfl kl_X8_167 (by decide) jX8_nodesOf_1 ?_
    refine b1_eq (tgt := 42) C jX8_nodesOf_4 (by decide) (fun h4 => ?_) (fun h4 => ?_)
    · refine sg0 C foX8 coX8 oX8_nodesOf_42 rfl rfl hn ?_
      refine bnn_r (tgt := 50) C jX8_nodesOf_43 (by decide) ?_
      refine sg0 C foX8 coX8 oX8_nodesOf_50 rfl rfl hn ?_
      exact rt_i C hr hlk jX8_nodesOf_51 (fun H hN => ⟨⟨by rfl, rfl⟩, hN⟩)
    · exact absurd h4 (by decide)
  · intro q B S x y hT1 hT2 i1 i2 k d N  hfit hdk hN hx
    obtain ⟨⟨hB, hkB, hS, hstm⟩, hfx, hfy⟩ := fitF hfit
    have hS2 := fitF2 hfit
    refine enter (lv := [(0, .ref (adr (tF q B S x y) + 100)), (1, .int (nI d))]) (by decide +kernel) (Nat.le_of_ble_eq_true rfl) rfl hAD (fun U hK => ns_write hK hN) ?_
    intro p e s m below meth c A args hA C hr hlk hnm
    refine sg0 C foX8 coX8 oX8_nodesOf_0 rfl rfl hn ?_
    refine ni_y (ci := 1) C (fun H hH => (hx H hH).1) rfl kl_X8_167 (by decide) jX8_nodesOf_1 ?_
    refine b1_eq (tgt := 42) C jX8_nodesOf_4 (by decide) (fun h4 => ?_) (fun h4 => ?_)
    · exact absurd h4 (by decide)
    · refine sg0 C foX8 coX8 oX8_nodesOf_7 rfl rfl hn ?_
      refine nc_y (ci := 1) C (fun H hH => (hx H hH).1) rfl kl_X8_167 (by decide) jX8_nodesOf_8 ?_
      refine sg0 C foX8 coX8 oX8_nodesOf_11 rfl rfl hn ?_
      refine b2_ge (tgt := 42) C jX8_nodesOf_15 (by decide) (fun h15 => ?_) (fun h15 => ?_)
      · exact absurd h15 (by rw [show (16 : Int32) = nI 16 from rfl]; exact nI_ge (by omega) (by decide))
      · refine sg0 C foX8 coX8 oX8_nodesOf_18 rfl rfl hn ?_
        refine ng (ci := 1) (k := 3) (v := .ref (adr x + 100)) C (fun H hH => (hx H hH).1) rfl (by decide) fl_X8_199 (by rw [cv_raw C]; rfl) jX8_nodesOf_20 ?_
        refine sg0 C foX8 coX8 oX8_nodesOf_23 rfl rfl hn ?_
        rw [nI_1]
        refine cl_s C (i1 (15 - B) (d + 1) N hfx (by omega) hN (fun H hH => (hx H hH).2.1)) cd_X8_nodesOf in_X8 ml_X8_130 sm_X8_nodesOf hd_X8_nodesOf rfl rfl ⟨by show 15 - B + 1 + 1 ≤ k + 1; omega, by show 8 + (3 + 11) + 40 * (15 - B + 1) ≤ 40 * (k + 1); omega⟩ ⟨(Nat.le_of_ble_eq_true rfl), (Nat.le_of_ble_eq_true rfl)⟩ (Nat.le_of_ble_eq_true rfl) jX8_nodesOf_26 (fun v ws' => Wa.and (fun hv => ?_))
        obtain ⟨rfl, rfl⟩ := hv
        refine sg0 C foX8 coX8 oX8_nodesOf_29 rfl rfl hn ?_
        refine ng (ci := 1) (k := 4) (v := .ref (adr y + 100)) C (fun H hH => (hx H hH).1) rfl (by decide) fl_X8_202 (by rw [cv_raw C]; rfl) jX8_nodesOf_31 ?_
        refine sg0 C foX8 coX8 oX8_nodesOf_34 rfl rfl hn ?_
        rw [nI_1 d]
        refine cl_s C (i2 (15 - B) (d + 1) N hfy (by omega) hN (fun H hH => (hx H hH).2.2)) cd_X8_nodesOf in_X8 ml_X8_130 sm_X8_nodesOf hd_X8_nodesOf rfl rfl ⟨by show 15 - B + 1 + 1 ≤ k + 1; omega, by show 8 + (3 + 11) + 40 * (15 - B + 1) ≤ 40 * (k + 1); omega⟩ ⟨(Nat.le_of_ble_eq_true rfl), (Nat.le_of_ble_eq_true rfl)⟩ (Nat.le_of_ble_eq_true rfl) jX8_nodesOf_37 (fun v ws' => Wa.and (fun hv => ?_))
        obtain ⟨rfl, rfl⟩ := hv
        refine sg0 C foX8 coX8 oX8_nodesOf_40 rfl rfl hn ?_
        exact rt_i C hr hlk jX8_nodesOf_41 (fun H hN => ⟨⟨by rw [show (1 : Int32) = nI 1 from rfl, nI_add, nI_add]; simp only [nodT], rfl⟩, hN⟩)
theorem frk_le (T : Term) (hT : isT T) : ∀ k, fitT T k → frkT T ≤ k := by
  refine tr_ind (P := fun T => ∀ k, fitT T k → frkT T ≤ k) ?_ ?_ ?_ ?_ T hT
  · exact fun q k _ => Nat.zero_le _
  · exact fun q d k _ => Nat.zero_le _
  · exact fun q p v k _ => Nat.zero_le _
  · intro q B S x y _ _ i1 i2 k h
    obtain ⟨⟨hB, hkB, hS, hstm⟩, hfx, hfy⟩ := fitF h
    have h1 := i1 _ hfx
    have h2 := i2 _ hfy
    simp only [frkT]
    omega
theorem fit_T (T : Term) : ∀ k, fitT T k → isT T := by
  induction T using isT.induct with
  | case1 q => intro _ _; exact trivial
  | case2 q d => intro _ _; exact trivial
  | case3 q p v => intro _ _; exact trivial
  | case4 q B S x y i1 i2 => intro k h; exact ⟨i1 _ h.2.1, i2 _ h.2.2⟩
  | case5 T h1 h2 h3 h4 => intro k h; exfalso; unfold fitT at h; split at h <;> first | exact h | (simp_all; done) | (exact h4 _ _ _ _ _ rfl)
theorem mx_frk {x y : Term} {j : Nat} (hx : fitT x (15 - j)) (hy : fitT y (15 - j)) : (1 : Int32) + (if nI (frkT x) < nI (frkT y) then nI (frkT y) else nI (frkT x)) = nI (1 + max (frkT x) (frkT y)) := by
  have h1 := frk_le x (fit_T x _ hx) _ hx
  have h2 := frk_le y (fit_T y _ hy) _ hy
  rw [show (1 : Int32) = nI 1 from rfl]
  by_cases h : frkT x < frkT y
  · rw [if_pos ((nI_ltI (by omega) (by omega)).mpr h), nI_add, Nat.max_eq_right (by omega)]
  · rw [if_neg (fun h3 => h ((nI_ltI (by omega) (by omega)).mp h3)), nI_add, Nat.max_eq_left (by omega)]
set_option maxRecDepth 100000 in
set_option maxHeartbeats 4000000 in
theorem kX8_mostForks (hAD : AD ad n) (hn : ws.length = n)  (T : Term) (hT : isT T) : ∀ (k d : Nat) (N : Heap → Prop), fitT (T) k → d + k ≤ 16 → NS D N → (∀ H, N H → nodeAt D H (T)) → Ct l yX8_mostForks cX8_mostForks 3 (some .int) (rK (k + 1) 0 0) D ca ad ws n [.ref (adr (T) + 100), .int (nI d)] N (pG ws N (some (.int (nI (frkT (T)))))) := by
  refine tr_ind (P := fun T => ∀ (k d : Nat) (N : Heap → Prop), fitT (T) k → d + k ≤ 16 → NS D N → (∀ H, N H → nodeAt D H (T)) → Ct l yX8_mostForks cX8_mostForks 3 (some .int) (rK (k + 1) 0 0) D ca ad ws n [.ref (adr (T) + 100), .int (nI d)] N (pG ws N (some (.int (nI (frkT (T))))))) ?_ ?_ ?_ ?_ T hT
  · intro q k d N  hfit hdk hN hx
    refine enter (lv := [(0, .ref (adr (tE q) + 100)), (1, .int (nI d))]) (by decide +kernel) (Nat.le_of_ble_eq_true rfl) rfl hAD (fun U hK => ns_write hK hN) ?_
    intro p e s m below meth c A args hA C hr hlk hnm
    refine sg0 C foX8 coX8 oX8_mostForks_0 rfl rfl hn ?_
    refine ni_n (ci := 0) C (fun H hH => hx H hH) rfl kl_X8_167 (by decide) jX8_mostForks_1 ?_
    refine b1_eq (tgt := 44) C jX8_mostForks_4 (by decide) (fun h4 => ?_) (fun h4 => ?_)
    · refine sg0 C foX8 coX8 oX8_mostForks_44 rfl rfl hn ?_
      exact rt_i C hr hlk jX8_mostForks_45 (fun H hN => ⟨⟨by rfl, rfl⟩, hN⟩)
    · exact absurd h4 (by decide)
  · intro q d0 k d N  hfit hdk hN hx
    refine enter (lv := [(0, .ref (adr (tH q d0) + 100)), (1, .int (nI d))]) (by decide +kernel) (Nat.le_of_ble_eq_true rfl) rfl hAD (fun U hK => ns_write hK hN) ?_
    intro p e s m below meth c A args hA C hr hlk hnm
    refine sg0 C foX8 coX8 oX8_mostForks_0 rfl rfl hn ?_
    refine ni_n (ci := 2) C (fun H hH => hx H hH) rfl kl_X8_167 (by decide) jX8_mostForks_1 ?_
    refine b1_eq (tgt := 44) C jX8_mostForks_4 (by decide) (fun h4 => ?_) (fun h4 => ?_)
    · refine sg0 C foX8 coX8 oX8_mostForks_44 rfl rfl hn ?_
      exact rt_i C hr hlk jX8_mostForks_45 (fun H hN => ⟨⟨by rfl, rfl⟩, hN⟩)
    · exact absurd h4 (by decide)
  · intro q P v0 k d N  hfit hdk hN hx
    have hP : P < 65536 := hfit
    refine enter (lv := [(0, .ref (adr (tL q P v0) + 100)), (1, .int (nI d))]) (by decide +kernel) (Nat.le_of_ble_eq_true rfl) rfl hAD (fun U hK => ns_write hK hN) ?_
    intro p e s m below meth c A args hA C hr hlk hnm
    refine sg0 C foX8 coX8 oX8_mostForks_0 rfl rfl hn ?_
    refine ni_n (ci := 3) C (fun H hH => hx H hH) rfl kl_X8_167 (by decide) jX8_mostForks_1 ?_
    refine b1_eq (tgt := 44) C jX8_mostForks_4 (by decide) (fun h4 => ?_) (fun h4 => ?_)
    · refine sg0 C foX8 coX8 oX8_mostForks_44 rfl rfl hn ?_
      exact rt_i C hr hlk jX8_mostForks_45 (fun H hN => ⟨⟨by rfl, rfl⟩, hN⟩)
    · exact absurd h4 (by decide)
  · intro q B S x y hT1 hT2 i1 i2 k d N  hfit hdk hN hx
    obtain ⟨⟨hB, hkB, hS, hstm⟩, hfx, hfy⟩ := fitF hfit
    have hS2 := fitF2 hfit
    refine enter (lv := [(0, .ref (adr (tF q B S x y) + 100)), (1, .int (nI d))]) (by decide +kernel) (Nat.le_of_ble_eq_true rfl) rfl hAD (fun U hK => ns_write hK hN) ?_
    intro p e s m below meth c A args hA C hr hlk hnm
    refine sg0 C foX8 coX8 oX8_mostForks_0 rfl rfl hn ?_
    refine ni_y (ci := 1) C (fun H hH => (hx H hH).1) rfl kl_X8_167 (by decide) jX8_mostForks_1 ?_
    refine b1_eq (tgt := 44) C jX8_mostForks_4 (by decide) (fun h4 => ?_) (fun h4 => ?_)
    · exact absurd h4 (by decide)
    · refine sg0 C foX8 coX8 oX8_mostForks_7 rfl rfl hn ?_
      refine nc_y (ci := 1) C (fun H hH => (hx H hH).1) rfl kl_X8_167 (by decide) jX8_mostForks_8 ?_
      refine sg0 C foX8 coX8 oX8_mostForks_11 rfl rfl hn ?_
      refine b2_ge (tgt := 44) C jX8_mostForks_15 (by decide) (fun h15 => ?_) (fun h15 => ?_)
      · exact absurd h15 (by rw [show (16 : Int32) = nI 16 from rfl]; exact nI_ge (by omega) (by decide))
      · refine sg0 C foX8 coX8 oX8_mostForks_18 rfl rfl hn ?_
        refine ng (ci := 1) (k := 3) (v := .ref (adr x + 100)) C (fun H hH => (hx H hH).1) rfl (by decide) fl_X8_199 (by rw [cv_raw C]; rfl) jX8_mostForks_20 ?_
        refine sg0 C foX8 coX8 oX8_mostForks_23 rfl rfl hn ?_
        rw [nI_1]
        refine cl_s C (i1 (15 - B) (d + 1) N hfx (by omega) hN (fun H hH => (hx H hH).2.1)) cd_X8_mostForks in_X8 ml_X8_149 sm_X8_mostForks hd_X8_mostForks rfl rfl ⟨by show 15 - B + 1 + 1 ≤ k + 1; omega, by show 8 + (3 + 11) + 40 * (15 - B + 1) ≤ 40 * (k + 1); omega⟩ ⟨(Nat.le_of_ble_eq_true rfl), (Nat.le_of_ble_eq_true rfl)⟩ (Nat.le_of_ble_eq_true rfl) jX8_mostForks_26 (fun v ws' => Wa.and (fun hv => ?_))
        obtain ⟨rfl, rfl⟩ := hv
        refine sg0 C foX8 coX8 oX8_mostForks_29 rfl rfl hn ?_
        refine ng (ci := 1) (k := 4) (v := .ref (adr y + 100)) C (fun H hH => (hx H hH).1) rfl (by decide) fl_X8_202 (by rw [cv_raw C]; rfl) jX8_mostForks_30 ?_
        refine sg0 C foX8 coX8 oX8_mostForks_33 rfl rfl hn ?_
        rw [nI_1]
        refine cl_s C (i2 (15 - B) (d + 1) N hfy (by omega) hN (fun H hH => (hx H hH).2.2)) cd_X8_mostForks in_X8 ml_X8_149 sm_X8_mostForks hd_X8_mostForks rfl rfl ⟨by show 15 - B + 1 + 1 ≤ k + 1; omega, by show 8 + (3 + 11) + 40 * (15 - B + 1) ≤ 40 * (k + 1); omega⟩ ⟨(Nat.le_of_ble_eq_true rfl), (Nat.le_of_ble_eq_true rfl)⟩ (Nat.le_of_ble_eq_true rfl) jX8_mostForks_36 (fun v ws' => Wa.and (fun hv => ?_))
        obtain ⟨rfl, rfl⟩ := hv
        refine cl_max C ml_X8_205 (by show 1 ≤ k + 1; omega) (by show 1 + 0 + 13 ≤ 40 * (k + 1); omega) (Nat.le_of_ble_eq_true rfl) (Nat.le_of_ble_eq_true rfl) jX8_mostForks_39 ?_
        refine sg0 C foX8 coX8 oX8_mostForks_42 rfl rfl hn ?_
        exact rt_i C hr hlk jX8_mostForks_43 (fun H hN => ⟨⟨by rw [mx_frk hfx hfy]; simp only [frkT], rfl⟩, hN⟩)
set_option maxRecDepth 100000 in
set_option maxHeartbeats 4000000 in
theorem kX8_hiddenOver (hAD : AD ad n) (hn : ws.length = n) {a b : Nat} (ha : a < 65536) (hb : b < 65536) (T : Term) (hT : isT T) : ∀ (k d : Nat) (N : Heap → Prop) (f t : Nat), fitT (T) k → d + k ≤ 16 → NS D N → (∀ H, N H → nodeAt D H (T)) → f < 65536 → t < 65536 → Ct l yX8_hiddenOver cX8_hiddenOver 7 (some .int) (rK (k + 1) 0 0) D ca ad ws n [.ref (adr (T) + 100), .int (nI f), .int (nI t), .int (nI a), .int (nI b), .int (nI d)] N (pG ws N (some (.int (nI (hidT (T) f t a b))))) := by
  refine tr_ind (P := fun T => ∀ (k d : Nat) (N : Heap → Prop) (f t : Nat), fitT (T) k → d + k ≤ 16 → NS D N → (∀ H, N H → nodeAt D H (T)) → f < 65536 → t < 65536 → Ct l yX8_hiddenOver cX8_hiddenOver 7 (some .int) (rK (k + 1) 0 0) D ca ad ws n [.ref (adr (T) + 100), .int (nI f), .int (nI t), .int (nI a), .int (nI b), .int (nI d)] N (pG ws N (some (.int (nI (hidT (T) f t a b)))))) ?_ ?_ ?_ ?_ T hT
  · intro q k d N f t hfit hdk hN hx hf1 ht1
    refine enter (lv := [(0, .ref (adr (tE q) + 100)), (1, .int (nI f)), (2, .int (nI t)), (3, .int (nI a)), (4, .int (nI b)), (5, .int (nI d))]) (by decide +kernel) (Nat.le_of_ble_eq_true rfl) rfl hAD (fun U hK => ns_write hK hN) ?_
    intro p e s m below meth c A args hA C hr hlk hnm
    refine sg0 C foX8 coX8 oX8_hiddenOver_0 rfl rfl hn ?_
    refine ni_n (ci := 0) C (fun H hH => hx H hH) rfl kl_X8_167 (by decide) jX8_hiddenOver_1 ?_
    refine b1_eq (tgt := 74) C jX8_hiddenOver_4 (by decide) (fun h4 => ?_) (fun h4 => ?_)
    · refine sg0 C foX8 coX8 oX8_hiddenOver_74 rfl rfl hn ?_
      refine ni_n (ci := 0) C (fun H hH => hx H hH) rfl kl_X8_134 (by decide) jX8_hiddenOver_75 ?_
      refine b1_eq (tgt := 96) C jX8_hiddenOver_78 (by decide) (fun h78 => ?_) (fun h78 => ?_)
      · refine sg0 C foX8 coX8 oX8_hiddenOver_96 rfl rfl hn ?_
        exact rt_i C hr hlk jX8_hiddenOver_97 (fun H hN => ⟨⟨by rfl, rfl⟩, hN⟩)
      · exact absurd h78 (by decide)
    · exact absurd h4 (by decide)
  · intro q d0 k d N f t hfit hdk hN hx hf1 ht1
    refine enter (lv := [(0, .ref (adr (tH q d0) + 100)), (1, .int (nI f)), (2, .int (nI t)), (3, .int (nI a)), (4, .int (nI b)), (5, .int (nI d))]) (by decide +kernel) (Nat.le_of_ble_eq_true rfl) rfl hAD (fun U hK => ns_write hK hN) ?_
    intro p e s m below meth c A args hA C hr hlk hnm
    refine sg0 C foX8 coX8 oX8_hiddenOver_0 rfl rfl hn ?_
    refine ni_n (ci := 2) C (fun H hH => hx H hH) rfl kl_X8_167 (by decide) jX8_hiddenOver_1 ?_
    refine b1_eq (tgt := 74) C jX8_hiddenOver_4 (by decide) (fun h4 => ?_) (fun h4 => ?_)
    · refine sg0 C foX8 coX8 oX8_hiddenOver_74 rfl rfl hn ?_
      refine ni_y (ci := 2) C (fun H hH => hx H hH) rfl kl_X8_134 (by decide) jX8_hiddenOver_75 ?_
      refine b1_eq (tgt := 96) C jX8_hiddenOver_78 (by decide) (fun h78 => ?_) (fun h78 => ?_)
      · exact absurd h78 (by decide)
      · refine sg0 C foX8 coX8 oX8_hiddenOver_81 rfl rfl hn ?_
        refine b2_gt (tgt := 96) C jX8_hiddenOver_84 (by decide) (fun h84 => ?_) (fun h84 => ?_)
        · refine sg0 C foX8 coX8 oX8_hiddenOver_96 rfl rfl hn ?_
          exact rt_i C hr hlk jX8_hiddenOver_97 (fun H hN => ⟨⟨by simp only [hidT]; rw [if_neg (fun h => absurd h.1 (Nat.not_le.mpr ((nI_ltI (by omega) (by omega)).mp h84)))]; rfl, rfl⟩, hN⟩)
        · refine sg0 C foX8 coX8 oX8_hiddenOver_87 rfl rfl hn ?_
          refine b2_gt (tgt := 96) C jX8_hiddenOver_89 (by decide) (fun h89 => ?_) (fun h89 => ?_)
          · refine sg0 C foX8 coX8 oX8_hiddenOver_96 rfl rfl hn ?_
            exact rt_i C hr hlk jX8_hiddenOver_97 (fun H hN => ⟨⟨by simp only [hidT]; rw [if_neg (fun h => absurd h.2 (Nat.not_le.mpr ((nI_ltI (by omega) (by omega)).mp h89)))]; rfl, rfl⟩, hN⟩)
          · refine sg0 C foX8 coX8 oX8_hiddenOver_92 rfl rfl hn ?_
            exact rt_i C hr hlk jX8_hiddenOver_97 (fun H hN => ⟨⟨by simp only [hidT]; rw [if_pos ⟨Nat.not_lt.mp fun h => h84 ((nI_ltI (by omega) (by omega)).mpr h), Nat.not_lt.mp fun h => h89 ((nI_ltI (by omega) (by omega)).mpr h)⟩]; rfl, rfl⟩, hN⟩)
    · exact absurd h4 (by decide)
  · intro q P v0 k d N f t hfit hdk hN hx hf1 ht1
    have hP : P < 65536 := hfit
    refine enter (lv := [(0, .ref (adr (tL q P v0) + 100)), (1, .int (nI f)), (2, .int (nI t)), (3, .int (nI a)), (4, .int (nI b)), (5, .int (nI d))]) (by decide +kernel) (Nat.le_of_ble_eq_true rfl) rfl hAD (fun U hK => ns_write hK hN) ?_
    intro p e s m below meth c A args hA C hr hlk hnm
    refine sg0 C foX8 coX8 oX8_hiddenOver_0 rfl rfl hn ?_
    refine ni_n (ci := 3) C (fun H hH => hx H hH) rfl kl_X8_167 (by decide) jX8_hiddenOver_1 ?_
    refine b1_eq (tgt := 74) C jX8_hiddenOver_4 (by decide) (fun h4 => ?_) (fun h4 => ?_)
    · refine sg0 C foX8 coX8 oX8_hiddenOver_74 rfl rfl hn ?_
      refine ni_n (ci := 3) C (fun H hH => hx H hH) rfl kl_X8_134 (by decide) jX8_hiddenOver_75 ?_
      refine b1_eq (tgt := 96) C jX8_hiddenOver_78 (by decide) (fun h78 => ?_) (fun h78 => ?_)
      · refine sg0 C foX8 coX8 oX8_hiddenOver_96 rfl rfl hn ?_
        exact rt_i C hr hlk jX8_hiddenOver_97 (fun H hN => ⟨⟨by rfl, rfl⟩, hN⟩)
      · exact absurd h78 (by decide)
    · exact absurd h4 (by decide)
  · intro q B S x y hT1 hT2 i1 i2 k d N f t hfit hdk hN hx hf1 ht1
    obtain ⟨⟨hB, hkB, hS, hstm⟩, hfx, hfy⟩ := fitF hfit
    have hS2 := fitF2 hfit
    refine enter (lv := [(0, .ref (adr (tF q B S x y) + 100)), (1, .int (nI f)), (2, .int (nI t)), (3, .int (nI a)), (4, .int (nI b)), (5, .int (nI d))]) (by decide +kernel) (Nat.le_of_ble_eq_true rfl) rfl hAD (fun U hK => ns_write hK hN) ?_
    intro p e s m below meth c A args hA C hr hlk hnm
    refine sg0 C foX8 coX8 oX8_hiddenOver_0 rfl rfl hn ?_
    refine ni_y (ci := 1) C (fun H hH => (hx H hH).1) rfl kl_X8_167 (by decide) jX8_hiddenOver_1 ?_
    refine b1_eq (tgt := 74) C jX8_hiddenOver_4 (by decide) (fun h4 => ?_) (fun h4 => ?_)
    · exact absurd h4 (by decide)
    · refine sg0 C foX8 coX8 oX8_hiddenOver_7 rfl rfl hn ?_
      refine nc_y (ci := 1) C (fun H hH => (hx H hH).1) rfl kl_X8_167 (by decide) jX8_hiddenOver_8 ?_
      refine sg0 C foX8 coX8 oX8_hiddenOver_11 rfl rfl hn ?_
      refine b2_ge (tgt := 74) C jX8_hiddenOver_17 (by decide) (fun h17 => ?_) (fun h17 => ?_)
      · exact absurd h17 (by rw [show (16 : Int32) = nI 16 from rfl]; exact nI_ge (by omega) (by decide))
      · have hp1 : 0 < 2 ^ (15 - B) := Nat.two_pow_pos _
        have hp2 : 2 ^ (16 - B) = 2 * 2 ^ (15 - B) := by rw [show 16 - B = 15 - B + 1 by omega, Nat.pow_succ, Nat.mul_comm]
        refine sg0 C foX8 coX8 oX8_hiddenOver_20 rfl rfl hn ?_
        refine ng (ci := 1) (k := 3) (v := .ref (adr x + 100)) C (fun H hH => (hx H hH).1) rfl (by decide) fl_X8_199 (by rw [cv_raw C]; rfl) jX8_hiddenOver_22 ?_
        refine sg0 C foX8 coX8 oX8_hiddenOver_25 rfl rfl hn ?_
        refine ng (ci := 1) (k := 2) (v := .int (nI S)) C (fun H hH => (hx H hH).1) rfl (by decide) fl_X8_179 rfl jX8_hiddenOver_27 ?_
        refine sg0 C foX8 coX8 oX8_hiddenOver_30 rfl rfl hn ?_
        refine cl_v C (kX1_middle hAD hn hN (q := q) (B := B) (S := S) (fun H hH => (hx H hH).1) hB) (nrc C (fun H hH => (hx H hH).1) rfl) cd_X1_middle in_X1 ml_X8_210 im_X1_middle se_X1_middle hd_X1_middle rfl rfl ⟨by show 0 + 1 ≤ k + 1; omega, by show 8 + (1 + 11) + 40 * 0 ≤ 40 * (k + 1); omega⟩ ⟨(Nat.le_of_ble_eq_true rfl), (Nat.le_of_ble_eq_true rfl)⟩ (Nat.le_of_ble_eq_true rfl) jX8_hiddenOver_32 (fun v ws' => Wa.and (fun hv => ?_))
        obtain ⟨rfl, rfl⟩ := hv
        refine sg0 C foX8 coX8 oX8_hiddenOver_35 rfl rfl hn ?_
        rw [nI_1 d, show (1 : Int32) = nI 1 from rfl, pk_sub (show 1 ≤ S + 2 ^ (15 - B) by omega)]
        refine cl_s C (i1 (15 - B) (d + 1) N (S) (S + 2 ^ (15 - B) - 1) hfx (by omega) hN (fun H hH => (hx H hH).2.1) (by omega) (by omega)) cd_X8_hiddenOver in_X8 ml_X8_142 sm_X8_hiddenOver hd_X8_hiddenOver rfl rfl ⟨by show 15 - B + 1 + 1 ≤ k + 1; omega, by show 8 + (7 + 11) + 40 * (15 - B + 1) ≤ 40 * (k + 1); omega⟩ ⟨(Nat.le_of_ble_eq_true rfl), (Nat.le_of_ble_eq_true rfl)⟩ (Nat.le_of_ble_eq_true rfl) jX8_hiddenOver_44 (fun v ws' => Wa.and (fun hv => ?_))
        obtain ⟨rfl, rfl⟩ := hv
        refine sg0 C foX8 coX8 oX8_hiddenOver_47 rfl rfl hn ?_
        refine ng (ci := 1) (k := 4) (v := .ref (adr y + 100)) C (fun H hH => (hx H hH).1) rfl (by decide) fl_X8_202 (by rw [cv_raw C]; rfl) jX8_hiddenOver_49 ?_
        refine sg0 C foX8 coX8 oX8_hiddenOver_52 rfl rfl hn ?_
        refine cl_v C (kX1_middle hAD hn hN (q := q) (B := B) (S := S) (fun H hH => (hx H hH).1) hB) (nrc C (fun H hH => (hx H hH).1) rfl) cd_X1_middle in_X1 ml_X8_210 im_X1_middle se_X1_middle hd_X1_middle rfl rfl ⟨by show 0 + 1 ≤ k + 1; omega, by show 8 + (1 + 11) + 40 * 0 ≤ 40 * (k + 1); omega⟩ ⟨(Nat.le_of_ble_eq_true rfl), (Nat.le_of_ble_eq_true rfl)⟩ (Nat.le_of_ble_eq_true rfl) jX8_hiddenOver_54 (fun v ws' => Wa.and (fun hv => ?_))
        obtain ⟨rfl, rfl⟩ := hv
        refine sg0 C foX8 coX8 oX8_hiddenOver_57 rfl rfl hn ?_
        refine cl_v C (kX1_last hAD hn hN (q := q) (B := B) (S := S) (fun H hH => (hx H hH).1) hB) (nrc C (fun H hH => (hx H hH).1) rfl) cd_X1_last in_X1 ml_X8_214 im_X1_last se_X1_last hd_X1_last rfl rfl ⟨by show 0 + 1 ≤ k + 1; omega, by show 8 + (1 + 11) + 40 * 0 ≤ 40 * (k + 1); omega⟩ ⟨(Nat.le_of_ble_eq_true rfl), (Nat.le_of_ble_eq_true rfl)⟩ (Nat.le_of_ble_eq_true rfl) jX8_hiddenOver_59 (fun v ws' => Wa.and (fun hv => ?_))
        obtain ⟨rfl, rfl⟩ := hv
        refine sg0 C foX8 coX8 oX8_hiddenOver_62 rfl rfl hn ?_
        rw [nI_1 d]
        refine cl_s C (i2 (15 - B) (d + 1) N (S + 2 ^ (15 - B)) (S + 2 ^ (16 - B) - 1) hfy (by omega) hN (fun H hH => (hx H hH).2.2) (by omega) (by omega)) cd_X8_hiddenOver in_X8 ml_X8_142 sm_X8_hiddenOver hd_X8_hiddenOver rfl rfl ⟨by show 15 - B + 1 + 1 ≤ k + 1; omega, by show 8 + (7 + 11) + 40 * (15 - B + 1) ≤ 40 * (k + 1); omega⟩ ⟨(Nat.le_of_ble_eq_true rfl), (Nat.le_of_ble_eq_true rfl)⟩ (Nat.le_of_ble_eq_true rfl) jX8_hiddenOver_69 (fun v ws' => Wa.and (fun hv => ?_))
        obtain ⟨rfl, rfl⟩ := hv
        refine sg0 C foX8 coX8 oX8_hiddenOver_72 rfl rfl hn ?_
        exact rt_i C hr hlk jX8_hiddenOver_73 (fun H hN => ⟨⟨by rw [nI_add]; simp only [hidT], rfl⟩, hN⟩)
set_option maxRecDepth 100000 in
set_option maxHeartbeats 4000000 in
theorem kX8_leastFrom (hAD : AD ad n) (hn : ws.length = n) {a : Nat} (ha : a < 65536) (T : Term) (hT : isT T) : ∀ (k d : Nat) (N : Heap → Prop) (t : Nat), fitT (T) k → d + k ≤ 16 → NS D N → (∀ H, N H → nodeAt D H (T)) → t < 65536 → Ct l yX8_leastFrom cX8_leastFrom 6 (some .int) (rK (k + 1) 0 0) D ca ad ws n [.ref (adr (T) + 100), .int (nI t), .int (nI a), .int (nI d)] N (pG ws N (some (.int (lstT (T) t a)))) := by
  refine tr_ind (P := fun T => ∀ (k d : Nat) (N : Heap → Prop) (t : Nat), fitT (T) k → d + k ≤ 16 → NS D N → (∀ H, N H → nodeAt D H (T)) → t < 65536 → Ct l yX8_leastFrom cX8_leastFrom 6 (some .int) (rK (k + 1) 0 0) D ca ad ws n [.ref (adr (T) + 100), .int (nI t), .int (nI a), .int (nI d)] N (pG ws N (some (.int (lstT (T) t a))))) ?_ ?_ ?_ ?_ T hT
  · intro q k d N t hfit hdk hN hx ht1
    refine enter (lv := [(0, .ref (adr (tE q) + 100)), (1, .int (nI t)), (2, .int (nI a)), (3, .int (nI d))]) (by decide +kernel) (Nat.le_of_ble_eq_true rfl) rfl hAD (fun U hK => ns_write hK hN) ?_
    intro p e s m below meth c A args hA C hr hlk hnm
    refine sg0 C foX8 coX8 oX8_leastFrom_0 rfl rfl hn ?_
    refine ni_n (ci := 0) C (fun H hH => hx H hH) rfl kl_X8_167 (by decide) jX8_leastFrom_1 ?_
    refine b1_eq (tgt := 70) C jX8_leastFrom_4 (by decide) (fun h4 => ?_) (fun h4 => ?_)
    · refine sg0 C foX8 coX8 oX8_leastFrom_70 rfl rfl hn ?_
      refine ni_n (ci := 0) C (fun H hH => hx H hH) rfl kl_X8_65 (by decide) jX8_leastFrom_71 ?_
      refine b1_eq (tgt := 98) C jX8_leastFrom_74 (by decide) (fun h74 => ?_) (fun h74 => ?_)
      · refine sg0 C foX8 coX8 oX8_leastFrom_98 rfl rfl hn ?_
        refine ni_n (ci := 0) C (fun H hH => hx H hH) rfl kl_X8_134 (by decide) jX8_leastFrom_99 ?_
        refine b1_eq (tgt := 115) C jX8_leastFrom_102 (by decide) (fun h102 => ?_) (fun h102 => ?_)
        · refine sg0 C foX8 coX8 oX8_leastFrom_115 rfl rfl hn ?_
          exact rt_i C hr hlk jX8_leastFrom_117 (fun H hN => ⟨⟨by rfl, rfl⟩, hN⟩)
        · exact absurd h102 (by decide)
      · exact absurd h74 (by decide)
    · exact absurd h4 (by decide)
  · intro q d0 k d N t hfit hdk hN hx ht1
    refine enter (lv := [(0, .ref (adr (tH q d0) + 100)), (1, .int (nI t)), (2, .int (nI a)), (3, .int (nI d))]) (by decide +kernel) (Nat.le_of_ble_eq_true rfl) rfl hAD (fun U hK => ns_write hK hN) ?_
    intro p e s m below meth c A args hA C hr hlk hnm
    refine sg0 C foX8 coX8 oX8_leastFrom_0 rfl rfl hn ?_
    refine ni_n (ci := 2) C (fun H hH => hx H hH) rfl kl_X8_167 (by decide) jX8_leastFrom_1 ?_
    refine b1_eq (tgt := 70) C jX8_leastFrom_4 (by decide) (fun h4 => ?_) (fun h4 => ?_)
    · refine sg0 C foX8 coX8 oX8_leastFrom_70 rfl rfl hn ?_
      refine ni_n (ci := 2) C (fun H hH => hx H hH) rfl kl_X8_65 (by decide) jX8_leastFrom_71 ?_
      refine b1_eq (tgt := 98) C jX8_leastFrom_74 (by decide) (fun h74 => ?_) (fun h74 => ?_)
      · refine sg0 C foX8 coX8 oX8_leastFrom_98 rfl rfl hn ?_
        refine ni_y (ci := 2) C (fun H hH => hx H hH) rfl kl_X8_134 (by decide) jX8_leastFrom_99 ?_
        refine b1_eq (tgt := 115) C jX8_leastFrom_102 (by decide) (fun h102 => ?_) (fun h102 => ?_)
        · exact absurd h102 (by decide)
        · refine sg0 C foX8 coX8 oX8_leastFrom_105 rfl rfl hn ?_
          refine b2_lt (tgt := 115) C jX8_leastFrom_107 (by decide) (fun h107 => ?_) (fun h107 => ?_)
          · refine sg0 C foX8 coX8 oX8_leastFrom_115 rfl rfl hn ?_
            exact rt_i C hr hlk jX8_leastFrom_117 (fun H hN => ⟨⟨by simp only [lstT]; rw [if_neg (fun h => absurd h (Nat.not_le.mpr ((nI_ltI (by omega) (by omega)).mp h107)))], rfl⟩, hN⟩)
          · refine sg0 C foX8 coX8 oX8_leastFrom_110 rfl rfl hn ?_
            exact rt_i C hr hlk jX8_leastFrom_117 (fun H hN => ⟨⟨by simp only [lstT]; rw [if_pos (Nat.not_lt.mp fun h => h107 ((nI_ltI (by omega) (by omega)).mpr h))], rfl⟩, hN⟩)
      · exact absurd h74 (by decide)
    · exact absurd h4 (by decide)
  · intro q P v0 k d N t hfit hdk hN hx ht1
    have hP : P < 65536 := hfit
    refine enter (lv := [(0, .ref (adr (tL q P v0) + 100)), (1, .int (nI t)), (2, .int (nI a)), (3, .int (nI d))]) (by decide +kernel) (Nat.le_of_ble_eq_true rfl) rfl hAD (fun U hK => ns_write hK hN) ?_
    intro p e s m below meth c A args hA C hr hlk hnm
    refine sg0 C foX8 coX8 oX8_leastFrom_0 rfl rfl hn ?_
    refine ni_n (ci := 3) C (fun H hH => hx H hH) rfl kl_X8_167 (by decide) jX8_leastFrom_1 ?_
    refine b1_eq (tgt := 70) C jX8_leastFrom_4 (by decide) (fun h4 => ?_) (fun h4 => ?_)
    · refine sg0 C foX8 coX8 oX8_leastFrom_70 rfl rfl hn ?_
      refine ni_y (ci := 3) C (fun H hH => hx H hH) rfl kl_X8_65 (by decide) jX8_leastFrom_71 ?_
      refine b1_eq (tgt := 98) C jX8_leastFrom_74 (by decide) (fun h74 => ?_) (fun h74 => ?_)
      · exact absurd h74 (by decide)
      · refine sg0 C foX8 coX8 oX8_leastFrom_77 rfl rfl hn ?_
        refine nc_y (ci := 3) C (fun H hH => hx H hH) rfl kl_X8_65 (by decide) jX8_leastFrom_78 ?_
        refine sg0 C foX8 coX8 oX8_leastFrom_81 rfl rfl hn ?_
        refine ng (ci := 3) (k := 1) (v := .int (nI P)) C (fun H hH => hx H hH) rfl (by decide) fl_X8_136 rfl jX8_leastFrom_85 ?_
        refine sg0 C foX8 coX8 oX8_leastFrom_88 rfl rfl hn ?_
        refine b2_lt (tgt := 98) C jX8_leastFrom_89 (by decide) (fun h89 => ?_) (fun h89 => ?_)
        · refine sg0 C foX8 coX8 oX8_leastFrom_98 rfl rfl hn ?_
          refine ni_n (ci := 3) C (fun H hH => hx H hH) rfl kl_X8_134 (by decide) jX8_leastFrom_99 ?_
          refine b1_eq (tgt := 115) C jX8_leastFrom_102 (by decide) (fun h102 => ?_) (fun h102 => ?_)
          · refine sg0 C foX8 coX8 oX8_leastFrom_115 rfl rfl hn ?_
            exact rt_i C hr hlk jX8_leastFrom_117 (fun H hN => ⟨⟨by simp only [lstT]; rw [if_neg (fun h => absurd h (Nat.not_le.mpr ((nI_ltI (by omega) (by omega)).mp h89)))], rfl⟩, hN⟩)
          · exact absurd h102 (by decide)
        · refine sg0 C foX8 coX8 oX8_leastFrom_92 rfl rfl hn ?_
          refine ng (ci := 3) (k := 1) (v := .int (nI P)) C (fun H hH => hx H hH) rfl (by decide) fl_X8_136 rfl jX8_leastFrom_94 ?_
          exact rt_i C hr hlk jX8_leastFrom_97 (fun H hN => ⟨⟨by simp only [lstT]; rw [if_pos (Nat.not_lt.mp fun h => h89 ((nI_ltI (by omega) (by omega)).mpr h))], rfl⟩, hN⟩)
    · exact absurd h4 (by decide)
  · intro q B S x y hT1 hT2 i1 i2 k d N t hfit hdk hN hx ht1
    obtain ⟨⟨hB, hkB, hS, hstm⟩, hfx, hfy⟩ := fitF hfit
    have hS2 := fitF2 hfit
    refine enter (lv := [(0, .ref (adr (tF q B S x y) + 100)), (1, .int (nI t)), (2, .int (nI a)), (3, .int (nI d))]) (by decide +kernel) (Nat.le_of_ble_eq_true rfl) rfl hAD (fun U hK => ns_write hK hN) ?_
    intro p e s m below meth c A args hA C hr hlk hnm
    refine sg0 C foX8 coX8 oX8_leastFrom_0 rfl rfl hn ?_
    refine ni_y (ci := 1) C (fun H hH => (hx H hH).1) rfl kl_X8_167 (by decide) jX8_leastFrom_1 ?_
    refine b1_eq (tgt := 70) C jX8_leastFrom_4 (by decide) (fun h4 => ?_) (fun h4 => ?_)
    · exact absurd h4 (by decide)
    · refine sg0 C foX8 coX8 oX8_leastFrom_7 rfl rfl hn ?_
      refine nc_y (ci := 1) C (fun H hH => (hx H hH).1) rfl kl_X8_167 (by decide) jX8_leastFrom_8 ?_
      refine sg0 C foX8 coX8 oX8_leastFrom_11 rfl rfl hn ?_
      refine b2_ge (tgt := 70) C jX8_leastFrom_16 (by decide) (fun h16 => ?_) (fun h16 => ?_)
      · exact absurd h16 (by rw [show (16 : Int32) = nI 16 from rfl]; exact nI_ge (by omega) (by decide))
      · have hp1 : 0 < 2 ^ (15 - B) := Nat.two_pow_pos _
        have hp2 : 2 ^ (16 - B) = 2 * 2 ^ (15 - B) := by rw [show 16 - B = 15 - B + 1 by omega, Nat.pow_succ, Nat.mul_comm]
        refine sg0 C foX8 coX8 oX8_leastFrom_19 rfl rfl hn ?_
        refine ng (ci := 1) (k := 3) (v := .ref (adr x + 100)) C (fun H hH => (hx H hH).1) rfl (by decide) fl_X8_199 (by rw [cv_raw C]; rfl) jX8_leastFrom_21 ?_
        refine sg0 C foX8 coX8 oX8_leastFrom_24 rfl rfl hn ?_
        refine cl_v C (kX1_middle hAD hn hN (q := q) (B := B) (S := S) (fun H hH => (hx H hH).1) hB) (nrc C (fun H hH => (hx H hH).1) rfl) cd_X1_middle in_X1 ml_X8_210 im_X1_middle se_X1_middle hd_X1_middle rfl rfl ⟨by show 0 + 1 ≤ k + 1; omega, by show 8 + (1 + 11) + 40 * 0 ≤ 40 * (k + 1); omega⟩ ⟨(Nat.le_of_ble_eq_true rfl), (Nat.le_of_ble_eq_true rfl)⟩ (Nat.le_of_ble_eq_true rfl) jX8_leastFrom_26 (fun v ws' => Wa.and (fun hv => ?_))
        obtain ⟨rfl, rfl⟩ := hv
        refine sg0 C foX8 coX8 oX8_leastFrom_29 rfl rfl hn ?_
        rw [nI_1 d, show (1 : Int32) = nI 1 from rfl, pk_sub (show 1 ≤ S + 2 ^ (15 - B) by omega)]
        refine cl_s C (i1 (15 - B) (d + 1) N (S + 2 ^ (15 - B) - 1) hfx (by omega) hN (fun H hH => (hx H hH).2.1) (by omega)) cd_X8_leastFrom in_X8 ml_X8_146 sm_X8_leastFrom hd_X8_leastFrom rfl rfl ⟨by show 15 - B + 1 + 1 ≤ k + 1; omega, by show 8 + (6 + 11) + 40 * (15 - B + 1) ≤ 40 * (k + 1); omega⟩ ⟨(Nat.le_of_ble_eq_true rfl), (Nat.le_of_ble_eq_true rfl)⟩ (Nat.le_of_ble_eq_true rfl) jX8_leastFrom_35 (fun v ws' => Wa.and (fun hv => ?_))
        obtain ⟨rfl, rfl⟩ := hv
        refine sg0 C foX8 coX8 oX8_leastFrom_38 rfl rfl hn ?_
        refine b2_ne (tgt := 67) C jX8_leastFrom_44 (by decide) (fun h44 => ?_) (fun h44 => ?_)
        · refine sg0 C foX8 coX8 oX8_leastFrom_67 rfl rfl hn ?_
          exact rt_i C hr hlk jX8_leastFrom_69 (fun H hN => ⟨⟨by simp only [lstT]; rw [if_neg h44], rfl⟩, hN⟩)
        · refine sg0 C foX8 coX8 oX8_leastFrom_47 rfl rfl hn ?_
          refine ng (ci := 1) (k := 4) (v := .ref (adr y + 100)) C (fun H hH => (hx H hH).1) rfl (by decide) fl_X8_202 (by rw [cv_raw C]; rfl) jX8_leastFrom_49 ?_
          refine sg0 C foX8 coX8 oX8_leastFrom_52 rfl rfl hn ?_
          refine cl_v C (kX1_last hAD hn hN (q := q) (B := B) (S := S) (fun H hH => (hx H hH).1) hB) (nrc C (fun H hH => (hx H hH).1) rfl) cd_X1_last in_X1 ml_X8_214 im_X1_last se_X1_last hd_X1_last rfl rfl ⟨by show 0 + 1 ≤ k + 1; omega, by show 8 + (1 + 11) + 40 * 0 ≤ 40 * (k + 1); omega⟩ ⟨(Nat.le_of_ble_eq_true rfl), (Nat.le_of_ble_eq_true rfl)⟩ (Nat.le_of_ble_eq_true rfl) jX8_leastFrom_54 (fun v ws' => Wa.and (fun hv => ?_))
          obtain ⟨rfl, rfl⟩ := hv
          refine sg0 C foX8 coX8 oX8_leastFrom_57 rfl rfl hn ?_
          rw [nI_1 d]
          refine cl_s C (i2 (15 - B) (d + 1) N (S + 2 ^ (16 - B) - 1) hfy (by omega) hN (fun H hH => (hx H hH).2.2) (by omega)) cd_X8_leastFrom in_X8 ml_X8_146 sm_X8_leastFrom hd_X8_leastFrom rfl rfl ⟨by show 15 - B + 1 + 1 ≤ k + 1; omega, by show 8 + (6 + 11) + 40 * (15 - B + 1) ≤ 40 * (k + 1); omega⟩ ⟨(Nat.le_of_ble_eq_true rfl), (Nat.le_of_ble_eq_true rfl)⟩ (Nat.le_of_ble_eq_true rfl) jX8_leastFrom_61 (fun v ws' => Wa.and (fun hv => ?_))
          obtain ⟨rfl, rfl⟩ := hv
          refine sg0 C foX8 coX8 oX8_leastFrom_64 rfl rfl hn ?_
          exact rt_i C hr hlk jX8_leastFrom_69 (fun H hN => ⟨⟨by simp only [lstT]; rw [if_pos h44], rfl⟩, hN⟩)
end
end
section
/-! ways, writing and erasing in trees -/
def lfT : Term → Nat → Bool
  | .add (.arg _) (.elem (.arg p) (.long _)), P => decide (p = P)
  | _, _ => false
theorem isF_at {D : va_G} {H : Heap} {T : Term} (h : nodeAt D H T) : (isF T = true ∧ ∃ fs, va_at D vwCl (adr T, .inr (1, fs)) H) ∨ (isF T = false ∧ ∃ (ci : Nat) (r : vw_C) (fs : List Value), vwCl[ci]? = some r ∧ (r.1, "PathProofs$Fork") ∈ notL ∧ va_at D vwCl (adr T, .inr (ci, fs)) H) := by
  have hT := nodeAt.T T h
  revert h
  refine tr_ind (P := fun T => nodeAt D H T → (isF T = true ∧ ∃ fs, va_at D vwCl (adr T, .inr (1, fs)) H) ∨ (isF T = false ∧ ∃ (ci : Nat) (r : vw_C) (fs : List Value), vwCl[ci]? = some r ∧ (r.1, "PathProofs$Fork") ∈ notL ∧ va_at D vwCl (adr T, .inr (ci, fs)) H)) ?_ ?_ ?_ ?_ T hT
  · exact fun q h => Or.inr ⟨rfl, 0, _, _, rfl, by decide, h⟩
  · exact fun q d h => Or.inr ⟨rfl, 2, _, _, rfl, by decide, h⟩
  · exact fun q p v h => Or.inr ⟨rfl, 3, _, _, rfl, by decide, h⟩
  · exact fun q B S x y _ _ _ _ h => Or.inl ⟨rfl, _, h.1⟩
section
variable {p : Program} {l : Launch} {e : Env} {R : Room} {s : State} {m : MethodId} {args : Array Value} {below : List Frame} {meth : Method} {c : Code} {cells slots : Nat} {Q : State → Prop} {cc : ByteArray} {nL n : Nat} {own : String} {D : va_G} {ca : Nat → ClassId} {ad : Nat → Nat} {A : Nat → Prop} {N : Heap → Prop}
/-- instanceof Fork, of any node -/
theorem ni_F (C : Cx p s m args c cc nL own D ca ad A N n) {T : Term} {idx pc : Nat} {lv : List (Nat × Value)} {st : List Value} {ws : List va_E} (hx : ∀ H, N H → nodeAt D H T) (hkl : Cond.classLink own idx RX1 ∈ tb) (hdg : decode cc pc = .ok (.instanceof idx, 3))
    (kk : Wa p l e R s m args below meth c cells slots Q D ca ad A nL N (lv, .int (if isF T = true then 1 else 0) :: st, ws) (pc + 3)) : Wa p l e R s m args below meth c cells slots Q D ca ad A nL N (lv, .ref (adr T + 100) :: st, ws) pc := by
  intro H locs ls h1 h2 h3 h4
  have k2 := kk H locs ls h1 h2 h3 h4
  have hr := C.2.2.2.1.2 (adr T)
  show W p l e R s m args below meth c H locs cells slots Q (F0 m pc ls (.ref (ad (adr T + 100)) :: st.map (cv ad)))
  rcases isF_at (hx H h4) with ⟨e1, fs, g⟩ | ⟨e1, ci, r, fs, g1, g2, g⟩
  · rw [if_pos e1] at k2
    obtain ⟨r2, b1, cell, b2, b3, b4, -⟩ := g
    exact va_instY (C := RX1) (nm := RX1) C.1.1 C.1.2.1 C.1.2.2.2.1 (C.1.2.2.2.2 _ hkl) (C.2.1.2.2.1 (RX1, RX1) (by decide)) ⟨cell, by rw [hr]; exact b2, by rw [b4]; rfl, by rw [b3]; exact (C.2.1.1.1 1 _ rfl).2.1⟩ hdg k2
  · rw [if_neg (by rw [e1]; decide)] at k2
    obtain ⟨r2, b1, cell, b2, b3, b4, -⟩ := g
    exact va_instNo (C := r.1) (nm := RX1) C.1.1 C.1.2.1 C.1.2.2.2.1 (C.1.2.2.2.2 _ hkl) (C.2.1.2.2.2.1 (r.1, RX1) g2) ⟨cell, by rw [hr]; exact b2, by rw [b4]; rfl, by rw [b3]; exact (C.2.1.1.1 ci r g1).2.1⟩ hdg k2
end
theorem lf_ne {P p : Nat} (hP : P < 65536) (hp : p < 65536) (h : ¬ nI p = nI P) : ¬ p = P := fun e1 => h (by rw [e1])
theorem lf_eq {P p : Nat} (hP : P < 65536) (hp : p < 65536) (h : nI p = nI P) : p = P := (nI_eq (by omega) (by omega)).mp h
section
variable {l : Launch} {D : va_G} {ca : Nat → ClassId} {ad : Nat → Nat} {ws : List va_E} {n : Nat}
set_option maxRecDepth 100000 in
set_option maxHeartbeats 4000000 in
theorem kX8_isLeafOf (hAD : AD ad n) (hn : ws.length = n) {P0 : Nat} (hP0 : P0 < 65536) (T : Term) (hT : isT T) : ∀ (k d : Nat) (N : Heap → Prop), fitT (T) k → d + k ≤ 16 → NS D N → (∀ H, N H → nodeAt D H (T)) → Ct l yX8_isLeafOf cX8_isLeafOf 3 (some .boolean) (rK (k + 1) 0 0) D ca ad ws n [.ref (adr (T) + 100), .int (nI P0)] N (pG ws N (some (.int (if lfT (T) P0 = true then 1 else 0)))) := by
  refine tr_ind (P := fun T => ∀ (k d : Nat) (N : Heap → Prop), fitT (T) k → d + k ≤ 16 → NS D N → (∀ H, N H → nodeAt D H (T)) → Ct l yX8_isLeafOf cX8_isLeafOf 3 (some .boolean) (rK (k + 1) 0 0) D ca ad ws n [.ref (adr (T) + 100), .int (nI P0)] N (pG ws N (some (.int (if lfT (T) P0 = true then 1 else 0))))) ?_ ?_ ?_ ?_ T hT
  · intro q k d N  hfit hdk hN hx
    refine enter (lv := [(0, .ref (adr (tE q) + 100)), (1, .int (nI P0))]) (by decide +kernel) (Nat.le_of_ble_eq_true rfl) rfl hAD (fun U hK => ns_write hK hN) ?_
    intro p e s m below meth c A args hA C hr hlk hnm
    refine sg0 C foX8 coX8 oX8_isLeafOf_0 rfl rfl hn ?_
    refine ni_n (ci := 0) C (fun H hH => hx H hH) rfl kl_X8_65 (by decide) jX8_isLeafOf_1 ?_
    refine b1_eq (tgt := 24) C jX8_isLeafOf_4 (by decide) (fun h4 => ?_) (fun h4 => ?_)
    · refine sg0 C foX8 coX8 oX8_isLeafOf_24 rfl rfl hn ?_
      exact rt_z C hr hlk (by decide) jX8_isLeafOf_25 (fun H hN => ⟨⟨by rfl, rfl⟩, hN⟩)
    · exact absurd h4 (by decide)
  · intro q d0 k d N  hfit hdk hN hx
    refine enter (lv := [(0, .ref (adr (tH q d0) + 100)), (1, .int (nI P0))]) (by decide +kernel) (Nat.le_of_ble_eq_true rfl) rfl hAD (fun U hK => ns_write hK hN) ?_
    intro p e s m below meth c A args hA C hr hlk hnm
    refine sg0 C foX8 coX8 oX8_isLeafOf_0 rfl rfl hn ?_
    refine ni_n (ci := 2) C (fun H hH => hx H hH) rfl kl_X8_65 (by decide) jX8_isLeafOf_1 ?_
    refine b1_eq (tgt := 24) C jX8_isLeafOf_4 (by decide) (fun h4 => ?_) (fun h4 => ?_)
    · refine sg0 C foX8 coX8 oX8_isLeafOf_24 rfl rfl hn ?_
      exact rt_z C hr hlk (by decide) jX8_isLeafOf_25 (fun H hN => ⟨⟨by rfl, rfl⟩, hN⟩)
    · exact absurd h4 (by decide)
  · intro q P v0 k d N  hfit hdk hN hx
    have hP : P < 65536 := hfit
    refine enter (lv := [(0, .ref (adr (tL q P v0) + 100)), (1, .int (nI P0))]) (by decide +kernel) (Nat.le_of_ble_eq_true rfl) rfl hAD (fun U hK => ns_write hK hN) ?_
    intro p e s m below meth c A args hA C hr hlk hnm
    refine sg0 C foX8 coX8 oX8_isLeafOf_0 rfl rfl hn ?_
    refine ni_y (ci := 3) C (fun H hH => hx H hH) rfl kl_X8_65 (by decide) jX8_isLeafOf_1 ?_
    refine b1_eq (tgt := 24) C jX8_isLeafOf_4 (by decide) (fun h4 => ?_) (fun h4 => ?_)
    · exact absurd h4 (by decide)
    · refine sg0 C foX8 coX8 oX8_isLeafOf_7 rfl rfl hn ?_
      refine nc_y (ci := 3) C (fun H hH => hx H hH) rfl kl_X8_65 (by decide) jX8_isLeafOf_8 ?_
      refine sg0 C foX8 coX8 oX8_isLeafOf_11 rfl rfl hn ?_
      refine ng (ci := 3) (k := 1) (v := .int (nI P)) C (fun H hH => hx H hH) rfl (by decide) fl_X8_136 rfl jX8_isLeafOf_13 ?_
      refine sg0 C foX8 coX8 oX8_isLeafOf_16 rfl rfl hn ?_
      refine b2_ne (tgt := 24) C jX8_isLeafOf_17 (by decide) (fun h17 => ?_) (fun h17 => ?_)
      · refine sg0 C foX8 coX8 oX8_isLeafOf_24 rfl rfl hn ?_
        exact rt_z C hr hlk (by decide) jX8_isLeafOf_25 (fun H hN => ⟨⟨by rw [if_neg (show ¬ lfT (tL q P v0) P0 = true by simp only [lfT, decide_eq_true_eq]; exact lf_ne hP0 hP h17)], rfl⟩, hN⟩)
      · refine sg0 C foX8 coX8 oX8_isLeafOf_20 rfl rfl hn ?_
        exact rt_z C hr hlk (by decide) jX8_isLeafOf_25 (fun H hN => ⟨⟨by rw [if_pos (show lfT (tL q P v0) P0 = true by simp only [lfT, decide_eq_true_eq]; exact lf_eq hP0 hP h17)], rfl⟩, hN⟩)
  · intro q B S x y hT1 hT2 i1 i2 k d N  hfit hdk hN hx
    obtain ⟨⟨hB, hkB, hS, hstm⟩, hfx, hfy⟩ := fitF hfit
    have hS2 := fitF2 hfit
    refine enter (lv := [(0, .ref (adr (tF q B S x y) + 100)), (1, .int (nI P0))]) (by decide +kernel) (Nat.le_of_ble_eq_true rfl) rfl hAD (fun U hK => ns_write hK hN) ?_
    intro p e s m below meth c A args hA C hr hlk hnm
    refine sg0 C foX8 coX8 oX8_isLeafOf_0 rfl rfl hn ?_
    refine ni_n (ci := 1) C (fun H hH => (hx H hH).1) rfl kl_X8_65 (by decide) jX8_isLeafOf_1 ?_
    refine b1_eq (tgt := 24) C jX8_isLeafOf_4 (by decide) (fun h4 => ?_) (fun h4 => ?_)
    · refine sg0 C foX8 coX8 oX8_isLeafOf_24 rfl rfl hn ?_
      exact rt_z C hr hlk (by decide) jX8_isLeafOf_25 (fun H hN => ⟨⟨by rfl, rfl⟩, hN⟩)
    · exact absurd h4 (by decide)
end
section
variable {p : Program} {l : Launch} {e : Env} {R : Room} {s : State} {m : MethodId} {args : Array Value} {below : List Frame} {meth : Method} {c : Code} {cells slots : Nat} {D : va_G} {ca : Nat → ClassId} {ad : Nat → Nat} {A : Nat → Prop} {N : Heap → Prop} {ws : List va_E} {n : Nat}
set_option maxRecDepth 100000 in
set_option maxHeartbeats 4000000 in
theorem lp_endOfWay (C : Cx p s m args c cX8_endOfWay 5 RX8 D ca ad A N n) (hr : meth.sig.returnType = some (.object "PathProofs$Node")) (hlk : meth.locks = false) (hAD : AD ad n) (hn : ws.length = n) (hN : NS D N) {G : Option Value → List va_E → Heap → Prop} {q0 P : Nat} (hP : P < 65536) (hR : 2 ≤ R.frames ∧ 80 ≤ R.locals ∧ cells ≤ R.cells ∧ slots ≤ R.slots) (T : Term) (hT : isT T) : ∀ (k d : Nat), fitT (T) k → d + k ≤ 16 → (∀ H, N H → nodeAt D H (T)) → (∀ H, N H → G (some (.ref (adr (wayT (T) P) + 100))) ws H) → Wa p l e R s m args below meth c cells slots (MQ below (CQ D ca ad G A) args s cells slots A) D ca ad A 5 N ([(0, .ref (q0 + 100)), (1, .int (nI P)), (2, .ref (adr (T) + 100)), (3, .int (nI d))], [], ws) 4 := by
  obtain ⟨hR1, hR2, hR3, hR4⟩ := hR
  refine tr_ind (P := fun T => ∀ (k d : Nat), fitT (T) k → d + k ≤ 16 → (∀ H, N H → nodeAt D H (T)) → (∀ H, N H → G (some (.ref (adr (wayT (T) P) + 100))) ws H) → Wa p l e R s m args below meth c cells slots (MQ below (CQ D ca ad G A) args s cells slots A) D ca ad A 5 N ([(0, .ref (q0 + 100)), (1, .int (nI P)), (2, .ref (adr (T) + 100)), (3, .int (nI d))], [], ws) 4) ?_ ?_ ?_ ?_ T hT
  · intro q k d hfit hdk hx hG
    refine sg0 C foX8 coX8 oX8_endOfWay_4 rfl rfl hn ?_
    refine b2_ge (tgt := 50) C jX8_endOfWay_7 (by decide) (fun h7 => ?_) (fun h7 => ?_)
    · refine sg0 C foX8 coX8 oX8_endOfWay_50 rfl rfl hn ?_
      exact rt_a C hr (Or.inl ⟨_, rfl⟩) hlk jX8_endOfWay_51 hG
    · refine sg0 C foX8 coX8 oX8_endOfWay_10 rfl rfl hn ?_
      refine ni_n (ci := 0) C (fun H hH => hx H hH) rfl kl_X8_167 (by decide) jX8_endOfWay_11 ?_
      refine b1_eq (tgt := 42) C jX8_endOfWay_14 (by decide) (fun h14 => ?_) (fun h14 => ?_)
      · refine sg0 C foX8 coX8 oX8_endOfWay_42 rfl rfl hn ?_
        exact rt_a C hr (Or.inl ⟨_, rfl⟩) hlk jX8_endOfWay_43 hG
      · exact absurd h14 (by decide)
  · intro q d0 k d hfit hdk hx hG
    refine sg0 C foX8 coX8 oX8_endOfWay_4 rfl rfl hn ?_
    refine b2_ge (tgt := 50) C jX8_endOfWay_7 (by decide) (fun h7 => ?_) (fun h7 => ?_)
    · refine sg0 C foX8 coX8 oX8_endOfWay_50 rfl rfl hn ?_
      exact rt_a C hr (Or.inl ⟨_, rfl⟩) hlk jX8_endOfWay_51 hG
    · refine sg0 C foX8 coX8 oX8_endOfWay_10 rfl rfl hn ?_
      refine ni_n (ci := 2) C (fun H hH => hx H hH) rfl kl_X8_167 (by decide) jX8_endOfWay_11 ?_
      refine b1_eq (tgt := 42) C jX8_endOfWay_14 (by decide) (fun h14 => ?_) (fun h14 => ?_)
      · refine sg0 C foX8 coX8 oX8_endOfWay_42 rfl rfl hn ?_
        exact rt_a C hr (Or.inl ⟨_, rfl⟩) hlk jX8_endOfWay_43 hG
      · exact absurd h14 (by decide)
  · intro q P v0 k d hfit hdk hx hG
    refine sg0 C foX8 coX8 oX8_endOfWay_4 rfl rfl hn ?_
    refine b2_ge (tgt := 50) C jX8_endOfWay_7 (by decide) (fun h7 => ?_) (fun h7 => ?_)
    · refine sg0 C foX8 coX8 oX8_endOfWay_50 rfl rfl hn ?_
      exact rt_a C hr (Or.inl ⟨_, rfl⟩) hlk jX8_endOfWay_51 hG
    · refine sg0 C foX8 coX8 oX8_endOfWay_10 rfl rfl hn ?_
      refine ni_n (ci := 3) C (fun H hH => hx H hH) rfl kl_X8_167 (by decide) jX8_endOfWay_11 ?_
      refine b1_eq (tgt := 42) C jX8_endOfWay_14 (by decide) (fun h14 => ?_) (fun h14 => ?_)
      · refine sg0 C foX8 coX8 oX8_endOfWay_42 rfl rfl hn ?_
        exact rt_a C hr (Or.inl ⟨_, rfl⟩) hlk jX8_endOfWay_43 hG
      · exact absurd h14 (by decide)
  · intro q B S x y hT1 hT2 i1 i2 k d hfit hdk hx hG
    obtain ⟨⟨hB, hkB, hS, hstm⟩, hfx, hfy⟩ := fitF hfit
    have hS2 := fitF2 hfit
    refine sg0 C foX8 coX8 oX8_endOfWay_4 rfl rfl hn ?_
    refine b2_ge (tgt := 50) C jX8_endOfWay_7 (by decide) (fun h7 => ?_) (fun h7 => ?_)
    · exact absurd h7 (by rw [show (16 : Int32) = nI 16 from rfl]; exact nI_ge (by omega) (by decide))
    · refine sg0 C foX8 coX8 oX8_endOfWay_10 rfl rfl hn ?_
      refine ni_y (ci := 1) C (fun H hH => (hx H hH).1) rfl kl_X8_167 (by decide) jX8_endOfWay_11 ?_
      refine b1_eq (tgt := 42) C jX8_endOfWay_14 (by decide) (fun h14 => ?_) (fun h14 => ?_)
      · exact absurd h14 (by decide)
      · refine sg0 C foX8 coX8 oX8_endOfWay_17 rfl rfl hn ?_
        refine nc_y (ci := 1) C (fun H hH => (hx H hH).1) rfl kl_X8_167 (by decide) jX8_endOfWay_18 ?_
        refine sg0 C foX8 coX8 oX8_endOfWay_21 rfl rfl hn ?_
        refine cl_v C (kX1_takesIn hAD hn hN (q := q) (B := B) (S := S) (fun H hH => (hx H hH).1) hP hB hS2) (nrc C (fun H hH => (hx H hH).1) rfl) cd_X1_takesIn in_X1 ml_X8_169 im_X1_takesIn se_X1_takesIn hd_X1_takesIn rfl rfl ⟨by show 1 + 1 ≤ R.frames; omega, by show 8 + (2 + 11) + 40 * 1 ≤ R.locals; omega⟩ ⟨by show cells + 0 ≤ R.cells; omega, by show slots + 0 ≤ R.slots; omega⟩ (Nat.le_of_ble_eq_true rfl) jX8_endOfWay_26 (fun v ws' => Wa.and (fun hv => ?_))
        obtain ⟨rfl, rfl⟩ := hv
        refine b1_eq (tgt := 42) C jX8_endOfWay_29 (by decide) (fun h29 => ?_) (fun h29 => ?_)
        · have hst : ¬ stm P B = S := fun e1 => by rw [if_pos e1] at h29; exact absurd h29 (by decide)
          refine sg0 C foX8 coX8 oX8_endOfWay_42 rfl rfl hn ?_
          exact rt_a C hr (Or.inl ⟨_, rfl⟩) hlk jX8_endOfWay_43 (fun H hH => by have h9 := hG H hH; rw [show wayT (tF q B S x y) P = tF q B S x y by simp only [wayT]; rw [if_neg hst]] at h9; exact h9)
        · have hst : stm P B = S := Decidable.byContradiction fun e1 => h29 (if_neg e1)
          refine sg0 C foX8 coX8 oX8_endOfWay_32 rfl rfl hn ?_
          refine cl_v C (kX1_toward hAD hn hN (q := q) (B := B) (S := S) (fun H hH => (hx H hH).1) hP hB) (nrc C (fun H hH => (hx H hH).1) rfl) cd_X1_toward in_X1 ml_X8_172 im_X1_toward se_X1_toward hd_X1_toward rfl rfl ⟨by show 1 + 1 ≤ R.frames; omega, by show 8 + (2 + 11) + 40 * 1 ≤ R.locals; omega⟩ ⟨by show cells + 0 ≤ R.cells; omega, by show slots + 0 ≤ R.slots; omega⟩ (Nat.le_of_ble_eq_true rfl) jX8_endOfWay_35 (fun v ws' => Wa.and (fun hv => ?_))
          obtain ⟨rfl, rfl⟩ := hv
          refine sg0 C foX8 coX8 oX8_endOfWay_38 rfl rfl hn ?_
          refine sg0 C foX8 coX8 oX8_endOfWay_44 rfl rfl hn ?_
          by_cases hb : bitA P B = 1
          · rw [if_pos hb, nI_1]
            refine Wa.lvp [0, 1, 2, 3] rfl (i2 (15 - B) (d + 1) hfy (by omega) (fun H hH => (hx H hH).2.2) (fun H hH => ?_))
            have h9 := hG H hH
            rw [show wayT (tF q B S x y) P = wayT y P by simp only [wayT]; rw [if_pos hst, if_pos hb]] at h9
            exact h9
          · rw [if_neg hb, nI_1]
            refine Wa.lvp [0, 1, 2, 3] rfl (i1 (15 - B) (d + 1) hfx (by omega) (fun H hH => (hx H hH).2.1) (fun H hH => ?_))
            have h9 := hG H hH
            rw [show wayT (tF q B S x y) P = wayT x P by simp only [wayT]; rw [if_pos hst, if_neg hb]] at h9
            exact h9
end
section
variable {l : Launch} {D : va_G} {ca : Nat → ClassId} {ad : Nat → Nat} {ws : List va_E} {n : Nat} {N : Heap → Prop}
set_option maxRecDepth 100000 in
set_option maxHeartbeats 4000000 in
theorem kX8_endOfWay (hAD : AD ad n) (hn : ws.length = n) (hN : NS D N) {T : Term} (hfit : fitT T 16) (hx : ∀ H, N H → nodeAt D H T) {P : Nat} (hP : P < 65536) : Ct l yX8_endOfWay cX8_endOfWay 5 (some (.object "PathProofs$Node")) (rK 2 0 0) D ca ad ws n [.ref (adr T + 100), .int (nI P)] N (pG ws N (some (.ref (adr (wayT T P) + 100)))) := by
  refine enter (lv := [(0, .ref (adr T + 100)), (1, .int (nI P))]) (by decide +kernel) (Nat.le_of_ble_eq_true rfl) rfl hAD (fun U hK => ns_write hK hN) ?_
  intro p e s m below meth c A args hA C hr hlk hnm
  refine sg0 C foX8 coX8 oX8_endOfWay_0 rfl rfl hn ?_
  exact lp_endOfWay C hr hlk hAD hn hN hP ⟨(Nat.le_of_ble_eq_true rfl), (Nat.le_of_ble_eq_true rfl), (Nat.le_of_ble_eq_true rfl), (Nat.le_of_ble_eq_true rfl)⟩ T (fit_T T _ hfit) 16 0 hfit (by decide) hx (fun H hH => ⟨⟨rfl, rfl⟩, hH⟩)
set_option maxRecDepth 100000 in
set_option maxHeartbeats 4000000 in
theorem kX8_forkOf (hAD : AD ad n) (hn : ws.length = n) (hN : NS D N) (hww : ws.all nno = true) {T : Term} {ql P pn : Nat} {v : Int64} (hx : ∀ H, N H → nodeAt D H T) (hl : ∀ H, N H → nodeAt D H (tL ql P v)) (hP : P < 65536) (hpn : pn < 65536) (hne : pn ≠ P) : Ct l yX8_forkOf cX8_forkOf 5 (some (.object "PathProofs$Node")) (rK 3 1 5) D ca ad ws n [.ref (adr T + 100), .int (nI pn), .ref (ql + 100)] N (nG D ws N (fun T2 => strp T2 = strp (fkT T pn P (tL ql P v)))) := by
  have hfb := fbit_spec hpn hP hne
  refine enter (lv := [(0, .ref (adr T + 100)), (1, .int (nI pn)), (2, .ref (ql + 100))]) (by decide +kernel) (Nat.le_of_ble_eq_true rfl) rfl hAD (fun U hK => ns_write hK hN) ?_
  intro p e s m below meth c A args hA C hr hlk hnm
  refine sg0 C foX8 coX8 oX8_forkOf_0 rfl rfl hn ?_
  refine ng (ci := 3) (k := 1) (v := .int (nI P)) C (fun H hH => hl H hH) rfl (by decide) fl_X8_136 rfl jX8_forkOf_2 ?_
  refine cl_s C (kX8_firstOtherBit hAD hn hN hpn hP) cd_X8_firstOtherBit in_X8 ml_X8_186 sm_X8_firstOtherBit hd_X8_firstOtherBit rfl rfl ⟨(Nat.le_of_ble_eq_true rfl), (Nat.le_of_ble_eq_true rfl)⟩ ⟨(Nat.le_of_ble_eq_true rfl), (Nat.le_of_ble_eq_true rfl)⟩ (Nat.le_of_ble_eq_true rfl) jX8_forkOf_5 (fun v ws' => Wa.and (fun hv => ?_))
  obtain ⟨rfl, rfl⟩ := hv
  refine sg0 C foX8 coX8 oX8_forkOf_8 rfl rfl hn ?_
  refine ng (ci := 3) (k := 1) (v := .int (nI P)) C (fun H hH => hl H hH) rfl (by decide) fl_X8_136 rfl jX8_forkOf_10 ?_
  refine sg0 C foX8 coX8 oX8_forkOf_13 rfl rfl hn ?_
  refine cl_s C (kX8_stemOf hAD hn hN hP (show fbit pn P ≤ 16 by omega)) cd_X8_stemOf in_X8 ml_X8_190 sm_X8_stemOf hd_X8_stemOf rfl rfl ⟨(Nat.le_of_ble_eq_true rfl), (Nat.le_of_ble_eq_true rfl)⟩ ⟨(Nat.le_of_ble_eq_true rfl), (Nat.le_of_ble_eq_true rfl)⟩ (Nat.le_of_ble_eq_true rfl) jX8_forkOf_14 (fun v ws' => Wa.and (fun hv => ?_))
  obtain ⟨rfl, rfl⟩ := hv
  refine sg0 C foX8 coX8 oX8_forkOf_17 rfl rfl hn ?_
  refine ng (ci := 3) (k := 1) (v := .int (nI P)) C (fun H hH => hl H hH) rfl (by decide) fl_X8_136 rfl jX8_forkOf_20 ?_
  refine sg0 C foX8 coX8 oX8_forkOf_23 rfl rfl hn ?_
  refine cl_s C (kX8_isHigh hAD hn hN hP hfb.1) cd_X8_isHigh in_X8 ml_X8_152 sm_X8_isHigh hd_X8_isHigh rfl rfl ⟨(Nat.le_of_ble_eq_true rfl), (Nat.le_of_ble_eq_true rfl)⟩ ⟨(Nat.le_of_ble_eq_true rfl), (Nat.le_of_ble_eq_true rfl)⟩ (Nat.le_of_ble_eq_true rfl) jX8_forkOf_24 (fun v ws' => Wa.and (fun hv => ?_))
  obtain ⟨rfl, rfl⟩ := hv
  refine b1_eq (tgt := 43) C jX8_forkOf_27 (by decide) (fun h27 => ?_) (fun h27 => ?_)
  · refine nw (ci := 1) (fs := [.long 0, .int 0, .int 0, .null, .null]) C hN rfl (by decide) kl_X8_167 is_X1 in_X1 tyX1 tyX1_ok dfX1 ⟨(Nat.le_of_ble_eq_true rfl), (Nat.le_of_ble_eq_true rfl)⟩ jX8_forkOf_43 (fun H1 q1 hN_q1 hq1 => ?_)
    have C := C.to (N2 := BN D H1 q1 1 [.long 0, .int 0, .int 0, .null, .null]) BN.ns
    refine sg0 C foX8 coX8 oX8_forkOf_46 rfl rfl hn ?_
    refine cl_i C (kX1_init hAD hn hww (fbit pn P) (stm P (fbit pn P)) (x := (tL ql P v)) (y := T) (hl H1 hN_q1) (hx H1 hN_q1)) (C.2.2.2.2.2 _ hq1) cd_X1_init in_X1 ml_X8_193 im_X1_init rfl hd_X1_init rfl rfl ⟨(Nat.le_of_ble_eq_true rfl), (Nat.le_of_ble_eq_true rfl)⟩ ⟨(Nat.le_of_ble_eq_true rfl), (Nat.le_of_ble_eq_true rfl)⟩ (Nat.le_of_ble_eq_true rfl) jX8_forkOf_52 (fun v ws' => Wa.and (fun hv => ?_))
    obtain ⟨rfl, rfl⟩ := hv
    have C := C.to (N2 := BN D H1 q1 1 [.long (forkF (fbit pn P) (stm P (fbit pn P)) (dig ((tL ql P v))) (dig (T))), .int (nI (fbit pn P)), .int (nI (stm P (fbit pn P))), .ref (adr ((tL ql P v))), .ref (adr (T))]) BN.ns
    exact rt_a C hr (Or.inl ⟨_, rfl⟩) hlk jX8_forkOf_55 (fun H hH => ⟨tF q1 (fbit pn P) (stm P (fbit pn P)) (tL ql P v) T, ⟨rfl, rfl, by unfold fkT; rw [if_neg (bz h27)]; rfl⟩, hN _ _ hN_q1 hH.2.1, hH.2.2, nodeAt.ns (tL ql P v) _ _ (hl H1 hN_q1) hH.2.1, nodeAt.ns T _ _ (hx H1 hN_q1) hH.2.1⟩)
  · refine nw (ci := 1) (fs := [.long 0, .int 0, .int 0, .null, .null]) C hN rfl (by decide) kl_X8_167 is_X1 in_X1 tyX1 tyX1_ok dfX1 ⟨(Nat.le_of_ble_eq_true rfl), (Nat.le_of_ble_eq_true rfl)⟩ jX8_forkOf_30 (fun H1 q1 hN_q1 hq1 => ?_)
    have C := C.to (N2 := BN D H1 q1 1 [.long 0, .int 0, .int 0, .null, .null]) BN.ns
    refine sg0 C foX8 coX8 oX8_forkOf_33 rfl rfl hn ?_
    refine cl_i C (kX1_init hAD hn hww (fbit pn P) (stm P (fbit pn P)) (x := T) (y := (tL ql P v)) (hx H1 hN_q1) (hl H1 hN_q1)) (C.2.2.2.2.2 _ hq1) cd_X1_init in_X1 ml_X8_193 im_X1_init rfl hd_X1_init rfl rfl ⟨(Nat.le_of_ble_eq_true rfl), (Nat.le_of_ble_eq_true rfl)⟩ ⟨(Nat.le_of_ble_eq_true rfl), (Nat.le_of_ble_eq_true rfl)⟩ (Nat.le_of_ble_eq_true rfl) jX8_forkOf_39 (fun v ws' => Wa.and (fun hv => ?_))
    obtain ⟨rfl, rfl⟩ := hv
    have C := C.to (N2 := BN D H1 q1 1 [.long (forkF (fbit pn P) (stm P (fbit pn P)) (dig (T)) (dig ((tL ql P v)))), .int (nI (fbit pn P)), .int (nI (stm P (fbit pn P))), .ref (adr (T)), .ref (adr ((tL ql P v)))]) BN.ns
    exact rt_a C hr (Or.inl ⟨_, rfl⟩) hlk jX8_forkOf_42 (fun H hH => ⟨tF q1 (fbit pn P) (stm P (fbit pn P)) T (tL ql P v), ⟨rfl, rfl, by unfold fkT; rw [if_pos (bo h27)]; rfl⟩, hN _ _ hN_q1 hH.2.1, hH.2.2, nodeAt.ns T _ _ (hx H1 hN_q1) hH.2.1, nodeAt.ns (tL ql P v) _ _ (hl H1 hN_q1) hH.2.1⟩)
end
end
section
/-! to write and to erase, along the way -/
theorem fkT_strp {T T2 L L2 : Term} {pn P : Nat} (h1 : strp T = strp T2) (h2 : strp L = strp L2) : strp (fkT T pn P L) = strp (fkT T2 pn P L2) := by
  unfold fkT
  split <;> simp only [strp, h1, h2]
section
variable {l : Launch} {D : va_G} {ca : Nat → ClassId} {ad : Nat → Nat} {ws : List va_E} {n : Nat}
set_option maxRecDepth 100000 in
set_option maxHeartbeats 4000000 in
theorem kX8_written (hAD : AD ad n) (hn : ws.length = n) (hww : ws.all nno = true) {ql P : Nat} {v : Int64} (hP : P < 65536) (T : Term) (hT : isT T) : ∀ (k d : Nat) (N : Heap → Prop), fitT (T) k → d + k ≤ 16 → NS D N → (∀ H, N H → nodeAt D H (T)) → (∀ H, N H → nodeAt D H (tL ql P v)) → Ct l yX8_written cX8_written 4 (some (.object "PathProofs$Node")) (rK (k + 4) (k + 1) (5 * (k + 1))) D ca ad ws n [.ref (adr (T) + 100), .ref (ql + 100), .int (nI d)] N (nG D ws N (fun T2 => strp T2 = strp (wrtT (T) P (tL ql P v)))) := by
  refine tr_ind (P := fun T => ∀ (k d : Nat) (N : Heap → Prop), fitT (T) k → d + k ≤ 16 → NS D N → (∀ H, N H → nodeAt D H (T)) → (∀ H, N H → nodeAt D H (tL ql P v)) → Ct l yX8_written cX8_written 4 (some (.object "PathProofs$Node")) (rK (k + 4) (k + 1) (5 * (k + 1))) D ca ad ws n [.ref (adr (T) + 100), .ref (ql + 100), .int (nI d)] N (nG D ws N (fun T2 => strp T2 = strp (wrtT (T) P (tL ql P v))))) ?_ ?_ ?_ ?_ T hT
  · intro q k d N hfit hdk hN hx hl
    refine enter (lv := [(0, .ref (adr (tE q) + 100)), (1, .ref (ql + 100)), (2, .int (nI d))]) (by decide +kernel) (Nat.le_of_ble_eq_true rfl) rfl hAD (fun U hK => ns_write hK hN) ?_
    intro p e s m below meth c A args hA C hr hlk hnm
    refine sg0 C foX8 coX8 oX8_written_0 rfl rfl hn ?_
    refine ni_n (ci := 0) C (fun H hH => hx H hH) rfl kl_X8_167 (by decide) jX8_written_1 ?_
    refine b1_eq (tgt := 63) C jX8_written_4 (by decide) (fun h4 => ?_) (fun h4 => ?_)
    · refine sg0 C foX8 coX8 oX8_written_63 rfl rfl hn ?_
      refine ni_n (ci := 0) C (fun H hH => hx H hH) rfl kl_X8_65 (by decide) jX8_written_64 ?_
      refine b1_eq (tgt := 96) C jX8_written_67 (by decide) (fun h67 => ?_) (fun h67 => ?_)
      · refine sg0 C foX8 coX8 oX8_written_96 rfl rfl hn ?_
        refine Wa.wid (k1 := k + 1) (k2 := 5 * (k + 1)) (by show 0 ≤ k + 1; omega) (by show 0 ≤ 5 * (k + 1); omega) ?_
        exact rt_a C hr (Or.inl ⟨_, rfl⟩) hlk jX8_written_97 (fun H hH => ⟨(tL ql P v), ⟨rfl, rfl, rfl⟩, hH, hl H hH⟩)
      · exact absurd h67 (by decide)
    · exact absurd h4 (by decide)
  · intro q d0 k d N hfit hdk hN hx hl
    refine enter (lv := [(0, .ref (adr (tH q d0) + 100)), (1, .ref (ql + 100)), (2, .int (nI d))]) (by decide +kernel) (Nat.le_of_ble_eq_true rfl) rfl hAD (fun U hK => ns_write hK hN) ?_
    intro p e s m below meth c A args hA C hr hlk hnm
    refine sg0 C foX8 coX8 oX8_written_0 rfl rfl hn ?_
    refine ni_n (ci := 2) C (fun H hH => hx H hH) rfl kl_X8_167 (by decide) jX8_written_1 ?_
    refine b1_eq (tgt := 63) C jX8_written_4 (by decide) (fun h4 => ?_) (fun h4 => ?_)
    · refine sg0 C foX8 coX8 oX8_written_63 rfl rfl hn ?_
      refine ni_n (ci := 2) C (fun H hH => hx H hH) rfl kl_X8_65 (by decide) jX8_written_64 ?_
      refine b1_eq (tgt := 96) C jX8_written_67 (by decide) (fun h67 => ?_) (fun h67 => ?_)
      · refine sg0 C foX8 coX8 oX8_written_96 rfl rfl hn ?_
        refine Wa.wid (k1 := k + 1) (k2 := 5 * (k + 1)) (by show 0 ≤ k + 1; omega) (by show 0 ≤ 5 * (k + 1); omega) ?_
        exact rt_a C hr (Or.inl ⟨_, rfl⟩) hlk jX8_written_97 (fun H hH => ⟨(tL ql P v), ⟨rfl, rfl, rfl⟩, hH, hl H hH⟩)
      · exact absurd h67 (by decide)
    · exact absurd h4 (by decide)
  · intro q p0 v0 k d N hfit hdk hN hx hl
    have hp0 : p0 < 65536 := hfit
    refine enter (lv := [(0, .ref (adr (tL q p0 v0) + 100)), (1, .ref (ql + 100)), (2, .int (nI d))]) (by decide +kernel) (Nat.le_of_ble_eq_true rfl) rfl hAD (fun U hK => ns_write hK hN) ?_
    intro p e s m below meth c A args hA C hr hlk hnm
    refine sg0 C foX8 coX8 oX8_written_0 rfl rfl hn ?_
    refine ni_n (ci := 3) C (fun H hH => hx H hH) rfl kl_X8_167 (by decide) jX8_written_1 ?_
    refine b1_eq (tgt := 63) C jX8_written_4 (by decide) (fun h4 => ?_) (fun h4 => ?_)
    · refine sg0 C foX8 coX8 oX8_written_63 rfl rfl hn ?_
      refine ni_y (ci := 3) C (fun H hH => hx H hH) rfl kl_X8_65 (by decide) jX8_written_64 ?_
      refine b1_eq (tgt := 96) C jX8_written_67 (by decide) (fun h67 => ?_) (fun h67 => ?_)
      · exact absurd h67 (by decide)
      · refine sg0 C foX8 coX8 oX8_written_70 rfl rfl hn ?_
        refine nc_y (ci := 3) C (fun H hH => hx H hH) rfl kl_X8_65 (by decide) jX8_written_71 ?_
        refine sg0 C foX8 coX8 oX8_written_74 rfl rfl hn ?_
        refine ng (ci := 3) (k := 1) (v := .int (nI p0)) C (fun H hH => hx H hH) rfl (by decide) fl_X8_136 rfl jX8_written_76 ?_
        refine sg0 C foX8 coX8 oX8_written_79 rfl rfl hn ?_
        refine ng (ci := 3) (k := 1) (v := .int (nI P)) C (fun H hH => hl H hH) rfl (by decide) fl_X8_136 rfl jX8_written_80 ?_
        refine b2_eq (tgt := 96) C jX8_written_83 (by decide) (fun h83 => ?_) (fun h83 => ?_)
        · have he := lf_eq hP hp0 h83
          refine sg0 C foX8 coX8 oX8_written_96 rfl rfl hn ?_
          refine Wa.wid (k1 := k + 1) (k2 := 5 * (k + 1)) (by show 0 ≤ k + 1; omega) (by show 0 ≤ 5 * (k + 1); omega) ?_
          exact rt_a C hr (Or.inl ⟨_, rfl⟩) hlk jX8_written_97 (fun H hH => ⟨(tL ql P v), ⟨rfl, rfl, by simp only [wrtT]; rw [if_pos he]⟩, hH, hl H hH⟩)
        · have he := lf_ne hP hp0 h83
          refine sg0 C foX8 coX8 oX8_written_86 rfl rfl hn ?_
          refine ng (ci := 3) (k := 1) (v := .int (nI p0)) C (fun H hH => hx H hH) rfl (by decide) fl_X8_136 rfl jX8_written_88 ?_
          refine sg0 C foX8 coX8 oX8_written_91 rfl rfl hn ?_
          refine cl_s C (kX8_forkOf hAD hn hN hww (T := tL q p0 v0) (fun H hH => hx H hH) hl hP hp0 he) cd_X8_forkOf in_X8 ml_X8_182 sm_X8_forkOf hd_X8_forkOf rfl rfl ⟨by show 3 + 1 ≤ k + 4; omega, by show 8 + (5 + 11) + 40 * 3 ≤ 40 * (k + 4); omega⟩ ⟨by show 0 + 1 ≤ k + 1; omega, by show 0 + 5 ≤ 5 * (k + 1); omega⟩ (Nat.le_of_ble_eq_true rfl) jX8_written_92 (fun v ws' => Wa.ex (fun T1 => Wa.and (fun hv => ?_)))
          obtain ⟨rfl, rfl, hK1⟩ := hv
          have hN1 := hN.and (nodeAt.ns (D := D) T1)
          have C := C.to (N2 := fun H => N H ∧ nodeAt D H T1) hN1
          refine Wa.wid (k1 := k + 1) (k2 := 5 * (k + 1)) (by show 0 + 1 ≤ k + 1; omega) (by show 0 + 5 ≤ 5 * (k + 1); omega) ?_
          exact rt_a C hr (Or.inl ⟨_, rfl⟩) hlk jX8_written_95 (fun H hH => ⟨T1, ⟨rfl, rfl, by show strp T1 = _; rw [hK1]; simp only [wrtT]; rw [if_neg he]⟩, hH.1, hH.2⟩)
    · exact absurd h4 (by decide)
  · intro q B S x y hT1 hT2 i1 i2 k d N hfit hdk hN hx hl
    obtain ⟨⟨hB, hkB, hS, hstm⟩, hfx, hfy⟩ := fitF hfit
    have hS2 := fitF2 hfit
    by_cases hb : bitA P B = 1
    · skip
      refine enter (lv := [(0, .ref (adr (tF q B S x y) + 100)), (1, .ref (ql + 100)), (2, .int (nI d))]) (by decide +kernel) (Nat.le_of_ble_eq_true rfl) rfl hAD (fun U hK => ns_write hK hN) ?_
      intro p e s m below meth c A args hA C hr hlk hnm
      refine sg0 C foX8 coX8 oX8_written_0 rfl rfl hn ?_
      refine ni_y (ci := 1) C (fun H hH => (hx H hH).1) rfl kl_X8_167 (by decide) jX8_written_1 ?_
      refine b1_eq (tgt := 63) C jX8_written_4 (by decide) (fun h4 => ?_) (fun h4 => ?_)
      · exact absurd h4 (by decide)
      · refine sg0 C foX8 coX8 oX8_written_7 rfl rfl hn ?_
        refine nc_y (ci := 1) C (fun H hH => (hx H hH).1) rfl kl_X8_167 (by decide) jX8_written_8 ?_
        refine sg0 C foX8 coX8 oX8_written_11 rfl rfl hn ?_
        refine ng (ci := 3) (k := 1) (v := .int (nI P)) C (fun H hH => hl H hH) rfl (by decide) fl_X8_136 rfl jX8_written_14 ?_
        refine cl_v C (kX1_takesIn hAD hn hN (q := q) (B := B) (S := S) (fun H hH => (hx H hH).1) hP hB hS2) (nrc C (fun H hH => (hx H hH).1) rfl) cd_X1_takesIn in_X1 ml_X8_169 im_X1_takesIn se_X1_takesIn hd_X1_takesIn rfl rfl ⟨by show 1 + 1 ≤ k + 4; omega, by show 8 + (2 + 11) + 40 * 1 ≤ 40 * (k + 4); omega⟩ ⟨by show 0 + 0 ≤ k + 1; omega, by show 0 + 0 ≤ 5 * (k + 1); omega⟩ (Nat.le_of_ble_eq_true rfl) jX8_written_17 (fun v ws' => Wa.and (fun hv => ?_))
        obtain ⟨rfl, rfl⟩ := hv
        refine b1_eq (tgt := 53) C jX8_written_20 (by decide) (fun h20 => ?_) (fun h20 => ?_)
        · have hst : ¬ stm P B = S := fun e1 => by rw [if_pos e1] at h20; exact absurd h20 (by decide)
          have hne : S ≠ P := fun e1 => hst (by rw [← e1]; exact hstm)
          refine sg0 C foX8 coX8 oX8_written_53 rfl rfl hn ?_
          refine ng (ci := 1) (k := 2) (v := .int (nI S)) C (fun H hH => (hx H hH).1) rfl (by decide) fl_X8_179 rfl jX8_written_55 ?_
          refine sg0 C foX8 coX8 oX8_written_58 rfl rfl hn ?_
          refine cl_s C (kX8_forkOf hAD hn hN hww (T := tF q B S x y) (pn := S) (fun H hH => hx H hH) hl hP hS2 hne) cd_X8_forkOf in_X8 ml_X8_182 sm_X8_forkOf hd_X8_forkOf rfl rfl ⟨by show 3 + 1 ≤ k + 4; omega, by show 8 + (5 + 11) + 40 * 3 ≤ 40 * (k + 4); omega⟩ ⟨by show 0 + 1 ≤ k + 1; omega, by show 0 + 5 ≤ 5 * (k + 1); omega⟩ (Nat.le_of_ble_eq_true rfl) jX8_written_59 (fun v ws' => Wa.ex (fun T1 => Wa.and (fun hv => ?_)))
          obtain ⟨rfl, rfl, hK1⟩ := hv
          have hN1 := hN.and (nodeAt.ns (D := D) T1)
          have C := C.to (N2 := fun H => N H ∧ nodeAt D H T1) hN1
          refine Wa.wid (k1 := k + 1) (k2 := 5 * (k + 1)) (by show 0 + 1 ≤ k + 1; omega) (by show 0 + 5 ≤ 5 * (k + 1); omega) ?_
          exact rt_a C hr (Or.inl ⟨_, rfl⟩) hlk jX8_written_62 (fun H hH => ⟨T1, ⟨rfl, rfl, by show strp T1 = _; rw [hK1]; simp only [wrtT]; rw [if_neg hst]⟩, hH.1, hH.2⟩)
        · have hst : stm P B = S := Decidable.byContradiction fun e1 => h20 (if_neg e1)
          refine sg0 C foX8 coX8 oX8_written_23 rfl rfl hn ?_
          refine b2_ge (tgt := 53) C jX8_written_26 (by decide) (fun h26 => ?_) (fun h26 => ?_)
          · exact absurd h26 (by rw [show (16 : Int32) = nI 16 from rfl]; exact nI_ge (by omega) (by decide))
          · refine sg0 C foX8 coX8 oX8_written_29 rfl rfl hn ?_
            refine ng (ci := 3) (k := 1) (v := .int (nI P)) C (fun H hH => hl H hH) rfl (by decide) fl_X8_136 rfl jX8_written_31 ?_
            refine sg0 C foX8 coX8 oX8_written_34 rfl rfl hn ?_
            refine ng (ci := 3) (k := 1) (v := .int (nI P)) C (fun H hH => hl H hH) rfl (by decide) fl_X8_136 rfl jX8_written_36 ?_
            refine cl_v C (kX1_toward hAD hn hN (q := q) (B := B) (S := S) (fun H hH => (hx H hH).1) hP hB) (nrc C (fun H hH => (hx H hH).1) rfl) cd_X1_toward in_X1 ml_X8_172 im_X1_toward se_X1_toward hd_X1_toward rfl rfl ⟨by show 1 + 1 ≤ k + 4; omega, by show 8 + (2 + 11) + 40 * 1 ≤ 40 * (k + 4); omega⟩ ⟨by show 0 + 0 ≤ k + 1; omega, by show 0 + 0 ≤ 5 * (k + 1); omega⟩ (Nat.le_of_ble_eq_true rfl) jX8_written_39 (fun v ws' => Wa.and (fun hv => ?_))
            obtain ⟨rfl, rfl⟩ := hv
            rw [if_pos hb]
            refine sg0 C foX8 coX8 oX8_written_42 rfl rfl hn ?_
            rw [nI_1]
            refine cl_s C (i2 (15 - B) (d + 1) N hfy (by omega) hN (fun H hH => (hx H hH).2.2) hl) cd_X8_written in_X8 ml_X8_70 sm_X8_written hd_X8_written rfl rfl ⟨by show (15 - B + 4) + 1 ≤ k + 4; omega, by show 8 + (4 + 11) + 40 * (15 - B + 4) ≤ 40 * (k + 4); omega⟩ ⟨by show 0 + (15 - B + 1) ≤ k + 1; omega, by show 0 + 5 * (15 - B + 1) ≤ 5 * (k + 1); omega⟩ (Nat.le_of_ble_eq_true rfl) jX8_written_46 (fun v ws' => Wa.ex (fun T1 => Wa.and (fun hv => ?_)))
            obtain ⟨rfl, rfl, hK1⟩ := hv
            have hN1 := hN.and (nodeAt.ns (D := D) T1)
            have C := C.to (N2 := fun H => N H ∧ nodeAt D H T1) hN1
            refine cl_v C (kX1_with hAD hn hN1 hww (q := q) (B := B) (S := S) (x := x) (y := y) (z := T1) (fun H hH => hx H hH.1) (fun H hH => hH.2) hP hB) (nrc C (fun H hH => (hx H hH.1).1) rfl) cd_X1_with in_X1 ml_X8_175 im_X1_with se_X1_with hd_X1_with rfl rfl ⟨by show 3 + 1 ≤ k + 4; omega, by show 8 + (3 + 11) + 40 * 3 ≤ 40 * (k + 4); omega⟩ ⟨by show (0 + (15 - B + 1)) + 1 ≤ k + 1; omega, by show (0 + 5 * (15 - B + 1)) + 5 ≤ 5 * (k + 1); omega⟩ (Nat.le_of_ble_eq_true rfl) jX8_written_49 (fun v ws' => Wa.ex (fun T2 => Wa.and (fun hv => ?_)))
            obtain ⟨rfl, rfl, hK2⟩ := hv
            have hN2 := hN1.and (nodeAt.ns (D := D) T2)
            have C := C.to (N2 := fun H => (N H ∧ nodeAt D H T1) ∧ nodeAt D H T2) hN2
            have hK3 : ∃ q2, T2 = tF q2 B S x T1 := by
              rcases hK2 with ⟨q2, e1, e2⟩ | ⟨q2, e1, e2⟩
              · exact ⟨q2, e2⟩
              · exact absurd hb e1
            obtain ⟨q2, rfl⟩ := hK3
            refine Wa.wid (k1 := k + 1) (k2 := 5 * (k + 1)) (by show 0 + (15 - B + 1) + 1 ≤ k + 1; omega) (by show 0 + 5 * (15 - B + 1) + 5 ≤ 5 * (k + 1); omega) ?_
            exact rt_a C hr (Or.inl ⟨_, rfl⟩) hlk jX8_written_52 (fun H hH => ⟨tF q2 B S x T1, ⟨rfl, rfl, by simp only [wrtT]; rw [if_pos hst, if_pos hb]; simp only [strp, hK1]⟩, hH.1.1, hH.2⟩)
    · skip
      refine enter (lv := [(0, .ref (adr (tF q B S x y) + 100)), (1, .ref (ql + 100)), (2, .int (nI d))]) (by decide +kernel) (Nat.le_of_ble_eq_true rfl) rfl hAD (fun U hK => ns_write hK hN) ?_
      intro p e s m below meth c A args hA C hr hlk hnm
      refine sg0 C foX8 coX8 oX8_written_0 rfl rfl hn ?_
      refine ni_y (ci := 1) C (fun H hH => (hx H hH).1) rfl kl_X8_167 (by decide) jX8_written_1 ?_
      refine b1_eq (tgt := 63) C jX8_written_4 (by decide) (fun h4 => ?_) (fun h4 => ?_)
      · exact absurd h4 (by decide)
      · refine sg0 C foX8 coX8 oX8_written_7 rfl rfl hn ?_
        refine nc_y (ci := 1) C (fun H hH => (hx H hH).1) rfl kl_X8_167 (by decide) jX8_written_8 ?_
        refine sg0 C foX8 coX8 oX8_written_11 rfl rfl hn ?_
        refine ng (ci := 3) (k := 1) (v := .int (nI P)) C (fun H hH => hl H hH) rfl (by decide) fl_X8_136 rfl jX8_written_14 ?_
        refine cl_v C (kX1_takesIn hAD hn hN (q := q) (B := B) (S := S) (fun H hH => (hx H hH).1) hP hB hS2) (nrc C (fun H hH => (hx H hH).1) rfl) cd_X1_takesIn in_X1 ml_X8_169 im_X1_takesIn se_X1_takesIn hd_X1_takesIn rfl rfl ⟨by show 1 + 1 ≤ k + 4; omega, by show 8 + (2 + 11) + 40 * 1 ≤ 40 * (k + 4); omega⟩ ⟨by show 0 + 0 ≤ k + 1; omega, by show 0 + 0 ≤ 5 * (k + 1); omega⟩ (Nat.le_of_ble_eq_true rfl) jX8_written_17 (fun v ws' => Wa.and (fun hv => ?_))
        obtain ⟨rfl, rfl⟩ := hv
        refine b1_eq (tgt := 53) C jX8_written_20 (by decide) (fun h20 => ?_) (fun h20 => ?_)
        · have hst : ¬ stm P B = S := fun e1 => by rw [if_pos e1] at h20; exact absurd h20 (by decide)
          have hne : S ≠ P := fun e1 => hst (by rw [← e1]; exact hstm)
          refine sg0 C foX8 coX8 oX8_written_53 rfl rfl hn ?_
          refine ng (ci := 1) (k := 2) (v := .int (nI S)) C (fun H hH => (hx H hH).1) rfl (by decide) fl_X8_179 rfl jX8_written_55 ?_
          refine sg0 C foX8 coX8 oX8_written_58 rfl rfl hn ?_
          refine cl_s C (kX8_forkOf hAD hn hN hww (T := tF q B S x y) (pn := S) (fun H hH => hx H hH) hl hP hS2 hne) cd_X8_forkOf in_X8 ml_X8_182 sm_X8_forkOf hd_X8_forkOf rfl rfl ⟨by show 3 + 1 ≤ k + 4; omega, by show 8 + (5 + 11) + 40 * 3 ≤ 40 * (k + 4); omega⟩ ⟨by show 0 + 1 ≤ k + 1; omega, by show 0 + 5 ≤ 5 * (k + 1); omega⟩ (Nat.le_of_ble_eq_true rfl) jX8_written_59 (fun v ws' => Wa.ex (fun T1 => Wa.and (fun hv => ?_)))
          obtain ⟨rfl, rfl, hK1⟩ := hv
          have hN1 := hN.and (nodeAt.ns (D := D) T1)
          have C := C.to (N2 := fun H => N H ∧ nodeAt D H T1) hN1
          refine Wa.wid (k1 := k + 1) (k2 := 5 * (k + 1)) (by show 0 + 1 ≤ k + 1; omega) (by show 0 + 5 ≤ 5 * (k + 1); omega) ?_
          exact rt_a C hr (Or.inl ⟨_, rfl⟩) hlk jX8_written_62 (fun H hH => ⟨T1, ⟨rfl, rfl, by show strp T1 = _; rw [hK1]; simp only [wrtT]; rw [if_neg hst]⟩, hH.1, hH.2⟩)
        · have hst : stm P B = S := Decidable.byContradiction fun e1 => h20 (if_neg e1)
          refine sg0 C foX8 coX8 oX8_written_23 rfl rfl hn ?_
          refine b2_ge (tgt := 53) C jX8_written_26 (by decide) (fun h26 => ?_) (fun h26 => ?_)
          · exact absurd h26 (by rw [show (16 : Int32) = nI 16 from rfl]; exact nI_ge (by omega) (by decide))
          · refine sg0 C foX8 coX8 oX8_written_29 rfl rfl hn ?_
            refine ng (ci := 3) (k := 1) (v := .int (nI P)) C (fun H hH => hl H hH) rfl (by decide) fl_X8_136 rfl jX8_written_31 ?_
            refine sg0 C foX8 coX8 oX8_written_34 rfl rfl hn ?_
            refine ng (ci := 3) (k := 1) (v := .int (nI P)) C (fun H hH => hl H hH) rfl (by decide) fl_X8_136 rfl jX8_written_36 ?_
            refine cl_v C (kX1_toward hAD hn hN (q := q) (B := B) (S := S) (fun H hH => (hx H hH).1) hP hB) (nrc C (fun H hH => (hx H hH).1) rfl) cd_X1_toward in_X1 ml_X8_172 im_X1_toward se_X1_toward hd_X1_toward rfl rfl ⟨by show 1 + 1 ≤ k + 4; omega, by show 8 + (2 + 11) + 40 * 1 ≤ 40 * (k + 4); omega⟩ ⟨by show 0 + 0 ≤ k + 1; omega, by show 0 + 0 ≤ 5 * (k + 1); omega⟩ (Nat.le_of_ble_eq_true rfl) jX8_written_39 (fun v ws' => Wa.and (fun hv => ?_))
            obtain ⟨rfl, rfl⟩ := hv
            rw [if_neg hb]
            refine sg0 C foX8 coX8 oX8_written_42 rfl rfl hn ?_
            rw [nI_1]
            refine cl_s C (i1 (15 - B) (d + 1) N hfx (by omega) hN (fun H hH => (hx H hH).2.1) hl) cd_X8_written in_X8 ml_X8_70 sm_X8_written hd_X8_written rfl rfl ⟨by show (15 - B + 4) + 1 ≤ k + 4; omega, by show 8 + (4 + 11) + 40 * (15 - B + 4) ≤ 40 * (k + 4); omega⟩ ⟨by show 0 + (15 - B + 1) ≤ k + 1; omega, by show 0 + 5 * (15 - B + 1) ≤ 5 * (k + 1); omega⟩ (Nat.le_of_ble_eq_true rfl) jX8_written_46 (fun v ws' => Wa.ex (fun T1 => Wa.and (fun hv => ?_)))
            obtain ⟨rfl, rfl, hK1⟩ := hv
            have hN1 := hN.and (nodeAt.ns (D := D) T1)
            have C := C.to (N2 := fun H => N H ∧ nodeAt D H T1) hN1
            refine cl_v C (kX1_with hAD hn hN1 hww (q := q) (B := B) (S := S) (x := x) (y := y) (z := T1) (fun H hH => hx H hH.1) (fun H hH => hH.2) hP hB) (nrc C (fun H hH => (hx H hH.1).1) rfl) cd_X1_with in_X1 ml_X8_175 im_X1_with se_X1_with hd_X1_with rfl rfl ⟨by show 3 + 1 ≤ k + 4; omega, by show 8 + (3 + 11) + 40 * 3 ≤ 40 * (k + 4); omega⟩ ⟨by show (0 + (15 - B + 1)) + 1 ≤ k + 1; omega, by show (0 + 5 * (15 - B + 1)) + 5 ≤ 5 * (k + 1); omega⟩ (Nat.le_of_ble_eq_true rfl) jX8_written_49 (fun v ws' => Wa.ex (fun T2 => Wa.and (fun hv => ?_)))
            obtain ⟨rfl, rfl, hK2⟩ := hv
            have hN2 := hN1.and (nodeAt.ns (D := D) T2)
            have C := C.to (N2 := fun H => (N H ∧ nodeAt D H T1) ∧ nodeAt D H T2) hN2
            have hK3 : ∃ q2, T2 = tF q2 B S T1 y := by
              rcases hK2 with ⟨q2, e1, e2⟩ | ⟨q2, e1, e2⟩
              · exact absurd e1 hb
              · exact ⟨q2, e2⟩
            obtain ⟨q2, rfl⟩ := hK3
            refine Wa.wid (k1 := k + 1) (k2 := 5 * (k + 1)) (by show 0 + (15 - B + 1) + 1 ≤ k + 1; omega) (by show 0 + 5 * (15 - B + 1) + 5 ≤ 5 * (k + 1); omega) ?_
            exact rt_a C hr (Or.inl ⟨_, rfl⟩) hlk jX8_written_52 (fun H hH => ⟨tF q2 B S T1 y, ⟨rfl, rfl, by simp only [wrtT]; rw [if_pos hst, if_neg hb]; simp only [strp, hK1]⟩, hH.1.1, hH.2⟩)
set_option maxRecDepth 100000 in
set_option maxHeartbeats 4000000 in
theorem kX8_erased (hAD : AD ad n) (hn : ws.length = n) (hww : ws.all nno = true) {P : Nat} (hP : P < 65536) (T : Term) (hT : isT T) : ∀ (k d : Nat) (N : Heap → Prop), fitT (T) k → d + k ≤ 16 → NS D N → (∀ H, N H → nodeAt D H (T)) → Ct l yX8_erased cX8_erased 5 (some (.object "PathProofs$Node")) (rK (k + 4) (k + 1) (5 * (k + 1))) D ca ad ws n [.ref (adr (T) + 100), .int (nI P), .int (nI d)] N (nG D ws N (fun T2 => strp T2 = strp (delT (T) P))) := by
  refine tr_ind (P := fun T => ∀ (k d : Nat) (N : Heap → Prop), fitT (T) k → d + k ≤ 16 → NS D N → (∀ H, N H → nodeAt D H (T)) → Ct l yX8_erased cX8_erased 5 (some (.object "PathProofs$Node")) (rK (k + 4) (k + 1) (5 * (k + 1))) D ca ad ws n [.ref (adr (T) + 100), .int (nI P), .int (nI d)] N (nG D ws N (fun T2 => strp T2 = strp (delT (T) P)))) ?_ ?_ ?_ ?_ T hT
  · intro q k d N hfit hdk hN hx
    refine enter (lv := [(0, .ref (adr (tE q) + 100)), (1, .int (nI P)), (2, .int (nI d))]) (by decide +kernel) (Nat.le_of_ble_eq_true rfl) rfl hAD (fun U hK => ns_write hK hN) ?_
    intro p e s m below meth c A args hA C hr hlk hnm
    refine sg0 C foX8 coX8 oX8_erased_0 rfl rfl hn ?_
    refine ni_n (ci := 0) C (fun H hH => hx H hH) rfl kl_X8_167 (by decide) jX8_erased_1 ?_
    refine b1_eq (tgt := 54) C jX8_erased_4 (by decide) (fun h4 => ?_) (fun h4 => ?_)
    · refine nw (ci := 0) (fs := [.long 0]) C hN rfl (by decide) kl_X8_22 is_X0 in_X0 tyX0 tyX0_ok (fun j hj => by rcases (show j = 0 from Nat.lt_one_iff.mp hj) with rfl; rfl) ⟨by show 0 + 1 ≤ k + 1; omega, by show 0 + 1 ≤ 5 * (k + 1); omega⟩ jX8_erased_54 (fun H1 q1 hN_q1 hq1 => ?_)
      have C := C.to (N2 := BN D H1 q1 0 [.long 0]) BN.ns
      refine sg0 C foX8 coX8 oX8_erased_57 rfl rfl hn ?_
      refine cl_i C (kX0_init hAD hn hww) (C.2.2.2.2.2 _ hq1) cd_X0_init in_X0 ml_X8_24 im_X0_init rfl hd_X0_init rfl rfl ⟨by show 2 + 1 ≤ k + 4; omega, by show 8 + (1 + 11) + 40 * 2 ≤ 40 * (k + 4); omega⟩ ⟨by show (0 + 1) + 0 ≤ k + 1; omega, by show (0 + 1) + 0 ≤ 5 * (k + 1); omega⟩ (Nat.le_of_ble_eq_true rfl) jX8_erased_58 (fun v ws' => Wa.and (fun hv => ?_))
      obtain ⟨rfl, rfl⟩ := hv
      have C := C.to (N2 := BN D H1 q1 0 [.long emptyF]) BN.ns
      refine Wa.wid (k1 := k + 1) (k2 := 5 * (k + 1)) (by show 0 + 1 + 0 ≤ k + 1; omega) (by show 0 + 1 + 0 ≤ 5 * (k + 1); omega) ?_
      exact rt_a C hr (Or.inl ⟨_, rfl⟩) hlk jX8_erased_61 (fun H hH => ⟨tE q1, ⟨rfl, rfl, rfl⟩, hN _ _ hN_q1 hH.2.1, hH.2.2⟩)
    · exact absurd h4 (by decide)
  · intro q d0 k d N hfit hdk hN hx
    refine enter (lv := [(0, .ref (adr (tH q d0) + 100)), (1, .int (nI P)), (2, .int (nI d))]) (by decide +kernel) (Nat.le_of_ble_eq_true rfl) rfl hAD (fun U hK => ns_write hK hN) ?_
    intro p e s m below meth c A args hA C hr hlk hnm
    refine sg0 C foX8 coX8 oX8_erased_0 rfl rfl hn ?_
    refine ni_n (ci := 2) C (fun H hH => hx H hH) rfl kl_X8_167 (by decide) jX8_erased_1 ?_
    refine b1_eq (tgt := 54) C jX8_erased_4 (by decide) (fun h4 => ?_) (fun h4 => ?_)
    · refine nw (ci := 0) (fs := [.long 0]) C hN rfl (by decide) kl_X8_22 is_X0 in_X0 tyX0 tyX0_ok (fun j hj => by rcases (show j = 0 from Nat.lt_one_iff.mp hj) with rfl; rfl) ⟨by show 0 + 1 ≤ k + 1; omega, by show 0 + 1 ≤ 5 * (k + 1); omega⟩ jX8_erased_54 (fun H1 q1 hN_q1 hq1 => ?_)
      have C := C.to (N2 := BN D H1 q1 0 [.long 0]) BN.ns
      refine sg0 C foX8 coX8 oX8_erased_57 rfl rfl hn ?_
      refine cl_i C (kX0_init hAD hn hww) (C.2.2.2.2.2 _ hq1) cd_X0_init in_X0 ml_X8_24 im_X0_init rfl hd_X0_init rfl rfl ⟨by show 2 + 1 ≤ k + 4; omega, by show 8 + (1 + 11) + 40 * 2 ≤ 40 * (k + 4); omega⟩ ⟨by show (0 + 1) + 0 ≤ k + 1; omega, by show (0 + 1) + 0 ≤ 5 * (k + 1); omega⟩ (Nat.le_of_ble_eq_true rfl) jX8_erased_58 (fun v ws' => Wa.and (fun hv => ?_))
      obtain ⟨rfl, rfl⟩ := hv
      have C := C.to (N2 := BN D H1 q1 0 [.long emptyF]) BN.ns
      refine Wa.wid (k1 := k + 1) (k2 := 5 * (k + 1)) (by show 0 + 1 + 0 ≤ k + 1; omega) (by show 0 + 1 + 0 ≤ 5 * (k + 1); omega) ?_
      exact rt_a C hr (Or.inl ⟨_, rfl⟩) hlk jX8_erased_61 (fun H hH => ⟨tE q1, ⟨rfl, rfl, rfl⟩, hN _ _ hN_q1 hH.2.1, hH.2.2⟩)
    · exact absurd h4 (by decide)
  · intro q p0 v0 k d N hfit hdk hN hx
    have hp0 : p0 < 65536 := hfit
    refine enter (lv := [(0, .ref (adr (tL q p0 v0) + 100)), (1, .int (nI P)), (2, .int (nI d))]) (by decide +kernel) (Nat.le_of_ble_eq_true rfl) rfl hAD (fun U hK => ns_write hK hN) ?_
    intro p e s m below meth c A args hA C hr hlk hnm
    refine sg0 C foX8 coX8 oX8_erased_0 rfl rfl hn ?_
    refine ni_n (ci := 3) C (fun H hH => hx H hH) rfl kl_X8_167 (by decide) jX8_erased_1 ?_
    refine b1_eq (tgt := 54) C jX8_erased_4 (by decide) (fun h4 => ?_) (fun h4 => ?_)
    · refine nw (ci := 0) (fs := [.long 0]) C hN rfl (by decide) kl_X8_22 is_X0 in_X0 tyX0 tyX0_ok (fun j hj => by rcases (show j = 0 from Nat.lt_one_iff.mp hj) with rfl; rfl) ⟨by show 0 + 1 ≤ k + 1; omega, by show 0 + 1 ≤ 5 * (k + 1); omega⟩ jX8_erased_54 (fun H1 q1 hN_q1 hq1 => ?_)
      have C := C.to (N2 := BN D H1 q1 0 [.long 0]) BN.ns
      refine sg0 C foX8 coX8 oX8_erased_57 rfl rfl hn ?_
      refine cl_i C (kX0_init hAD hn hww) (C.2.2.2.2.2 _ hq1) cd_X0_init in_X0 ml_X8_24 im_X0_init rfl hd_X0_init rfl rfl ⟨by show 2 + 1 ≤ k + 4; omega, by show 8 + (1 + 11) + 40 * 2 ≤ 40 * (k + 4); omega⟩ ⟨by show (0 + 1) + 0 ≤ k + 1; omega, by show (0 + 1) + 0 ≤ 5 * (k + 1); omega⟩ (Nat.le_of_ble_eq_true rfl) jX8_erased_58 (fun v ws' => Wa.and (fun hv => ?_))
      obtain ⟨rfl, rfl⟩ := hv
      have C := C.to (N2 := BN D H1 q1 0 [.long emptyF]) BN.ns
      refine Wa.wid (k1 := k + 1) (k2 := 5 * (k + 1)) (by show 0 + 1 + 0 ≤ k + 1; omega) (by show 0 + 1 + 0 ≤ 5 * (k + 1); omega) ?_
      exact rt_a C hr (Or.inl ⟨_, rfl⟩) hlk jX8_erased_61 (fun H hH => ⟨tE q1, ⟨rfl, rfl, rfl⟩, hN _ _ hN_q1 hH.2.1, hH.2.2⟩)
    · exact absurd h4 (by decide)
  · intro q B S x y hT1 hT2 i1 i2 k d N hfit hdk hN hx
    obtain ⟨⟨hB, hkB, hS, hstm⟩, hfx, hfy⟩ := fitF hfit
    have hS2 := fitF2 hfit
    by_cases hb : bitA P B = 1
    · skip
      refine enter (lv := [(0, .ref (adr (tF q B S x y) + 100)), (1, .int (nI P)), (2, .int (nI d))]) (by decide +kernel) (Nat.le_of_ble_eq_true rfl) rfl hAD (fun U hK => ns_write hK hN) ?_
      intro p e s m below meth c A args hA C hr hlk hnm
      refine sg0 C foX8 coX8 oX8_erased_0 rfl rfl hn ?_
      refine ni_y (ci := 1) C (fun H hH => (hx H hH).1) rfl kl_X8_167 (by decide) jX8_erased_1 ?_
      refine b1_eq (tgt := 54) C jX8_erased_4 (by decide) (fun h4 => ?_) (fun h4 => ?_)
      · exact absurd h4 (by decide)
      · refine sg0 C foX8 coX8 oX8_erased_7 rfl rfl hn ?_
        refine nc_y (ci := 1) C (fun H hH => (hx H hH).1) rfl kl_X8_167 (by decide) jX8_erased_8 ?_
        refine sg0 C foX8 coX8 oX8_erased_11 rfl rfl hn ?_
        refine cl_v C (kX1_toward hAD hn hN (q := q) (B := B) (S := S) (fun H hH => (hx H hH).1) hP hB) (nrc C (fun H hH => (hx H hH).1) rfl) cd_X1_toward in_X1 ml_X8_172 im_X1_toward se_X1_toward hd_X1_toward rfl rfl ⟨by show 1 + 1 ≤ k + 4; omega, by show 8 + (2 + 11) + 40 * 1 ≤ 40 * (k + 4); omega⟩ ⟨by show 0 + 0 ≤ k + 1; omega, by show 0 + 0 ≤ 5 * (k + 1); omega⟩ (Nat.le_of_ble_eq_true rfl) jX8_erased_14 (fun v ws' => Wa.and (fun hv => ?_))
        obtain ⟨rfl, rfl⟩ := hv
        rw [if_pos hb]
        refine sg0 C foX8 coX8 oX8_erased_17 rfl rfl hn ?_
        refine ni_F C (T := y) (fun H hH => (hx H hH).2.2) kl_X8_167 jX8_erased_21 ?_
        refine b1_eq (tgt := 48) C jX8_erased_24 (by decide) (fun h24 => ?_) (fun h24 => ?_)
        · have hf : ¬ isF y = true := fun e1 => by rw [if_pos e1] at h24; exact absurd h24 (by decide)
          refine sg0 C foX8 coX8 oX8_erased_48 rfl rfl hn ?_
          refine cl_v C (kX1_besides hAD hn hN (q := q) (B := B) (S := S) (fun H hH => (hx H hH).1) hP hB) (nrc C (fun H hH => (hx H hH).1) rfl) cd_X1_besides in_X1 ml_X8_196 im_X1_besides se_X1_besides hd_X1_besides rfl rfl ⟨by show 1 + 1 ≤ k + 4; omega, by show 8 + (2 + 11) + 40 * 1 ≤ 40 * (k + 4); omega⟩ ⟨by show 0 + 0 ≤ k + 1; omega, by show 0 + 0 ≤ 5 * (k + 1); omega⟩ (Nat.le_of_ble_eq_true rfl) jX8_erased_50 (fun v ws' => Wa.and (fun hv => ?_))
          obtain ⟨rfl, rfl⟩ := hv
          rw [if_pos hb]
          refine Wa.wid (k1 := k + 1) (k2 := 5 * (k + 1)) (by show 0 + 0 ≤ k + 1; omega) (by show 0 + 0 ≤ 5 * (k + 1); omega) ?_
          exact rt_a C hr (Or.inl ⟨_, rfl⟩) hlk jX8_erased_53 (fun H hH => ⟨x, ⟨rfl, rfl, by simp only [delT]; rw [if_pos hb, if_neg hf]⟩, hH, (hx H hH).2.1⟩)
        · have hf : isF y = true := Decidable.byContradiction fun e1 => h24 (if_neg e1)
          refine sg0 C foX8 coX8 oX8_erased_27 rfl rfl hn ?_
          refine b2_ge (tgt := 48) C jX8_erased_30 (by decide) (fun h30 => ?_) (fun h30 => ?_)
          · exact absurd h30 (by rw [show (16 : Int32) = nI 16 from rfl]; exact nI_ge (by omega) (by decide))
          · refine sg0 C foX8 coX8 oX8_erased_33 rfl rfl hn ?_
            rw [nI_1]
            refine cl_s C (i2 (15 - B) (d + 1) N hfy (by omega) hN (fun H hH => (hx H hH).2.2)) cd_X8_erased in_X8 ml_X8_79 sm_X8_erased hd_X8_erased rfl rfl ⟨by show (15 - B + 4) + 1 ≤ k + 4; omega, by show 8 + (5 + 11) + 40 * (15 - B + 4) ≤ 40 * (k + 4); omega⟩ ⟨by show 0 + (15 - B + 1) ≤ k + 1; omega, by show 0 + 5 * (15 - B + 1) ≤ 5 * (k + 1); omega⟩ (Nat.le_of_ble_eq_true rfl) jX8_erased_41 (fun v ws' => Wa.ex (fun T1 => Wa.and (fun hv => ?_)))
            obtain ⟨rfl, rfl, hK1⟩ := hv
            have hN1 := hN.and (nodeAt.ns (D := D) T1)
            have C := C.to (N2 := fun H => N H ∧ nodeAt D H T1) hN1
            refine cl_v C (kX1_with hAD hn hN1 hww (q := q) (B := B) (S := S) (x := x) (y := y) (z := T1) (fun H hH => hx H hH.1) (fun H hH => hH.2) hP hB) (nrc C (fun H hH => (hx H hH.1).1) rfl) cd_X1_with in_X1 ml_X8_175 im_X1_with se_X1_with hd_X1_with rfl rfl ⟨by show 3 + 1 ≤ k + 4; omega, by show 8 + (3 + 11) + 40 * 3 ≤ 40 * (k + 4); omega⟩ ⟨by show (0 + (15 - B + 1)) + 1 ≤ k + 1; omega, by show (0 + 5 * (15 - B + 1)) + 5 ≤ 5 * (k + 1); omega⟩ (Nat.le_of_ble_eq_true rfl) jX8_erased_44 (fun v ws' => Wa.ex (fun T2 => Wa.and (fun hv => ?_)))
            obtain ⟨rfl, rfl, hK2⟩ := hv
            have hN2 := hN1.and (nodeAt.ns (D := D) T2)
            have C := C.to (N2 := fun H => (N H ∧ nodeAt D H T1) ∧ nodeAt D H T2) hN2
            have hK3 : ∃ q2, T2 = tF q2 B S x T1 := by
              rcases hK2 with ⟨q2, e1, e2⟩ | ⟨q2, e1, e2⟩
              · exact ⟨q2, e2⟩
              · exact absurd hb e1
            obtain ⟨q2, rfl⟩ := hK3
            refine Wa.wid (k1 := k + 1) (k2 := 5 * (k + 1)) (by show 0 + (15 - B + 1) + 1 ≤ k + 1; omega) (by show 0 + 5 * (15 - B + 1) + 5 ≤ 5 * (k + 1); omega) ?_
            exact rt_a C hr (Or.inl ⟨_, rfl⟩) hlk jX8_erased_47 (fun H hH => ⟨tF q2 B S x T1, ⟨rfl, rfl, by simp only [delT]; rw [if_pos hb, if_pos hf]; simp only [strp, hK1]⟩, hH.1.1, hH.2⟩)
    · skip
      refine enter (lv := [(0, .ref (adr (tF q B S x y) + 100)), (1, .int (nI P)), (2, .int (nI d))]) (by decide +kernel) (Nat.le_of_ble_eq_true rfl) rfl hAD (fun U hK => ns_write hK hN) ?_
      intro p e s m below meth c A args hA C hr hlk hnm
      refine sg0 C foX8 coX8 oX8_erased_0 rfl rfl hn ?_
      refine ni_y (ci := 1) C (fun H hH => (hx H hH).1) rfl kl_X8_167 (by decide) jX8_erased_1 ?_
      refine b1_eq (tgt := 54) C jX8_erased_4 (by decide) (fun h4 => ?_) (fun h4 => ?_)
      · exact absurd h4 (by decide)
      · refine sg0 C foX8 coX8 oX8_erased_7 rfl rfl hn ?_
        refine nc_y (ci := 1) C (fun H hH => (hx H hH).1) rfl kl_X8_167 (by decide) jX8_erased_8 ?_
        refine sg0 C foX8 coX8 oX8_erased_11 rfl rfl hn ?_
        refine cl_v C (kX1_toward hAD hn hN (q := q) (B := B) (S := S) (fun H hH => (hx H hH).1) hP hB) (nrc C (fun H hH => (hx H hH).1) rfl) cd_X1_toward in_X1 ml_X8_172 im_X1_toward se_X1_toward hd_X1_toward rfl rfl ⟨by show 1 + 1 ≤ k + 4; omega, by show 8 + (2 + 11) + 40 * 1 ≤ 40 * (k + 4); omega⟩ ⟨by show 0 + 0 ≤ k + 1; omega, by show 0 + 0 ≤ 5 * (k + 1); omega⟩ (Nat.le_of_ble_eq_true rfl) jX8_erased_14 (fun v ws' => Wa.and (fun hv => ?_))
        obtain ⟨rfl, rfl⟩ := hv
        rw [if_neg hb]
        refine sg0 C foX8 coX8 oX8_erased_17 rfl rfl hn ?_
        refine ni_F C (T := x) (fun H hH => (hx H hH).2.1) kl_X8_167 jX8_erased_21 ?_
        refine b1_eq (tgt := 48) C jX8_erased_24 (by decide) (fun h24 => ?_) (fun h24 => ?_)
        · have hf : ¬ isF x = true := fun e1 => by rw [if_pos e1] at h24; exact absurd h24 (by decide)
          refine sg0 C foX8 coX8 oX8_erased_48 rfl rfl hn ?_
          refine cl_v C (kX1_besides hAD hn hN (q := q) (B := B) (S := S) (fun H hH => (hx H hH).1) hP hB) (nrc C (fun H hH => (hx H hH).1) rfl) cd_X1_besides in_X1 ml_X8_196 im_X1_besides se_X1_besides hd_X1_besides rfl rfl ⟨by show 1 + 1 ≤ k + 4; omega, by show 8 + (2 + 11) + 40 * 1 ≤ 40 * (k + 4); omega⟩ ⟨by show 0 + 0 ≤ k + 1; omega, by show 0 + 0 ≤ 5 * (k + 1); omega⟩ (Nat.le_of_ble_eq_true rfl) jX8_erased_50 (fun v ws' => Wa.and (fun hv => ?_))
          obtain ⟨rfl, rfl⟩ := hv
          rw [if_neg hb]
          refine Wa.wid (k1 := k + 1) (k2 := 5 * (k + 1)) (by show 0 + 0 ≤ k + 1; omega) (by show 0 + 0 ≤ 5 * (k + 1); omega) ?_
          exact rt_a C hr (Or.inl ⟨_, rfl⟩) hlk jX8_erased_53 (fun H hH => ⟨y, ⟨rfl, rfl, by simp only [delT]; rw [if_neg hb, if_neg hf]⟩, hH, (hx H hH).2.2⟩)
        · have hf : isF x = true := Decidable.byContradiction fun e1 => h24 (if_neg e1)
          refine sg0 C foX8 coX8 oX8_erased_27 rfl rfl hn ?_
          refine b2_ge (tgt := 48) C jX8_erased_30 (by decide) (fun h30 => ?_) (fun h30 => ?_)
          · exact absurd h30 (by rw [show (16 : Int32) = nI 16 from rfl]; exact nI_ge (by omega) (by decide))
          · refine sg0 C foX8 coX8 oX8_erased_33 rfl rfl hn ?_
            rw [nI_1]
            refine cl_s C (i1 (15 - B) (d + 1) N hfx (by omega) hN (fun H hH => (hx H hH).2.1)) cd_X8_erased in_X8 ml_X8_79 sm_X8_erased hd_X8_erased rfl rfl ⟨by show (15 - B + 4) + 1 ≤ k + 4; omega, by show 8 + (5 + 11) + 40 * (15 - B + 4) ≤ 40 * (k + 4); omega⟩ ⟨by show 0 + (15 - B + 1) ≤ k + 1; omega, by show 0 + 5 * (15 - B + 1) ≤ 5 * (k + 1); omega⟩ (Nat.le_of_ble_eq_true rfl) jX8_erased_41 (fun v ws' => Wa.ex (fun T1 => Wa.and (fun hv => ?_)))
            obtain ⟨rfl, rfl, hK1⟩ := hv
            have hN1 := hN.and (nodeAt.ns (D := D) T1)
            have C := C.to (N2 := fun H => N H ∧ nodeAt D H T1) hN1
            refine cl_v C (kX1_with hAD hn hN1 hww (q := q) (B := B) (S := S) (x := x) (y := y) (z := T1) (fun H hH => hx H hH.1) (fun H hH => hH.2) hP hB) (nrc C (fun H hH => (hx H hH.1).1) rfl) cd_X1_with in_X1 ml_X8_175 im_X1_with se_X1_with hd_X1_with rfl rfl ⟨by show 3 + 1 ≤ k + 4; omega, by show 8 + (3 + 11) + 40 * 3 ≤ 40 * (k + 4); omega⟩ ⟨by show (0 + (15 - B + 1)) + 1 ≤ k + 1; omega, by show (0 + 5 * (15 - B + 1)) + 5 ≤ 5 * (k + 1); omega⟩ (Nat.le_of_ble_eq_true rfl) jX8_erased_44 (fun v ws' => Wa.ex (fun T2 => Wa.and (fun hv => ?_)))
            obtain ⟨rfl, rfl, hK2⟩ := hv
            have hN2 := hN1.and (nodeAt.ns (D := D) T2)
            have C := C.to (N2 := fun H => (N H ∧ nodeAt D H T1) ∧ nodeAt D H T2) hN2
            have hK3 : ∃ q2, T2 = tF q2 B S T1 y := by
              rcases hK2 with ⟨q2, e1, e2⟩ | ⟨q2, e1, e2⟩
              · exact absurd e1 hb
              · exact ⟨q2, e2⟩
            obtain ⟨q2, rfl⟩ := hK3
            refine Wa.wid (k1 := k + 1) (k2 := 5 * (k + 1)) (by show 0 + (15 - B + 1) + 1 ≤ k + 1; omega) (by show 0 + 5 * (15 - B + 1) + 5 ≤ 5 * (k + 1); omega) ?_
            exact rt_a C hr (Or.inl ⟨_, rfl⟩) hlk jX8_erased_47 (fun H hH => ⟨tF q2 B S T1 y, ⟨rfl, rfl, by simp only [delT]; rw [if_neg hb, if_pos hf]; simp only [strp, hK1]⟩, hH.1.1, hH.2⟩)
end
end
section
/-! ranges and tapes of the class -/
def octX (v : Int64) (j : Nat) : Int32 := ((v.toUInt64 >>> (((8 : Int32) * nI j).toInt64.toUInt64 &&& Int64.toUInt64 63)).toInt64.toInt32) &&& 255
/-- the n lowest octets, the highest of them first -/
def octs : Nat → Int64 → List Int32
  | 0, _ => []
  | j + 1, v => octX v j :: octs j v
theorem octs_len : ∀ (j : Nat) (v : Int64), (octs j v).length = j
  | 0, _ => rfl
  | j + 1, v => by simp [octs, octs_len j v]
/-- a row of octets holds the list, as far as its room goes -/
def tpR (f : Nat → Int32) (S : List Int32) : Prop := ∀ j : Nat, j < 4000 → j < S.length → S[j]? = some (f j)
theorem tpR_push {f : Nat → Int32} {S : List Int32} {x : Int32} (h : tpR f S) (i : Nat) (hi : i = S.length) : tpR (upd f i x) (S ++ [x]) := by
  intro j h1 h2
  by_cases e1 : j = S.length
  · subst e1 hi
    simp [upd]
  · have h3 : j < S.length := by simp at h2; omega
    have h4 : ¬ j = i := by omega
    rw [List.getElem?_append_left h3, h j h1 h3]
    simp [upd, h4]
theorem tpR_over {f : Nat → Int32} {S : List Int32} {x : Int32} (h : tpR f S) (hi : 4000 ≤ S.length) : tpR f (S ++ [x]) := by
  intro j h1 h2
  have h3 : j < S.length := by omega
  rw [List.getElem?_append_left h3, h j h1 h3]
theorem sub_m1 (x : Int32) : x + (-1) = x - 1 := by rw [Int32.sub_eq_add_neg]
def meR (Rg : List (Nat × Nat)) (f t : Nat) : Bool := Rg.any (fun r => decide (r.1 ≤ t) && decide (f ≤ r.2))
def rgR (ra rb : Nat → Int32) (Rg : List (Nat × Nat)) : Prop := Rg.length ≤ 20 ∧ ∀ (j : Nat) (r : Nat × Nat), Rg[j]? = some r → ra j = nI r.1 ∧ rb j = nI r.2 ∧ r.1 < 65536 ∧ r.2 < 65536
section
variable {p : Program} {l : Launch} {e : Env} {R : Room} {s : State} {m : MethodId} {args : Array Value} {below : List Frame} {meth : Method} {c : Code} {cells slots : Nat} {QQ : State → Prop} {D : va_G} {ca : Nat → ClassId} {ad : Nat → Nat} {A : Nat → Prop} {N : Heap → Prop} {n : Nat}
set_option maxRecDepth 100000 in
set_option maxHeartbeats 4000000 in
theorem lp_append5 (C : Cx p s m args c cX7_append 5 RX7 D ca ad A N n) {c0 c1 c2 c3 c4 : va_E} {rest : List va_E} (hn : 7 + rest.length = n) {x1 : Int32} {v : Int64} : ∀ (j : Nat) (S : List Int32) (so : Nat → Int32), tpR so S → S.length + j < 2 ^ 31 → j < 2 ^ 31 → (∀ so2 : Nat → Int32, tpR so2 (S ++ octs j v) → Wa p l e R s m args below meth c cells slots QQ D ca ad A 5 N ([(0, .ref 5), (1, .int x1), (2, .long v), (4, .int (nI 0 - 1))], [], (c0 :: c1 :: c2 :: c3 :: c4 :: .inr (6, [.ref 6, .int (nI (S ++ octs j v).length)]) :: .inl (0, 4000, .inl so2) :: rest)) 57) → Wa p l e R s m args below meth c cells slots QQ D ca ad A 5 N ([(0, .ref 5), (1, .int x1), (2, .long v), (4, .int (nI j - 1))], [], (c0 :: c1 :: c2 :: c3 :: c4 :: .inr (6, [.ref 6, .int (nI S.length)]) :: .inl (0, 4000, .inl so) :: rest)) 5 := by
  have hn2 : ∀ (so2 : Nat → Int32) (L : Nat), ((c0 :: c1 :: c2 :: c3 :: c4 :: .inr (6, [.ref 6, .int (nI L)]) :: .inl (0, 4000, .inl so2) :: rest) : List va_E).length = n := fun so2 L => by simp; omega
  intro j
  induction j with
  | zero =>
    intro S so h1 h2 h3 hK
    have hK := hK so (by simpa [octs] using h1)
    rw [show S ++ octs 0 v = S by simp [octs]] at hK
    refine sg0 C foX7 coX7 oX7_append_5 rfl rfl (hn2 _ _) ?_
    exact b1_lt (tgt := 57) C jX7_append_7 (by decide) (fun _ => hK) (fun h7 => absurd (by decide) h7)
  | succ j ih =>
    intro S so h1 h2 h3 hK
    rw [nI_pred j]
    refine sg0 C foX7 coX7 oX7_append_5 rfl rfl (hn2 _ _) ?_
    refine b1_lt (tgt := 57) C jX7_append_7 (by decide) (fun h7 => ?_) (fun h7 => ?_)
    · exact absurd h7 (nI_pos (by omega))
    · refine sg0 C foX7 coX7 oX7_append_10 rfl rfl (hn2 _ _) ?_
      refine b2_ge (tgt := 41) C jX7_append_17 (by decide) (fun h17 => ?_) (fun h17 => ?_)
      · have hq : 4000 ≤ S.length := Nat.not_lt.mp fun q => absurd h17 (by rw [show (4000 : Int32) = nI 4000 from rfl]; exact nI_ge q (by decide))
        refine sg0 C foX7 coX7 oX7_append_41 rfl rfl (hn2 _ _) ?_
        rw [nI_1, sub_m1]
        have h9 := ih (S ++ [octX v j]) so (tpR_over h1 hq) (by simp; omega) (by omega) (fun so2 q => by
          have h8 := hK so2 (by rw [show S ++ octs (j + 1) v = S ++ [octX v j] ++ octs j v by simp [octs]]; exact q)
          rw [show S ++ octs (j + 1) v = S ++ [octX v j] ++ octs j v by simp [octs]] at h8
          exact h8)
        rw [show (S ++ [octX v j]).length = S.length + 1 by simp] at h9
        exact h9
      · have hq : S.length < 4000 := Nat.not_le.mp fun q => h17 (by rw [show (4000 : Int32) = nI 4000 from rfl]; exact nI_le q (by omega))
        refine sg C foX7 coX7 oX7_append_20 rfl rfl (hn2 _ _) ⟨vp_in_nI hq (by decide), trivial⟩ ?_
        refine sg0 C foX7 coX7 oX7_append_41 rfl rfl (hn2 _ _) ?_
        rw [nI_1, sub_m1]
        have h9 := ih (S ++ [octX v j]) _ (tpR_push h1 _ (nI_clamp (by omega))) (by simp; omega) (by omega) (fun so2 q => by
          have h8 := hK so2 (by rw [show S ++ octs (j + 1) v = S ++ [octX v j] ++ octs j v by simp [octs]]; exact q)
          rw [show S ++ octs (j + 1) v = S ++ [octX v j] ++ octs j v by simp [octs]] at h8
          exact h8)
        rw [show (S ++ [octX v j]).length = S.length + 1 by simp] at h9
        exact h9
end
section
variable {l : Launch} {D : va_G} {ca : Nat → ClassId} {ad : Nat → Nat} {n : Nat} {N : Heap → Prop}
set_option maxRecDepth 100000 in
set_option maxHeartbeats 4000000 in
theorem kX7_append5 (hAD : AD ad n) (hN : NS D N) {c0 c1 c2 c3 c4 : va_E} {rest : List va_E} (hn : 7 + rest.length = n) {S : List Int32} {so : Nat → Int32} (hS : tpR so S) (j : Nat) (hj : S.length + j < 2 ^ 31) (v : Int64) : Ct l yX7_append cX7_append 5 none (rK 0 0 0) D ca ad (c0 :: c1 :: c2 :: c3 :: c4 :: .inr (6, [.ref 6, .int (nI S.length)]) :: .inl (0, 4000, .inl so) :: rest) n [.ref 5, .int (nI j), .long v] N (fun r ws2 H => ∃ so2 : Nat → Int32, (r = none ∧ ws2 = (c0 :: c1 :: c2 :: c3 :: c4 :: .inr (6, [.ref 6, .int (nI (S ++ octs j v).length)]) :: .inl (0, 4000, .inl so2) :: rest) ∧ tpR so2 (S ++ octs j v)) ∧ N H) := by
  have hn2 : ∀ (so2 : Nat → Int32) (L : Nat), ((c0 :: c1 :: c2 :: c3 :: c4 :: .inr (6, [.ref 6, .int (nI L)]) :: .inl (0, 4000, .inl so2) :: rest) : List va_E).length = n := fun so2 L => by simp; omega
  refine enter (lv := [(0, .ref 5), (1, .int (nI j)), (2, .long v)]) (by decide +kernel) (Nat.le_of_ble_eq_true rfl) rfl hAD (fun U hK => ns_write hK hN) ?_
  intro p e s m below meth c A args hA C hr hlk hnm
  refine sg0 C foX7 coX7 oX7_append_0 rfl rfl (hn2 _ _) ?_
  refine lp_append5 C hn j S so hS hj (by omega) (fun so2 q => ?_)
  exact rt_v C hr hlk jX7_append_57 (fun H hH => ⟨so2, ⟨rfl, rfl, q⟩, hH⟩)
end
section
variable {p : Program} {l : Launch} {e : Env} {R : Room} {s : State} {m : MethodId} {args : Array Value} {below : List Frame} {meth : Method} {c : Code} {cells slots : Nat} {QQ : State → Prop} {D : va_G} {ca : Nat → ClassId} {ad : Nat → Nat} {A : Nat → Prop} {N : Heap → Prop} {n : Nat}
set_option maxRecDepth 100000 in
set_option maxHeartbeats 4000000 in
theorem lp_append7 (C : Cx p s m args c cX7_append 5 RX7 D ca ad A N n) {c0 c1 c2 c3 c4 c5 c6 : va_E} {rest : List va_E} (hn : 9 + rest.length = n) {x1 : Int32} {v : Int64} : ∀ (j : Nat) (S : List Int32) (so : Nat → Int32), tpR so S → S.length + j < 2 ^ 31 → j < 2 ^ 31 → (∀ so2 : Nat → Int32, tpR so2 (S ++ octs j v) → Wa p l e R s m args below meth c cells slots QQ D ca ad A 5 N ([(0, .ref 7), (1, .int x1), (2, .long v), (4, .int (nI 0 - 1))], [], (c0 :: c1 :: c2 :: c3 :: c4 :: c5 :: c6 :: .inr (6, [.ref 8, .int (nI (S ++ octs j v).length)]) :: .inl (0, 4000, .inl so2) :: rest)) 57) → Wa p l e R s m args below meth c cells slots QQ D ca ad A 5 N ([(0, .ref 7), (1, .int x1), (2, .long v), (4, .int (nI j - 1))], [], (c0 :: c1 :: c2 :: c3 :: c4 :: c5 :: c6 :: .inr (6, [.ref 8, .int (nI S.length)]) :: .inl (0, 4000, .inl so) :: rest)) 5 := by
  have hn2 : ∀ (so2 : Nat → Int32) (L : Nat), ((c0 :: c1 :: c2 :: c3 :: c4 :: c5 :: c6 :: .inr (6, [.ref 8, .int (nI L)]) :: .inl (0, 4000, .inl so2) :: rest) : List va_E).length = n := fun so2 L => by simp; omega
  intro j
  induction j with
  | zero =>
    intro S so h1 h2 h3 hK
    have hK := hK so (by simpa [octs] using h1)
    rw [show S ++ octs 0 v = S by simp [octs]] at hK
    refine sg0 C foX7 coX7 oX7_append_5 rfl rfl (hn2 _ _) ?_
    exact b1_lt (tgt := 57) C jX7_append_7 (by decide) (fun _ => hK) (fun h7 => absurd (by decide) h7)
  | succ j ih =>
    intro S so h1 h2 h3 hK
    rw [nI_pred j]
    refine sg0 C foX7 coX7 oX7_append_5 rfl rfl (hn2 _ _) ?_
    refine b1_lt (tgt := 57) C jX7_append_7 (by decide) (fun h7 => ?_) (fun h7 => ?_)
    · exact absurd h7 (nI_pos (by omega))
    · refine sg0 C foX7 coX7 oX7_append_10 rfl rfl (hn2 _ _) ?_
      refine b2_ge (tgt := 41) C jX7_append_17 (by decide) (fun h17 => ?_) (fun h17 => ?_)
      · have hq : 4000 ≤ S.length := Nat.not_lt.mp fun q => absurd h17 (by rw [show (4000 : Int32) = nI 4000 from rfl]; exact nI_ge q (by decide))
        refine sg0 C foX7 coX7 oX7_append_41 rfl rfl (hn2 _ _) ?_
        rw [nI_1, sub_m1]
        have h9 := ih (S ++ [octX v j]) so (tpR_over h1 hq) (by simp; omega) (by omega) (fun so2 q => by
          have h8 := hK so2 (by rw [show S ++ octs (j + 1) v = S ++ [octX v j] ++ octs j v by simp [octs]]; exact q)
          rw [show S ++ octs (j + 1) v = S ++ [octX v j] ++ octs j v by simp [octs]] at h8
          exact h8)
        rw [show (S ++ [octX v j]).length = S.length + 1 by simp] at h9
        exact h9
      · have hq : S.length < 4000 := Nat.not_le.mp fun q => h17 (by rw [show (4000 : Int32) = nI 4000 from rfl]; exact nI_le q (by omega))
        refine sg C foX7 coX7 oX7_append_20 rfl rfl (hn2 _ _) ⟨vp_in_nI hq (by decide), trivial⟩ ?_
        refine sg0 C foX7 coX7 oX7_append_41 rfl rfl (hn2 _ _) ?_
        rw [nI_1, sub_m1]
        have h9 := ih (S ++ [octX v j]) _ (tpR_push h1 _ (nI_clamp (by omega))) (by simp; omega) (by omega) (fun so2 q => by
          have h8 := hK so2 (by rw [show S ++ octs (j + 1) v = S ++ [octX v j] ++ octs j v by simp [octs]]; exact q)
          rw [show S ++ octs (j + 1) v = S ++ [octX v j] ++ octs j v by simp [octs]] at h8
          exact h8)
        rw [show (S ++ [octX v j]).length = S.length + 1 by simp] at h9
        exact h9
end
section
variable {l : Launch} {D : va_G} {ca : Nat → ClassId} {ad : Nat → Nat} {n : Nat} {N : Heap → Prop}
set_option maxRecDepth 100000 in
set_option maxHeartbeats 4000000 in
theorem kX7_append7 (hAD : AD ad n) (hN : NS D N) {c0 c1 c2 c3 c4 c5 c6 : va_E} {rest : List va_E} (hn : 9 + rest.length = n) {S : List Int32} {so : Nat → Int32} (hS : tpR so S) (j : Nat) (hj : S.length + j < 2 ^ 31) (v : Int64) : Ct l yX7_append cX7_append 5 none (rK 0 0 0) D ca ad (c0 :: c1 :: c2 :: c3 :: c4 :: c5 :: c6 :: .inr (6, [.ref 8, .int (nI S.length)]) :: .inl (0, 4000, .inl so) :: rest) n [.ref 7, .int (nI j), .long v] N (fun r ws2 H => ∃ so2 : Nat → Int32, (r = none ∧ ws2 = (c0 :: c1 :: c2 :: c3 :: c4 :: c5 :: c6 :: .inr (6, [.ref 8, .int (nI (S ++ octs j v).length)]) :: .inl (0, 4000, .inl so2) :: rest) ∧ tpR so2 (S ++ octs j v)) ∧ N H) := by
  have hn2 : ∀ (so2 : Nat → Int32) (L : Nat), ((c0 :: c1 :: c2 :: c3 :: c4 :: c5 :: c6 :: .inr (6, [.ref 8, .int (nI L)]) :: .inl (0, 4000, .inl so2) :: rest) : List va_E).length = n := fun so2 L => by simp; omega
  refine enter (lv := [(0, .ref 7), (1, .int (nI j)), (2, .long v)]) (by decide +kernel) (Nat.le_of_ble_eq_true rfl) rfl hAD (fun U hK => ns_write hK hN) ?_
  intro p e s m below meth c A args hA C hr hlk hnm
  refine sg0 C foX7 coX7 oX7_append_0 rfl rfl (hn2 _ _) ?_
  refine lp_append7 C hn j S so hS hj (by omega) (fun so2 q => ?_)
  exact rt_v C hr hlk jX7_append_57 (fun H hH => ⟨so2, ⟨rfl, rfl, q⟩, hH⟩)
end
theorem has_1 {i : Int32} {L : Nat} (hL : L ≤ 4000) (h : nI L ≤ i) : ¬ i.toInt < L := by
  rw [Int32.le_iff_toInt_le, nI_toInt (by omega)] at h
  omega
theorem has_2 {i : Int32} {L : Nat} (hL : L ≤ 4000) (h : (4000 : Int32) ≤ i) : ¬ i.toInt < L := by
  rw [Int32.le_iff_toInt_le, show ((4000 : Int32)).toInt = 4000 from rfl] at h
  omega
theorem has_3 {i : Int32} {L : Nat} (hL : L ≤ 4000) (h : ¬ i < 0) (h2 : ¬ nI L ≤ i) : vp_in i L := by
  rw [vp_in_iff]
  rw [Int32.le_iff_toInt_le, nI_toInt (by omega)] at h2
  rw [Int32.lt_iff_toInt_lt, Int32.toInt_zero] at h
  omega
theorem dec_vp (i : Int32) (L : Nat) : vp_in i L ∨ ¬ vp_in i L := Classical.em _
section
variable {l : Launch} {D : va_G} {ca : Nat → ClassId} {ad : Nat → Nat} {n : Nat} {N : Heap → Prop}
set_option maxRecDepth 100000 in
set_option maxHeartbeats 4000000 in
theorem kX7_has (hAD : AD ad n) (hN : NS D N) {c0 c1 c2 c3 c4 : va_E} {rest : List va_E} (hn : 7 + rest.length = n) {so : Nat → Int32} {L : Nat} (hL : L ≤ 4000) (i : Int32) : Ct l yX7_has cX7_has 2 (some .boolean) (rK 0 0 0) D ca ad (c0 :: c1 :: c2 :: c3 :: c4 :: .inr (6, [.ref 6, .int (nI L)]) :: .inl (0, 4000, .inl so) :: rest) n [.ref 5, .int i] N (pG (c0 :: c1 :: c2 :: c3 :: c4 :: .inr (6, [.ref 6, .int (nI L)]) :: .inl (0, 4000, .inl so) :: rest) N (some (.int (if (0 ≤ i.toInt ∧ i.toInt < (L : Int)) then 1 else 0)))) := by
  have hn2 : ((c0 :: c1 :: c2 :: c3 :: c4 :: .inr (6, [.ref 6, .int (nI L)]) :: .inl (0, 4000, .inl so) :: rest) : List va_E).length = n := by simp; omega
  refine enter (lv := [(0, .ref 5), (1, .int i)]) (by decide +kernel) (Nat.le_of_ble_eq_true rfl) rfl hAD (fun U hK => ns_write hK hN) ?_
  intro p e s m below meth c A args hA C hr hlk hnm
  refine sg0 C foX7 coX7 oX7_has_0 rfl rfl hn2 ?_
  refine b1_lt (tgt := 23) C jX7_has_1 (by decide) (fun h1 => ?_) (fun h1 => ?_)
  · refine sg0 C foX7 coX7 oX7_has_23 rfl rfl hn2 ?_
    exact rt_z C hr hlk (by decide) jX7_has_24 (fun H hN => ⟨⟨by rw [if_neg (fun q => absurd (vp_in_iff.mpr q) (fun z => z (Or.inl h1)))], rfl⟩, hN⟩)
  · refine sg0 C foX7 coX7 oX7_has_4 rfl rfl hn2 ?_
    refine b2_ge (tgt := 23) C jX7_has_9 (by decide) (fun h9 => ?_) (fun h9 => ?_)
    · refine sg0 C foX7 coX7 oX7_has_23 rfl rfl hn2 ?_
      exact rt_z C hr hlk (by decide) jX7_has_24 (fun H hN => ⟨⟨by rw [if_neg (fun q => absurd q.2 (has_1 hL h9))], rfl⟩, hN⟩)
    · refine sg0 C foX7 coX7 oX7_has_12 rfl rfl hn2 ?_
      refine b2_ge (tgt := 23) C jX7_has_16 (by decide) (fun h16 => ?_) (fun h16 => ?_)
      · refine sg0 C foX7 coX7 oX7_has_23 rfl rfl hn2 ?_
        exact rt_z C hr hlk (by decide) jX7_has_24 (fun H hN => ⟨⟨by rw [if_neg (fun q => absurd q.2 (has_2 hL h16))], rfl⟩, hN⟩)
      · refine sg0 C foX7 coX7 oX7_has_19 rfl rfl hn2 ?_
        exact rt_z C hr hlk (by decide) jX7_has_24 (fun H hN => ⟨⟨by rw [if_pos (vp_in_iff.mp (has_3 hL h1 h9))], rfl⟩, hN⟩)
end
section
variable {p : Program} {l : Launch} {e : Env} {R : Room} {s : State} {m : MethodId} {args : Array Value} {below : List Frame} {meth : Method} {c : Code} {cells slots : Nat} {D : va_G} {ca : Nat → ClassId} {ad : Nat → Nat} {A : Nat → Prop} {N : Heap → Prop} {n : Nat}
set_option maxRecDepth 100000 in
set_option maxHeartbeats 4000000 in
theorem lp_meet (C : Cx p s m args c cX5_meet 4 RX5 D ca ad A N n) (hr : meth.sig.returnType = some .boolean) (hlk : meth.locks = false) {c0 c1 : va_E} {rest : List va_E} (hn : 5 + rest.length = n) {G : Option Value → List va_E → Heap → Prop} {ra rb : Nat → Int32} {Rg : List (Nat × Nat)} (hRg : rgR ra rb Rg) {f t : Nat} (hf : f < 65536) (ht : t < 65536) : ∀ (suf pre : List (Nat × Nat)), Rg = pre ++ suf → (∀ H, N H → G (some (.int (if meR suf f t = true then 1 else 0))) (c0 :: c1 :: .inr (4, [.ref 3, .ref 4, .int (nI Rg.length)]) :: .inl (0, 20, .inl ra) :: .inl (0, 20, .inl rb) :: rest) H) → Wa p l e R s m args below meth c cells slots (MQ below (CQ D ca ad G A) args s cells slots A) D ca ad A 4 N ([(0, .ref 2), (1, .int (nI f)), (2, .int (nI t)), (3, .int (nI pre.length))], [], (c0 :: c1 :: .inr (4, [.ref 3, .ref 4, .int (nI Rg.length)]) :: .inl (0, 20, .inl ra) :: .inl (0, 20, .inl rb) :: rest)) 2 := by
  have hn2 : ((c0 :: c1 :: .inr (4, [.ref 3, .ref 4, .int (nI Rg.length)]) :: .inl (0, 20, .inl ra) :: .inl (0, 20, .inl rb) :: rest) : List va_E).length = n := by simp; omega
  intro suf
  induction suf with
  | nil =>
    intro pre he hG
    have hl : Rg.length = pre.length := by rw [he]; simp
    refine sg0 C foX5 coX5 oX5_meet_2 rfl rfl hn2 ?_
    refine b2_ge (tgt := 38) C jX5_meet_7 (by decide) (fun h7 => ?_) (fun h7 => absurd (by rw [hl]; exact Int32.le_refl _) h7)
    refine sg0 C foX5 coX5 oX5_meet_38 rfl rfl hn2 ?_
    exact rt_z C hr hlk (by decide) jX5_meet_39 hG
  | cons r suf ih =>
    intro pre he hG
    have hl : pre.length < Rg.length := by rw [he]; simp
    have hl2 := hRg.1
    obtain ⟨hr1, hr2, hr3, hr4⟩ := hRg.2 pre.length r (by rw [he]; simp)
    have hcl : (nI pre.length).toNatClampNeg = pre.length := nI_clamp (by omega)
    refine sg0 C foX5 coX5 oX5_meet_2 rfl rfl hn2 ?_
    refine b2_ge (tgt := 38) C jX5_meet_7 (by decide) (fun h7 => ?_) (fun h7 => ?_)
    · exact absurd h7 (nI_ge hl (by omega))
    · refine sg C foX5 coX5 oX5_meet_10 rfl rfl hn2 ⟨vp_in_nI (by omega) (by decide), trivial⟩ ?_
      rw [hcl, hr1]
      refine b2_gt (tgt := 32) C jX5_meet_17 (by decide) (fun h17 => ?_) (fun h17 => ?_)
      · have hm : (decide (r.1 ≤ t) && decide (f ≤ r.2)) = false := by simp only [Bool.and_eq_false_iff, decide_eq_false_iff_not]; exact Or.inl (Nat.not_le.mpr ((nI_ltI (by omega) (by omega)).mp h17))
        refine sg0 C foX5 coX5 oX5_meet_32 rfl rfl hn2 ?_
        rw [nI_1]
        have h9 := ih (pre ++ [r]) (by rw [he]; simp) (fun H hH => by
          have h8 := hG H hH
          rw [show meR (r :: suf) f t = meR suf f t by simp only [meR, List.any_cons]; rw [hm]; simp] at h8
          exact h8)
        rw [show (pre ++ [r]).length = pre.length + 1 by simp] at h9
        exact h9
      · refine sg C foX5 coX5 oX5_meet_20 rfl rfl hn2 ⟨vp_in_nI (by omega) (by decide), trivial⟩ ?_
        rw [hcl, hr2]
        refine b2_gt (tgt := 32) C jX5_meet_27 (by decide) (fun h27 => ?_) (fun h27 => ?_)
        · have hm : (decide (r.1 ≤ t) && decide (f ≤ r.2)) = false := by simp only [Bool.and_eq_false_iff, decide_eq_false_iff_not]; exact Or.inr (Nat.not_le.mpr ((nI_ltI (by omega) (by omega)).mp h27))
          refine sg0 C foX5 coX5 oX5_meet_32 rfl rfl hn2 ?_
          rw [nI_1]
          have h9 := ih (pre ++ [r]) (by rw [he]; simp) (fun H hH => by
            have h8 := hG H hH
            rw [show meR (r :: suf) f t = meR suf f t by simp only [meR, List.any_cons]; rw [hm]; simp] at h8
            exact h8)
          rw [show (pre ++ [r]).length = pre.length + 1 by simp] at h9
          exact h9
        · have hm : (decide (r.1 ≤ t) && decide (f ≤ r.2)) = true := by simp only [Bool.and_eq_true, decide_eq_true_eq]; exact ⟨Nat.not_lt.mp fun q => h17 ((nI_ltI (by omega) (by omega)).mpr q), Nat.not_lt.mp fun q => h27 ((nI_ltI (by omega) (by omega)).mpr q)⟩
          refine sg0 C foX5 coX5 oX5_meet_30 rfl rfl hn2 ?_
          exact rt_z C hr hlk (by decide) jX5_meet_31 (fun H hH => by have h8 := hG H hH; rw [if_pos (show meR (r :: suf) f t = true by simp only [meR, List.any_cons]; rw [hm]; simp)] at h8; exact h8)
end
section
variable {l : Launch} {D : va_G} {ca : Nat → ClassId} {ad : Nat → Nat} {n : Nat} {N : Heap → Prop}
set_option maxRecDepth 100000 in
set_option maxHeartbeats 4000000 in
theorem kX5_meet (hAD : AD ad n) (hN : NS D N) {c0 c1 : va_E} {rest : List va_E} (hn : 5 + rest.length = n) {ra rb : Nat → Int32} {Rg : List (Nat × Nat)} (hRg : rgR ra rb Rg) {f t : Nat} (hf : f < 65536) (ht : t < 65536) : Ct l yX5_meet cX5_meet 4 (some .boolean) (rK 0 0 0) D ca ad (c0 :: c1 :: .inr (4, [.ref 3, .ref 4, .int (nI Rg.length)]) :: .inl (0, 20, .inl ra) :: .inl (0, 20, .inl rb) :: rest) n [.ref 2, .int (nI f), .int (nI t)] N (pG (c0 :: c1 :: .inr (4, [.ref 3, .ref 4, .int (nI Rg.length)]) :: .inl (0, 20, .inl ra) :: .inl (0, 20, .inl rb) :: rest) N (some (.int (if meR Rg f t = true then 1 else 0)))) := by
  have hn2 : ((c0 :: c1 :: .inr (4, [.ref 3, .ref 4, .int (nI Rg.length)]) :: .inl (0, 20, .inl ra) :: .inl (0, 20, .inl rb) :: rest) : List va_E).length = n := by simp; omega
  refine enter (lv := [(0, .ref 2), (1, .int (nI f)), (2, .int (nI t))]) (by decide +kernel) (Nat.le_of_ble_eq_true rfl) rfl hAD (fun U hK => ns_write hK hN) ?_
  intro p e s m below meth c A args hA C hr hlk hnm
  refine sg0 C foX5 coX5 oX5_meet_0 rfl rfl hn2 ?_
  exact lp_meet C hr hlk hn hRg hf ht Rg [] rfl (fun H hH => ⟨⟨rfl, rfl⟩, hH⟩)
end
end
section
/-! what is shown, and the tape that becomes it -/
def shwT (Rg : List (Nat × Nat)) : Term → Nat → Nat → List Int32
  | .add (.arg _) .null, f, t => if meR Rg f t = true then octs 1 3 else octs 1 0 ++ octs 8 emptyF
  | .add (.arg _) (.long d), _, _ => octs 1 0 ++ octs 8 d
  | .add (.arg _) (.elem (.arg P) (.long v)), f, t => if meR Rg f t = true then octs 1 2 ++ (octs 2 (nI P).toInt64 ++ octs 8 v) else octs 1 0 ++ octs 8 (leafF P v)
  | .add (.arg _) (.sub (.elem (.arg B) (.arg S)) (.mul x y)), f, t => if meR Rg f t = true then octs 1 1 ++ (octs 1 (nI B).toInt64 ++ (octs 2 (nI S).toInt64 ++ (shwT Rg x S (S + 2 ^ (15 - B) - 1) ++ shwT Rg y (S + 2 ^ (15 - B)) (S + 2 ^ (16 - B) - 1)))) else octs 1 0 ++ octs 8 (forkF B S (dig x) (dig y))
  | _, _, _ => []
theorem strp_shw (Rg : List (Nat × Nat)) (T : Term) (h : isT T) : ∀ f t : Nat, shwT Rg (strp T) f t = shwT Rg T f t := by
  refine tr_ind (P := fun T => ∀ f t : Nat, shwT Rg (strp T) f t = shwT Rg T f t) ?_ ?_ ?_ ?_ T h
  · exact fun q f t => rfl
  · exact fun q d f t => rfl
  · exact fun q p v f t => rfl
  · exact fun q B S x y h1 h2 i1 i2 f t => by simp only [strp, shwT, i1, i2, strp_dig x h1, strp_dig y h2]
theorem shw_len (Rg : List (Nat × Nat)) (T : Term) (h : isT T) : ∀ f t k : Nat, fitT T k → (shwT Rg T f t).length + 4 ≤ 15 * 2 ^ (k + 1) := by
  have p1 : ∀ k : Nat, 2 ≤ 2 ^ (k + 1) := fun k => by
    have := Nat.two_pow_pos k
    rw [Nat.pow_succ]; omega
  refine tr_ind (P := fun T => ∀ f t k : Nat, fitT T k → (shwT Rg T f t).length + 4 ≤ 15 * 2 ^ (k + 1)) ?_ ?_ ?_ ?_ T h
  · intro q f t k _
    have := p1 k
    simp only [shwT]
    split <;> simp only [List.length_append, octs_len] <;> omega
  · intro q d f t k _
    have := p1 k
    simp only [shwT, List.length_append, octs_len]; omega
  · intro q p v f t k _
    have := p1 k
    simp only [shwT]
    split <;> simp only [List.length_append, octs_len] <;> omega
  · intro q B S x y h1 h2 i1 i2 f t k hf
    obtain ⟨⟨hB, hkB, hS, hstm⟩, hfx, hfy⟩ := fitF hf
    have a1 := i1 S (S + 2 ^ (15 - B) - 1) _ hfx
    have a2 := i2 (S + 2 ^ (15 - B)) (S + 2 ^ (16 - B) - 1) _ hfy
    have a3 : 2 ^ (15 - B + 1) * 2 ≤ 2 ^ (k + 1) := by
      rw [← Nat.pow_succ]; exact Nat.pow_le_pow_right (by decide) (by omega)
    have := p1 k
    simp only [shwT]
    split <;> simp only [List.length_append, octs_len] <;> omega
section
variable {l : Launch} {D : va_G} {ca : Nat → ClassId} {ad : Nat → Nat} {n : Nat}
set_option maxRecDepth 100000 in
set_option maxHeartbeats 4000000 in
theorem kX8_appendShown (hAD : AD ad n) {k0 k2 k3 k4 k6 k7 k8 : Value} {c1 c5 c6 : va_E} {rest : List va_E} (hn : 9 + rest.length = n) {ra rb : Nat → Int32} {Rg : List (Nat × Nat)} (hRg : rgR ra rb Rg) (T : Term) (hT : isT T) : ∀ (k d : Nat) (N : Heap → Prop) (f t : Nat) (S0 : List Int32) (so : Nat → Int32), fitT (T) k → d + k ≤ 16 → NS D N → (∀ H, N H → nodeAt D H (T)) → f < 65536 → t < 65536 → tpR so S0 → S0.length + 15 * 2 ^ (k + 1) ≤ 2 ^ 30 → Ct l yX8_appendShown cX8_appendShown 7 none (rK (k + 1) 0 0) D ca ad (.inr (7, [k0, .ref 2, k2, k3, k4, .ref 7, k6, k7, k8]) :: c1 :: .inr (4, [.ref 3, .ref 4, .int (nI Rg.length)]) :: .inl (0, 20, .inl ra) :: .inl (0, 20, .inl rb) :: c5 :: c6 :: .inr (6, [.ref 8, .int (nI S0.length)]) :: .inl (0, 4000, .inl so) :: rest) n [.ref 0, .ref (adr (T) + 100), .int (nI f), .int (nI t), .int (nI d)] N (fun r ws2 H => ∃ so2 : Nat → Int32, (r = none ∧ ws2 = (.inr (7, [k0, .ref 2, k2, k3, k4, .ref 7, k6, k7, k8]) :: c1 :: .inr (4, [.ref 3, .ref 4, .int (nI Rg.length)]) :: .inl (0, 20, .inl ra) :: .inl (0, 20, .inl rb) :: c5 :: c6 :: .inr (6, [.ref 8, .int (nI (S0 ++ shwT Rg (T) f t).length)]) :: .inl (0, 4000, .inl so2) :: rest) ∧ tpR so2 (S0 ++ shwT Rg (T) f t)) ∧ N H) := by
  have hn2 : ∀ (so2 : Nat → Int32) (L : Nat), ((.inr (7, [k0, .ref 2, k2, k3, k4, .ref 7, k6, k7, k8]) :: c1 :: .inr (4, [.ref 3, .ref 4, .int (nI Rg.length)]) :: .inl (0, 20, .inl ra) :: .inl (0, 20, .inl rb) :: c5 :: c6 :: .inr (6, [.ref 8, .int (nI L)]) :: .inl (0, 4000, .inl so2) :: rest) : List va_E).length = n := fun so2 L => by simp; omega
  refine tr_ind (P := fun T => ∀ (k d : Nat) (N : Heap → Prop) (f t : Nat) (S0 : List Int32) (so : Nat → Int32), fitT (T) k → d + k ≤ 16 → NS D N → (∀ H, N H → nodeAt D H (T)) → f < 65536 → t < 65536 → tpR so S0 → S0.length + 15 * 2 ^ (k + 1) ≤ 2 ^ 30 → Ct l yX8_appendShown cX8_appendShown 7 none (rK (k + 1) 0 0) D ca ad (.inr (7, [k0, .ref 2, k2, k3, k4, .ref 7, k6, k7, k8]) :: c1 :: .inr (4, [.ref 3, .ref 4, .int (nI Rg.length)]) :: .inl (0, 20, .inl ra) :: .inl (0, 20, .inl rb) :: c5 :: c6 :: .inr (6, [.ref 8, .int (nI S0.length)]) :: .inl (0, 4000, .inl so) :: rest) n [.ref 0, .ref (adr (T) + 100), .int (nI f), .int (nI t), .int (nI d)] N (fun r ws2 H => ∃ so2 : Nat → Int32, (r = none ∧ ws2 = (.inr (7, [k0, .ref 2, k2, k3, k4, .ref 7, k6, k7, k8]) :: c1 :: .inr (4, [.ref 3, .ref 4, .int (nI Rg.length)]) :: .inl (0, 20, .inl ra) :: .inl (0, 20, .inl rb) :: c5 :: c6 :: .inr (6, [.ref 8, .int (nI (S0 ++ shwT Rg (T) f t).length)]) :: .inl (0, 4000, .inl so2) :: rest) ∧ tpR so2 (S0 ++ shwT Rg (T) f t)) ∧ N H)) ?_ ?_ ?_ ?_ T hT
  · intro q k d N f t S0 so hfit hdk hN hx hf ht hS hlen
    have hp0 : 2 ≤ 2 ^ (k + 1) := by have := Nat.two_pow_pos k; rw [Nat.pow_succ]; omega
    refine enter (lv := [(0, .ref 0), (1, .ref (adr (tE q) + 100)), (2, .int (nI f)), (3, .int (nI t)), (4, .int (nI d))]) (by decide +kernel) (Nat.le_of_ble_eq_true rfl) rfl hAD (fun U hK => ns_write hK hN) ?_
    intro p e s m below meth c A args hA C hr hlk hnm
    refine sg0 C foX8 coX8 oX8_appendShown_0 rfl rfl (hn2 _ _) ?_
    refine ni_n (ci := 0) C (fun H hH => hx H hH) rfl kl_X8_134 (by decide) jX8_appendShown_1 ?_
    refine b1_ne (tgt := 19) C jX8_appendShown_4 (by decide) (fun h4 => ?_) (fun h4 => ?_)
    · exact absurd h4 (by decide)
    · refine sg0 C foX8 coX8 oX8_appendShown_7 rfl rfl (hn2 _ _) ?_
      refine cl_v C (kX5_meet hAD hN (show 5 + _ = n from by rw [← hn2 so S0.length]; simp; omega) hRg hf ht) (rcv (ci := 4) C.2.1 rfl rfl) cd_X5_meet in_X5 ml_X8_221 im_X5_meet se_X5_meet hd_X5_meet rfl rfl ⟨by show 0 + 1 ≤ k + 1; omega, by show 8 + (4 + 11) + 40 * 0 ≤ 40 * (k + 1); omega⟩ ⟨(Nat.le_of_ble_eq_true rfl), (Nat.le_of_ble_eq_true rfl)⟩ (Nat.le_of_ble_eq_true rfl) jX8_appendShown_13 (fun v ws' => Wa.and (fun hv => ?_))
      obtain ⟨rfl, rfl⟩ := hv
      refine b1_ne (tgt := 44) C jX8_appendShown_16 (by decide) (fun h16 => ?_) (fun h16 => ?_)
      · have hm : meR Rg f t = true := Decidable.byContradiction fun e1 => h16 (if_neg e1)
        refine sg0 C foX8 coX8 oX8_appendShown_44 rfl rfl (hn2 _ _) ?_
        refine ni_n (ci := 0) C (fun H hH => hx H hH) rfl kl_X8_167 (by decide) jX8_appendShown_45 ?_
        refine b1_eq (tgt := 152) C jX8_appendShown_48 (by decide) (fun h48 => ?_) (fun h48 => ?_)
        · refine sg0 C foX8 coX8 oX8_appendShown_152 rfl rfl (hn2 _ _) ?_
          refine ni_n (ci := 0) C (fun H hH => hx H hH) rfl kl_X8_65 (by decide) jX8_appendShown_153 ?_
          refine b1_eq (tgt := 207) C jX8_appendShown_156 (by decide) (fun h156 => ?_) (fun h156 => ?_)
          · refine sg0 C foX8 coX8 oX8_appendShown_207 rfl rfl (hn2 _ _) ?_
            refine cl_v C (kX7_append7 hAD hN (show 9 + rest.length = n from hn) (S := S0) hS 1 (by (try simp only [List.length_append, octs_len]); omega) (3)) (rcv (ci := 6) C.2.1 rfl rfl) cd_X7_append in_X7 ml_X8_107 im_X7_append se_X7_append hd_X7_append rfl rfl ⟨by show 0 + 1 ≤ k + 1; omega, by show 8 + (5 + 11) + 40 * 0 ≤ 40 * (k + 1); omega⟩ ⟨(Nat.le_of_ble_eq_true rfl), (Nat.le_of_ble_eq_true rfl)⟩ (Nat.le_of_ble_eq_true rfl) jX8_appendShown_215 (fun v ws' => Wa.ex (fun s1 => Wa.and (fun hv => ?_)))
            obtain ⟨rfl, rfl, hs1⟩ := hv
            exact rt_v C hr hlk jX8_appendShown_218 (fun H hH => ⟨s1, ⟨rfl, by rw [show shwT Rg (tE q) f t = octs 1 3 from by simp only [shwT]; rw [if_pos hm]]; (try simp only [List.append_assoc]), by rw [show shwT Rg (tE q) f t = octs 1 3 from by simp only [shwT]; rw [if_pos hm]]; simpa only [List.append_assoc] using hs1⟩, hH⟩)
          · exact absurd h156 (by decide)
        · exact absurd h48 (by decide)
      · have hm : ¬ meR Rg f t = true := fun e1 => by rw [if_pos e1] at h16; exact absurd h16 (by decide)
        refine sg0 C foX8 coX8 oX8_appendShown_19 rfl rfl (hn2 _ _) ?_
        refine cl_v C (kX7_append7 hAD hN (show 9 + rest.length = n from hn) (S := S0) hS 1 (by (try simp only [List.length_append, octs_len]); omega) (0)) (rcv (ci := 6) C.2.1 rfl rfl) cd_X7_append in_X7 ml_X8_107 im_X7_append se_X7_append hd_X7_append rfl rfl ⟨by show 0 + 1 ≤ k + 1; omega, by show 8 + (5 + 11) + 40 * 0 ≤ 40 * (k + 1); omega⟩ ⟨(Nat.le_of_ble_eq_true rfl), (Nat.le_of_ble_eq_true rfl)⟩ (Nat.le_of_ble_eq_true rfl) jX8_appendShown_25 (fun v ws' => Wa.ex (fun s1 => Wa.and (fun hv => ?_)))
        obtain ⟨rfl, rfl, hs1⟩ := hv
        refine sg0 C foX8 coX8 oX8_appendShown_28 rfl rfl (hn2 _ _) ?_
        refine ng (ci := 0) (k := 0) (v := .long (emptyF)) C (fun H hH => hx H hH) rfl (by decide) fl_X8_87 rfl jX8_appendShown_35 ?_
        refine cl_v C (kX7_append7 hAD hN (show 9 + rest.length = n from hn) (S := S0 ++ octs 1 0) hs1 8 (by (try simp only [List.length_append, octs_len]); omega) (emptyF)) (rcv (ci := 6) C.2.1 rfl rfl) cd_X7_append in_X7 ml_X8_107 im_X7_append se_X7_append hd_X7_append rfl rfl ⟨by show 0 + 1 ≤ k + 1; omega, by show 8 + (5 + 11) + 40 * 0 ≤ 40 * (k + 1); omega⟩ ⟨(Nat.le_of_ble_eq_true rfl), (Nat.le_of_ble_eq_true rfl)⟩ (Nat.le_of_ble_eq_true rfl) jX8_appendShown_38 (fun v ws' => Wa.ex (fun s2 => Wa.and (fun hv => ?_)))
        obtain ⟨rfl, rfl, hs2⟩ := hv
        refine sg0 C foX8 coX8 oX8_appendShown_41 rfl rfl (hn2 _ _) ?_
        exact rt_v C hr hlk jX8_appendShown_218 (fun H hH => ⟨s2, ⟨rfl, by rw [show shwT Rg (tE q) f t = octs 1 0 ++ octs 8 (emptyF) from by simp only [shwT]; rw [if_neg hm]]; (try simp only [List.append_assoc]), by rw [show shwT Rg (tE q) f t = octs 1 0 ++ octs 8 (emptyF) from by simp only [shwT]; rw [if_neg hm]]; simpa only [List.append_assoc] using hs2⟩, hH⟩)
  · intro q d0 k d N f t S0 so hfit hdk hN hx hf ht hS hlen
    have hp0 : 2 ≤ 2 ^ (k + 1) := by have := Nat.two_pow_pos k; rw [Nat.pow_succ]; omega
    refine enter (lv := [(0, .ref 0), (1, .ref (adr (tH q d0) + 100)), (2, .int (nI f)), (3, .int (nI t)), (4, .int (nI d))]) (by decide +kernel) (Nat.le_of_ble_eq_true rfl) rfl hAD (fun U hK => ns_write hK hN) ?_
    intro p e s m below meth c A args hA C hr hlk hnm
    refine sg0 C foX8 coX8 oX8_appendShown_0 rfl rfl (hn2 _ _) ?_
    refine ni_y (ci := 2) C (fun H hH => hx H hH) rfl kl_X8_134 (by decide) jX8_appendShown_1 ?_
    refine b1_ne (tgt := 19) C jX8_appendShown_4 (by decide) (fun h4 => ?_) (fun h4 => ?_)
    · refine sg0 C foX8 coX8 oX8_appendShown_19 rfl rfl (hn2 _ _) ?_
      refine cl_v C (kX7_append7 hAD hN (show 9 + rest.length = n from hn) (S := S0) hS 1 (by (try simp only [List.length_append, octs_len]); omega) (0)) (rcv (ci := 6) C.2.1 rfl rfl) cd_X7_append in_X7 ml_X8_107 im_X7_append se_X7_append hd_X7_append rfl rfl ⟨by show 0 + 1 ≤ k + 1; omega, by show 8 + (5 + 11) + 40 * 0 ≤ 40 * (k + 1); omega⟩ ⟨(Nat.le_of_ble_eq_true rfl), (Nat.le_of_ble_eq_true rfl)⟩ (Nat.le_of_ble_eq_true rfl) jX8_appendShown_25 (fun v ws' => Wa.ex (fun s1 => Wa.and (fun hv => ?_)))
      obtain ⟨rfl, rfl, hs1⟩ := hv
      refine sg0 C foX8 coX8 oX8_appendShown_28 rfl rfl (hn2 _ _) ?_
      refine ng (ci := 2) (k := 0) (v := .long (d0)) C (fun H hH => hx H hH) rfl (by decide) fl_X8_87 rfl jX8_appendShown_35 ?_
      refine cl_v C (kX7_append7 hAD hN (show 9 + rest.length = n from hn) (S := S0 ++ octs 1 0) hs1 8 (by (try simp only [List.length_append, octs_len]); omega) (d0)) (rcv (ci := 6) C.2.1 rfl rfl) cd_X7_append in_X7 ml_X8_107 im_X7_append se_X7_append hd_X7_append rfl rfl ⟨by show 0 + 1 ≤ k + 1; omega, by show 8 + (5 + 11) + 40 * 0 ≤ 40 * (k + 1); omega⟩ ⟨(Nat.le_of_ble_eq_true rfl), (Nat.le_of_ble_eq_true rfl)⟩ (Nat.le_of_ble_eq_true rfl) jX8_appendShown_38 (fun v ws' => Wa.ex (fun s2 => Wa.and (fun hv => ?_)))
      obtain ⟨rfl, rfl, hs2⟩ := hv
      refine sg0 C foX8 coX8 oX8_appendShown_41 rfl rfl (hn2 _ _) ?_
      exact rt_v C hr hlk jX8_appendShown_218 (fun H hH => ⟨s2, ⟨rfl, by rw [show shwT Rg (tH q d0) f t = octs 1 0 ++ octs 8 (d0) from rfl]; (try simp only [List.append_assoc]), by rw [show shwT Rg (tH q d0) f t = octs 1 0 ++ octs 8 (d0) from rfl]; simpa only [List.append_assoc] using hs2⟩, hH⟩)
    · exact absurd h4 (by decide)
  · intro q P v0 k d N f t S0 so hfit hdk hN hx hf ht hS hlen
    have hp0 : 2 ≤ 2 ^ (k + 1) := by have := Nat.two_pow_pos k; rw [Nat.pow_succ]; omega
    have hP : P < 65536 := hfit
    refine enter (lv := [(0, .ref 0), (1, .ref (adr (tL q P v0) + 100)), (2, .int (nI f)), (3, .int (nI t)), (4, .int (nI d))]) (by decide +kernel) (Nat.le_of_ble_eq_true rfl) rfl hAD (fun U hK => ns_write hK hN) ?_
    intro p e s m below meth c A args hA C hr hlk hnm
    refine sg0 C foX8 coX8 oX8_appendShown_0 rfl rfl (hn2 _ _) ?_
    refine ni_n (ci := 3) C (fun H hH => hx H hH) rfl kl_X8_134 (by decide) jX8_appendShown_1 ?_
    refine b1_ne (tgt := 19) C jX8_appendShown_4 (by decide) (fun h4 => ?_) (fun h4 => ?_)
    · exact absurd h4 (by decide)
    · refine sg0 C foX8 coX8 oX8_appendShown_7 rfl rfl (hn2 _ _) ?_
      refine cl_v C (kX5_meet hAD hN (show 5 + _ = n from by rw [← hn2 so S0.length]; simp; omega) hRg hf ht) (rcv (ci := 4) C.2.1 rfl rfl) cd_X5_meet in_X5 ml_X8_221 im_X5_meet se_X5_meet hd_X5_meet rfl rfl ⟨by show 0 + 1 ≤ k + 1; omega, by show 8 + (4 + 11) + 40 * 0 ≤ 40 * (k + 1); omega⟩ ⟨(Nat.le_of_ble_eq_true rfl), (Nat.le_of_ble_eq_true rfl)⟩ (Nat.le_of_ble_eq_true rfl) jX8_appendShown_13 (fun v ws' => Wa.and (fun hv => ?_))
      obtain ⟨rfl, rfl⟩ := hv
      refine b1_ne (tgt := 44) C jX8_appendShown_16 (by decide) (fun h16 => ?_) (fun h16 => ?_)
      · have hm : meR Rg f t = true := Decidable.byContradiction fun e1 => h16 (if_neg e1)
        refine sg0 C foX8 coX8 oX8_appendShown_44 rfl rfl (hn2 _ _) ?_
        refine ni_n (ci := 3) C (fun H hH => hx H hH) rfl kl_X8_167 (by decide) jX8_appendShown_45 ?_
        refine b1_eq (tgt := 152) C jX8_appendShown_48 (by decide) (fun h48 => ?_) (fun h48 => ?_)
        · refine sg0 C foX8 coX8 oX8_appendShown_152 rfl rfl (hn2 _ _) ?_
          refine ni_y (ci := 3) C (fun H hH => hx H hH) rfl kl_X8_65 (by decide) jX8_appendShown_153 ?_
          refine b1_eq (tgt := 207) C jX8_appendShown_156 (by decide) (fun h156 => ?_) (fun h156 => ?_)
          · exact absurd h156 (by decide)
          · refine sg0 C foX8 coX8 oX8_appendShown_159 rfl rfl (hn2 _ _) ?_
            refine nc_y (ci := 3) C (fun H hH => hx H hH) rfl kl_X8_65 (by decide) jX8_appendShown_160 ?_
            refine sg0 C foX8 coX8 oX8_appendShown_163 rfl rfl (hn2 _ _) ?_
            refine cl_v C (kX7_append7 hAD hN (show 9 + rest.length = n from hn) (S := S0) hS 1 (by (try simp only [List.length_append, octs_len]); omega) (2)) (rcv (ci := 6) C.2.1 rfl rfl) cd_X7_append in_X7 ml_X8_107 im_X7_append se_X7_append hd_X7_append rfl rfl ⟨by show 0 + 1 ≤ k + 1; omega, by show 8 + (5 + 11) + 40 * 0 ≤ 40 * (k + 1); omega⟩ ⟨(Nat.le_of_ble_eq_true rfl), (Nat.le_of_ble_eq_true rfl)⟩ (Nat.le_of_ble_eq_true rfl) jX8_appendShown_173 (fun v ws' => Wa.ex (fun s1 => Wa.and (fun hv => ?_)))
            obtain ⟨rfl, rfl, hs1⟩ := hv
            refine sg0 C foX8 coX8 oX8_appendShown_176 rfl rfl (hn2 _ _) ?_
            refine ng (ci := 3) (k := 1) (v := .int (nI P)) C (fun H hH => hx H hH) rfl (by decide) fl_X8_136 rfl jX8_appendShown_183 ?_
            refine sg0 C foX8 coX8 oX8_appendShown_186 rfl rfl (hn2 _ _) ?_
            refine cl_v C (kX7_append7 hAD hN (show 9 + rest.length = n from hn) (S := S0 ++ octs 1 2) hs1 2 (by (try simp only [List.length_append, octs_len]); omega) ((nI P).toInt64)) (rcv (ci := 6) C.2.1 rfl rfl) cd_X7_append in_X7 ml_X8_107 im_X7_append se_X7_append hd_X7_append rfl rfl ⟨by show 0 + 1 ≤ k + 1; omega, by show 8 + (5 + 11) + 40 * 0 ≤ 40 * (k + 1); omega⟩ ⟨(Nat.le_of_ble_eq_true rfl), (Nat.le_of_ble_eq_true rfl)⟩ (Nat.le_of_ble_eq_true rfl) jX8_appendShown_187 (fun v ws' => Wa.ex (fun s2 => Wa.and (fun hv => ?_)))
            obtain ⟨rfl, rfl, hs2⟩ := hv
            refine sg0 C foX8 coX8 oX8_appendShown_190 rfl rfl (hn2 _ _) ?_
            refine ng (ci := 3) (k := 2) (v := .long v0) C (fun H hH => hx H hH) rfl (by decide) fl_X8_139 rfl jX8_appendShown_198 ?_
            refine cl_v C (kX7_append7 hAD hN (show 9 + rest.length = n from hn) (S := S0 ++ octs 1 2 ++ octs 2 (nI P).toInt64) hs2 8 (by (try simp only [List.length_append, octs_len]); omega) (v0)) (rcv (ci := 6) C.2.1 rfl rfl) cd_X7_append in_X7 ml_X8_107 im_X7_append se_X7_append hd_X7_append rfl rfl ⟨by show 0 + 1 ≤ k + 1; omega, by show 8 + (5 + 11) + 40 * 0 ≤ 40 * (k + 1); omega⟩ ⟨(Nat.le_of_ble_eq_true rfl), (Nat.le_of_ble_eq_true rfl)⟩ (Nat.le_of_ble_eq_true rfl) jX8_appendShown_201 (fun v ws' => Wa.ex (fun s3 => Wa.and (fun hv => ?_)))
            obtain ⟨rfl, rfl, hs3⟩ := hv
            refine sg0 C foX8 coX8 oX8_appendShown_204 rfl rfl (hn2 _ _) ?_
            exact rt_v C hr hlk jX8_appendShown_218 (fun H hH => ⟨s3, ⟨rfl, by rw [show shwT Rg (tL q P v0) f t = octs 1 2 ++ (octs 2 (nI P).toInt64 ++ octs 8 v0) from by simp only [shwT]; rw [if_pos hm]]; (try simp only [List.append_assoc]), by rw [show shwT Rg (tL q P v0) f t = octs 1 2 ++ (octs 2 (nI P).toInt64 ++ octs 8 v0) from by simp only [shwT]; rw [if_pos hm]]; simpa only [List.append_assoc] using hs3⟩, hH⟩)
        · exact absurd h48 (by decide)
      · have hm : ¬ meR Rg f t = true := fun e1 => by rw [if_pos e1] at h16; exact absurd h16 (by decide)
        refine sg0 C foX8 coX8 oX8_appendShown_19 rfl rfl (hn2 _ _) ?_
        refine cl_v C (kX7_append7 hAD hN (show 9 + rest.length = n from hn) (S := S0) hS 1 (by (try simp only [List.length_append, octs_len]); omega) (0)) (rcv (ci := 6) C.2.1 rfl rfl) cd_X7_append in_X7 ml_X8_107 im_X7_append se_X7_append hd_X7_append rfl rfl ⟨by show 0 + 1 ≤ k + 1; omega, by show 8 + (5 + 11) + 40 * 0 ≤ 40 * (k + 1); omega⟩ ⟨(Nat.le_of_ble_eq_true rfl), (Nat.le_of_ble_eq_true rfl)⟩ (Nat.le_of_ble_eq_true rfl) jX8_appendShown_25 (fun v ws' => Wa.ex (fun s1 => Wa.and (fun hv => ?_)))
        obtain ⟨rfl, rfl, hs1⟩ := hv
        refine sg0 C foX8 coX8 oX8_appendShown_28 rfl rfl (hn2 _ _) ?_
        refine ng (ci := 3) (k := 0) (v := .long (leafF P v0)) C (fun H hH => hx H hH) rfl (by decide) fl_X8_87 rfl jX8_appendShown_35 ?_
        refine cl_v C (kX7_append7 hAD hN (show 9 + rest.length = n from hn) (S := S0 ++ octs 1 0) hs1 8 (by (try simp only [List.length_append, octs_len]); omega) (leafF P v0)) (rcv (ci := 6) C.2.1 rfl rfl) cd_X7_append in_X7 ml_X8_107 im_X7_append se_X7_append hd_X7_append rfl rfl ⟨by show 0 + 1 ≤ k + 1; omega, by show 8 + (5 + 11) + 40 * 0 ≤ 40 * (k + 1); omega⟩ ⟨(Nat.le_of_ble_eq_true rfl), (Nat.le_of_ble_eq_true rfl)⟩ (Nat.le_of_ble_eq_true rfl) jX8_appendShown_38 (fun v ws' => Wa.ex (fun s2 => Wa.and (fun hv => ?_)))
        obtain ⟨rfl, rfl, hs2⟩ := hv
        refine sg0 C foX8 coX8 oX8_appendShown_41 rfl rfl (hn2 _ _) ?_
        exact rt_v C hr hlk jX8_appendShown_218 (fun H hH => ⟨s2, ⟨rfl, by rw [show shwT Rg (tL q P v0) f t = octs 1 0 ++ octs 8 (leafF P v0) from by simp only [shwT]; rw [if_neg hm]]; (try simp only [List.append_assoc]), by rw [show shwT Rg (tL q P v0) f t = octs 1 0 ++ octs 8 (leafF P v0) from by simp only [shwT]; rw [if_neg hm]]; simpa only [List.append_assoc] using hs2⟩, hH⟩)
  · intro q B S x y hT1 hT2 i1 i2 k d N f t S0 so hfit hdk hN hx hf ht hS hlen
    have hp0 : 2 ≤ 2 ^ (k + 1) := by have := Nat.two_pow_pos k; rw [Nat.pow_succ]; omega
    obtain ⟨⟨hB, hkB, hS1, hstm⟩, hfx, hfy⟩ := fitF hfit
    have hS2 := fitF2 hfit
    have hp1 : 0 < 2 ^ (15 - B) := Nat.two_pow_pos _
    have hp2 : 2 ^ (16 - B) = 2 * 2 ^ (15 - B) := by rw [show 16 - B = 15 - B + 1 by omega, Nat.pow_succ, Nat.mul_comm]
    have a3 : 2 ^ (15 - B + 1) * 2 ≤ 2 ^ (k + 1) := by rw [← Nat.pow_succ]; exact Nat.pow_le_pow_right (by decide) (by omega)
    have a1 := shw_len Rg x hT1 S (S + 2 ^ (15 - B) - 1) _ hfx
    have a2 := shw_len Rg y hT2 (S + 2 ^ (15 - B)) (S + 2 ^ (16 - B) - 1) _ hfy
    refine enter (lv := [(0, .ref 0), (1, .ref (adr (tF q B S x y) + 100)), (2, .int (nI f)), (3, .int (nI t)), (4, .int (nI d))]) (by decide +kernel) (Nat.le_of_ble_eq_true rfl) rfl hAD (fun U hK => ns_write hK hN) ?_
    intro p e s m below meth c A args hA C hr hlk hnm
    refine sg0 C foX8 coX8 oX8_appendShown_0 rfl rfl (hn2 _ _) ?_
    refine ni_n (ci := 1) C (fun H hH => (hx H hH).1) rfl kl_X8_134 (by decide) jX8_appendShown_1 ?_
    refine b1_ne (tgt := 19) C jX8_appendShown_4 (by decide) (fun h4 => ?_) (fun h4 => ?_)
    · exact absurd h4 (by decide)
    · refine sg0 C foX8 coX8 oX8_appendShown_7 rfl rfl (hn2 _ _) ?_
      refine cl_v C (kX5_meet hAD hN (show 5 + _ = n from by rw [← hn2 so S0.length]; simp; omega) hRg hf ht) (rcv (ci := 4) C.2.1 rfl rfl) cd_X5_meet in_X5 ml_X8_221 im_X5_meet se_X5_meet hd_X5_meet rfl rfl ⟨by show 0 + 1 ≤ k + 1; omega, by show 8 + (4 + 11) + 40 * 0 ≤ 40 * (k + 1); omega⟩ ⟨(Nat.le_of_ble_eq_true rfl), (Nat.le_of_ble_eq_true rfl)⟩ (Nat.le_of_ble_eq_true rfl) jX8_appendShown_13 (fun v ws' => Wa.and (fun hv => ?_))
      obtain ⟨rfl, rfl⟩ := hv
      refine b1_ne (tgt := 44) C jX8_appendShown_16 (by decide) (fun h16 => ?_) (fun h16 => ?_)
      · have hm : meR Rg f t = true := Decidable.byContradiction fun e1 => h16 (if_neg e1)
        refine sg0 C foX8 coX8 oX8_appendShown_44 rfl rfl (hn2 _ _) ?_
        refine ni_y (ci := 1) C (fun H hH => (hx H hH).1) rfl kl_X8_167 (by decide) jX8_appendShown_45 ?_
        refine b1_eq (tgt := 152) C jX8_appendShown_48 (by decide) (fun h48 => ?_) (fun h48 => ?_)
        · exact absurd h48 (by decide)
        · refine sg0 C foX8 coX8 oX8_appendShown_51 rfl rfl (hn2 _ _) ?_
          refine nc_y (ci := 1) C (fun H hH => (hx H hH).1) rfl kl_X8_167 (by decide) jX8_appendShown_52 ?_
          refine sg0 C foX8 coX8 oX8_appendShown_55 rfl rfl (hn2 _ _) ?_
          refine b2_ge (tgt := 152) C jX8_appendShown_61 (by decide) (fun h61 => ?_) (fun h61 => ?_)
          · exact absurd h61 (by rw [show (16 : Int32) = nI 16 from rfl]; exact nI_ge (by omega) (by decide))
          · refine sg0 C foX8 coX8 oX8_appendShown_64 rfl rfl (hn2 _ _) ?_
            refine cl_v C (kX7_append7 hAD hN (show 9 + rest.length = n from hn) (S := S0) hS 1 (by (try simp only [List.length_append, octs_len]); omega) (1)) (rcv (ci := 6) C.2.1 rfl rfl) cd_X7_append in_X7 ml_X8_107 im_X7_append se_X7_append hd_X7_append rfl rfl ⟨by show 0 + 1 ≤ k + 1; omega, by show 8 + (5 + 11) + 40 * 0 ≤ 40 * (k + 1); omega⟩ ⟨(Nat.le_of_ble_eq_true rfl), (Nat.le_of_ble_eq_true rfl)⟩ (Nat.le_of_ble_eq_true rfl) jX8_appendShown_70 (fun v ws' => Wa.ex (fun s1 => Wa.and (fun hv => ?_)))
            obtain ⟨rfl, rfl, hs1⟩ := hv
            refine sg0 C foX8 coX8 oX8_appendShown_73 rfl rfl (hn2 _ _) ?_
            refine ng (ci := 1) (k := 1) (v := .int (nI B)) C (fun H hH => (hx H hH).1) rfl (by decide) fl_X8_224 rfl jX8_appendShown_80 ?_
            refine sg0 C foX8 coX8 oX8_appendShown_83 rfl rfl (hn2 _ _) ?_
            refine cl_v C (kX7_append7 hAD hN (show 9 + rest.length = n from hn) (S := S0 ++ octs 1 1) hs1 1 (by (try simp only [List.length_append, octs_len]); omega) ((nI B).toInt64)) (rcv (ci := 6) C.2.1 rfl rfl) cd_X7_append in_X7 ml_X8_107 im_X7_append se_X7_append hd_X7_append rfl rfl ⟨by show 0 + 1 ≤ k + 1; omega, by show 8 + (5 + 11) + 40 * 0 ≤ 40 * (k + 1); omega⟩ ⟨(Nat.le_of_ble_eq_true rfl), (Nat.le_of_ble_eq_true rfl)⟩ (Nat.le_of_ble_eq_true rfl) jX8_appendShown_84 (fun v ws' => Wa.ex (fun s2 => Wa.and (fun hv => ?_)))
            obtain ⟨rfl, rfl, hs2⟩ := hv
            refine sg0 C foX8 coX8 oX8_appendShown_87 rfl rfl (hn2 _ _) ?_
            refine ng (ci := 1) (k := 2) (v := .int (nI S)) C (fun H hH => (hx H hH).1) rfl (by decide) fl_X8_179 rfl jX8_appendShown_94 ?_
            refine sg0 C foX8 coX8 oX8_appendShown_97 rfl rfl (hn2 _ _) ?_
            refine cl_v C (kX7_append7 hAD hN (show 9 + rest.length = n from hn) (S := S0 ++ octs 1 1 ++ octs 1 (nI B).toInt64) hs2 2 (by (try simp only [List.length_append, octs_len]); omega) ((nI S).toInt64)) (rcv (ci := 6) C.2.1 rfl rfl) cd_X7_append in_X7 ml_X8_107 im_X7_append se_X7_append hd_X7_append rfl rfl ⟨by show 0 + 1 ≤ k + 1; omega, by show 8 + (5 + 11) + 40 * 0 ≤ 40 * (k + 1); omega⟩ ⟨(Nat.le_of_ble_eq_true rfl), (Nat.le_of_ble_eq_true rfl)⟩ (Nat.le_of_ble_eq_true rfl) jX8_appendShown_98 (fun v ws' => Wa.ex (fun s3 => Wa.and (fun hv => ?_)))
            obtain ⟨rfl, rfl, hs3⟩ := hv
            refine sg0 C foX8 coX8 oX8_appendShown_101 rfl rfl (hn2 _ _) ?_
            refine ng (ci := 1) (k := 3) (v := .ref (adr x + 100)) C (fun H hH => (hx H hH).1) rfl (by decide) fl_X8_199 (by rw [cv_raw C]; rfl) jX8_appendShown_104 ?_
            refine sg0 C foX8 coX8 oX8_appendShown_107 rfl rfl (hn2 _ _) ?_
            refine ng (ci := 1) (k := 2) (v := .int (nI S)) C (fun H hH => (hx H hH).1) rfl (by decide) fl_X8_179 rfl jX8_appendShown_109 ?_
            refine sg0 C foX8 coX8 oX8_appendShown_112 rfl rfl (hn2 _ _) ?_
            refine cl_v C (kX1_middle hAD (hn2 _ _) hN (q := q) (B := B) (S := S) (fun H hH => (hx H hH).1) hB) (nrc C (fun H hH => (hx H hH).1) rfl) cd_X1_middle in_X1 ml_X8_210 im_X1_middle se_X1_middle hd_X1_middle rfl rfl ⟨by show 0 + 1 ≤ k + 1; omega, by show 8 + (1 + 11) + 40 * 0 ≤ 40 * (k + 1); omega⟩ ⟨(Nat.le_of_ble_eq_true rfl), (Nat.le_of_ble_eq_true rfl)⟩ (Nat.le_of_ble_eq_true rfl) jX8_appendShown_114 (fun v ws' => Wa.and (fun hv => ?_))
            obtain ⟨rfl, rfl⟩ := hv
            refine sg0 C foX8 coX8 oX8_appendShown_117 rfl rfl (hn2 _ _) ?_
            rw [nI_1 d, show (1 : Int32) = nI 1 from rfl, pk_sub (show 1 ≤ S + 2 ^ (15 - B) by omega)]
            refine cl_v C (i1 (15 - B) (d + 1) N S (S + 2 ^ (15 - B) - 1) (S0 ++ octs 1 1 ++ octs 1 (nI B).toInt64 ++ octs 2 (nI S).toInt64) s3 hfx (by omega) hN (fun H hH => (hx H hH).2.1) (by omega) (by omega) hs3 (by (try simp only [List.length_append, octs_len]); omega)) (rcv (ci := 7) C.2.1 rfl rfl) cd_X8_appendShown in_X8 ml_X8_217 im_X8_appendShown se_X8_appendShown hd_X8_appendShown rfl rfl ⟨by show 15 - B + 1 + 1 ≤ k + 1; omega, by show 8 + (7 + 11) + 40 * (15 - B + 1) ≤ 40 * (k + 1); omega⟩ ⟨(Nat.le_of_ble_eq_true rfl), (Nat.le_of_ble_eq_true rfl)⟩ (Nat.le_of_ble_eq_true rfl) jX8_appendShown_123 (fun v ws' => Wa.ex (fun s4 => Wa.and (fun hv => ?_)))
            obtain ⟨rfl, rfl, hs4⟩ := hv
            refine sg0 C foX8 coX8 oX8_appendShown_126 rfl rfl (hn2 _ _) ?_
            refine ng (ci := 1) (k := 4) (v := .ref (adr y + 100)) C (fun H hH => (hx H hH).1) rfl (by decide) fl_X8_202 (by rw [cv_raw C]; rfl) jX8_appendShown_129 ?_
            refine sg0 C foX8 coX8 oX8_appendShown_132 rfl rfl (hn2 _ _) ?_
            refine cl_v C (kX1_middle hAD (hn2 _ _) hN (q := q) (B := B) (S := S) (fun H hH => (hx H hH).1) hB) (nrc C (fun H hH => (hx H hH).1) rfl) cd_X1_middle in_X1 ml_X8_210 im_X1_middle se_X1_middle hd_X1_middle rfl rfl ⟨by show 0 + 1 ≤ k + 1; omega, by show 8 + (1 + 11) + 40 * 0 ≤ 40 * (k + 1); omega⟩ ⟨(Nat.le_of_ble_eq_true rfl), (Nat.le_of_ble_eq_true rfl)⟩ (Nat.le_of_ble_eq_true rfl) jX8_appendShown_134 (fun v ws' => Wa.and (fun hv => ?_))
            obtain ⟨rfl, rfl⟩ := hv
            refine sg0 C foX8 coX8 oX8_appendShown_137 rfl rfl (hn2 _ _) ?_
            refine cl_v C (kX1_last hAD (hn2 _ _) hN (q := q) (B := B) (S := S) (fun H hH => (hx H hH).1) hB) (nrc C (fun H hH => (hx H hH).1) rfl) cd_X1_last in_X1 ml_X8_214 im_X1_last se_X1_last hd_X1_last rfl rfl ⟨by show 0 + 1 ≤ k + 1; omega, by show 8 + (1 + 11) + 40 * 0 ≤ 40 * (k + 1); omega⟩ ⟨(Nat.le_of_ble_eq_true rfl), (Nat.le_of_ble_eq_true rfl)⟩ (Nat.le_of_ble_eq_true rfl) jX8_appendShown_139 (fun v ws' => Wa.and (fun hv => ?_))
            obtain ⟨rfl, rfl⟩ := hv
            refine sg0 C foX8 coX8 oX8_appendShown_142 rfl rfl (hn2 _ _) ?_
            rw [nI_1 d]
            refine cl_v C (i2 (15 - B) (d + 1) N (S + 2 ^ (15 - B)) (S + 2 ^ (16 - B) - 1) ((S0 ++ octs 1 1 ++ octs 1 (nI B).toInt64 ++ octs 2 (nI S).toInt64) ++ shwT Rg x S (S + 2 ^ (15 - B) - 1)) s4 hfy (by omega) hN (fun H hH => (hx H hH).2.2) (by omega) (by omega) hs4 (by (try simp only [List.length_append, octs_len]); omega)) (rcv (ci := 7) C.2.1 rfl rfl) cd_X8_appendShown in_X8 ml_X8_217 im_X8_appendShown se_X8_appendShown hd_X8_appendShown rfl rfl ⟨by show 15 - B + 1 + 1 ≤ k + 1; omega, by show 8 + (7 + 11) + 40 * (15 - B + 1) ≤ 40 * (k + 1); omega⟩ ⟨(Nat.le_of_ble_eq_true rfl), (Nat.le_of_ble_eq_true rfl)⟩ (Nat.le_of_ble_eq_true rfl) jX8_appendShown_146 (fun v ws' => Wa.ex (fun s5 => Wa.and (fun hv => ?_)))
            obtain ⟨rfl, rfl, hs5⟩ := hv
            refine sg0 C foX8 coX8 oX8_appendShown_149 rfl rfl (hn2 _ _) ?_
            exact rt_v C hr hlk jX8_appendShown_218 (fun H hH => ⟨s5, ⟨rfl, by rw [show shwT Rg (tF q B S x y) f t = octs 1 1 ++ (octs 1 (nI B).toInt64 ++ (octs 2 (nI S).toInt64 ++ (shwT Rg x S (S + 2 ^ (15 - B) - 1) ++ shwT Rg y (S + 2 ^ (15 - B)) (S + 2 ^ (16 - B) - 1)))) from by simp only [shwT]; rw [if_pos hm]]; (try simp only [List.append_assoc]), by rw [show shwT Rg (tF q B S x y) f t = octs 1 1 ++ (octs 1 (nI B).toInt64 ++ (octs 2 (nI S).toInt64 ++ (shwT Rg x S (S + 2 ^ (15 - B) - 1) ++ shwT Rg y (S + 2 ^ (15 - B)) (S + 2 ^ (16 - B) - 1)))) from by simp only [shwT]; rw [if_pos hm]]; simpa only [List.append_assoc] using hs5⟩, hH⟩)
      · have hm : ¬ meR Rg f t = true := fun e1 => by rw [if_pos e1] at h16; exact absurd h16 (by decide)
        refine sg0 C foX8 coX8 oX8_appendShown_19 rfl rfl (hn2 _ _) ?_
        refine cl_v C (kX7_append7 hAD hN (show 9 + rest.length = n from hn) (S := S0) hS 1 (by (try simp only [List.length_append, octs_len]); omega) (0)) (rcv (ci := 6) C.2.1 rfl rfl) cd_X7_append in_X7 ml_X8_107 im_X7_append se_X7_append hd_X7_append rfl rfl ⟨by show 0 + 1 ≤ k + 1; omega, by show 8 + (5 + 11) + 40 * 0 ≤ 40 * (k + 1); omega⟩ ⟨(Nat.le_of_ble_eq_true rfl), (Nat.le_of_ble_eq_true rfl)⟩ (Nat.le_of_ble_eq_true rfl) jX8_appendShown_25 (fun v ws' => Wa.ex (fun s1 => Wa.and (fun hv => ?_)))
        obtain ⟨rfl, rfl, hs1⟩ := hv
        refine sg0 C foX8 coX8 oX8_appendShown_28 rfl rfl (hn2 _ _) ?_
        refine ng (ci := 1) (k := 0) (v := .long (forkF B S (dig x) (dig y))) C (fun H hH => (hx H hH).1) rfl (by decide) fl_X8_87 rfl jX8_appendShown_35 ?_
        refine cl_v C (kX7_append7 hAD hN (show 9 + rest.length = n from hn) (S := S0 ++ octs 1 0) hs1 8 (by (try simp only [List.length_append, octs_len]); omega) (forkF B S (dig x) (dig y))) (rcv (ci := 6) C.2.1 rfl rfl) cd_X7_append in_X7 ml_X8_107 im_X7_append se_X7_append hd_X7_append rfl rfl ⟨by show 0 + 1 ≤ k + 1; omega, by show 8 + (5 + 11) + 40 * 0 ≤ 40 * (k + 1); omega⟩ ⟨(Nat.le_of_ble_eq_true rfl), (Nat.le_of_ble_eq_true rfl)⟩ (Nat.le_of_ble_eq_true rfl) jX8_appendShown_38 (fun v ws' => Wa.ex (fun s2 => Wa.and (fun hv => ?_)))
        obtain ⟨rfl, rfl, hs2⟩ := hv
        refine sg0 C foX8 coX8 oX8_appendShown_41 rfl rfl (hn2 _ _) ?_
        exact rt_v C hr hlk jX8_appendShown_218 (fun H hH => ⟨s2, ⟨rfl, by rw [show shwT Rg (tF q B S x y) f t = octs 1 0 ++ octs 8 (forkF B S (dig x) (dig y)) from by simp only [shwT]; rw [if_neg hm]]; (try simp only [List.append_assoc]), by rw [show shwT Rg (tF q B S x y) f t = octs 1 0 ++ octs 8 (forkF B S (dig x) (dig y)) from by simp only [shwT]; rw [if_neg hm]]; simpa only [List.append_assoc] using hs2⟩, hH⟩)
end
section
variable {l : Launch} {D : va_G} {ca : Nat → ClassId} {ad : Nat → Nat} {n : Nat} {N : Heap → Prop}
set_option maxRecDepth 100000 in
set_option maxHeartbeats 4000000 in
theorem kX8_tapeBecomes (hAD : AD ad n) (hN : NS D N) {k0 k2 k3 k6 k7 k8 : Value} {c1 c5 c6 : va_E} {rest : List va_E} (hn : 9 + rest.length = n) {ra rb : Nat → Int32} {Rg : List (Nat × Nat)} (hRg : rgR ra rb Rg) {T : Term} (hfit : fitT T 16) (hx : ∀ H, N H → nodeAt D H T) {so : Nat → Int32} {L : Nat} : Ct l yX8_tapeBecomes cX8_tapeBecomes 3 (some .int) (rK 18 0 0) D ca ad (.inr (7, [k0, .ref 2, k2, k3, .ref 5, .ref 7, k6, k7, k8]) :: c1 :: .inr (4, [.ref 3, .ref 4, .int (nI Rg.length)]) :: .inl (0, 20, .inl ra) :: .inl (0, 20, .inl rb) :: c5 :: c6 :: .inr (6, [.ref 8, .int (nI L)]) :: .inl (0, 4000, .inl so) :: rest) n [.ref 0, .ref (adr T + 100)] N (fun r ws2 H => ∃ so2 : Nat → Int32, (tpR so2 (shwT Rg T 0 65535) ∧ ((4000 < (shwT Rg T 0 65535).length ∧ r = some (.int (-3)) ∧ ws2 = (.inr (7, [k0, .ref 2, k2, k3, .ref 5, .ref 7, k6, k7, k8]) :: c1 :: .inr (4, [.ref 3, .ref 4, .int (nI Rg.length)]) :: .inl (0, 20, .inl ra) :: .inl (0, 20, .inl rb) :: c5 :: c6 :: .inr (6, [.ref 8, .int (nI (shwT Rg T 0 65535).length)]) :: .inl (0, 4000, .inl so2) :: rest)) ∨ ((shwT Rg T 0 65535).length ≤ 4000 ∧ r = some (.int (nI (shwT Rg T 0 65535).length)) ∧ ws2 = (.inr (7, [k0, .ref 2, k2, k3, .ref 7, .ref 5, k6, k7, k8]) :: c1 :: .inr (4, [.ref 3, .ref 4, .int (nI Rg.length)]) :: .inl (0, 20, .inl ra) :: .inl (0, 20, .inl rb) :: c5 :: c6 :: .inr (6, [.ref 8, .int (nI (shwT Rg T 0 65535).length)]) :: .inl (0, 4000, .inl so2) :: rest)))) ∧ N H) := by
  have hn2 : ∀ (so2 : Nat → Int32) (L : Nat), ((.inr (7, [k0, .ref 2, k2, k3, .ref 5, .ref 7, k6, k7, k8]) :: c1 :: .inr (4, [.ref 3, .ref 4, .int (nI Rg.length)]) :: .inl (0, 20, .inl ra) :: .inl (0, 20, .inl rb) :: c5 :: c6 :: .inr (6, [.ref 8, .int (nI L)]) :: .inl (0, 4000, .inl so2) :: rest) : List va_E).length = n := fun so2 L => by simp; omega
  refine enter (lv := [(0, .ref 0), (1, .ref (adr T + 100))]) (by decide +kernel) (Nat.le_of_ble_eq_true rfl) rfl hAD (fun U hK => ns_write hK hN) ?_
  intro p e s m below meth c A args hA C hr hlk hnm
  refine sg0 C foX8 coX8 oX8_tapeBecomes_0 rfl rfl (hn2 _ _) ?_
  refine cl_v C (kX8_appendShown hAD hn hRg T (fit_T T _ hfit) 16 0 N 0 65535 [] so hfit (by decide) hN hx (by decide) (by decide) (fun j _ h9 => absurd h9 (Nat.not_lt_zero _)) (by decide)) (rcv (ci := 7) C.2.1 rfl rfl) cd_X8_appendShown in_X8 ml_X8_217 im_X8_appendShown se_X8_appendShown hd_X8_appendShown rfl rfl ⟨(Nat.le_of_ble_eq_true rfl), (Nat.le_of_ble_eq_true rfl)⟩ ⟨(Nat.le_of_ble_eq_true rfl), (Nat.le_of_ble_eq_true rfl)⟩ (Nat.le_of_ble_eq_true rfl) jX8_tapeBecomes_14 (fun v ws' => Wa.ex (fun s1 => Wa.and (fun hv => ?_)))
  obtain ⟨rfl, rfl, hs1⟩ := hv
  rw [List.nil_append] at hs1 ⊢
  have hln := shw_len Rg T (fit_T T _ hfit) 0 65535 16 hfit
  refine sg0 C foX8 coX8 oX8_tapeBecomes_17 rfl rfl (hn2 _ _) ?_
  refine b2_le (tgt := 33) C jX8_tapeBecomes_27 (by decide) (fun h27 => ?_) (fun h27 => ?_)
  · have hq : (shwT Rg T 0 65535).length ≤ 4000 := Nat.not_lt.mp fun q => absurd h27 (by rw [show (4000 : Int32) = nI 4000 from rfl]; exact nI_ge q (by omega))
    refine sg0 C foX8 coX8 oX8_tapeBecomes_33 rfl rfl (hn2 _ _) ?_
    exact rt_i C hr hlk jX8_tapeBecomes_58 (fun H hH => ⟨s1, ⟨hs1, Or.inr ⟨hq, rfl, rfl⟩⟩, hH⟩)
  · have hq : 4000 < (shwT Rg T 0 65535).length := Nat.not_le.mp fun q => h27 (by rw [show (4000 : Int32) = nI 4000 from rfl]; exact nI_le q (by decide))
    refine sg0 C foX8 coX8 oX8_tapeBecomes_30 rfl rfl (hn2 _ _) ?_
    exact rt_i C hr hlk jX8_tapeBecomes_32 (fun H hH => ⟨s1, ⟨hs1, Or.inl ⟨hq, rfl, rfl⟩⟩, hH⟩)
end
end
section
/-! public methods of the class: the tape, the ranges, single fields -/
/-- the object's cells: 0 it, 1 kept, 2 its ranges with 3 and 4, 5 the tape with 6, 7 the spare one with 8 -/
def xW (qt nv : Nat) (kf : Nat → Option Nat) (fv : Value) (fp : Int32) (fd : Int64) (ra rb : Nat → Int32) (wn : Nat) (to : Nat → Int32) (tl : Nat) (so : Nat → Int32) (sl : Nat) : List va_E := [.inr (7, [.ref 1, .ref 2, .ref (qt + 100), .int (nI nv), .ref 5, .ref 7, fv, .int fp, .long fd]), .inl (2, 8, .inr (.inr (.inr (.inr kf)))), .inr (4, [.ref 3, .ref 4, .int (nI wn)]), .inl (0, 20, .inl ra), .inl (0, 20, .inl rb), .inr (6, [.ref 6, .int (nI tl)]), .inl (0, 4000, .inl to), .inr (6, [.ref 8, .int (nI sl)]), .inl (0, 4000, .inl so)]
def vF : Option Term → Value
  | none => .null
  | some V => .ref (adr V + 100)
theorem pth_ok {P : Nat} (hP : P < 65536) : (0 : Int32) ≤ nI P ∧ nI P ≤ 65535 := ⟨nI_pos' (by omega), by rw [show (65535 : Int32) = nI 65535 from rfl]; exact nI_le (by omega) (by decide)⟩
theorem pth_of {x : Int32} (h : 0 ≤ x ∧ x ≤ 65535) : ∃ P : Nat, P < 65536 ∧ x = nI P := by
  obtain ⟨j, h1, h2⟩ := nI_of2 (M := 65535) (n := 65535) rfl (Int32.not_lt.mpr h.1) h.2
  exact ⟨j, by omega, h2⟩
section
variable {l : Launch} {D : va_G} {ca : Nat → ClassId} {ad : Nat → Nat} {N : Heap → Prop} {qt nv : Nat} {kf : Nat → Option Nat} {fv : Value} {fp : Int32} {fd : Int64} {ra rb : Nat → Int32} {wn : Nat} {to : Nat → Int32} {tl : Nat} {so : Nat → Int32} {sl : Nat}
set_option maxRecDepth 100000 in
set_option maxHeartbeats 4000000 in
theorem kX8_place (hAD : AD ad 9) (hN : NS D N)  : Ct l yX8_place cX8_place 1 (some .int) (rK 0 0 0) D ca ad (xW qt nv kf fv fp fd ra rb wn to tl so sl) 9 [.ref 0] N (pG (xW qt nv kf fv fp fd ra rb wn to tl so sl) N (some (.int fp))) := by
  refine enter (lv := [(0, .ref 0)]) (by decide +kernel) (Nat.le_of_ble_eq_true rfl) rfl hAD (fun U hK => ns_write hK hN) ?_
  intro p e s m below meth c A args hA C hr hlk hnm
  refine sg0 C foX8 coX8 oX8_place_0 rfl rfl rfl ?_
  exact rt_i C hr hlk jX8_place_4 (fun H hN => ⟨⟨rfl, rfl⟩, hN⟩)
set_option maxRecDepth 100000 in
set_option maxHeartbeats 4000000 in
theorem kX8_value (hAD : AD ad 9) (hN : NS D N)  : Ct l yX8_value cX8_value 1 (some .long) (rK 0 0 0) D ca ad (xW qt nv kf fv fp fd ra rb wn to tl so sl) 9 [.ref 0] N (pG (xW qt nv kf fv fp fd ra rb wn to tl so sl) N (some (.long fd))) := by
  refine enter (lv := [(0, .ref 0)]) (by decide +kernel) (Nat.le_of_ble_eq_true rfl) rfl hAD (fun U hK => ns_write hK hN) ?_
  intro p e s m below meth c A args hA C hr hlk hnm
  refine sg0 C foX8 coX8 oX8_value_0 rfl rfl rfl ?_
  exact rt_l C hr hlk jX8_value_4 (fun H hN => ⟨⟨rfl, rfl⟩, hN⟩)
set_option maxRecDepth 100000 in
set_option maxHeartbeats 4000000 in
theorem kX8_forget (hAD : AD ad 9) (hN : NS D N)  : Ct l yX8_forget cX8_forget 2 (some .int) (rK 0 0 0) D ca ad (xW qt nv kf fv fp fd ra rb wn to tl so sl) 9 [.ref 0] N (fun r ws2 H => (r = some (.int (nI wn)) ∧ ws2 = (xW qt nv kf fv fp fd ra rb 0 to tl so sl)) ∧ N H) := by
  refine enter (lv := [(0, .ref 0)]) (by decide +kernel) (Nat.le_of_ble_eq_true rfl) rfl hAD (fun U hK => ns_write hK hN) ?_
  intro p e s m below meth c A args hA C hr hlk hnm
  refine sg0 C foX8 coX8 oX8_forget_0 rfl rfl rfl ?_
  exact rt_i C hr hlk jX8_forget_17 (fun H hN => ⟨⟨rfl, rfl⟩, hN⟩)
set_option maxRecDepth 100000 in
set_option maxHeartbeats 4000000 in
theorem kX8_cut (hAD : AD ad 9) (hN : NS D N) (htl : tl ≤ 4000) (x : Int32) : Ct l yX8_cut cX8_cut 3 (some .int) (rK 0 0 0) D ca ad (xW qt nv kf fv fp fd ra rb wn to tl so sl) 9 [.ref 0, .int x] N (fun r ws2 H => ((¬ (0 ≤ x.toInt ∧ x.toInt ≤ (tl : Int)) ∧ r = some (.int (-1)) ∧ ws2 = (xW qt nv kf fv fp fd ra rb wn to tl so sl)) ∨ ∃ j : Nat, x = nI j ∧ j ≤ tl ∧ r = some (.int (nI (tl - j))) ∧ ws2 = (xW qt nv kf fv fp fd ra rb wn to j so sl)) ∧ N H) := by
  refine enter (lv := [(0, .ref 0), (1, .int x)]) (by decide +kernel) (Nat.le_of_ble_eq_true rfl) rfl hAD (fun U hK => ns_write hK hN) ?_
  intro p e s m below meth c A args hA C hr hlk hnm
  refine sg0 C foX8 coX8 oX8_cut_0 rfl rfl rfl ?_
  refine b1_lt (tgt := 15) C jX8_cut_1 (by decide) (fun h1 => ?_) (fun h1 => ?_)
  · refine sg0 C foX8 coX8 oX8_cut_15 rfl rfl rfl ?_
    exact rt_i C hr hlk jX8_cut_16 (fun H hH => ⟨Or.inl ⟨fun q => absurd h1 (Int32.not_lt.mpr (by rw [Int32.le_iff_toInt_le, Int32.toInt_zero]; exact q.1)), rfl, rfl⟩, hH⟩)
  · refine sg0 C foX8 coX8 oX8_cut_4 rfl rfl rfl ?_
    refine b2_le (tgt := 17) C jX8_cut_12 (by decide) (fun h12 => ?_) (fun h12 => ?_)
    · obtain ⟨j, hj, rfl⟩ := nI_of h1
      have hq : j ≤ tl := (nI_leI hj (by omega)).mp h12
      refine sg0 C foX8 coX8 oX8_cut_17 rfl rfl rfl ?_
      exact rt_i C hr hlk jX8_cut_36 (fun H hH => ⟨Or.inr ⟨j, rfl, hq, by rw [pk_sub hq], rfl⟩, hH⟩)
    · refine sg0 C foX8 coX8 oX8_cut_15 rfl rfl rfl ?_
      exact rt_i C hr hlk jX8_cut_16 (fun H hH => ⟨Or.inl ⟨fun q => h12 (by rw [Int32.le_iff_toInt_le, nI_toInt (by omega)]; exact q.2), rfl, rfl⟩, hH⟩)
set_option maxRecDepth 100000 in
set_option maxHeartbeats 4000000 in
theorem kX8_octet (hAD : AD ad 9) (hN : NS D N) (htl : tl ≤ 4000) (x : Int32) : Ct l yX8_octet cX8_octet 2 (some .int) (rK 1 0 0) D ca ad (xW qt nv kf fv fp fd ra rb wn to tl so sl) 9 [.ref 0, .int x] N (pG (xW qt nv kf fv fp fd ra rb wn to tl so sl) N (some (.int (if (0 ≤ x.toInt ∧ x.toInt < (tl : Int)) then to x.toNatClampNeg else -1)))) := by
  refine enter (lv := [(0, .ref 0), (1, .int x)]) (by decide +kernel) (Nat.le_of_ble_eq_true rfl) rfl hAD (fun U hK => ns_write hK hN) ?_
  intro p e s m below meth c A args hA C hr hlk hnm
  refine sg0 C foX8 coX8 oX8_octet_0 rfl rfl rfl ?_
  refine cl_v C (kX7_has hAD hN (show 7 + _ = 9 from rfl) htl x) (rcv (ci := 6) C.2.1 rfl rfl) cd_X7_has in_X7 ml_X8_110 im_X7_has se_X7_has hd_X7_has rfl rfl ⟨(Nat.le_of_ble_eq_true rfl), (Nat.le_of_ble_eq_true rfl)⟩ ⟨(Nat.le_of_ble_eq_true rfl), (Nat.le_of_ble_eq_true rfl)⟩ (Nat.le_of_ble_eq_true rfl) jX8_octet_5 (fun v ws' => Wa.and (fun hv => ?_))
  obtain ⟨rfl, rfl⟩ := hv
  refine b1_eq (tgt := 23) C jX8_octet_8 (by decide) (fun h8 => ?_) (fun h8 => ?_)
  · have hq : ¬ (0 ≤ x.toInt ∧ x.toInt < (tl : Int)) := fun e1 => by rw [if_pos e1] at h8; exact absurd h8 (by decide)
    refine sg0 C foX8 coX8 oX8_octet_23 rfl rfl rfl ?_
    exact rt_i C hr hlk jX8_octet_24 (fun H hH => ⟨⟨by rw [if_neg hq], rfl⟩, hH⟩)
  · have hq : (0 ≤ x.toInt ∧ x.toInt < (tl : Int)) := Decidable.byContradiction fun e1 => h8 (if_neg e1)
    refine sg C foX8 coX8 oX8_octet_11 rfl rfl rfl ⟨vp_in_iff.mpr ⟨hq.1, by omega⟩, trivial⟩ ?_
    exact rt_i C hr hlk jX8_octet_24 (fun H hH => ⟨⟨by rw [if_pos hq], rfl⟩, hH⟩)
set_option maxRecDepth 100000 in
set_option maxHeartbeats 4000000 in
theorem kX8_spoil (hAD : AD ad 9) (hN : NS D N) (htl : tl ≤ 4000) (x y : Int32) : Ct l yX8_spoil cX8_spoil 3 (some .int) (rK 1 0 0) D ca ad (xW qt nv kf fv fp fd ra rb wn to tl so sl) 9 [.ref 0, .int x, .int y] N (fun r ws2 H => ((¬ ((0 ≤ x.toInt ∧ x.toInt < (tl : Int)) ∧ 0 ≤ y ∧ y ≤ 255) ∧ r = some (.int (-1)) ∧ ws2 = (xW qt nv kf fv fp fd ra rb wn to tl so sl)) ∨ (((0 ≤ x.toInt ∧ x.toInt < (tl : Int)) ∧ 0 ≤ y ∧ y ≤ 255) ∧ r = some (.int (to x.toNatClampNeg ^^^ y)) ∧ ws2 = (xW qt nv kf fv fp fd ra rb wn (upd to x.toNatClampNeg (to x.toNatClampNeg ^^^ y)) tl so sl))) ∧ N H) := by
  refine enter (lv := [(0, .ref 0), (1, .int x), (2, .int y)]) (by decide +kernel) (Nat.le_of_ble_eq_true rfl) rfl hAD (fun U hK => ns_write hK hN) ?_
  intro p e s m below meth c A args hA C hr hlk hnm
  refine sg0 C foX8 coX8 oX8_spoil_0 rfl rfl rfl ?_
  refine cl_v C (kX7_has hAD hN (show 7 + _ = 9 from rfl) htl x) (rcv (ci := 6) C.2.1 rfl rfl) cd_X7_has in_X7 ml_X8_110 im_X7_has se_X7_has hd_X7_has rfl rfl ⟨(Nat.le_of_ble_eq_true rfl), (Nat.le_of_ble_eq_true rfl)⟩ ⟨(Nat.le_of_ble_eq_true rfl), (Nat.le_of_ble_eq_true rfl)⟩ (Nat.le_of_ble_eq_true rfl) jX8_spoil_5 (fun v ws' => Wa.and (fun hv => ?_))
  obtain ⟨rfl, rfl⟩ := hv
  refine b1_eq (tgt := 22) C jX8_spoil_8 (by decide) (fun h8 => ?_) (fun h8 => ?_)
  · have hq : ¬ (0 ≤ x.toInt ∧ x.toInt < (tl : Int)) := fun e1 => by rw [if_pos e1] at h8; exact absurd h8 (by decide)
    refine sg0 C foX8 coX8 oX8_spoil_22 rfl rfl rfl ?_
    exact rt_i C hr hlk jX8_spoil_23 (fun H hH => ⟨Or.inl ⟨fun q => hq q.1, rfl, rfl⟩, hH⟩)
  · have hq : (0 ≤ x.toInt ∧ x.toInt < (tl : Int)) := Decidable.byContradiction fun e1 => h8 (if_neg e1)
    refine sg0 C foX8 coX8 oX8_spoil_11 rfl rfl rfl ?_
    refine b1_lt (tgt := 22) C jX8_spoil_12 (by decide) (fun h12 => ?_) (fun h12 => ?_)
    · refine sg0 C foX8 coX8 oX8_spoil_22 rfl rfl rfl ?_
      exact rt_i C hr hlk jX8_spoil_23 (fun H hH => ⟨Or.inl ⟨fun q => absurd h12 (Int32.not_lt.mpr q.2.1), rfl, rfl⟩, hH⟩)
    · refine sg0 C foX8 coX8 oX8_spoil_15 rfl rfl rfl ?_
      refine b2_le (tgt := 24) C jX8_spoil_19 (by decide) (fun h19 => ?_) (fun h19 => ?_)
      · have hvp : vp_in x 4000 := vp_in_iff.mpr ⟨hq.1, by omega⟩
        refine sg C foX8 coX8 oX8_spoil_24 rfl rfl rfl ⟨hvp, hvp, hvp, trivial⟩ ?_
        exact rt_i C hr hlk jX8_spoil_46 (fun H hH => ⟨Or.inr ⟨⟨hq, Int32.not_lt.mp h12, h19⟩, by simp [upd], rfl⟩, hH⟩)
      · refine sg0 C foX8 coX8 oX8_spoil_22 rfl rfl rfl ?_
        exact rt_i C hr hlk jX8_spoil_23 (fun H hH => ⟨Or.inl ⟨fun q => h19 q.2.2, rfl, rfl⟩, hH⟩)
theorem fd_in {x : Int32} {tl : Nat} (htl : tl ≤ 4000) (h1 : ¬ x < 1) (h2 : x ≤ 8) : ∃ j : Nat, 1 ≤ j ∧ j ≤ 8 ∧ x = nI j := by
  obtain ⟨j, h3, rfl⟩ := nI_of2 (M := 8) (n := 8) rfl (fun q => h1 (Int32.lt_trans q (by decide))) h2
  refine ⟨j, Nat.not_lt.mp fun q => h1 ?_, h3, rfl⟩
  rw [show j = 0 by omega]; decide
set_option maxRecDepth 100000 in
set_option maxHeartbeats 4000000 in
theorem kX8_feed (hAD : AD ad 9) (hN : NS D N) {S : List Int32} (hS : tpR to S) (htl : S.length ≤ 4000) (x : Int32) (v : Int64) : Ct l yX8_feed cX8_feed 4 (some .int) (rK 1 0 0) D ca ad (xW qt nv kf fv fp fd ra rb wn to S.length so sl) 9 [.ref 0, .int x, .long v] N (fun r ws2 H => ((¬ (1 ≤ x ∧ x ≤ 8) ∧ r = some (.int (-1)) ∧ ws2 = (xW qt nv kf fv fp fd ra rb wn to S.length so sl)) ∨ (∃ j : Nat, (x = nI j ∧ 1 ≤ j ∧ j ≤ 8) ∧ 4000 < S.length + j ∧ r = some (.int (-3)) ∧ ws2 = (xW qt nv kf fv fp fd ra rb wn to S.length so sl)) ∨ (∃ (j : Nat) (to2 : Nat → Int32), (x = nI j ∧ 1 ≤ j ∧ j ≤ 8) ∧ S.length + j ≤ 4000 ∧ r = some (.int (nI (S ++ octs j v).length)) ∧ ws2 = (xW qt nv kf fv fp fd ra rb wn to2 (S ++ octs j v).length so sl) ∧ tpR to2 (S ++ octs j v))) ∧ N H) := by
  refine enter (lv := [(0, .ref 0), (1, .int x), (2, .long v)]) (by decide +kernel) (Nat.le_of_ble_eq_true rfl) rfl hAD (fun U hK => ns_write hK hN) ?_
  intro p e s m below meth c A args hA C hr hlk hnm
  refine sg0 C foX8 coX8 oX8_feed_0 rfl rfl rfl ?_
  refine b2_lt (tgt := 11) C jX8_feed_2 (by decide) (fun h2 => ?_) (fun h2 => ?_)
  · refine sg0 C foX8 coX8 oX8_feed_11 rfl rfl rfl ?_
    exact rt_i C hr hlk jX8_feed_12 (fun H hH => ⟨Or.inl ⟨fun q => absurd h2 (Int32.not_lt.mpr q.1), rfl, rfl⟩, hH⟩)
  · refine sg0 C foX8 coX8 oX8_feed_5 rfl rfl rfl ?_
    refine b2_le (tgt := 13) C jX8_feed_8 (by decide) (fun h8 => ?_) (fun h8 => ?_)
    · obtain ⟨j, j1, j2, rfl⟩ := fd_in htl h2 h8
      refine sg0 C foX8 coX8 oX8_feed_13 rfl rfl rfl ?_
      rw [nI_add]
      refine b2_le (tgt := 31) C jX8_feed_25 (by decide) (fun h25 => ?_) (fun h25 => ?_)
      · have hq : S.length + j ≤ 4000 := Nat.not_lt.mp fun q => absurd h25 (by rw [show (4000 : Int32) = nI 4000 from rfl]; exact nI_ge q (by omega))
        refine sg0 C foX8 coX8 oX8_feed_31 rfl rfl rfl ?_
        refine cl_v C (kX7_append5 hAD hN (show 7 + _ = 9 from rfl) (S := S) hS j (by omega) v) (rcv (ci := 6) C.2.1 rfl rfl) cd_X7_append in_X7 ml_X8_107 im_X7_append se_X7_append hd_X7_append rfl rfl ⟨(Nat.le_of_ble_eq_true rfl), (Nat.le_of_ble_eq_true rfl)⟩ ⟨(Nat.le_of_ble_eq_true rfl), (Nat.le_of_ble_eq_true rfl)⟩ (Nat.le_of_ble_eq_true rfl) jX8_feed_37 (fun v ws' => Wa.ex (fun s1 => Wa.and (fun hv => ?_)))
        obtain ⟨rfl, rfl, hs1⟩ := hv
        refine sg0 C foX8 coX8 oX8_feed_40 rfl rfl rfl ?_
        exact rt_i C hr hlk jX8_feed_47 (fun H hH => ⟨Or.inr (Or.inr ⟨j, s1, ⟨rfl, j1, j2⟩, hq, rfl, rfl, hs1⟩), hH⟩)
      · have hq : 4000 < S.length + j := Nat.not_le.mp fun q => h25 (by rw [show (4000 : Int32) = nI 4000 from rfl]; exact nI_le q (by decide))
        refine sg0 C foX8 coX8 oX8_feed_28 rfl rfl rfl ?_
        exact rt_i C hr hlk jX8_feed_30 (fun H hH => ⟨Or.inr (Or.inl ⟨j, ⟨rfl, j1, j2⟩, hq, rfl, rfl⟩), hH⟩)
    · refine sg0 C foX8 coX8 oX8_feed_11 rfl rfl rfl ?_
      exact rt_i C hr hlk jX8_feed_12 (fun H hH => ⟨Or.inl ⟨fun q => h8 q.2, rfl, rfl⟩, hH⟩)
set_option maxRecDepth 100000 in
set_option maxHeartbeats 4000000 in
theorem kX5_add (hAD : AD ad 9) (hN : NS D N) (hwn : wn ≤ 20) (x y : Int32) : Ct l yX5_add cX5_add 3 (some .boolean) (rK 0 0 0) D ca ad (xW qt nv kf fv fp fd ra rb wn to tl so sl) 9 [.ref 2, .int x, .int y] N (fun r ws2 H => ((20 ≤ wn ∧ r = some (.int 0) ∧ ws2 = (xW qt nv kf fv fp fd ra rb wn to tl so sl)) ∨ (wn < 20 ∧ r = some (.int 1) ∧ ws2 = (xW qt nv kf fv fp fd (upd ra (nI wn).toNatClampNeg x) (upd rb (nI wn).toNatClampNeg y) (wn + 1) to tl so sl))) ∧ N H) := by
  refine enter (lv := [(0, .ref 2), (1, .int x), (2, .int y)]) (by decide +kernel) (Nat.le_of_ble_eq_true rfl) rfl hAD (fun U hK => ns_write hK hN) ?_
  intro p e s m below meth c A args hA C hr hlk hnm
  refine sg0 C foX5 coX5 oX5_add_0 rfl rfl rfl ?_
  refine b2_lt (tgt := 11) C jX5_add_6 (by decide) (fun h6 => ?_) (fun h6 => ?_)
  · have hq : wn < 20 := Nat.not_le.mp fun q => absurd h6 (by rw [show (20 : Int32) = nI 20 from rfl]; exact nI_nlt q (by omega))
    refine sg C foX5 coX5 oX5_add_11 rfl rfl rfl ⟨vp_in_nI hq (by decide), vp_in_nI hq (by decide), trivial⟩ ?_
    rw [nI_1]
    exact rt_z C hr hlk (by decide) jX5_add_42 (fun H hH => ⟨Or.inr ⟨hq, rfl, rfl⟩, hH⟩)
  · have hq : 20 ≤ wn := Nat.not_lt.mp fun q => h6 (by rw [show (20 : Int32) = nI 20 from rfl]; exact nI_lt q (by decide))
    refine sg0 C foX5 coX5 oX5_add_9 rfl rfl rfl ?_
    exact rt_z C hr hlk (by decide) jX5_add_10 (fun H hH => ⟨Or.inl ⟨hq, rfl, rfl⟩, hH⟩)
-- want
end
end
section
/-! public methods of the class: ranges, the tree, the view -/
def isH : Term → Bool
  | .add (.arg _) (.long _) => true
  | _ => false
theorem isH_at {D : va_G} {H : Heap} {T : Term} (h : nodeAt D H T) : (isH T = true ∧ ∃ fs, va_at D vwCl (adr T, .inr (2, fs)) H) ∨ (isH T = false ∧ ∃ (ci : Nat) (r : vw_C) (fs : List Value), vwCl[ci]? = some r ∧ (r.1, "PathProofs$Hidden") ∈ notL ∧ va_at D vwCl (adr T, .inr (ci, fs)) H) := by
  have hT := nodeAt.T T h
  revert h
  refine tr_ind (P := fun T => nodeAt D H T → (isH T = true ∧ ∃ fs, va_at D vwCl (adr T, .inr (2, fs)) H) ∨ (isH T = false ∧ ∃ (ci : Nat) (r : vw_C) (fs : List Value), vwCl[ci]? = some r ∧ (r.1, "PathProofs$Hidden") ∈ notL ∧ va_at D vwCl (adr T, .inr (ci, fs)) H)) ?_ ?_ ?_ ?_ T hT
  · exact fun q h => Or.inr ⟨rfl, 0, _, _, rfl, by decide, h⟩
  · exact fun q d h => Or.inl ⟨rfl, _, h⟩
  · exact fun q p v h => Or.inr ⟨rfl, 3, _, _, rfl, by decide, h⟩
  · exact fun q B S x y _ _ _ _ h => Or.inr ⟨rfl, 1, _, _, rfl, by decide, h.1⟩
section
variable {p : Program} {l : Launch} {e : Env} {R : Room} {s : State} {m : MethodId} {args : Array Value} {below : List Frame} {meth : Method} {c : Code} {cells slots : Nat} {Q : State → Prop} {cc : ByteArray} {nL n : Nat} {own : String} {D : va_G} {ca : Nat → ClassId} {ad : Nat → Nat} {A : Nat → Prop} {N : Heap → Prop}
/-- instanceof Hidden, of any node -/
theorem ni_H (C : Cx p s m args c cc nL own D ca ad A N n) {T : Term} {idx pc : Nat} {lv : List (Nat × Value)} {st : List Value} {ws : List va_E} (hx : ∀ H, N H → nodeAt D H T) (hkl : Cond.classLink own idx RX2 ∈ tb) (hdg : decode cc pc = .ok (.instanceof idx, 3))
    (kk : Wa p l e R s m args below meth c cells slots Q D ca ad A nL N (lv, .int (if isH T = true then 1 else 0) :: st, ws) (pc + 3)) : Wa p l e R s m args below meth c cells slots Q D ca ad A nL N (lv, .ref (adr T + 100) :: st, ws) pc := by
  intro H locs ls h1 h2 h3 h4
  have k2 := kk H locs ls h1 h2 h3 h4
  have hr := C.2.2.2.1.2 (adr T)
  show W p l e R s m args below meth c H locs cells slots Q (F0 m pc ls (.ref (ad (adr T + 100)) :: st.map (cv ad)))
  rcases isH_at (hx H h4) with ⟨e1, fs, g⟩ | ⟨e1, ci, r, fs, g1, g2, g⟩
  · rw [if_pos e1] at k2
    obtain ⟨r2, b1, cell, b2, b3, b4, -⟩ := g
    exact va_instY (C := RX2) (nm := RX2) C.1.1 C.1.2.1 C.1.2.2.2.1 (C.1.2.2.2.2 _ hkl) (C.2.1.2.2.1 (RX2, RX2) (by decide)) ⟨cell, by rw [hr]; exact b2, by rw [b4]; rfl, by rw [b3]; exact (C.2.1.1.1 2 _ rfl).2.1⟩ hdg k2
  · rw [if_neg (by rw [e1]; decide)] at k2
    obtain ⟨r2, b1, cell, b2, b3, b4, -⟩ := g
    exact va_instNo (C := r.1) (nm := RX2) C.1.1 C.1.2.1 C.1.2.2.2.1 (C.1.2.2.2.2 _ hkl) (C.2.1.2.2.2.1 (r.1, RX2) g2) ⟨cell, by rw [hr]; exact b2, by rw [b4]; rfl, by rw [b3]; exact (C.2.1.1.1 ci r g1).2.1⟩ hdg k2
/-- the digest of any node -/
theorem ng_dig (C : Cx p s m args c cc nL own D ca ad A N n) {T : Term} {idx pc : Nat} {lv : List (Nat × Value)} {st : List Value} {ws : List va_E} (hx : ∀ H, N H → nodeAt D H T) (hfl : Cond.fieldLink own idx "PathProofs$Node" "digest" "J" ∈ tb) (hdg : decode cc pc = .ok (.getfield idx, 3))
    (kk : Wa p l e R s m args below meth c cells slots Q D ca ad A nL N (lv, .long (dig T) :: st, ws) (pc + 3)) : Wa p l e R s m args below meth c cells slots Q D ca ad A nL N (lv, .ref (adr T + 100) :: st, ws) pc := by
  intro H locs ls h1 h2 h3 h4
  obtain ⟨ci, r, fs, x1, x2, x3, x4, x5, x6⟩ := dig_at (hx H h4)
  obtain ⟨C9, T9, N9⟩ := r
  show W p l e R s m args below meth c H locs cells slots Q (F0 m pc ls (cv ad (.ref (adr T + 100)) :: st.map (cv ad)))
  rw [cv_raw C]
  have x4 : T9 0 = ("PathProofs$Node", "digest", "J", true) := x4
  exact va_get (D := D) (cl := vwCl) (ci := ci) (C := C9) (T := T9) (N := N9) (ws := [(adr T, .inr (ci, fs))]) (fs := fs) (v := .long (dig T)) C.1.1 C.1.2.1 C.1.2.2.2.2 (clsOk ci _ x2).1 C.1.2.2.2.1 C.2.1.1 (fun k x hx => by
    have hz : k < 1 := (List.getElem?_eq_some_iff.mp hx).1
    rw [show k = 0 by omega] at hx
    cases hx
    exact x5) 0 rfl x2 0 x3 (by rw [x4]; exact C.1.2.2.2.2 _ hfl) (fun _ h9 => by rw [x4] at *; exact h9) x6 hdg (kk H locs ls h1 h2 h3 h4)
end
section
variable {l : Launch} {D : va_G} {ca : Nat → ClassId} {ad : Nat → Nat} {N : Heap → Prop} {qt nv : Nat} {kf : Nat → Option Nat} {fv : Value} {fp : Int32} {fd : Int64} {ra rb : Nat → Int32} {wn : Nat} {to : Nat → Int32} {tl : Nat} {so : Nat → Int32} {sl : Nat}
set_option maxRecDepth 100000 in
set_option maxHeartbeats 4000000 in
theorem kX8_want (hAD : AD ad 9) (hN : NS D N) (hwn : wn ≤ 20) (x y : Int32) : Ct l yX8_want cX8_want 3 (some .int) (rK 2 0 0) D ca ad (xW qt nv kf fv fp fd ra rb wn to tl so sl) 9 [.ref 0, .int x, .int y] N (fun r ws2 H => ((¬ ((0 ≤ x ∧ x ≤ 65535) ∧ (0 ≤ y ∧ y ≤ 65535) ∧ x ≤ y) ∧ r = some (.int (-1)) ∧ ws2 = (xW qt nv kf fv fp fd ra rb wn to tl so sl)) ∨ (((0 ≤ x ∧ x ≤ 65535) ∧ (0 ≤ y ∧ y ≤ 65535) ∧ x ≤ y) ∧ 20 ≤ wn ∧ r = some (.int (-3)) ∧ ws2 = (xW qt nv kf fv fp fd ra rb wn to tl so sl)) ∨ (((0 ≤ x ∧ x ≤ 65535) ∧ (0 ≤ y ∧ y ≤ 65535) ∧ x ≤ y) ∧ wn < 20 ∧ r = some (.int (nI (wn + 1))) ∧ ws2 = (xW qt nv kf fv fp fd (upd ra (nI wn).toNatClampNeg x) (upd rb (nI wn).toNatClampNeg y) (wn + 1) to tl so sl))) ∧ N H) := by
  refine enter (lv := [(0, .ref 0), (1, .int x), (2, .int y)]) (by decide +kernel) (Nat.le_of_ble_eq_true rfl) rfl hAD (fun U hK => ns_write hK hN) ?_
  intro p e s m below meth c A args hA C hr hlk hnm
  refine sg0 C foX8 coX8 oX8_want_0 rfl rfl rfl ?_
  refine cl_s C (kX8_isRange hAD rfl hN x y) cd_X8_isRange in_X8 ml_X8_90 sm_X8_isRange hd_X8_isRange rfl rfl ⟨(Nat.le_of_ble_eq_true rfl), (Nat.le_of_ble_eq_true rfl)⟩ ⟨(Nat.le_of_ble_eq_true rfl), (Nat.le_of_ble_eq_true rfl)⟩ (Nat.le_of_ble_eq_true rfl) jX8_want_2 (fun v ws' => Wa.and (fun hv => ?_))
  obtain ⟨rfl, rfl⟩ := hv
  refine b1_ne (tgt := 10) C jX8_want_5 (by decide) (fun h5 => ?_) (fun h5 => ?_)
  · have hq : ((0 ≤ x ∧ x ≤ 65535) ∧ (0 ≤ y ∧ y ≤ 65535) ∧ x ≤ y) := Decidable.byContradiction fun e1 => h5 (if_neg e1)
    refine sg0 C foX8 coX8 oX8_want_10 rfl rfl rfl ?_
    refine cl_v C (kX5_add hAD hN hwn x y) (rcv (ci := 4) C.2.1 rfl rfl) cd_X5_add in_X5 ml_X8_94 im_X5_add se_X5_add hd_X5_add rfl rfl ⟨(Nat.le_of_ble_eq_true rfl), (Nat.le_of_ble_eq_true rfl)⟩ ⟨(Nat.le_of_ble_eq_true rfl), (Nat.le_of_ble_eq_true rfl)⟩ (Nat.le_of_ble_eq_true rfl) jX8_want_16 (fun v ws' => Wa.and (fun hv => ?_))
    rcases hv with ⟨hw, rfl, rfl⟩ | ⟨hw, rfl, rfl⟩
    · refine b1_eq (tgt := 32) C jX8_want_19 (by decide) (fun h19 => ?_) (fun h19 => ?_)
      · refine sg0 C foX8 coX8 oX8_want_32 rfl rfl rfl ?_
        exact rt_i C hr hlk jX8_want_34 (fun H hH => ⟨Or.inr (Or.inl ⟨hq, hw, rfl, rfl⟩), hH⟩)
      · exact absurd h19 (by decide)
    · refine b1_eq (tgt := 32) C jX8_want_19 (by decide) (fun h19 => ?_) (fun h19 => ?_)
      · exact absurd h19 (by decide)
      · refine sg0 C foX8 coX8 oX8_want_22 rfl rfl rfl ?_
        exact rt_i C hr hlk jX8_want_34 (fun H hH => ⟨Or.inr (Or.inr ⟨hq, hw, rfl, rfl⟩), hH⟩)
  · have hq : ¬ ((0 ≤ x ∧ x ≤ 65535) ∧ (0 ≤ y ∧ y ≤ 65535) ∧ x ≤ y) := fun e1 => by rw [if_pos e1] at h5; exact absurd h5 (by decide)
    refine sg0 C foX8 coX8 oX8_want_8 rfl rfl rfl ?_
    exact rt_i C hr hlk jX8_want_9 (fun H hH => ⟨Or.inl ⟨hq, rfl, rfl⟩, hH⟩)
set_option maxRecDepth 100000 in
set_option maxHeartbeats 4000000 in
theorem kX8_view (hAD : AD ad 9) (hN : NS D N) {vo : Option Term} (hvo : ∀ V, vo = some V → fitT V 16 ∧ ∀ H, N H → nodeAt D H V)  : Ct l yX8_view cX8_view 1 (some .long) (rK 0 0 0) D ca ad (xW qt nv kf (vF vo) fp fd ra rb wn to tl so sl) 9 [.ref 0] N (pG (xW qt nv kf (vF vo) fp fd ra rb wn to tl so sl) N (some (.long (match vo with | none => 0 | some V => dig V)))) := by
  cases vo with
  | none =>
    refine enter (lv := [(0, .ref 0)]) (by decide +kernel) (Nat.le_of_ble_eq_true rfl) rfl hAD (fun U hK => ns_write hK hN) ?_
    intro p e s m below meth c A args hA C hr hlk hnm
    refine sg0 C foX8 coX8 oX8_view_0 rfl rfl rfl ?_
    refine bnn_n C jX8_view_4 ?_
    refine sg0 C foX8 coX8 oX8_view_7 rfl rfl rfl ?_
    exact rt_l C hr hlk jX8_view_18 (fun H hN => ⟨⟨rfl, rfl⟩, hN⟩)
  | some V =>
    obtain ⟨hfit, hx⟩ := hvo V rfl
    refine enter (lv := [(0, .ref 0)]) (by decide +kernel) (Nat.le_of_ble_eq_true rfl) rfl hAD (fun U hK => ns_write hK hN) ?_
    intro p e s m below meth c A args hA C hr hlk hnm
    refine sg0 C foX8 coX8 oX8_view_0 rfl rfl rfl ?_
    refine bnn_r (tgt := 11) C jX8_view_4 (by decide) ?_
    refine sg0 C foX8 coX8 oX8_view_11 rfl rfl rfl ?_
    refine ng_dig C hx fl_X8_87 jX8_view_15 ?_
    exact rt_l C hr hlk jX8_view_18 (fun H hN => ⟨⟨rfl, rfl⟩, hN⟩)
theorem hid_le (T : Term) (hT : isT T) : ∀ f t a b k : Nat, fitT T k → hidT T f t a b ≤ 2 ^ k := by
  refine tr_ind (P := fun T => ∀ f t a b k : Nat, fitT T k → hidT T f t a b ≤ 2 ^ k) ?_ ?_ ?_ ?_ T hT
  · exact fun q f t a b k _ => Nat.zero_le _
  · intro q d f t a b k _
    simp only [hidT]
    have := Nat.two_pow_pos k
    split <;> omega
  · exact fun q p v f t a b k _ => Nat.zero_le _
  · intro q B S x y _ _ i1 i2 f t a b k h
    obtain ⟨⟨hB, hkB, hS, hstm⟩, hfx, hfy⟩ := fitF h
    have h1 := i1 S (S + 2 ^ (15 - B) - 1) a b _ hfx
    have h2 := i2 (S + 2 ^ (15 - B)) (S + 2 ^ (16 - B) - 1) a b _ hfy
    have h3 : 2 ^ (15 - B) * 2 ≤ 2 ^ k := by rw [← Nat.pow_succ]; exact Nat.pow_le_pow_right (by decide) (by omega)
    simp only [hidT]
    omega
set_option maxRecDepth 100000 in
set_option maxHeartbeats 4000000 in
theorem kX8_count (hAD : AD ad 9) (hN : NS D N) {vo : Option Term} (hvo : ∀ V, vo = some V → fitT V 16 ∧ ∀ H, N H → nodeAt D H V) {a b : Nat} (ha : a < 65536) (hb : b < 65536) (hab : a ≤ b) : Ct l yX8_count cX8_count 3 (some .int) (rK 18 0 0) D ca ad (xW qt nv kf (vF vo) fp fd ra rb wn to tl so sl) 9 [.ref 0, .int (nI a), .int (nI b)] N (pG (xW qt nv kf (vF vo) fp fd ra rb wn to tl so sl) N (some (.int (match vo with | none => -2 | some V => if hidT V 0 65535 a b = 0 then nI (cntT V a b) else -4)))) := by
  cases vo with
  | none =>
    refine enter (lv := [(0, .ref 0), (1, .int (nI a)), (2, .int (nI b))]) (by decide +kernel) (Nat.le_of_ble_eq_true rfl) rfl hAD (fun U hK => ns_write hK hN) ?_
    intro p e s m below meth c A args hA C hr hlk hnm
    refine sg0 C foX8 coX8 oX8_count_0 rfl rfl rfl ?_
    refine cl_s C (kX8_isRange hAD rfl hN (nI a) (nI b)) cd_X8_isRange in_X8 ml_X8_90 sm_X8_isRange hd_X8_isRange rfl rfl ⟨(Nat.le_of_ble_eq_true rfl), (Nat.le_of_ble_eq_true rfl)⟩ ⟨(Nat.le_of_ble_eq_true rfl), (Nat.le_of_ble_eq_true rfl)⟩ (Nat.le_of_ble_eq_true rfl) jX8_count_2 (fun v ws' => Wa.and (fun hv => ?_))
    obtain ⟨rfl, rfl⟩ := hv
    rw [if_pos (show (0 ≤ nI a ∧ nI a ≤ 65535) ∧ (0 ≤ nI b ∧ nI b ≤ 65535) ∧ nI a ≤ nI b from ⟨pth_ok ha, pth_ok hb, nI_le hab (by omega)⟩)]
    refine b1_ne (tgt := 10) C jX8_count_5 (by decide) (fun h5 => ?_) (fun h5 => ?_)
    · refine sg0 C foX8 coX8 oX8_count_10 rfl rfl rfl ?_
      refine bnn_n C jX8_count_14 ?_
      refine sg0 C foX8 coX8 oX8_count_17 rfl rfl rfl ?_
      exact rt_i C hr hlk jX8_count_19 (fun H hN => ⟨⟨rfl, rfl⟩, hN⟩)
    · exact absurd h5 (by decide)
  | some V =>
    obtain ⟨hfit, hx⟩ := hvo V rfl
    refine enter (lv := [(0, .ref 0), (1, .int (nI a)), (2, .int (nI b))]) (by decide +kernel) (Nat.le_of_ble_eq_true rfl) rfl hAD (fun U hK => ns_write hK hN) ?_
    intro p e s m below meth c A args hA C hr hlk hnm
    refine sg0 C foX8 coX8 oX8_count_0 rfl rfl rfl ?_
    refine cl_s C (kX8_isRange hAD rfl hN (nI a) (nI b)) cd_X8_isRange in_X8 ml_X8_90 sm_X8_isRange hd_X8_isRange rfl rfl ⟨(Nat.le_of_ble_eq_true rfl), (Nat.le_of_ble_eq_true rfl)⟩ ⟨(Nat.le_of_ble_eq_true rfl), (Nat.le_of_ble_eq_true rfl)⟩ (Nat.le_of_ble_eq_true rfl) jX8_count_2 (fun v ws' => Wa.and (fun hv => ?_))
    obtain ⟨rfl, rfl⟩ := hv
    rw [if_pos (show (0 ≤ nI a ∧ nI a ≤ 65535) ∧ (0 ≤ nI b ∧ nI b ≤ 65535) ∧ nI a ≤ nI b from ⟨pth_ok ha, pth_ok hb, nI_le hab (by omega)⟩)]
    refine b1_ne (tgt := 10) C jX8_count_5 (by decide) (fun h5 => ?_) (fun h5 => ?_)
    · refine sg0 C foX8 coX8 oX8_count_10 rfl rfl rfl ?_
      refine bnn_r (tgt := 20) C jX8_count_14 (by decide) ?_
      refine sg0 C foX8 coX8 oX8_count_20 rfl rfl rfl ?_
      refine cl_s C (kX8_hiddenOver hAD rfl ha hb V (fit_T V _ hfit) 16 0 N 0 65535 hfit (by decide) hN hx (by decide) (by decide)) cd_X8_hiddenOver in_X8 ml_X8_142 sm_X8_hiddenOver hd_X8_hiddenOver rfl rfl ⟨(Nat.le_of_ble_eq_true rfl), (Nat.le_of_ble_eq_true rfl)⟩ ⟨(Nat.le_of_ble_eq_true rfl), (Nat.le_of_ble_eq_true rfl)⟩ (Nat.le_of_ble_eq_true rfl) jX8_count_30 (fun v ws' => Wa.and (fun hv => ?_))
      obtain ⟨rfl, rfl⟩ := hv
      have hle := hid_le V (fit_T V _ hfit) 0 65535 a b 16 hfit
      refine b1_le (tgt := 39) C jX8_count_33 (by decide) (fun h33 => ?_) (fun h33 => ?_)
      · have hq : hidT V 0 65535 a b = 0 := Decidable.byContradiction fun q => nI_nle (Nat.pos_of_ne_zero q) (by omega) h33
        refine sg0 C foX8 coX8 oX8_count_39 rfl rfl rfl ?_
        refine cl_s C (kX8_leavesWithin hAD rfl ha hb V (fit_T V _ hfit) 16 0 N hfit (by decide) hN hx) cd_X8_leavesWithin in_X8 ml_X8_75 sm_X8_leavesWithin hd_X8_leavesWithin rfl rfl ⟨(Nat.le_of_ble_eq_true rfl), (Nat.le_of_ble_eq_true rfl)⟩ ⟨(Nat.le_of_ble_eq_true rfl), (Nat.le_of_ble_eq_true rfl)⟩ (Nat.le_of_ble_eq_true rfl) jX8_count_46 (fun v ws' => Wa.and (fun hv => ?_))
        obtain ⟨rfl, rfl⟩ := hv
        exact rt_i C hr hlk jX8_count_49 (fun H hH => ⟨⟨by show _ = some (Value.int (if _ then _ else _)); rw [if_pos hq], rfl⟩, hH⟩)
      · have hq : ¬ hidT V 0 65535 a b = 0 := fun q => h33 (by rw [q]; decide)
        refine sg0 C foX8 coX8 oX8_count_36 rfl rfl rfl ?_
        exact rt_i C hr hlk jX8_count_38 (fun H hH => ⟨⟨by show _ = some (Value.int (if _ then _ else _)); rw [if_neg hq], rfl⟩, hH⟩)
    · exact absurd h5 (by decide)
set_option maxRecDepth 100000 in
set_option maxHeartbeats 4000000 in
theorem kX8_next (hAD : AD ad 9) (hN : NS D N) {vo : Option Term} (hvo : ∀ V, vo = some V → fitT V 16 ∧ ∀ H, N H → nodeAt D H V) {a : Nat} (ha : a < 65536) : Ct l yX8_next cX8_next 2 (some .int) (rK 18 0 0) D ca ad (xW qt nv kf (vF vo) fp fd ra rb wn to tl so sl) 9 [.ref 0, .int (nI a)] N (pG (xW qt nv kf (vF vo) fp fd ra rb wn to tl so sl) N (some (.int (match vo with | none => -2 | some V => lstT V 65535 a)))) := by
  cases vo with
  | none =>
    refine enter (lv := [(0, .ref 0), (1, .int (nI a))]) (by decide +kernel) (Nat.le_of_ble_eq_true rfl) rfl hAD (fun U hK => ns_write hK hN) ?_
    intro p e s m below meth c A args hA C hr hlk hnm
    refine sg0 C foX8 coX8 oX8_next_0 rfl rfl rfl ?_
    refine cl_s C (kX8_isPath hAD rfl hN (nI a)) cd_X8_isPath in_X8 ml_X8_53 sm_X8_isPath hd_X8_isPath rfl rfl ⟨(Nat.le_of_ble_eq_true rfl), (Nat.le_of_ble_eq_true rfl)⟩ ⟨(Nat.le_of_ble_eq_true rfl), (Nat.le_of_ble_eq_true rfl)⟩ (Nat.le_of_ble_eq_true rfl) jX8_next_1 (fun v ws' => Wa.and (fun hv => ?_))
    obtain ⟨rfl, rfl⟩ := hv
    rw [if_pos (pth_ok ha)]
    refine b1_ne (tgt := 9) C jX8_next_4 (by decide) (fun h4 => ?_) (fun h4 => ?_)
    · refine sg0 C foX8 coX8 oX8_next_9 rfl rfl rfl ?_
      refine bnn_n C jX8_next_13 ?_
      refine sg0 C foX8 coX8 oX8_next_16 rfl rfl rfl ?_
      exact rt_i C hr hlk jX8_next_32 (fun H hN => ⟨⟨rfl, rfl⟩, hN⟩)
    · exact absurd h4 (by decide)
  | some V =>
    obtain ⟨hfit, hx⟩ := hvo V rfl
    refine enter (lv := [(0, .ref 0), (1, .int (nI a))]) (by decide +kernel) (Nat.le_of_ble_eq_true rfl) rfl hAD (fun U hK => ns_write hK hN) ?_
    intro p e s m below meth c A args hA C hr hlk hnm
    refine sg0 C foX8 coX8 oX8_next_0 rfl rfl rfl ?_
    refine cl_s C (kX8_isPath hAD rfl hN (nI a)) cd_X8_isPath in_X8 ml_X8_53 sm_X8_isPath hd_X8_isPath rfl rfl ⟨(Nat.le_of_ble_eq_true rfl), (Nat.le_of_ble_eq_true rfl)⟩ ⟨(Nat.le_of_ble_eq_true rfl), (Nat.le_of_ble_eq_true rfl)⟩ (Nat.le_of_ble_eq_true rfl) jX8_next_1 (fun v ws' => Wa.and (fun hv => ?_))
    obtain ⟨rfl, rfl⟩ := hv
    rw [if_pos (pth_ok ha)]
    refine b1_ne (tgt := 9) C jX8_next_4 (by decide) (fun h4 => ?_) (fun h4 => ?_)
    · refine sg0 C foX8 coX8 oX8_next_9 rfl rfl rfl ?_
      refine bnn_r (tgt := 21) C jX8_next_13 (by decide) ?_
      refine sg0 C foX8 coX8 oX8_next_21 rfl rfl rfl ?_
      refine cl_s C (kX8_leastFrom hAD rfl ha V (fit_T V _ hfit) 16 0 N 65535 hfit (by decide) hN hx (by decide)) cd_X8_leastFrom in_X8 ml_X8_146 sm_X8_leastFrom hd_X8_leastFrom rfl rfl ⟨(Nat.le_of_ble_eq_true rfl), (Nat.le_of_ble_eq_true rfl)⟩ ⟨(Nat.le_of_ble_eq_true rfl), (Nat.le_of_ble_eq_true rfl)⟩ (Nat.le_of_ble_eq_true rfl) jX8_next_29 (fun v ws' => Wa.and (fun hv => ?_))
      obtain ⟨rfl, rfl⟩ := hv
      exact rt_i C hr hlk jX8_next_32 (fun H hN => ⟨⟨rfl, rfl⟩, hN⟩)
    · exact absurd h4 (by decide)
set_option maxRecDepth 100000 in
set_option maxHeartbeats 4000000 in
theorem kX8_next_bad (hAD : AD ad 9) (hN : NS D N) (x : Int32) (hx : ¬ (0 ≤ x ∧ x ≤ 65535)) : Ct l yX8_next cX8_next 2 (some .int) (rK 1 0 0) D ca ad (xW qt nv kf fv fp fd ra rb wn to tl so sl) 9 [.ref 0, .int x] N (pG (xW qt nv kf fv fp fd ra rb wn to tl so sl) N (some (.int (-1)))) := by
  refine enter (lv := [(0, .ref 0), (1, .int x)]) (by decide +kernel) (Nat.le_of_ble_eq_true rfl) rfl hAD (fun U hK => ns_write hK hN) ?_
  intro p e s m below meth c A args hA C hr hlk hnm
  refine sg0 C foX8 coX8 oX8_next_0 rfl rfl rfl ?_
  refine cl_s C (kX8_isPath hAD rfl hN x) cd_X8_isPath in_X8 ml_X8_53 sm_X8_isPath hd_X8_isPath rfl rfl ⟨(Nat.le_of_ble_eq_true rfl), (Nat.le_of_ble_eq_true rfl)⟩ ⟨(Nat.le_of_ble_eq_true rfl), (Nat.le_of_ble_eq_true rfl)⟩ (Nat.le_of_ble_eq_true rfl) jX8_next_1 (fun v ws' => Wa.and (fun hv => ?_))
  obtain ⟨rfl, rfl⟩ := hv
  rw [if_neg hx]
  refine b1_ne (tgt := 9) C jX8_next_4 (by decide) (fun h4 => ?_) (fun h4 => ?_)
  · exact absurd rfl h4
  · refine sg0 C foX8 coX8 oX8_next_7 rfl rfl rfl ?_
    exact rt_i C hr hlk jX8_next_8 (fun H hN => ⟨⟨rfl, rfl⟩, hN⟩)
set_option maxRecDepth 100000 in
set_option maxHeartbeats 4000000 in
theorem kX8_put_bad (hAD : AD ad 9) (hN : NS D N) (x : Int32) (v : Int64) (hx : ¬ (0 ≤ x ∧ x ≤ 65535)) : Ct l yX8_put cX8_put 6 (some .int) (rK 1 0 0) D ca ad (xW qt nv kf fv fp fd ra rb wn to tl so sl) 9 [.ref 0, .int x, .long v] N (pG (xW qt nv kf fv fp fd ra rb wn to tl so sl) N (some (.int (-1)))) := by
  refine enter (lv := [(0, .ref 0), (1, .int x), (2, .long v)]) (by decide +kernel) (Nat.le_of_ble_eq_true rfl) rfl hAD (fun U hK => ns_write hK hN) ?_
  intro p e s m below meth c A args hA C hr hlk hnm
  refine sg0 C foX8 coX8 oX8_put_0 rfl rfl rfl ?_
  refine cl_s C (kX8_isPath hAD rfl hN x) cd_X8_isPath in_X8 ml_X8_53 sm_X8_isPath hd_X8_isPath rfl rfl ⟨(Nat.le_of_ble_eq_true rfl), (Nat.le_of_ble_eq_true rfl)⟩ ⟨(Nat.le_of_ble_eq_true rfl), (Nat.le_of_ble_eq_true rfl)⟩ (Nat.le_of_ble_eq_true rfl) jX8_put_1 (fun v ws' => Wa.and (fun hv => ?_))
  obtain ⟨rfl, rfl⟩ := hv
  rw [if_neg hx]
  refine b1_ne (tgt := 9) C jX8_put_4 (by decide) (fun h4 => ?_) (fun h4 => ?_)
  · exact absurd rfl h4
  · refine sg0 C foX8 coX8 oX8_put_7 rfl rfl rfl ?_
    exact rt_i C hr hlk jX8_put_8 (fun H hN => ⟨⟨rfl, rfl⟩, hN⟩)
set_option maxRecDepth 100000 in
set_option maxHeartbeats 4000000 in
theorem kX8_remove_bad (hAD : AD ad 9) (hN : NS D N) (x : Int32) (hx : ¬ (0 ≤ x ∧ x ≤ 65535)) : Ct l yX8_remove cX8_remove 2 (some .int) (rK 1 0 0) D ca ad (xW qt nv kf fv fp fd ra rb wn to tl so sl) 9 [.ref 0, .int x] N (pG (xW qt nv kf fv fp fd ra rb wn to tl so sl) N (some (.int (-1)))) := by
  refine enter (lv := [(0, .ref 0), (1, .int x)]) (by decide +kernel) (Nat.le_of_ble_eq_true rfl) rfl hAD (fun U hK => ns_write hK hN) ?_
  intro p e s m below meth c A args hA C hr hlk hnm
  refine sg0 C foX8 coX8 oX8_remove_0 rfl rfl rfl ?_
  refine cl_s C (kX8_isPath hAD rfl hN x) cd_X8_isPath in_X8 ml_X8_53 sm_X8_isPath hd_X8_isPath rfl rfl ⟨(Nat.le_of_ble_eq_true rfl), (Nat.le_of_ble_eq_true rfl)⟩ ⟨(Nat.le_of_ble_eq_true rfl), (Nat.le_of_ble_eq_true rfl)⟩ (Nat.le_of_ble_eq_true rfl) jX8_remove_1 (fun v ws' => Wa.and (fun hv => ?_))
  obtain ⟨rfl, rfl⟩ := hv
  rw [if_neg hx]
  refine b1_ne (tgt := 9) C jX8_remove_4 (by decide) (fun h4 => ?_) (fun h4 => ?_)
  · exact absurd rfl h4
  · refine sg0 C foX8 coX8 oX8_remove_7 rfl rfl rfl ?_
    exact rt_i C hr hlk jX8_remove_8 (fun H hN => ⟨⟨rfl, rfl⟩, hN⟩)
set_option maxRecDepth 100000 in
set_option maxHeartbeats 4000000 in
theorem kX8_write_bad (hAD : AD ad 9) (hN : NS D N) (x : Int32) (v : Int64) (hx : ¬ (0 ≤ x ∧ x ≤ 65535)) : Ct l yX8_write cX8_write 6 (some .int) (rK 1 0 0) D ca ad (xW qt nv kf fv fp fd ra rb wn to tl so sl) 9 [.ref 0, .int x, .long v] N (pG (xW qt nv kf fv fp fd ra rb wn to tl so sl) N (some (.int (-1)))) := by
  refine enter (lv := [(0, .ref 0), (1, .int x), (2, .long v)]) (by decide +kernel) (Nat.le_of_ble_eq_true rfl) rfl hAD (fun U hK => ns_write hK hN) ?_
  intro p e s m below meth c A args hA C hr hlk hnm
  refine sg0 C foX8 coX8 oX8_write_0 rfl rfl rfl ?_
  refine cl_s C (kX8_isPath hAD rfl hN x) cd_X8_isPath in_X8 ml_X8_53 sm_X8_isPath hd_X8_isPath rfl rfl ⟨(Nat.le_of_ble_eq_true rfl), (Nat.le_of_ble_eq_true rfl)⟩ ⟨(Nat.le_of_ble_eq_true rfl), (Nat.le_of_ble_eq_true rfl)⟩ (Nat.le_of_ble_eq_true rfl) jX8_write_1 (fun v ws' => Wa.and (fun hv => ?_))
  obtain ⟨rfl, rfl⟩ := hv
  rw [if_neg hx]
  refine b1_ne (tgt := 9) C jX8_write_4 (by decide) (fun h4 => ?_) (fun h4 => ?_)
  · exact absurd rfl h4
  · refine sg0 C foX8 coX8 oX8_write_7 rfl rfl rfl ?_
    exact rt_i C hr hlk jX8_write_8 (fun H hN => ⟨⟨rfl, rfl⟩, hN⟩)
set_option maxRecDepth 100000 in
set_option maxHeartbeats 4000000 in
theorem kX8_erase_bad (hAD : AD ad 9) (hN : NS D N) (x : Int32) (hx : ¬ (0 ≤ x ∧ x ≤ 65535)) : Ct l yX8_erase cX8_erase 3 (some .int) (rK 1 0 0) D ca ad (xW qt nv kf fv fp fd ra rb wn to tl so sl) 9 [.ref 0, .int x] N (pG (xW qt nv kf fv fp fd ra rb wn to tl so sl) N (some (.int (-1)))) := by
  refine enter (lv := [(0, .ref 0), (1, .int x)]) (by decide +kernel) (Nat.le_of_ble_eq_true rfl) rfl hAD (fun U hK => ns_write hK hN) ?_
  intro p e s m below meth c A args hA C hr hlk hnm
  refine sg0 C foX8 coX8 oX8_erase_0 rfl rfl rfl ?_
  refine cl_s C (kX8_isPath hAD rfl hN x) cd_X8_isPath in_X8 ml_X8_53 sm_X8_isPath hd_X8_isPath rfl rfl ⟨(Nat.le_of_ble_eq_true rfl), (Nat.le_of_ble_eq_true rfl)⟩ ⟨(Nat.le_of_ble_eq_true rfl), (Nat.le_of_ble_eq_true rfl)⟩ (Nat.le_of_ble_eq_true rfl) jX8_erase_1 (fun v ws' => Wa.and (fun hv => ?_))
  obtain ⟨rfl, rfl⟩ := hv
  rw [if_neg hx]
  refine b1_ne (tgt := 9) C jX8_erase_4 (by decide) (fun h4 => ?_) (fun h4 => ?_)
  · exact absurd rfl h4
  · refine sg0 C foX8 coX8 oX8_erase_7 rfl rfl rfl ?_
    exact rt_i C hr hlk jX8_erase_8 (fun H hN => ⟨⟨rfl, rfl⟩, hN⟩)
set_option maxRecDepth 100000 in
set_option maxHeartbeats 4000000 in
theorem kX8_count_bad (hAD : AD ad 9) (hN : NS D N) (x y : Int32) (hx : ¬ ((0 ≤ x ∧ x ≤ 65535) ∧ (0 ≤ y ∧ y ≤ 65535) ∧ x ≤ y)) : Ct l yX8_count cX8_count 3 (some .int) (rK 2 0 0) D ca ad (xW qt nv kf fv fp fd ra rb wn to tl so sl) 9 [.ref 0, .int x, .int y] N (pG (xW qt nv kf fv fp fd ra rb wn to tl so sl) N (some (.int (-1)))) := by
  refine enter (lv := [(0, .ref 0), (1, .int x), (2, .int y)]) (by decide +kernel) (Nat.le_of_ble_eq_true rfl) rfl hAD (fun U hK => ns_write hK hN) ?_
  intro p e s m below meth c A args hA C hr hlk hnm
  refine sg0 C foX8 coX8 oX8_count_0 rfl rfl rfl ?_
  refine cl_s C (kX8_isRange hAD rfl hN x y) cd_X8_isRange in_X8 ml_X8_90 sm_X8_isRange hd_X8_isRange rfl rfl ⟨(Nat.le_of_ble_eq_true rfl), (Nat.le_of_ble_eq_true rfl)⟩ ⟨(Nat.le_of_ble_eq_true rfl), (Nat.le_of_ble_eq_true rfl)⟩ (Nat.le_of_ble_eq_true rfl) jX8_count_2 (fun v ws' => Wa.and (fun hv => ?_))
  obtain ⟨rfl, rfl⟩ := hv
  rw [if_neg hx]
  refine b1_ne (tgt := 10) C jX8_count_5 (by decide) (fun h5 => ?_) (fun h5 => ?_)
  · exact absurd rfl h5
  · refine sg0 C foX8 coX8 oX8_count_8 rfl rfl rfl ?_
    exact rt_i C hr hlk jX8_count_9 (fun H hN => ⟨⟨rfl, rfl⟩, hN⟩)
set_option maxRecDepth 100000 in
set_option maxHeartbeats 4000000 in
theorem kX8_get_bad (hAD : AD ad 9) (hN : NS D N) (x : Int32) (hx : ¬ (0 ≤ x ∧ x ≤ 65535)) : Ct l yX8_get cX8_get 4 (some .int) (rK 1 0 0) D ca ad (xW qt nv kf fv fp fd ra rb wn to tl so sl) 9 [.ref 0, .int x] N (fun r ws2 H => (r = some (.int (-1)) ∧ ws2 = (xW qt nv kf fv fp 0 ra rb wn to tl so sl)) ∧ N H) := by
  refine enter (lv := [(0, .ref 0), (1, .int x)]) (by decide +kernel) (Nat.le_of_ble_eq_true rfl) rfl hAD (fun U hK => ns_write hK hN) ?_
  intro p e s m below meth c A args hA C hr hlk hnm
  refine sg0 C foX8 coX8 oX8_get_0 rfl rfl rfl ?_
  refine cl_s C (kX8_isPath hAD rfl hN x) cd_X8_isPath in_X8 ml_X8_53 sm_X8_isPath hd_X8_isPath rfl rfl ⟨(Nat.le_of_ble_eq_true rfl), (Nat.le_of_ble_eq_true rfl)⟩ ⟨(Nat.le_of_ble_eq_true rfl), (Nat.le_of_ble_eq_true rfl)⟩ (Nat.le_of_ble_eq_true rfl) jX8_get_6 (fun v ws' => Wa.and (fun hv => ?_))
  obtain ⟨rfl, rfl⟩ := hv
  rw [if_neg hx]
  refine b1_ne (tgt := 14) C jX8_get_9 (by decide) (fun h9 => ?_) (fun h9 => ?_)
  · exact absurd rfl h9
  · refine sg0 C foX8 coX8 oX8_get_12 rfl rfl rfl ?_
    exact rt_i C hr hlk jX8_get_13 (fun H hN => ⟨⟨rfl, rfl⟩, hN⟩)
end
end
section
/-! public methods of the class: versions, writing, erasing, showing -/
theorem strp_strp (T : Term) (hT : isT T) : strp (strp T) = strp T := by
  refine tr_ind (P := fun T => strp (strp T) = strp T) ?_ ?_ ?_ ?_ T hT
  · exact fun q => rfl
  · exact fun q d => rfl
  · exact fun q p v => rfl
  · exact fun q B S x y _ _ i1 i2 => by simp only [strp, i1, i2]
theorem wrt_strp (T : Term) (hT : isT T) (P : Nat) (L : Term) (hL : isT L) : strp (wrtT T P L) = strp (wrtT (strp T) P (strp L)) := by
  have hLL := strp_strp L hL
  refine tr_ind (P := fun T => strp (wrtT T P L) = strp (wrtT (strp T) P (strp L))) ?_ ?_ ?_ ?_ T hT
  · exact fun q => hLL.symm
  · exact fun q d => hLL.symm
  · intro q p v
    simp only [strp, wrtT]
    split
    · exact hLL.symm
    · exact fkT_strp rfl hLL.symm
  · intro q B S x y h1 h2 i1 i2
    simp only [strp, wrtT]
    split
    · split
      · simp only [strp, i2, strp_strp x h1]
      · simp only [strp, i1, strp_strp y h2]
    · exact fkT_strp (by simp only [strp, strp_strp x h1, strp_strp y h2]) hLL.symm
theorem isF_strp (T : Term) (hT : isT T) : isF (strp T) = isF T := by
  refine tr_ind (P := fun T => isF (strp T) = isF T) ?_ ?_ ?_ ?_ T hT
  · exact fun q => rfl
  · exact fun q d => rfl
  · exact fun q p v => rfl
  · exact fun q B S x y _ _ _ _ => rfl
theorem del_strp (T : Term) (hT : isT T) (P : Nat) : strp (delT T P) = strp (delT (strp T) P) := by
  refine tr_ind (P := fun T => strp (delT T P) = strp (delT (strp T) P)) ?_ ?_ ?_ ?_ T hT
  · exact fun q => rfl
  · exact fun q d => rfl
  · exact fun q p v => rfl
  · intro q B S x y h1 h2 i1 i2
    simp only [strp, delT, isF_strp x h1, isF_strp y h2]
    split
    · split
      · simp only [strp, i2, strp_strp x h1]
      · exact (strp_strp x h1).symm
    · split
      · simp only [strp, i1, strp_strp y h2]
      · exact (strp_strp y h2).symm
theorem lf_strp (T : Term) (hT : isT T) (P : Nat) : lfT (strp T) P = lfT T P := by
  refine tr_ind (P := fun T => lfT (strp T) P = lfT T P) ?_ ?_ ?_ ?_ T hT
  · exact fun q => rfl
  · exact fun q d => rfl
  · exact fun q p v => rfl
  · exact fun q B S x y _ _ _ _ => rfl
theorem way_fit (T : Term) (hT : isT T) (P : Nat) : ∀ k, k ≤ 16 → fitT T k → fitT (wayT T P) 16 := by
  refine tr_ind (P := fun T => ∀ k, k ≤ 16 → fitT T k → fitT (wayT T P) 16) ?_ ?_ ?_ ?_ T hT
  · exact fun q k _ h => h
  · exact fun q d k _ h => h
  · exact fun q p v k _ h => h
  · intro q B S x y _ _ i1 i2 k hk h
    obtain ⟨⟨hB, hkB, hS, hstm⟩, hfx, hfy⟩ := fitF h
    simp only [wayT]
    split
    · split
      · exact i2 _ (by omega) hfy
      · exact i1 _ (by omega) hfx
    · exact ⟨⟨hB, by omega, hS, hstm⟩, hfx, hfy⟩
/-- the whole node of a version, or of the tree (-1) -/
def whl (T : Term) (Vs : List Term) (x : Int32) : Option Term := if x = -1 then some T else if 0 ≤ x ∧ x < nI Vs.length then Vs[x.toNatClampNeg]? else none
def kfR (kf : Nat → Option Nat) (Vs : List Term) : Prop := Vs.length ≤ 8 ∧ ∀ (j : Nat) (V : Term), Vs[j]? = some V → kf j = some (adr V)
section
variable {p : Program} {l : Launch} {e : Env} {R : Room} {s : State} {m : MethodId} {args : Array Value} {below : List Frame} {meth : Method} {c : Code} {cells slots : Nat} {Q : State → Prop} {cc : ByteArray} {nL n : Nat} {own : String} {D : va_G} {ca : Nat → ClassId} {ad : Nat → Nat} {A : Nat → Prop} {N : Heap → Prop}
theorem aal (C : Cx p s m args c cc nL own D ca ad A N n) {t k q pc : Nat} {i : Int32} {f : Nat → Option Nat} {lv : List (Nat × Value)} {st : List Value} {ws : List va_E} (ht : nth ws t = some (.inl (2, k, .inr (.inr (.inr (.inr f)))))) (hin : vp_in i k) (hv : f i.toNatClampNeg = some q) (hdg : decode cc pc = .ok (.aaload, 1))
    (kk : Wa p l e R s m args below meth c cells slots Q D ca ad A nL N (lv, .ref (q + 100) :: st, ws) (pc + 1)) : Wa p l e R s m args below meth c cells slots Q D ca ad A nL N (lv, .int i :: .ref t :: st, ws) pc := by
  intro H locs ls h1 h2 h3 h4
  rw [nth_eq] at ht
  have k2 := kk H locs ls h1 h2 h3 h4
  refine va_aldq (D := D) (cA := ca 2) (n := k) (f := f) C.1.1 C.1.2.1 C.2.1.1 h2 t 2 (by rw [cw_at, ht]; simp [ce]) rfl hin hdg ?_
  rw [hv, show va_rf (some q) = cv ad (.ref (q + 100)) from (cv_raw C q).symm]
  exact k2
theorem aas (C : Cx p s m args c cc nL own D ca ad A N n) {T : Term} {t k pc : Nat} {i : Int32} {f : Nat → Option Nat} {lv : List (Nat × Value)} {st : List Value} {ws ws2 : List va_E} (hn : ws.length = n) (hx : ∀ H, N H → nodeAt D H T) (ht : nth ws t = some (.inl (2, k, .inr (.inr (.inr (.inr f)))))) (hs2 : setl ws t (.inl (2, k, .inr (.inr (.inr (.inr (va_up f i.toNatClampNeg (some (adr T)))))))) = some ws2) (hin : vp_in i k) (hdg : decode cc pc = .ok (.aastore, 1))
    (kk : Wa p l e R s m args below meth c cells slots Q D ca ad A nL N (lv, st, ws2) (pc + 1)) : Wa p l e R s m args below meth c cells slots Q D ca ad A nL N (lv, .ref (adr T + 100) :: .int i :: .ref t :: st, ws) pc := by
  intro H locs ls h1 h2 h3 h4
  rw [nth_eq] at ht
  obtain ⟨w1, w2⟩ := setl_eq _ _ _ _ hs2
  have hDD : va_D A (cw ad ca 0 ws) := cw_D hn C.2.2.2.1 C.2.2.2.2.1
  have hat : (cw ad ca 0 ws)[t]? = some (ad t, .inl (ca 2, k, .inr (.inr (.inr (.inr f))))) := by rw [cw_at, ht]; simp [ce]
  show W p l e R s m args below meth c H locs cells slots Q (F0 m pc ls (cv ad (.ref (adr T + 100)) :: .int i :: .ref (ad t) :: st.map (cv ad)))
  rw [cv_raw C]
  have hlt : i.toNatClampNeg < k := Nat.not_le.mp fun q => hin (Or.inr q)
  have h0 : ¬ i < 0 := fun q => hin (Or.inl q)
  have hany : va_Any "PathProofs$Node" s H (adr T) := by
    have key : ∀ (ci : Nat) (r : vw_C) (fs : List Value), vwCl[ci]? = some r → (r.1, "PathProofs$Node") ∈ castL → va_at D vwCl (adr T, .inr (ci, fs)) H → va_Any "PathProofs$Node" s H (adr T) := by
      intro ci r fs g1 g2 g3
      obtain ⟨r2, b1, cell, b2, b3, b4, -⟩ := g3
      have hfc : s.vm.findClass r.1 = some cell.cls := by rw [b3]; exact (C.2.1.1.1 ci r g1).2.1
      obtain ⟨kC, hkC, -⟩ := Vm.findClass_spec hfc
      exact ⟨cell, b2, by rw [b4]; rfl, ⟨kC, hkC⟩, fun comp hc => vb_asgC (C.2.1.2.2.1 (r.1, "PathProofs$Node") g2) comp _ hc hfc⟩
    have hT := nodeAt.T T (hx H h4)
    have hh := hx H h4
    revert hh key
    refine tr_ind (P := fun T => (∀ (ci : Nat) (r : vw_C) (fs : List Value), vwCl[ci]? = some r → (r.1, "PathProofs$Node") ∈ castL → va_at D vwCl (adr T, .inr (ci, fs)) H → va_Any "PathProofs$Node" s H (adr T)) → nodeAt D H T → va_Any "PathProofs$Node" s H (adr T)) ?_ ?_ ?_ ?_ T hT
    · exact fun q key h => key 0 _ _ rfl (by decide) h
    · exact fun q d key h => key 2 _ _ rfl (by decide) h
    · exact fun q p v key h => key 3 _ _ rfl (by decide) h
    · exact fun q B S x y _ _ _ _ key h => key 1 _ _ rfl (by decide) h.1
  obtain ⟨cellV, g1, g3, ⟨kC, hkC⟩, hasg⟩ := hany
  obtain ⟨kA, comp, k1, k2, k3, -⟩ := (C.2.1.1.2 2 _ rfl).2
  obtain ⟨kE, hkE, -⟩ := Vm.findClass_spec k3
  refine W.aast C.1.1 C.1.2.1 (h2 t _ hat) (fun q h => by cases h) (fun h => by cases h) k1 k2 rfl hkE ⟨h0, by show _ < (arrV _ _ _).slots.size; rw [arrV_size]; exact hlt⟩ g1 (fun q h => by rw [h] at g3; cases g3) hkC (hasg _ k3) rfl rfl hdg fun H1 e1 z oq => ?_
  refine kk H1 _ ls h1 ?_ (h3.put z oq (C.2.2.2.2.1 t (by rw [← hn]; exact w2))) (C.2.2.1 H H1 t (.inl (2, k, .inr (.inr (.inr (.inr f))))) rfl (h2 t _ hat) z oq h4)
  show va_P D vwCl (cw ad ca 0 ws2) H1
  rw [w1, cw_set, Nat.zero_add]
  refine h2.set hDD hat ?_ oq
  show H1[ad t]? = some (vp_cell _ _)
  rw [e1]
  rw [vp_cell_q, vp_cell_q, arrV_store]
  congr 2
  funext q
  by_cases hq : q = i.toNatClampNeg
  · subst hq
    simp [updV, va_up, va_rf]
  · simp [updV, va_up, hq]
end
section
variable {l : Launch} {D : va_G} {ca : Nat → ClassId} {ad : Nat → Nat} {N : Heap → Prop} {qt nv : Nat} {kf : Nat → Option Nat} {fv : Value} {fp : Int32} {fd : Int64} {ra rb : Nat → Int32} {wn : Nat} {to : Nat → Int32} {tl : Nat} {so : Nat → Int32} {sl : Nat}
set_option maxRecDepth 100000 in
set_option maxHeartbeats 4000000 in
theorem kX8_wholeOf (hAD : AD ad 9) (hN : NS D N) {T : Term} {Vs : List Term} (hfT : fitT T 16) (hT : ∀ H, N H → nodeAt D H T) (hkf : kfR kf Vs) (x : Int32) : Ct l yX8_wholeOf cX8_wholeOf 2 (some (.object "PathProofs$Node")) (rK 0 0 0) D ca ad (xW (adr T) Vs.length kf fv fp fd ra rb wn to tl so sl) 9 [.ref 0, .int x] N (pG (xW (adr T) Vs.length kf fv fp fd ra rb wn to tl so sl) N (some (vF (whl T Vs x)))) := by
  refine enter (lv := [(0, .ref 0), (1, .int x)]) (by decide +kernel) (Nat.le_of_ble_eq_true rfl) rfl hAD (fun U hK => ns_write hK hN) ?_
  intro p e s m below meth c A args hA C hr hlk hnm
  refine sg0 C foX8 coX8 oX8_wholeOf_0 rfl rfl rfl ?_
  refine b2_ne (tgt := 10) C jX8_wholeOf_2 (by decide) (fun h2 => ?_) (fun h2 => ?_)
  · refine sg0 C foX8 coX8 oX8_wholeOf_10 rfl rfl rfl ?_
    refine b1_lt (tgt := 31) C jX8_wholeOf_11 (by decide) (fun h11 => ?_) (fun h11 => ?_)
    · rw [show whl T Vs x = none by unfold whl; rw [if_neg h2, if_neg (fun q => absurd h11 (Int32.not_lt.mpr q.1))]]
      refine sg0 C foX8 coX8 oX8_wholeOf_31 rfl rfl rfl ?_
      exact rt_n C hr (Or.inl ⟨_, rfl⟩) hlk jX8_wholeOf_32 (fun H hN => ⟨⟨rfl, rfl⟩, hN⟩)
    · refine sg0 C foX8 coX8 oX8_wholeOf_14 rfl rfl rfl ?_
      refine b2_ge (tgt := 31) C jX8_wholeOf_19 (by decide) (fun h19 => ?_) (fun h19 => ?_)
      · rw [show whl T Vs x = none by unfold whl; rw [if_neg h2, if_neg (fun q => absurd h19 (Int32.not_le.mpr q.2))]]
        refine sg0 C foX8 coX8 oX8_wholeOf_31 rfl rfl rfl ?_
        exact rt_n C hr (Or.inl ⟨_, rfl⟩) hlk jX8_wholeOf_32 (fun H hN => ⟨⟨rfl, rfl⟩, hN⟩)
      · obtain ⟨j, hj, rfl⟩ := nI_of h11
        have hq : j < Vs.length := (nI_ltI hj (by have := hkf.1; omega)).mp (Int32.not_le.mp h19)
        have hcl : (nI j).toNatClampNeg = j := nI_clamp hj
        have hge : Vs[j]? = some Vs[j] := List.getElem?_eq_getElem hq
        rw [show whl T Vs (nI j) = some Vs[j] by unfold whl; rw [if_neg h2, if_pos ⟨Int32.not_lt.mp h11, Int32.not_le.mp h19⟩, hcl, hge]]
        refine sg0 C foX8 coX8 oX8_wholeOf_22 rfl rfl rfl ?_
        refine aal (k := 8) (f := kf) C rfl (vp_in_nI (by have := hkf.1; omega) (by decide)) (by rw [hcl]; exact hkf.2 j _ hge) jX8_wholeOf_27 ?_
        refine sg0 C foX8 coX8 oX8_wholeOf_28 rfl rfl rfl ?_
        exact rt_a C hr (Or.inl ⟨_, rfl⟩) hlk jX8_wholeOf_32 (fun H hN => ⟨⟨rfl, rfl⟩, hN⟩)
  · rw [show whl T Vs x = some T by unfold whl; rw [if_pos h2]]
    refine sg0 C foX8 coX8 oX8_wholeOf_5 rfl rfl rfl ?_
    exact rt_a C hr (Or.inl ⟨_, rfl⟩) hlk jX8_wholeOf_9 (fun H hN => ⟨⟨rfl, rfl⟩, hN⟩)
theorem whl_ok {T : Term} {Vs : List Term} {x : Int32} {Z : Term → Prop} (h1 : Z T) (h2 : ∀ V ∈ Vs, Z V) {V : Term} (h : whl T Vs x = some V) : Z V := by
  unfold whl at h
  split at h
  · cases h; exact h1
  · split at h
    · exact h2 V (List.mem_of_getElem? h)
    · cases h
set_option maxRecDepth 100000 in
set_option maxHeartbeats 4000000 in
theorem kX8_root (hAD : AD ad 9) (hN : NS D N) {T : Term} {Vs : List Term} (hfT : fitT T 16) (hT : ∀ H, N H → nodeAt D H T) (hkf : kfR kf Vs) (hVs : ∀ V ∈ Vs, fitT V 16 ∧ ∀ H, N H → nodeAt D H V)  (x : Int32) : Ct l yX8_root cX8_root 3 (some .long) (rK 1 0 0) D ca ad (xW (adr T) Vs.length kf fv fp fd ra rb wn to tl so sl) 9 [.ref 0, .int x] N (pG (xW (adr T) Vs.length kf fv fp fd ra rb wn to tl so sl) N (some (.long (match whl T Vs x with | none => 0 | some V => dig V)))) := by
  have hV : ∀ V, whl T Vs x = some V → fitT V 16 ∧ ∀ H, N H → nodeAt D H V := fun V hw => whl_ok (Z := fun V => fitT V 16 ∧ ∀ H, N H → nodeAt D H V) ⟨hfT, hT⟩ hVs hw
  cases hw : whl T Vs x with
  | none =>
    refine enter (lv := [(0, .ref 0), (1, .int x)]) (by decide +kernel) (Nat.le_of_ble_eq_true rfl) rfl hAD (fun U hK => ns_write hK hN) ?_
    intro p e s m below meth c A args hA C hr hlk hnm
    refine sg0 C foX8 coX8 oX8_root_0 rfl rfl rfl ?_
    refine cl_v C (kX8_wholeOf hAD hN hfT hT hkf x) (rcv (ci := 7) C.2.1 rfl rfl) cd_X8_wholeOf in_X8 ml_X8_83 im_X8_wholeOf se_X8_wholeOf hd_X8_wholeOf rfl rfl ⟨(Nat.le_of_ble_eq_true rfl), (Nat.le_of_ble_eq_true rfl)⟩ ⟨(Nat.le_of_ble_eq_true rfl), (Nat.le_of_ble_eq_true rfl)⟩ (Nat.le_of_ble_eq_true rfl) jX8_root_2 (fun v ws' => Wa.and (fun hv => ?_))
    obtain ⟨rfl, rfl⟩ := hv
    rw [hw]
    refine sg0 C foX8 coX8 oX8_root_5 rfl rfl rfl ?_
    refine bnn_n C jX8_root_7 ?_
    refine sg0 C foX8 coX8 oX8_root_10 rfl rfl rfl ?_
    exact rt_l C hr hlk jX8_root_18 (fun H hH => ⟨⟨by simp only [hw], rfl⟩, hH⟩)
  | some V =>
    obtain ⟨hfit, hx⟩ := hV V hw
    refine enter (lv := [(0, .ref 0), (1, .int x)]) (by decide +kernel) (Nat.le_of_ble_eq_true rfl) rfl hAD (fun U hK => ns_write hK hN) ?_
    intro p e s m below meth c A args hA C hr hlk hnm
    refine sg0 C foX8 coX8 oX8_root_0 rfl rfl rfl ?_
    refine cl_v C (kX8_wholeOf hAD hN hfT hT hkf x) (rcv (ci := 7) C.2.1 rfl rfl) cd_X8_wholeOf in_X8 ml_X8_83 im_X8_wholeOf se_X8_wholeOf hd_X8_wholeOf rfl rfl ⟨(Nat.le_of_ble_eq_true rfl), (Nat.le_of_ble_eq_true rfl)⟩ ⟨(Nat.le_of_ble_eq_true rfl), (Nat.le_of_ble_eq_true rfl)⟩ (Nat.le_of_ble_eq_true rfl) jX8_root_2 (fun v ws' => Wa.and (fun hv => ?_))
    obtain ⟨rfl, rfl⟩ := hv
    rw [hw]
    refine sg0 C foX8 coX8 oX8_root_5 rfl rfl rfl ?_
    refine bnn_r (tgt := 14) C jX8_root_7 (by decide) ?_
    refine sg0 C foX8 coX8 oX8_root_14 rfl rfl rfl ?_
    refine ng_dig C hx fl_X8_87 jX8_root_15 ?_
    exact rt_l C hr hlk jX8_root_18 (fun H hH => ⟨⟨by simp only [hw], rfl⟩, hH⟩)
set_option maxRecDepth 100000 in
set_option maxHeartbeats 4000000 in
theorem kX8_leaves (hAD : AD ad 9) (hN : NS D N) {T : Term} {Vs : List Term} (hfT : fitT T 16) (hT : ∀ H, N H → nodeAt D H T) (hkf : kfR kf Vs) (hVs : ∀ V ∈ Vs, fitT V 16 ∧ ∀ H, N H → nodeAt D H V)  (x : Int32) : Ct l yX8_leaves cX8_leaves 3 (some .int) (rK 18 0 0) D ca ad (xW (adr T) Vs.length kf fv fp fd ra rb wn to tl so sl) 9 [.ref 0, .int x] N (pG (xW (adr T) Vs.length kf fv fp fd ra rb wn to tl so sl) N (some (.int (match whl T Vs x with | none => -1 | some V => nI (cntT V 0 65535))))) := by
  have hV : ∀ V, whl T Vs x = some V → fitT V 16 ∧ ∀ H, N H → nodeAt D H V := fun V hw => whl_ok (Z := fun V => fitT V 16 ∧ ∀ H, N H → nodeAt D H V) ⟨hfT, hT⟩ hVs hw
  cases hw : whl T Vs x with
  | none =>
    refine enter (lv := [(0, .ref 0), (1, .int x)]) (by decide +kernel) (Nat.le_of_ble_eq_true rfl) rfl hAD (fun U hK => ns_write hK hN) ?_
    intro p e s m below meth c A args hA C hr hlk hnm
    refine sg0 C foX8 coX8 oX8_leaves_0 rfl rfl rfl ?_
    refine cl_v C (kX8_wholeOf hAD hN hfT hT hkf x) (rcv (ci := 7) C.2.1 rfl rfl) cd_X8_wholeOf in_X8 ml_X8_83 im_X8_wholeOf se_X8_wholeOf hd_X8_wholeOf rfl rfl ⟨(Nat.le_of_ble_eq_true rfl), (Nat.le_of_ble_eq_true rfl)⟩ ⟨(Nat.le_of_ble_eq_true rfl), (Nat.le_of_ble_eq_true rfl)⟩ (Nat.le_of_ble_eq_true rfl) jX8_leaves_2 (fun v ws' => Wa.and (fun hv => ?_))
    obtain ⟨rfl, rfl⟩ := hv
    rw [hw]
    refine sg0 C foX8 coX8 oX8_leaves_5 rfl rfl rfl ?_
    refine bnn_n C jX8_leaves_7 ?_
    refine sg0 C foX8 coX8 oX8_leaves_10 rfl rfl rfl ?_
    exact rt_i C hr hlk jX8_leaves_22 (fun H hH => ⟨⟨by simp only [hw], rfl⟩, hH⟩)
  | some V =>
    obtain ⟨hfit, hx⟩ := hV V hw
    refine enter (lv := [(0, .ref 0), (1, .int x)]) (by decide +kernel) (Nat.le_of_ble_eq_true rfl) rfl hAD (fun U hK => ns_write hK hN) ?_
    intro p e s m below meth c A args hA C hr hlk hnm
    refine sg0 C foX8 coX8 oX8_leaves_0 rfl rfl rfl ?_
    refine cl_v C (kX8_wholeOf hAD hN hfT hT hkf x) (rcv (ci := 7) C.2.1 rfl rfl) cd_X8_wholeOf in_X8 ml_X8_83 im_X8_wholeOf se_X8_wholeOf hd_X8_wholeOf rfl rfl ⟨(Nat.le_of_ble_eq_true rfl), (Nat.le_of_ble_eq_true rfl)⟩ ⟨(Nat.le_of_ble_eq_true rfl), (Nat.le_of_ble_eq_true rfl)⟩ (Nat.le_of_ble_eq_true rfl) jX8_leaves_2 (fun v ws' => Wa.and (fun hv => ?_))
    obtain ⟨rfl, rfl⟩ := hv
    rw [hw]
    refine sg0 C foX8 coX8 oX8_leaves_5 rfl rfl rfl ?_
    refine bnn_r (tgt := 14) C jX8_leaves_7 (by decide) ?_
    refine sg0 C foX8 coX8 oX8_leaves_14 rfl rfl rfl ?_
    refine cl_s C (kX8_leavesWithin hAD rfl (by decide) (by decide) V (fit_T V _ hfit) 16 0 N hfit (by decide) hN hx) cd_X8_leavesWithin in_X8 ml_X8_75 sm_X8_leavesWithin hd_X8_leavesWithin rfl rfl ⟨(Nat.le_of_ble_eq_true rfl), (Nat.le_of_ble_eq_true rfl)⟩ ⟨(Nat.le_of_ble_eq_true rfl), (Nat.le_of_ble_eq_true rfl)⟩ (Nat.le_of_ble_eq_true rfl) jX8_leaves_19 (fun v ws' => Wa.and (fun hv => ?_))
    obtain ⟨rfl, rfl⟩ := hv
    exact rt_i C hr hlk jX8_leaves_22 (fun H hH => ⟨⟨by simp only [hw], rfl⟩, hH⟩)
set_option maxRecDepth 100000 in
set_option maxHeartbeats 4000000 in
theorem kX8_keep (hAD : AD ad 9) (hN : NS D N) {T : Term} {Vs : List Term} (hfT : fitT T 16) (hT : ∀ H, N H → nodeAt D H T) (hkf : kfR kf Vs) : Ct l yX8_keep cX8_keep 1 (some .int) (rK 0 0 0) D ca ad (xW (adr T) Vs.length kf fv fp fd ra rb wn to tl so sl) 9 [.ref 0] N (fun r ws2 H => ((8 ≤ Vs.length ∧ r = some (.int (-3)) ∧ ws2 = (xW (adr T) Vs.length kf fv fp fd ra rb wn to tl so sl)) ∨ (Vs.length < 8 ∧ r = some (.int (nI Vs.length)) ∧ ws2 = (xW (adr T) (Vs.length + 1) (va_up kf Vs.length (some (adr T))) fv fp fd ra rb wn to tl so sl))) ∧ N H) := by
  refine enter (lv := [(0, .ref 0)]) (by decide +kernel) (Nat.le_of_ble_eq_true rfl) rfl hAD (fun U hK => ns_write hK hN) ?_
  intro p e s m below meth c A args hA C hr hlk hnm
  refine sg0 C foX8 coX8 oX8_keep_0 rfl rfl rfl ?_
  refine b2_lt (tgt := 12) C jX8_keep_6 (by decide) (fun h6 => ?_) (fun h6 => ?_)
  · have hq : Vs.length < 8 := Nat.not_le.mp fun q => absurd h6 (by rw [show (8 : Int32) = nI 8 from rfl]; exact nI_nlt q (by have := hkf.1; omega))
    have hcl : (nI Vs.length).toNatClampNeg = Vs.length := nI_clamp (by omega)
    refine sg0 C foX8 coX8 oX8_keep_12 rfl rfl rfl ?_
    refine aas (k := 8) (f := kf) C rfl hT rfl rfl (vp_in_nI hq (by decide)) jX8_keep_24 ?_
    rw [hcl]
    refine sg0 C foX8 coX8 oX8_keep_25 rfl rfl rfl ?_
    rw [nI_1, show (1 : Int32) = nI 1 from rfl, pk_sub (Nat.le_add_left 1 _), Nat.add_sub_cancel]
    exact rt_i C hr hlk jX8_keep_41 (fun H hH => ⟨Or.inr ⟨hq, rfl, rfl⟩, hH⟩)
  · have hq : 8 ≤ Vs.length := Nat.not_lt.mp fun q => h6 (by rw [show (8 : Int32) = nI 8 from rfl]; exact nI_lt q (by decide))
    refine sg0 C foX8 coX8 oX8_keep_9 rfl rfl rfl ?_
    exact rt_i C hr hlk jX8_keep_11 (fun H hH => ⟨Or.inl ⟨hq, rfl, rfl⟩, hH⟩)
end
end
section
/-! public methods of the class: show, pass, told, get, put, remove, write, erase -/
/-- the object's cells when the two tapes have changed places -/
def xS (qt nv : Nat) (kf : Nat → Option Nat) (fv : Value) (fp : Int32) (fd : Int64) (ra rb : Nat → Int32) (wn : Nat) (to : Nat → Int32) (tl : Nat) (so : Nat → Int32) (sl : Nat) : List va_E := [.inr (7, [.ref 1, .ref 2, .ref (qt + 100), .int (nI nv), .ref 7, .ref 5, fv, .int fp, .long fd]), .inl (2, 8, .inr (.inr (.inr (.inr kf)))), .inr (4, [.ref 3, .ref 4, .int (nI wn)]), .inl (0, 20, .inl ra), .inl (0, 20, .inl rb), .inr (6, [.ref 6, .int (nI tl)]), .inl (0, 4000, .inl to), .inr (6, [.ref 8, .int (nI sl)]), .inl (0, 4000, .inl so)]
theorem shp (T : Term) (hT : isT T) : (∃ q, T = tE q) ∨ (∃ q d0, T = tH q d0) ∨ (∃ q P v0, T = tL q P v0) ∨ ∃ q B S x y, T = tF q B S x y := by
  refine tr_ind (P := fun T => (∃ q, T = tE q) ∨ (∃ q d0, T = tH q d0) ∨ (∃ q P v0, T = tL q P v0) ∨ ∃ q B S x y, T = tF q B S x y) ?_ ?_ ?_ ?_ T hT
  · exact fun q => Or.inl ⟨q, rfl⟩
  · exact fun q d => Or.inr (Or.inl ⟨q, d, rfl⟩)
  · exact fun q p v => Or.inr (Or.inr (Or.inl ⟨q, p, v, rfl⟩))
  · exact fun q B S x y _ _ _ _ => Or.inr (Or.inr (Or.inr ⟨q, B, S, x, y, rfl⟩))
section
variable {p : Program} {l : Launch} {e : Env} {R : Room} {s : State} {m : MethodId} {args : Array Value} {below : List Frame} {meth : Method} {c : Code} {cells slots : Nat} {Q : State → Prop} {cc : ByteArray} {nL n : Nat} {own : String} {D : va_G} {ca : Nat → ClassId} {ad : Nat → Nat} {A : Nat → Prop} {N : Heap → Prop}
theorem tbI (C : Cx p s m args c cc nL own D ca ad A N n) {dflt lo hi : Int} {offs : Array Int} {len pc tgt : Nat} {x : Int32} {off : Int} {lv : List (Nat × Value)} {st : List Value} {ws : List va_E} (hdg : decode cc pc = .ok (.tableswitch dflt lo hi offs, len)) (h1 : ¬ x.toInt < lo) (h2 : ¬ hi < x.toInt) (ho : offs[(x.toInt - lo).toNat]? = some off) (ht : (pc : Int) + off = (tgt : Int)) (kk : Wa p l e R s m args below meth c cells slots Q D ca ad A nL N (lv, st, ws) tgt) : Wa p l e R s m args below meth c cells slots Q D ca ad A nL N (lv, .int x :: st, ws) pc := fun H locs ls a1 a2 a3 a4 => lv_tableIn C.1.1 C.1.2.1 hdg h1 h2 ho ht (kk H locs ls a1 a2 a3 a4)
theorem tbO (C : Cx p s m args c cc nL own D ca ad A N n) {dflt lo hi : Int} {offs : Array Int} {len pc tgt : Nat} {x : Int32} {lv : List (Nat × Value)} {st : List Value} {ws : List va_E} (hdg : decode cc pc = .ok (.tableswitch dflt lo hi offs, len)) (h : x.toInt < lo ∨ hi < x.toInt) (ht : (pc : Int) + dflt = (tgt : Int)) (kk : Wa p l e R s m args below meth c cells slots Q D ca ad A nL N (lv, st, ws) tgt) : Wa p l e R s m args below meth c cells slots Q D ca ad A nL N (lv, .int x :: st, ws) pc := fun H locs ls a1 a2 a3 a4 => lv_tableOut C.1.1 C.1.2.1 hdg h ht (kk H locs ls a1 a2 a3 a4)
end
section
variable {l : Launch} {D : va_G} {ca : Nat → ClassId} {ad : Nat → Nat} {N : Heap → Prop} {qt nv : Nat} {kf : Nat → Option Nat} {fv : Value} {fp : Int32} {fd : Int64} {ra rb : Nat → Int32} {wn : Nat} {to : Nat → Int32} {tl : Nat} {so : Nat → Int32} {sl : Nat}
set_option maxRecDepth 100000 in
set_option maxHeartbeats 4000000 in
theorem kX8_show (hAD : AD ad 9) (hN : NS D N) {T : Term} {Vs : List Term} (hfT : fitT T 16) (hT : ∀ H, N H → nodeAt D H T) (hkf : kfR kf Vs) (hVs : ∀ V ∈ Vs, fitT V 16 ∧ ∀ H, N H → nodeAt D H V) {Rg : List (Nat × Nat)} (hRg : rgR ra rb Rg) (x : Int32) : Ct l yX8_show cX8_show 3 (some .int) (rK 19 0 0) D ca ad (xW (adr T) Vs.length kf fv fp fd ra rb Rg.length to tl so sl) 9 [.ref 0, .int x] N (fun r ws2 H => ((whl T Vs x = none ∧ r = some (.int (-1)) ∧ ws2 = (xW (adr T) Vs.length kf fv fp fd ra rb Rg.length to tl so sl)) ∨ ∃ V, whl T Vs x = some V ∧ ∃ so2 : Nat → Int32, tpR so2 (shwT Rg V 0 65535) ∧ ((4000 < (shwT Rg V 0 65535).length ∧ r = some (.int (-3)) ∧ ws2 = (xW (adr T) Vs.length kf fv fp fd ra rb Rg.length to tl so2 (shwT Rg V 0 65535).length)) ∨ ((shwT Rg V 0 65535).length ≤ 4000 ∧ r = some (.int (nI (shwT Rg V 0 65535).length)) ∧ ws2 = (xS (adr T) Vs.length kf fv fp fd ra rb Rg.length to tl so2 (shwT Rg V 0 65535).length)))) ∧ N H) := by
  have hV : ∀ V, whl T Vs x = some V → fitT V 16 ∧ ∀ H, N H → nodeAt D H V := fun V hw => whl_ok (Z := fun V => fitT V 16 ∧ ∀ H, N H → nodeAt D H V) ⟨hfT, hT⟩ hVs hw
  cases hw : whl T Vs x with
  | none =>
    refine enter (lv := [(0, .ref 0), (1, .int x)]) (by decide +kernel) (Nat.le_of_ble_eq_true rfl) rfl hAD (fun U hK => ns_write hK hN) ?_
    intro p e s m below meth c A args hA C hr hlk hnm
    refine sg0 C foX8 coX8 oX8_show_0 rfl rfl rfl ?_
    refine cl_v C (kX8_wholeOf hAD hN hfT hT hkf x) (rcv (ci := 7) C.2.1 rfl rfl) cd_X8_wholeOf in_X8 ml_X8_83 im_X8_wholeOf se_X8_wholeOf hd_X8_wholeOf rfl rfl ⟨(Nat.le_of_ble_eq_true rfl), (Nat.le_of_ble_eq_true rfl)⟩ ⟨(Nat.le_of_ble_eq_true rfl), (Nat.le_of_ble_eq_true rfl)⟩ (Nat.le_of_ble_eq_true rfl) jX8_show_2 (fun v ws' => Wa.and (fun hv => ?_))
    obtain ⟨rfl, rfl⟩ := hv
    rw [hw]
    refine sg0 C foX8 coX8 oX8_show_5 rfl rfl rfl ?_
    refine bnn_n C jX8_show_7 ?_
    refine sg0 C foX8 coX8 oX8_show_10 rfl rfl rfl ?_
    exact rt_i C hr hlk jX8_show_19 (fun H hH => ⟨Or.inl ⟨rfl, rfl, rfl⟩, hH⟩)
  | some V =>
    obtain ⟨hfit, hx⟩ := hV V hw
    refine enter (lv := [(0, .ref 0), (1, .int x)]) (by decide +kernel) (Nat.le_of_ble_eq_true rfl) rfl hAD (fun U hK => ns_write hK hN) ?_
    intro p e s m below meth c A args hA C hr hlk hnm
    refine sg0 C foX8 coX8 oX8_show_0 rfl rfl rfl ?_
    refine cl_v C (kX8_wholeOf hAD hN hfT hT hkf x) (rcv (ci := 7) C.2.1 rfl rfl) cd_X8_wholeOf in_X8 ml_X8_83 im_X8_wholeOf se_X8_wholeOf hd_X8_wholeOf rfl rfl ⟨(Nat.le_of_ble_eq_true rfl), (Nat.le_of_ble_eq_true rfl)⟩ ⟨(Nat.le_of_ble_eq_true rfl), (Nat.le_of_ble_eq_true rfl)⟩ (Nat.le_of_ble_eq_true rfl) jX8_show_2 (fun v ws' => Wa.and (fun hv => ?_))
    obtain ⟨rfl, rfl⟩ := hv
    rw [hw]
    refine sg0 C foX8 coX8 oX8_show_5 rfl rfl rfl ?_
    refine bnn_r (tgt := 14) C jX8_show_7 (by decide) ?_
    refine sg0 C foX8 coX8 oX8_show_14 rfl rfl rfl ?_
    refine cl_v C (kX8_tapeBecomes hAD hN (show 9 + ([] : List va_E).length = 9 from rfl) hRg hfit hx) (rcv (ci := 7) C.2.1 rfl rfl) cd_X8_tapeBecomes in_X8 ml_X8_100 im_X8_tapeBecomes se_X8_tapeBecomes hd_X8_tapeBecomes rfl rfl ⟨(Nat.le_of_ble_eq_true rfl), (Nat.le_of_ble_eq_true rfl)⟩ ⟨(Nat.le_of_ble_eq_true rfl), (Nat.le_of_ble_eq_true rfl)⟩ (Nat.le_of_ble_eq_true rfl) jX8_show_16 (fun v ws' => Wa.ex (fun s1 => Wa.and (fun hv => ?_)))
    obtain ⟨hs1, hv⟩ := hv
    rcases hv with ⟨hq, rfl, rfl⟩ | ⟨hq, rfl, rfl⟩
    · exact rt_i C hr hlk jX8_show_19 (fun H hH => ⟨Or.inr ⟨V, rfl, s1, hs1, Or.inl ⟨hq, rfl, rfl⟩⟩, hH⟩)
    · exact rt_i C hr hlk jX8_show_19 (fun H hH => ⟨Or.inr ⟨V, rfl, s1, hs1, Or.inr ⟨hq, rfl, rfl⟩⟩, hH⟩)
set_option maxRecDepth 100000 in
set_option maxHeartbeats 4000000 in
theorem kX8_pass (hAD : AD ad 9) (hN : NS D N) {vo : Option Term} (hvo : ∀ V, vo = some V → fitT V 16 ∧ ∀ H, N H → nodeAt D H V) {Rg : List (Nat × Nat)} (hRg : rgR ra rb Rg) : Ct l yX8_pass cX8_pass 1 (some .int) (rK 19 0 0) D ca ad (xW qt nv kf (vF vo) fp fd ra rb Rg.length to tl so sl) 9 [.ref 0] N (fun r ws2 H => ((vo = none ∧ r = some (.int (-2)) ∧ ws2 = (xW qt nv kf (vF vo) fp fd ra rb Rg.length to tl so sl)) ∨ ∃ V, vo = some V ∧ ∃ so2 : Nat → Int32, tpR so2 (shwT Rg V 0 65535) ∧ ((4000 < (shwT Rg V 0 65535).length ∧ r = some (.int (-3)) ∧ ws2 = (xW qt nv kf (vF vo) fp fd ra rb Rg.length to tl so2 (shwT Rg V 0 65535).length)) ∨ ((shwT Rg V 0 65535).length ≤ 4000 ∧ r = some (.int (nI (shwT Rg V 0 65535).length)) ∧ ws2 = (xS qt nv kf (vF vo) fp fd ra rb Rg.length to tl so2 (shwT Rg V 0 65535).length)))) ∧ N H) := by
  cases vo with
  | none =>
    refine enter (lv := [(0, .ref 0)]) (by decide +kernel) (Nat.le_of_ble_eq_true rfl) rfl hAD (fun U hK => ns_write hK hN) ?_
    intro p e s m below meth c A args hA C hr hlk hnm
    refine sg0 C foX8 coX8 oX8_pass_0 rfl rfl rfl ?_
    refine bnn_n C jX8_pass_4 ?_
    refine sg0 C foX8 coX8 oX8_pass_7 rfl rfl rfl ?_
    exact rt_i C hr hlk jX8_pass_20 (fun H hH => ⟨Or.inl ⟨rfl, rfl, rfl⟩, hH⟩)
  | some V =>
    obtain ⟨hfit, hx⟩ := hvo V rfl
    refine enter (lv := [(0, .ref 0)]) (by decide +kernel) (Nat.le_of_ble_eq_true rfl) rfl hAD (fun U hK => ns_write hK hN) ?_
    intro p e s m below meth c A args hA C hr hlk hnm
    refine sg0 C foX8 coX8 oX8_pass_0 rfl rfl rfl ?_
    refine bnn_r (tgt := 12) C jX8_pass_4 (by decide) ?_
    refine sg0 C foX8 coX8 oX8_pass_12 rfl rfl rfl ?_
    refine cl_v C (kX8_tapeBecomes hAD hN (show 9 + ([] : List va_E).length = 9 from rfl) hRg hfit hx) (rcv (ci := 7) C.2.1 rfl rfl) cd_X8_tapeBecomes in_X8 ml_X8_100 im_X8_tapeBecomes se_X8_tapeBecomes hd_X8_tapeBecomes rfl rfl ⟨(Nat.le_of_ble_eq_true rfl), (Nat.le_of_ble_eq_true rfl)⟩ ⟨(Nat.le_of_ble_eq_true rfl), (Nat.le_of_ble_eq_true rfl)⟩ (Nat.le_of_ble_eq_true rfl) jX8_pass_17 (fun v ws' => Wa.ex (fun s1 => Wa.and (fun hv => ?_)))
    obtain ⟨hs1, hv⟩ := hv
    rcases hv with ⟨hq, rfl, rfl⟩ | ⟨hq, rfl, rfl⟩
    · exact rt_i C hr hlk jX8_pass_20 (fun H hH => ⟨Or.inr ⟨V, rfl, s1, hs1, Or.inl ⟨hq, rfl, rfl⟩⟩, hH⟩)
    · exact rt_i C hr hlk jX8_pass_20 (fun H hH => ⟨Or.inr ⟨V, rfl, s1, hs1, Or.inr ⟨hq, rfl, rfl⟩⟩, hH⟩)
set_option maxRecDepth 100000 in
set_option maxHeartbeats 4000000 in
theorem kX8_told0 (hAD : AD ad 9) (hN : NS D N)  : Ct l yX8_told cX8_told 2 (some .int) (rK 0 0 0) D ca ad (xW qt nv kf fv fp fd ra rb wn to tl so sl) 9 [.ref 0, .int 0] N (pG (xW qt nv kf fv fp fd ra rb wn to tl so sl) N (some (.int (nI tl)))) := by
  refine enter (lv := [(0, .ref 0), (1, .int 0)]) (by decide +kernel) (Nat.le_of_ble_eq_true rfl) rfl hAD (fun U hK => ns_write hK hN) ?_
  intro p e s m below meth c A args hA C hr hlk hnm
  refine sg0 C foX8 coX8 oX8_told_0 rfl rfl rfl ?_
  refine tbI (off := 39) (tgt := 40) C jX8_told_1 (by decide) (by decide) (by decide) (by decide) ?_
  refine sg0 C foX8 coX8 oX8_told_40 rfl rfl rfl ?_
  exact rt_i C hr hlk jX8_told_47 (fun H hN => ⟨⟨rfl, rfl⟩, hN⟩)
set_option maxRecDepth 100000 in
set_option maxHeartbeats 4000000 in
theorem kX8_told1 (hAD : AD ad 9) (hN : NS D N)  : Ct l yX8_told cX8_told 2 (some .int) (rK 0 0 0) D ca ad (xW qt nv kf fv fp fd ra rb wn to tl so sl) 9 [.ref 0, .int 1] N (pG (xW qt nv kf fv fp fd ra rb wn to tl so sl) N (some (.int (nI wn)))) := by
  refine enter (lv := [(0, .ref 0), (1, .int 1)]) (by decide +kernel) (Nat.le_of_ble_eq_true rfl) rfl hAD (fun U hK => ns_write hK hN) ?_
  intro p e s m below meth c A args hA C hr hlk hnm
  refine sg0 C foX8 coX8 oX8_told_0 rfl rfl rfl ?_
  refine tbI (off := 47) (tgt := 48) C jX8_told_1 (by decide) (by decide) (by decide) (by decide) ?_
  refine sg0 C foX8 coX8 oX8_told_48 rfl rfl rfl ?_
  exact rt_i C hr hlk jX8_told_55 (fun H hN => ⟨⟨rfl, rfl⟩, hN⟩)
set_option maxRecDepth 100000 in
set_option maxHeartbeats 4000000 in
theorem kX8_told2 (hAD : AD ad 9) (hN : NS D N)  : Ct l yX8_told cX8_told 2 (some .int) (rK 0 0 0) D ca ad (xW qt nv kf fv fp fd ra rb wn to tl so sl) 9 [.ref 0, .int 2] N (pG (xW qt nv kf fv fp fd ra rb wn to tl so sl) N (some (.int (nI nv)))) := by
  refine enter (lv := [(0, .ref 0), (1, .int 2)]) (by decide +kernel) (Nat.le_of_ble_eq_true rfl) rfl hAD (fun U hK => ns_write hK hN) ?_
  intro p e s m below meth c A args hA C hr hlk hnm
  refine sg0 C foX8 coX8 oX8_told_0 rfl rfl rfl ?_
  refine tbI (off := 55) (tgt := 56) C jX8_told_1 (by decide) (by decide) (by decide) (by decide) ?_
  refine sg0 C foX8 coX8 oX8_told_56 rfl rfl rfl ?_
  exact rt_i C hr hlk jX8_told_60 (fun H hN => ⟨⟨rfl, rfl⟩, hN⟩)
set_option maxRecDepth 100000 in
set_option maxHeartbeats 4000000 in
theorem kX8_told_bad (hAD : AD ad 9) (hN : NS D N) (x : Int32) (hx : x.toInt < 0 ∨ 5 < x.toInt) : Ct l yX8_told cX8_told 2 (some .int) (rK 0 0 0) D ca ad (xW qt nv kf fv fp fd ra rb wn to tl so sl) 9 [.ref 0, .int x] N (pG (xW qt nv kf fv fp fd ra rb wn to tl so sl) N (some (.int (-1)))) := by
  refine enter (lv := [(0, .ref 0), (1, .int x)]) (by decide +kernel) (Nat.le_of_ble_eq_true rfl) rfl hAD (fun U hK => ns_write hK hN) ?_
  intro p e s m below meth c A args hA C hr hlk hnm
  refine sg0 C foX8 coX8 oX8_told_0 rfl rfl rfl ?_
  refine tbO (tgt := 94) C jX8_told_1 hx (by decide) ?_
  refine sg0 C foX8 coX8 oX8_told_94 rfl rfl rfl ?_
  exact rt_i C hr hlk jX8_told_95 (fun H hN => ⟨⟨rfl, rfl⟩, hN⟩)
set_option maxRecDepth 100000 in
set_option maxHeartbeats 4000000 in
theorem kX8_told5 (hAD : AD ad 9) (hN : NS D N) {T : Term} (hfT : fitT T 16) (hT : ∀ H, N H → nodeAt D H T) : Ct l yX8_told cX8_told 2 (some .int) (rK 18 0 0) D ca ad (xW (adr T) nv kf fv fp fd ra rb wn to tl so sl) 9 [.ref 0, .int 5] N (pG (xW (adr T) nv kf fv fp fd ra rb wn to tl so sl) N (some (.int (nI (frkT T))))) := by
  refine enter (lv := [(0, .ref 0), (1, .int 5)]) (by decide +kernel) (Nat.le_of_ble_eq_true rfl) rfl hAD (fun U hK => ns_write hK hN) ?_
  intro p e s m below meth c A args hA C hr hlk hnm
  refine sg0 C foX8 coX8 oX8_told_0 rfl rfl rfl ?_
  refine tbI (off := 84) (tgt := 85) C jX8_told_1 (by decide) (by decide) (by decide) (by decide) ?_
  refine sg0 C foX8 coX8 oX8_told_85 rfl rfl rfl ?_
  refine cl_s C (kX8_mostForks hAD rfl T (fit_T T _ hfT) 16 0 N hfT (by decide) hN hT) cd_X8_mostForks in_X8 ml_X8_149 sm_X8_mostForks hd_X8_mostForks rfl rfl ⟨(Nat.le_of_ble_eq_true rfl), (Nat.le_of_ble_eq_true rfl)⟩ ⟨(Nat.le_of_ble_eq_true rfl), (Nat.le_of_ble_eq_true rfl)⟩ (Nat.le_of_ble_eq_true rfl) jX8_told_90 (fun v ws' => Wa.and (fun hv => ?_))
  obtain ⟨rfl, rfl⟩ := hv
  exact rt_i C hr hlk jX8_told_93 (fun H hN => ⟨⟨rfl, rfl⟩, hN⟩)
end
section
variable {l : Launch} {D : va_G} {ca : Nat → ClassId} {ad : Nat → Nat} {ws : List va_E} {n : Nat} {N : Heap → Prop}
set_option maxRecDepth 100000 in
set_option maxHeartbeats 4000000 in
theorem kX8_nodesOf0 (hAD : AD ad n) (hn : ws.length = n) (hN : NS D N) : Ct l yX8_nodesOf cX8_nodesOf 3 (some .int) (rK 0 0 0) D ca ad ws n [.null, .int 0] N (pG ws N (some (.int 0))) := by
  refine enter (lv := [(0, .null), (1, .int 0)]) (by decide +kernel) (Nat.le_of_ble_eq_true rfl) rfl hAD (fun U hK => ns_write hK hN) ?_
  intro p e s m below meth c A args hA C hr hlk hnm
  refine sg0 C foX8 coX8 oX8_nodesOf_0 rfl rfl hn ?_
  refine ni_0 C jX8_nodesOf_1 ?_
  refine b1_eq (tgt := 42) C jX8_nodesOf_4 (by decide) (fun h4 => ?_) (fun h4 => ?_)
  · refine sg0 C foX8 coX8 oX8_nodesOf_42 rfl rfl hn ?_
    refine bnn_n C jX8_nodesOf_43 ?_
    refine sg0 C foX8 coX8 oX8_nodesOf_46 rfl rfl hn ?_
    exact rt_i C hr hlk jX8_nodesOf_51 (fun H hN => ⟨⟨rfl, rfl⟩, hN⟩)
  · exact absurd h4 (by decide)
set_option maxRecDepth 100000 in
set_option maxHeartbeats 4000000 in
theorem kX8_hiddenOver0 (hAD : AD ad n) (hn : ws.length = n) (hN : NS D N) (a b x y z : Int32) : Ct l yX8_hiddenOver cX8_hiddenOver 7 (some .int) (rK 0 0 0) D ca ad ws n [.null, .int a, .int b, .int x, .int y, .int z] N (pG ws N (some (.int 0))) := by
  refine enter (lv := [(0, .null), (1, .int a), (2, .int b), (3, .int x), (4, .int y), (5, .int z)]) (by decide +kernel) (Nat.le_of_ble_eq_true rfl) rfl hAD (fun U hK => ns_write hK hN) ?_
  intro p e s m below meth c A args hA C hr hlk hnm
  refine sg0 C foX8 coX8 oX8_hiddenOver_0 rfl rfl hn ?_
  refine ni_0 C jX8_hiddenOver_1 ?_
  refine b1_eq (tgt := 74) C jX8_hiddenOver_4 (by decide) (fun h4 => ?_) (fun h4 => ?_)
  · refine sg0 C foX8 coX8 oX8_hiddenOver_74 rfl rfl hn ?_
    refine ni_0 C jX8_hiddenOver_75 ?_
    refine b1_eq (tgt := 96) C jX8_hiddenOver_78 (by decide) (fun h78 => ?_) (fun h78 => ?_)
    · refine sg0 C foX8 coX8 oX8_hiddenOver_96 rfl rfl hn ?_
      exact rt_i C hr hlk jX8_hiddenOver_97 (fun H hN => ⟨⟨rfl, rfl⟩, hN⟩)
    · exact absurd h78 (by decide)
  · exact absurd h4 (by decide)
end
section
variable {l : Launch} {D : va_G} {ca : Nat → ClassId} {ad : Nat → Nat} {N : Heap → Prop} {qt nv : Nat} {kf : Nat → Option Nat} {fv : Value} {fp : Int32} {fd : Int64} {ra rb : Nat → Int32} {wn : Nat} {to : Nat → Int32} {tl : Nat} {so : Nat → Int32} {sl : Nat}
set_option maxRecDepth 100000 in
set_option maxHeartbeats 4000000 in
theorem kX8_told3 (hAD : AD ad 9) (hN : NS D N) {vo : Option Term} (hvo : ∀ V, vo = some V → fitT V 16 ∧ ∀ H, N H → nodeAt D H V)  : Ct l yX8_told cX8_told 2 (some .int) (rK 18 0 0) D ca ad (xW qt nv kf (vF vo) fp fd ra rb wn to tl so sl) 9 [.ref 0, .int 3] N (pG (xW qt nv kf (vF vo) fp fd ra rb wn to tl so sl) N (some (.int (match vo with | none => 0 | some V => nI (nodT V))))) := by
  cases vo with
  | none =>
    refine enter (lv := [(0, .ref 0), (1, .int 3)]) (by decide +kernel) (Nat.le_of_ble_eq_true rfl) rfl hAD (fun U hK => ns_write hK hN) ?_
    intro p e s m below meth c A args hA C hr hlk hnm
    refine sg0 C foX8 coX8 oX8_told_0 rfl rfl rfl ?_
    refine tbI (off := 60) (tgt := 61) C jX8_told_1 (by decide) (by decide) (by decide) (by decide) ?_
    refine sg0 C foX8 coX8 oX8_told_61 rfl rfl rfl ?_
    refine cl_s C (kX8_nodesOf0 hAD rfl hN) cd_X8_nodesOf in_X8 ml_X8_130 sm_X8_nodesOf hd_X8_nodesOf rfl rfl ⟨(Nat.le_of_ble_eq_true rfl), (Nat.le_of_ble_eq_true rfl)⟩ ⟨(Nat.le_of_ble_eq_true rfl), (Nat.le_of_ble_eq_true rfl)⟩ (Nat.le_of_ble_eq_true rfl) jX8_told_66 (fun v ws' => Wa.and (fun hv => ?_))
    obtain ⟨rfl, rfl⟩ := hv
    exact rt_i C hr hlk jX8_told_69 (fun H hN => ⟨⟨rfl, rfl⟩, hN⟩)
  | some V =>
    obtain ⟨hfit, hx⟩ := hvo V rfl
    refine enter (lv := [(0, .ref 0), (1, .int 3)]) (by decide +kernel) (Nat.le_of_ble_eq_true rfl) rfl hAD (fun U hK => ns_write hK hN) ?_
    intro p e s m below meth c A args hA C hr hlk hnm
    refine sg0 C foX8 coX8 oX8_told_0 rfl rfl rfl ?_
    refine tbI (off := 60) (tgt := 61) C jX8_told_1 (by decide) (by decide) (by decide) (by decide) ?_
    refine sg0 C foX8 coX8 oX8_told_61 rfl rfl rfl ?_
    refine cl_s C (kX8_nodesOf hAD rfl V (fit_T V _ hfit) 16 0 N hfit (by decide) hN hx) cd_X8_nodesOf in_X8 ml_X8_130 sm_X8_nodesOf hd_X8_nodesOf rfl rfl ⟨(Nat.le_of_ble_eq_true rfl), (Nat.le_of_ble_eq_true rfl)⟩ ⟨(Nat.le_of_ble_eq_true rfl), (Nat.le_of_ble_eq_true rfl)⟩ (Nat.le_of_ble_eq_true rfl) jX8_told_66 (fun v ws' => Wa.and (fun hv => ?_))
    obtain ⟨rfl, rfl⟩ := hv
    exact rt_i C hr hlk jX8_told_69 (fun H hN => ⟨⟨rfl, rfl⟩, hN⟩)
set_option maxRecDepth 100000 in
set_option maxHeartbeats 4000000 in
theorem kX8_told4 (hAD : AD ad 9) (hN : NS D N) {vo : Option Term} (hvo : ∀ V, vo = some V → fitT V 16 ∧ ∀ H, N H → nodeAt D H V)  : Ct l yX8_told cX8_told 2 (some .int) (rK 18 0 0) D ca ad (xW qt nv kf (vF vo) fp fd ra rb wn to tl so sl) 9 [.ref 0, .int 4] N (pG (xW qt nv kf (vF vo) fp fd ra rb wn to tl so sl) N (some (.int (match vo with | none => 0 | some V => nI (hidT V 0 65535 0 65535))))) := by
  cases vo with
  | none =>
    refine enter (lv := [(0, .ref 0), (1, .int 4)]) (by decide +kernel) (Nat.le_of_ble_eq_true rfl) rfl hAD (fun U hK => ns_write hK hN) ?_
    intro p e s m below meth c A args hA C hr hlk hnm
    refine sg0 C foX8 coX8 oX8_told_0 rfl rfl rfl ?_
    refine tbI (off := 69) (tgt := 70) C jX8_told_1 (by decide) (by decide) (by decide) (by decide) ?_
    refine sg0 C foX8 coX8 oX8_told_70 rfl rfl rfl ?_
    refine cl_s C (kX8_hiddenOver0 hAD rfl hN _ _ _ _ _) cd_X8_hiddenOver in_X8 ml_X8_142 sm_X8_hiddenOver hd_X8_hiddenOver rfl rfl ⟨(Nat.le_of_ble_eq_true rfl), (Nat.le_of_ble_eq_true rfl)⟩ ⟨(Nat.le_of_ble_eq_true rfl), (Nat.le_of_ble_eq_true rfl)⟩ (Nat.le_of_ble_eq_true rfl) jX8_told_81 (fun v ws' => Wa.and (fun hv => ?_))
    obtain ⟨rfl, rfl⟩ := hv
    exact rt_i C hr hlk jX8_told_84 (fun H hN => ⟨⟨rfl, rfl⟩, hN⟩)
  | some V =>
    obtain ⟨hfit, hx⟩ := hvo V rfl
    refine enter (lv := [(0, .ref 0), (1, .int 4)]) (by decide +kernel) (Nat.le_of_ble_eq_true rfl) rfl hAD (fun U hK => ns_write hK hN) ?_
    intro p e s m below meth c A args hA C hr hlk hnm
    refine sg0 C foX8 coX8 oX8_told_0 rfl rfl rfl ?_
    refine tbI (off := 69) (tgt := 70) C jX8_told_1 (by decide) (by decide) (by decide) (by decide) ?_
    refine sg0 C foX8 coX8 oX8_told_70 rfl rfl rfl ?_
    refine cl_s C (kX8_hiddenOver hAD rfl (a := 0) (b := 65535) (by decide) (by decide) V (fit_T V _ hfit) 16 0 N 0 65535 hfit (by decide) hN hx (by decide) (by decide)) cd_X8_hiddenOver in_X8 ml_X8_142 sm_X8_hiddenOver hd_X8_hiddenOver rfl rfl ⟨(Nat.le_of_ble_eq_true rfl), (Nat.le_of_ble_eq_true rfl)⟩ ⟨(Nat.le_of_ble_eq_true rfl), (Nat.le_of_ble_eq_true rfl)⟩ (Nat.le_of_ble_eq_true rfl) jX8_told_81 (fun v ws' => Wa.and (fun hv => ?_))
    obtain ⟨rfl, rfl⟩ := hv
    exact rt_i C hr hlk jX8_told_84 (fun H hN => ⟨⟨rfl, rfl⟩, hN⟩)
/-- the value of a leaf, if its path is P; else 0 -/
def lvT : Term → Nat → Int64
  | .add (.arg _) (.elem (.arg p) (.long v)), P => if p = P then v else 0
  | _, _ => 0
set_option maxRecDepth 100000 in
set_option maxHeartbeats 4000000 in
theorem kX8_get (hAD : AD ad 9) (hN : NS D N) {vo : Option Term} (hvo : ∀ V, vo = some V → fitT V 16 ∧ ∀ H, N H → nodeAt D H V) {P : Nat} (hP : P < 65536) : Ct l yX8_get cX8_get 4 (some .int) (rK 3 0 0) D ca ad (xW qt nv kf (vF vo) fp fd ra rb wn to tl so sl) 9 [.ref 0, .int (nI P)] N (fun r ws2 H => (r = some (.int (match vo with | none => -2 | some V => if isH (wayT V P) = true then -4 else if lfT (wayT V P) P = true then 1 else 0)) ∧ ws2 = (xW qt nv kf (vF vo) fp (match vo with | none => 0 | some V => lvT (wayT V P) P) ra rb wn to tl so sl)) ∧ N H) := by
  cases vo with
  | none =>
    refine enter (lv := [(0, .ref 0), (1, .int (nI P))]) (by decide +kernel) (Nat.le_of_ble_eq_true rfl) rfl hAD (fun U hK => ns_write hK hN) ?_
    intro p e s m below meth c A args hA C hr hlk hnm
    refine sg0 C foX8 coX8 oX8_get_0 rfl rfl rfl ?_
    refine cl_s C (kX8_isPath hAD rfl hN (nI P)) cd_X8_isPath in_X8 ml_X8_53 sm_X8_isPath hd_X8_isPath rfl rfl ⟨(Nat.le_of_ble_eq_true rfl), (Nat.le_of_ble_eq_true rfl)⟩ ⟨(Nat.le_of_ble_eq_true rfl), (Nat.le_of_ble_eq_true rfl)⟩ (Nat.le_of_ble_eq_true rfl) jX8_get_6 (fun v ws' => Wa.and (fun hv => ?_))
    obtain ⟨rfl, rfl⟩ := hv
    rw [if_pos (pth_ok hP)]
    refine b1_ne (tgt := 14) C jX8_get_9 (by decide) (fun h9 => ?_) (fun h9 => ?_)
    · refine sg0 C foX8 coX8 oX8_get_14 rfl rfl rfl ?_
      refine bnn_n C jX8_get_18 ?_
      refine sg0 C foX8 coX8 oX8_get_21 rfl rfl rfl ?_
      exact rt_i C hr hlk jX8_get_23 (fun H hN => ⟨⟨rfl, rfl⟩, hN⟩)
    · exact absurd h9 (by decide)
  | some V =>
    obtain ⟨hfit, hx0⟩ := hvo V rfl
    have hwn : ∀ H, N H → nodeAt D H (wayT V P) := fun H hH => way_node V P (hx0 H hH)
    have hwf := way_fit V (fit_T V _ hfit) P 16 (Nat.le_refl _) hfit
    rcases shp (wayT V P) (way_T V (fit_T V _ hfit) P) with ⟨q, hW⟩ | ⟨q, d0, hW⟩ | ⟨q, p0, v0, hW⟩ | ⟨q, B, S, x, y, hW⟩
    · refine enter (lv := [(0, .ref 0), (1, .int (nI P))]) (by decide +kernel) (Nat.le_of_ble_eq_true rfl) rfl hAD (fun U hK => ns_write hK hN) ?_
      intro p e s m below meth c A args hA C hr hlk hnm
      refine sg0 C foX8 coX8 oX8_get_0 rfl rfl rfl ?_
      refine cl_s C (kX8_isPath hAD rfl hN (nI P)) cd_X8_isPath in_X8 ml_X8_53 sm_X8_isPath hd_X8_isPath rfl rfl ⟨(Nat.le_of_ble_eq_true rfl), (Nat.le_of_ble_eq_true rfl)⟩ ⟨(Nat.le_of_ble_eq_true rfl), (Nat.le_of_ble_eq_true rfl)⟩ (Nat.le_of_ble_eq_true rfl) jX8_get_6 (fun v ws' => Wa.and (fun hv => ?_))
      obtain ⟨rfl, rfl⟩ := hv
      rw [if_pos (pth_ok hP)]
      refine b1_ne (tgt := 14) C jX8_get_9 (by decide) (fun h9 => ?_) (fun h9 => ?_)
      · refine sg0 C foX8 coX8 oX8_get_14 rfl rfl rfl ?_
        refine bnn_r (tgt := 24) C jX8_get_18 (by decide) ?_
        refine sg0 C foX8 coX8 oX8_get_24 rfl rfl rfl ?_
        refine cl_s C (kX8_endOfWay hAD rfl hN hfit hx0 hP) cd_X8_endOfWay in_X8 ml_X8_57 sm_X8_endOfWay hd_X8_endOfWay rfl rfl ⟨(Nat.le_of_ble_eq_true rfl), (Nat.le_of_ble_eq_true rfl)⟩ ⟨(Nat.le_of_ble_eq_true rfl), (Nat.le_of_ble_eq_true rfl)⟩ (Nat.le_of_ble_eq_true rfl) jX8_get_29 (fun v ws' => Wa.and (fun hv => ?_))
        obtain ⟨rfl, rfl⟩ := hv
        rw [hW]
        have hx : ∀ H, N H → nodeAt D H (tE q) := fun H hH => hW ▸ hwn H hH
        refine sg0 C foX8 coX8 oX8_get_32 rfl rfl rfl ?_
        refine ni_n (ci := 0) C (fun H hH => hx H hH) rfl kl_X8_134 (by decide) jX8_get_34 ?_
        refine b1_eq (tgt := 43) C jX8_get_37 (by decide) (fun h37 => ?_) (fun h37 => ?_)
        · refine sg0 C foX8 coX8 oX8_get_43 rfl rfl rfl ?_
          refine ni_n (ci := 0) C (fun H hH => hx H hH) rfl kl_X8_65 (by decide) jX8_get_44 ?_
          refine b1_eq (tgt := 73) C jX8_get_47 (by decide) (fun h47 => ?_) (fun h47 => ?_)
          · refine sg0 C foX8 coX8 oX8_get_73 rfl rfl rfl ?_
            exact rt_i C hr hlk jX8_get_74 (fun H hH => ⟨⟨by show _ = some (Value.int (if _ then _ else _)); rw [hW]; simp [isH, lfT], by show _ = xW _ _ _ _ _ (lvT (wayT V P) P) _ _ _ _ _ _ _; rw [hW]; rfl⟩, hH⟩)
          · exact absurd h47 (by decide)
        · exact absurd h37 (by decide)
      · exact absurd h9 (by decide)
    · refine enter (lv := [(0, .ref 0), (1, .int (nI P))]) (by decide +kernel) (Nat.le_of_ble_eq_true rfl) rfl hAD (fun U hK => ns_write hK hN) ?_
      intro p e s m below meth c A args hA C hr hlk hnm
      refine sg0 C foX8 coX8 oX8_get_0 rfl rfl rfl ?_
      refine cl_s C (kX8_isPath hAD rfl hN (nI P)) cd_X8_isPath in_X8 ml_X8_53 sm_X8_isPath hd_X8_isPath rfl rfl ⟨(Nat.le_of_ble_eq_true rfl), (Nat.le_of_ble_eq_true rfl)⟩ ⟨(Nat.le_of_ble_eq_true rfl), (Nat.le_of_ble_eq_true rfl)⟩ (Nat.le_of_ble_eq_true rfl) jX8_get_6 (fun v ws' => Wa.and (fun hv => ?_))
      obtain ⟨rfl, rfl⟩ := hv
      rw [if_pos (pth_ok hP)]
      refine b1_ne (tgt := 14) C jX8_get_9 (by decide) (fun h9 => ?_) (fun h9 => ?_)
      · refine sg0 C foX8 coX8 oX8_get_14 rfl rfl rfl ?_
        refine bnn_r (tgt := 24) C jX8_get_18 (by decide) ?_
        refine sg0 C foX8 coX8 oX8_get_24 rfl rfl rfl ?_
        refine cl_s C (kX8_endOfWay hAD rfl hN hfit hx0 hP) cd_X8_endOfWay in_X8 ml_X8_57 sm_X8_endOfWay hd_X8_endOfWay rfl rfl ⟨(Nat.le_of_ble_eq_true rfl), (Nat.le_of_ble_eq_true rfl)⟩ ⟨(Nat.le_of_ble_eq_true rfl), (Nat.le_of_ble_eq_true rfl)⟩ (Nat.le_of_ble_eq_true rfl) jX8_get_29 (fun v ws' => Wa.and (fun hv => ?_))
        obtain ⟨rfl, rfl⟩ := hv
        rw [hW]
        have hx : ∀ H, N H → nodeAt D H (tH q d0) := fun H hH => hW ▸ hwn H hH
        refine sg0 C foX8 coX8 oX8_get_32 rfl rfl rfl ?_
        refine ni_y (ci := 2) C (fun H hH => hx H hH) rfl kl_X8_134 (by decide) jX8_get_34 ?_
        refine b1_eq (tgt := 43) C jX8_get_37 (by decide) (fun h37 => ?_) (fun h37 => ?_)
        · exact absurd h37 (by decide)
        · refine sg0 C foX8 coX8 oX8_get_40 rfl rfl rfl ?_
          exact rt_i C hr hlk jX8_get_42 (fun H hH => ⟨⟨by show _ = some (Value.int (if _ then _ else _)); rw [hW]; simp [isH, lfT], by show _ = xW _ _ _ _ _ (lvT (wayT V P) P) _ _ _ _ _ _ _; rw [hW]; rfl⟩, hH⟩)
      · exact absurd h9 (by decide)
    · refine enter (lv := [(0, .ref 0), (1, .int (nI P))]) (by decide +kernel) (Nat.le_of_ble_eq_true rfl) rfl hAD (fun U hK => ns_write hK hN) ?_
      intro p e s m below meth c A args hA C hr hlk hnm
      refine sg0 C foX8 coX8 oX8_get_0 rfl rfl rfl ?_
      refine cl_s C (kX8_isPath hAD rfl hN (nI P)) cd_X8_isPath in_X8 ml_X8_53 sm_X8_isPath hd_X8_isPath rfl rfl ⟨(Nat.le_of_ble_eq_true rfl), (Nat.le_of_ble_eq_true rfl)⟩ ⟨(Nat.le_of_ble_eq_true rfl), (Nat.le_of_ble_eq_true rfl)⟩ (Nat.le_of_ble_eq_true rfl) jX8_get_6 (fun v ws' => Wa.and (fun hv => ?_))
      obtain ⟨rfl, rfl⟩ := hv
      rw [if_pos (pth_ok hP)]
      refine b1_ne (tgt := 14) C jX8_get_9 (by decide) (fun h9 => ?_) (fun h9 => ?_)
      · refine sg0 C foX8 coX8 oX8_get_14 rfl rfl rfl ?_
        refine bnn_r (tgt := 24) C jX8_get_18 (by decide) ?_
        refine sg0 C foX8 coX8 oX8_get_24 rfl rfl rfl ?_
        refine cl_s C (kX8_endOfWay hAD rfl hN hfit hx0 hP) cd_X8_endOfWay in_X8 ml_X8_57 sm_X8_endOfWay hd_X8_endOfWay rfl rfl ⟨(Nat.le_of_ble_eq_true rfl), (Nat.le_of_ble_eq_true rfl)⟩ ⟨(Nat.le_of_ble_eq_true rfl), (Nat.le_of_ble_eq_true rfl)⟩ (Nat.le_of_ble_eq_true rfl) jX8_get_29 (fun v ws' => Wa.and (fun hv => ?_))
        obtain ⟨rfl, rfl⟩ := hv
        rw [hW]
        have hx : ∀ H, N H → nodeAt D H (tL q p0 v0) := fun H hH => hW ▸ hwn H hH
        refine sg0 C foX8 coX8 oX8_get_32 rfl rfl rfl ?_
        refine ni_n (ci := 3) C (fun H hH => hx H hH) rfl kl_X8_134 (by decide) jX8_get_34 ?_
        refine b1_eq (tgt := 43) C jX8_get_37 (by decide) (fun h37 => ?_) (fun h37 => ?_)
        · refine sg0 C foX8 coX8 oX8_get_43 rfl rfl rfl ?_
          refine ni_y (ci := 3) C (fun H hH => hx H hH) rfl kl_X8_65 (by decide) jX8_get_44 ?_
          refine b1_eq (tgt := 73) C jX8_get_47 (by decide) (fun h47 => ?_) (fun h47 => ?_)
          · exact absurd h47 (by decide)
          · refine sg0 C foX8 coX8 oX8_get_50 rfl rfl rfl ?_
            refine nc_y (ci := 3) C (fun H hH => hx H hH) rfl kl_X8_65 (by decide) jX8_get_51 ?_
            refine sg0 C foX8 coX8 oX8_get_54 rfl rfl rfl ?_
            refine ng (ci := 3) (k := 1) (v := .int (nI p0)) C (fun H hH => hx H hH) rfl (by decide) fl_X8_136 rfl jX8_get_56 ?_
            refine sg0 C foX8 coX8 oX8_get_59 rfl rfl rfl ?_
            refine b2_ne (tgt := 73) C jX8_get_60 (by decide) (fun h60 => ?_) (fun h60 => ?_)
            · have he : ¬ p0 = P := fun q9 => h60 (by rw [q9])
              refine sg0 C foX8 coX8 oX8_get_73 rfl rfl rfl ?_
              exact rt_i C hr hlk jX8_get_74 (fun H hH => ⟨⟨by show _ = some (Value.int (if _ then _ else _)); rw [hW]; simp [isH, lfT, he], by show _ = xW _ _ _ _ _ (lvT (wayT V P) P) _ _ _ _ _ _ _; rw [hW]; simp only [lvT, if_neg he]; rfl⟩, hH⟩)
            · have he : p0 = P := (nI_eq (by rw [hW] at hwf; have hz : p0 < 65536 := hwf; omega) (by omega)).mp h60
              refine sg0 C foX8 coX8 oX8_get_63 rfl rfl rfl ?_
              refine ng (ci := 3) (k := 2) (v := .long v0) C (fun H hH => hx H hH) rfl (by decide) fl_X8_139 rfl jX8_get_65 ?_
              refine sg0 C foX8 coX8 oX8_get_68 rfl rfl rfl ?_
              exact rt_i C hr hlk jX8_get_72 (fun H hH => ⟨⟨by show _ = some (Value.int (if _ then _ else _)); rw [hW]; simp [isH, lfT, he], by show _ = xW _ _ _ _ _ (lvT (wayT V P) P) _ _ _ _ _ _ _; rw [hW]; simp only [lvT, if_pos he]; rfl⟩, hH⟩)
        · exact absurd h37 (by decide)
      · exact absurd h9 (by decide)
    · refine enter (lv := [(0, .ref 0), (1, .int (nI P))]) (by decide +kernel) (Nat.le_of_ble_eq_true rfl) rfl hAD (fun U hK => ns_write hK hN) ?_
      intro p e s m below meth c A args hA C hr hlk hnm
      refine sg0 C foX8 coX8 oX8_get_0 rfl rfl rfl ?_
      refine cl_s C (kX8_isPath hAD rfl hN (nI P)) cd_X8_isPath in_X8 ml_X8_53 sm_X8_isPath hd_X8_isPath rfl rfl ⟨(Nat.le_of_ble_eq_true rfl), (Nat.le_of_ble_eq_true rfl)⟩ ⟨(Nat.le_of_ble_eq_true rfl), (Nat.le_of_ble_eq_true rfl)⟩ (Nat.le_of_ble_eq_true rfl) jX8_get_6 (fun v ws' => Wa.and (fun hv => ?_))
      obtain ⟨rfl, rfl⟩ := hv
      rw [if_pos (pth_ok hP)]
      refine b1_ne (tgt := 14) C jX8_get_9 (by decide) (fun h9 => ?_) (fun h9 => ?_)
      · refine sg0 C foX8 coX8 oX8_get_14 rfl rfl rfl ?_
        refine bnn_r (tgt := 24) C jX8_get_18 (by decide) ?_
        refine sg0 C foX8 coX8 oX8_get_24 rfl rfl rfl ?_
        refine cl_s C (kX8_endOfWay hAD rfl hN hfit hx0 hP) cd_X8_endOfWay in_X8 ml_X8_57 sm_X8_endOfWay hd_X8_endOfWay rfl rfl ⟨(Nat.le_of_ble_eq_true rfl), (Nat.le_of_ble_eq_true rfl)⟩ ⟨(Nat.le_of_ble_eq_true rfl), (Nat.le_of_ble_eq_true rfl)⟩ (Nat.le_of_ble_eq_true rfl) jX8_get_29 (fun v ws' => Wa.and (fun hv => ?_))
        obtain ⟨rfl, rfl⟩ := hv
        rw [hW]
        have hx : ∀ H, N H → nodeAt D H (tF q B S x y) := fun H hH => hW ▸ hwn H hH
        refine sg0 C foX8 coX8 oX8_get_32 rfl rfl rfl ?_
        refine ni_n (ci := 1) C (fun H hH => (hx H hH).1) rfl kl_X8_134 (by decide) jX8_get_34 ?_
        refine b1_eq (tgt := 43) C jX8_get_37 (by decide) (fun h37 => ?_) (fun h37 => ?_)
        · refine sg0 C foX8 coX8 oX8_get_43 rfl rfl rfl ?_
          refine ni_n (ci := 1) C (fun H hH => (hx H hH).1) rfl kl_X8_65 (by decide) jX8_get_44 ?_
          refine b1_eq (tgt := 73) C jX8_get_47 (by decide) (fun h47 => ?_) (fun h47 => ?_)
          · refine sg0 C foX8 coX8 oX8_get_73 rfl rfl rfl ?_
            exact rt_i C hr hlk jX8_get_74 (fun H hH => ⟨⟨by show _ = some (Value.int (if _ then _ else _)); rw [hW]; simp [isH, lfT], by show _ = xW _ _ _ _ _ (lvT (wayT V P) P) _ _ _ _ _ _ _; rw [hW]; rfl⟩, hH⟩)
          · exact absurd h47 (by decide)
        · exact absurd h37 (by decide)
      · exact absurd h9 (by decide)
end
end
section
/-! public methods of the class: put, remove, write, erase -/
theorem wr_fit {T T1 : Term} {P q1 : Nat} {v : Int64} (hT : isT T) (h1 : isT T1) (hK : strp T1 = strp (wrtT T P (tL q1 P v))) (hw : fitT (wrtT (strp T) P (tL 0 P v)) 16) : fitT T1 16 ∧ strp T1 = strp (wrtT (strp T) P (tL 0 P v)) := by
  have e1 : strp T1 = strp (wrtT (strp T) P (tL 0 P v)) := by rw [hK, wrt_strp T hT P (tL q1 P v) trivial]; rfl
  refine ⟨(strp_fit T1 h1 16).mp ?_, e1⟩
  rw [e1]
  exact (strp_fit _ (fit_T _ _ hw) 16).mpr hw
theorem wr_cnt {T1 U : Term} (h1 : isT T1) (hU : isT U) (e1 : strp T1 = strp U) (a b : Nat) : cntT T1 a b = cntT U a b := by rw [← strp_cnt T1 h1, e1, strp_cnt U hU]
theorem wr_nod {T1 U : Term} (h1 : isT T1) (hU : isT U) (e1 : strp T1 = strp U) : nodT T1 = nodT U := by rw [← strp_nod T1 h1, e1, strp_nod U hU]
theorem cnt_le (T : Term) (hT : isT T) : ∀ a b k : Nat, fitT T k → cntT T a b ≤ 2 ^ k := by
  refine tr_ind (P := fun T => ∀ a b k : Nat, fitT T k → cntT T a b ≤ 2 ^ k) ?_ ?_ ?_ ?_ T hT
  · exact fun q a b k _ => Nat.zero_le _
  · exact fun q d a b k _ => Nat.zero_le _
  · intro q p v a b k _
    have := Nat.two_pow_pos k
    simp only [cntT]
    split <;> omega
  · intro q B S x y _ _ i1 i2 a b k h
    obtain ⟨⟨hB, hkB, hS, hstm⟩, hfx, hfy⟩ := fitF h
    have h1 := i1 a b _ hfx
    have h2 := i2 a b _ hfy
    have h3 : 2 ^ (15 - B) * 2 ≤ 2 ^ k := by rw [← Nat.pow_succ]; exact Nat.pow_le_pow_right (by decide) (by omega)
    simp only [cntT]
    omega
theorem nod_le (T : Term) (hT : isT T) : ∀ k : Nat, fitT T k → nodT T + 1 ≤ 2 ^ (k + 1) := by
  have p1 : ∀ k : Nat, 2 ≤ 2 ^ (k + 1) := fun k => by
    have := Nat.two_pow_pos k
    rw [Nat.pow_succ]; omega
  refine tr_ind (P := fun T => ∀ k : Nat, fitT T k → nodT T + 1 ≤ 2 ^ (k + 1)) ?_ ?_ ?_ ?_ T hT
  · exact fun q k _ => p1 k
  · exact fun q d k _ => p1 k
  · exact fun q p v k _ => p1 k
  · intro q B S x y _ _ i1 i2 k h
    obtain ⟨⟨hB, hkB, hS, hstm⟩, hfx, hfy⟩ := fitF h
    have h1 := i1 _ hfx
    have h2 := i2 _ hfy
    have h3 : 2 ^ (15 - B + 1) * 2 ≤ 2 ^ (k + 1) := by rw [← Nat.pow_succ]; exact Nat.pow_le_pow_right (by decide) (by omega)
    simp only [nodT]
    omega
theorem del_fit2 {T T1 : Term} {P : Nat} (hT : isT T) (hK : strp T1 = strp (delT T P)) : strp T1 = strp (delT (strp T) P) := by rw [hK, del_strp T hT P]
section
variable {l : Launch} {D : va_G} {ca : Nat → ClassId} {ad : Nat → Nat} {N : Heap → Prop} {qt nv : Nat} {kf : Nat → Option Nat} {fv : Value} {fp : Int32} {fd : Int64} {ra rb : Nat → Int32} {wn : Nat} {to : Nat → Int32} {tl : Nat} {so : Nat → Int32} {sl : Nat}
theorem Wa.pl {p : Program} {e : Env} {R : Room} {s : State} {m : MethodId} {args : Array Value} {below : List Frame} {meth : Method} {c : Code} {cells slots : Nat} {Q : State → Prop} {A : Nat → Prop} {nL : Nat} {N : Heap → Prop} {S : AS} {pc : Nat} {Z : Prop} (hZ : ∀ H, N H → Z) (h : Z → Wa p l e R s m args below meth c cells slots Q D ca ad A nL N S pc) : Wa p l e R s m args below meth c cells slots Q D ca ad A nL N S pc := fun H locs ls h1 h2 h3 h4 => h (hZ H h4) H locs ls h1 h2 h3 h4
set_option maxRecDepth 100000 in
set_option maxHeartbeats 4000000 in
theorem kX8_put (hAD : AD ad 9) (hN : NS D N) {T : Term} (hfT : fitT T 16) (hxT : ∀ H, N H → nodeAt D H T) {P : Nat} (hP : P < 65536) (v : Int64) (hw : fitT (wrtT (strp T) P (tL 0 P v)) 16) : Ct l yX8_put cX8_put 6 (some .int) (rK 21 18 88) D ca ad (xW (adr T) nv kf fv fp fd ra rb wn to tl so sl) 9 [.ref 0, .int (nI P), .long v] N (fun r ws2 H => (300 < cntT (wrtT (strp T) P (tL 0 P v)) 0 65535 ∧ r = some (.int (-3)) ∧ ws2 = (xW (adr T) nv kf fv fp fd ra rb wn to tl so sl) ∧ N H) ∨ ∃ T1, (cntT (wrtT (strp T) P (tL 0 P v)) 0 65535 ≤ 300 ∧ r = some (.int (if lfT (wayT T P) P = true then 0 else 1)) ∧ ws2 = (xW (adr T1) nv kf fv fp fd ra rb wn to tl so sl) ∧ strp T1 = strp (wrtT (strp T) P (tL 0 P v))) ∧ N H ∧ nodeAt D H T1) := by
  have hTT := fit_T T _ hfT
  have hwn : ∀ H, N H → nodeAt D H (wayT T P) := fun H hH => way_node T P (hxT H hH)
  have hwf := way_fit T hTT P 16 (Nat.le_refl _) hfT
  refine enter (lv := [(0, .ref 0), (1, .int (nI P)), (2, .long v)]) (by decide +kernel) (Nat.le_of_ble_eq_true rfl) rfl hAD (fun U hK => ns_write hK hN) ?_
  intro p e s m below meth c A args hA C hr hlk hnm
  refine sg0 C foX8 coX8 oX8_put_0 rfl rfl rfl ?_
  refine cl_s C (kX8_isPath hAD rfl hN (nI P)) cd_X8_isPath in_X8 ml_X8_53 sm_X8_isPath hd_X8_isPath rfl rfl ⟨(Nat.le_of_ble_eq_true rfl), (Nat.le_of_ble_eq_true rfl)⟩ ⟨(Nat.le_of_ble_eq_true rfl), (Nat.le_of_ble_eq_true rfl)⟩ (Nat.le_of_ble_eq_true rfl) jX8_put_1 (fun v ws' => Wa.and (fun hv => ?_))
  obtain ⟨rfl, rfl⟩ := hv
  rw [if_pos (pth_ok hP)]
  refine b1_ne (tgt := 9) C jX8_put_4 (by decide) (fun h4 => ?_) (fun h4 => ?_)
  · refine sg0 C foX8 coX8 oX8_put_9 rfl rfl rfl ?_
    refine cl_s C (kX8_endOfWay hAD rfl hN hfT hxT hP) cd_X8_endOfWay in_X8 ml_X8_57 sm_X8_endOfWay hd_X8_endOfWay rfl rfl ⟨(Nat.le_of_ble_eq_true rfl), (Nat.le_of_ble_eq_true rfl)⟩ ⟨(Nat.le_of_ble_eq_true rfl), (Nat.le_of_ble_eq_true rfl)⟩ (Nat.le_of_ble_eq_true rfl) jX8_put_14 (fun v ws' => Wa.and (fun hv => ?_))
    obtain ⟨rfl, rfl⟩ := hv
    refine sg0 C foX8 coX8 oX8_put_17 rfl rfl rfl ?_
    refine cl_s C (kX8_isLeafOf hAD rfl hP (wayT T P) (fit_T _ _ hwf) 16 0 _ hwf (by decide) hN hwn) cd_X8_isLeafOf in_X8 ml_X8_61 sm_X8_isLeafOf hd_X8_isLeafOf rfl rfl ⟨(Nat.le_of_ble_eq_true rfl), (Nat.le_of_ble_eq_true rfl)⟩ ⟨(Nat.le_of_ble_eq_true rfl), (Nat.le_of_ble_eq_true rfl)⟩ (Nat.le_of_ble_eq_true rfl) jX8_put_18 (fun v ws' => Wa.and (fun hv => ?_))
    obtain ⟨rfl, rfl⟩ := hv
    refine sg0 C foX8 coX8 oX8_put_21 rfl rfl rfl ?_
    refine nw (ci := 3) (fs := [.long 0, .int 0, .long 0]) C hN rfl (by decide) kl_X8_65 is_X3 in_X3 tyX3 tyX3_ok dfX3 ⟨(Nat.le_of_ble_eq_true rfl), (Nat.le_of_ble_eq_true rfl)⟩ jX8_put_27 (fun H1 q1 hN_q1 hq1 => ?_)
    have C := C.to (N2 := BN D H1 q1 3 [.long 0, .int 0, .long 0]) BN.ns
    refine sg0 C foX8 coX8 oX8_put_30 rfl rfl rfl ?_
    refine cl_i C (kX3_init hAD rfl rfl P v) (C.2.2.2.2.2 _ hq1) cd_X3_init in_X3 ml_X8_67 im_X3_init rfl hd_X3_init rfl rfl ⟨(Nat.le_of_ble_eq_true rfl), (Nat.le_of_ble_eq_true rfl)⟩ ⟨(Nat.le_of_ble_eq_true rfl), (Nat.le_of_ble_eq_true rfl)⟩ (Nat.le_of_ble_eq_true rfl) jX8_put_33 (fun v ws' => Wa.and (fun hv => ?_))
    obtain ⟨rfl, rfl⟩ := hv
    have hNB : NS D (BN D H1 q1 3 [.long (leafF P v), .int (nI P), .long v]) := BN.ns
    have C := C.to (N2 := BN D H1 q1 3 [.long (leafF P v), .int (nI P), .long v]) hNB
    refine sg0 C foX8 coX8 oX8_put_36 rfl rfl rfl ?_
    refine cl_s C (kX8_written hAD rfl rfl hP T hTT 16 0 _ hfT (by decide) hNB (fun H hH => nodeAt.ns T _ _ (hxT H1 hN_q1) hH.2.1) (fun H hH => hH.2.2)) cd_X8_written in_X8 ml_X8_70 sm_X8_written hd_X8_written rfl rfl ⟨(Nat.le_of_ble_eq_true rfl), (Nat.le_of_ble_eq_true rfl)⟩ ⟨(Nat.le_of_ble_eq_true rfl), (Nat.le_of_ble_eq_true rfl)⟩ (Nat.le_of_ble_eq_true rfl) jX8_put_37 (fun v ws' => Wa.ex (fun T1 => Wa.and (fun hv => ?_)))
    obtain ⟨rfl, rfl, hK1⟩ := hv
    have hN1 := hNB.and (nodeAt.ns (D := D) T1)
    have C := C.to (N2 := (fun H => BN D H1 q1 3 [.long (leafF P v), .int (nI P), .long v] H ∧ nodeAt D H T1)) hN1
    refine Wa.pl (Z := isT T1) (fun H hH => nodeAt.T T1 hH.2) (fun h1T => ?_)
    obtain ⟨hf1, hK2⟩ := wr_fit hTT h1T hK1 hw
    have hce := wr_cnt h1T (fit_T _ _ hw) hK2 0 65535
    have hcl := cnt_le _ (fit_T _ _ hw) 0 65535 16 hw
    refine sg0 C foX8 coX8 oX8_put_40 rfl rfl rfl ?_
    refine cl_s C (kX8_leavesWithin hAD rfl (a := 0) (b := 65535) (by decide) (by decide) T1 h1T 16 0 _ hf1 (by decide) hN1 (fun H hH => hH.2)) cd_X8_leavesWithin in_X8 ml_X8_75 sm_X8_leavesWithin hd_X8_leavesWithin rfl rfl ⟨(Nat.le_of_ble_eq_true rfl), (Nat.le_of_ble_eq_true rfl)⟩ ⟨(Nat.le_of_ble_eq_true rfl), (Nat.le_of_ble_eq_true rfl)⟩ (Nat.le_of_ble_eq_true rfl) jX8_put_48 (fun v ws' => Wa.and (fun hv => ?_))
    obtain ⟨rfl, rfl⟩ := hv
    rw [hce]
    refine sg0 C foX8 coX8 oX8_put_51 rfl rfl rfl ?_
    refine b2_le (tgt := 60) C jX8_put_54 (by decide) (fun h54 => ?_) (fun h54 => ?_)
    · have hq : cntT (wrtT (strp T) P (tL 0 P v)) 0 65535 ≤ 300 := Nat.not_lt.mp fun q9 => absurd h54 (by rw [show (300 : Int32) = nI 300 from rfl]; exact nI_ge q9 (by omega))
      refine sg0 C foX8 coX8 oX8_put_60 rfl rfl rfl ?_
      refine b1_eq (tgt := 75) C jX8_put_68 (by decide) (fun h68 => ?_) (fun h68 => ?_)
      · have hl : ¬ lfT (wayT T P) P = true := fun e1 => by rw [if_pos e1] at h68; exact absurd h68 (by decide)
        refine sg0 C foX8 coX8 oX8_put_75 rfl rfl rfl ?_
        refine Wa.wid (k1 := 18) (k2 := 88) (by decide) (by decide) ?_
        exact rt_i C hr hlk jX8_put_76 (fun H hH => Or.inr ⟨T1, ⟨hq, by rw [if_neg hl], rfl, hK2⟩, hN _ _ hN_q1 hH.1.2.1, hH.2⟩)
      · have hl : lfT (wayT T P) P = true := Decidable.byContradiction fun e1 => h68 (if_neg e1)
        refine sg0 C foX8 coX8 oX8_put_71 rfl rfl rfl ?_
        refine Wa.wid (k1 := 18) (k2 := 88) (by decide) (by decide) ?_
        exact rt_i C hr hlk jX8_put_76 (fun H hH => Or.inr ⟨T1, ⟨hq, by rw [if_pos hl], rfl, hK2⟩, hN _ _ hN_q1 hH.1.2.1, hH.2⟩)
    · have hq : 300 < cntT (wrtT (strp T) P (tL 0 P v)) 0 65535 := Nat.not_le.mp fun q9 => h54 (by rw [show (300 : Int32) = nI 300 from rfl]; exact nI_le q9 (by decide))
      refine sg0 C foX8 coX8 oX8_put_57 rfl rfl rfl ?_
      refine Wa.wid (k1 := 18) (k2 := 88) (by decide) (by decide) ?_
      exact rt_i C hr hlk jX8_put_59 (fun H hH => Or.inl ⟨hq, rfl, rfl, hN _ _ hN_q1 hH.1.2.1⟩)
  · exact absurd h4 (by decide)
set_option maxRecDepth 100000 in
set_option maxHeartbeats 4000000 in
theorem kX8_remove (hAD : AD ad 9) (hN : NS D N) {T : Term} (hfT : fitT T 16) (hxT : ∀ H, N H → nodeAt D H T) {P : Nat} (hP : P < 65536) : Ct l yX8_remove cX8_remove 2 (some .int) (rK 21 17 85) D ca ad (xW (adr T) nv kf fv fp fd ra rb wn to tl so sl) 9 [.ref 0, .int (nI P)] N (fun r ws2 H => (¬ lfT (wayT T P) P = true ∧ r = some (.int 0) ∧ ws2 = (xW (adr T) nv kf fv fp fd ra rb wn to tl so sl) ∧ N H) ∨ ∃ T1, (lfT (wayT T P) P = true ∧ r = some (.int 1) ∧ ws2 = (xW (adr T1) nv kf fv fp fd ra rb wn to tl so sl) ∧ strp T1 = strp (delT (strp T) P)) ∧ N H ∧ nodeAt D H T1) := by
  have hTT := fit_T T _ hfT
  have hwn : ∀ H, N H → nodeAt D H (wayT T P) := fun H hH => way_node T P (hxT H hH)
  have hwf := way_fit T hTT P 16 (Nat.le_refl _) hfT
  refine enter (lv := [(0, .ref 0), (1, .int (nI P))]) (by decide +kernel) (Nat.le_of_ble_eq_true rfl) rfl hAD (fun U hK => ns_write hK hN) ?_
  intro p e s m below meth c A args hA C hr hlk hnm
  refine sg0 C foX8 coX8 oX8_remove_0 rfl rfl rfl ?_
  refine cl_s C (kX8_isPath hAD rfl hN (nI P)) cd_X8_isPath in_X8 ml_X8_53 sm_X8_isPath hd_X8_isPath rfl rfl ⟨(Nat.le_of_ble_eq_true rfl), (Nat.le_of_ble_eq_true rfl)⟩ ⟨(Nat.le_of_ble_eq_true rfl), (Nat.le_of_ble_eq_true rfl)⟩ (Nat.le_of_ble_eq_true rfl) jX8_remove_1 (fun v ws' => Wa.and (fun hv => ?_))
  obtain ⟨rfl, rfl⟩ := hv
  rw [if_pos (pth_ok hP)]
  refine b1_ne (tgt := 9) C jX8_remove_4 (by decide) (fun h4 => ?_) (fun h4 => ?_)
  · refine sg0 C foX8 coX8 oX8_remove_9 rfl rfl rfl ?_
    refine cl_s C (kX8_endOfWay hAD rfl hN hfT hxT hP) cd_X8_endOfWay in_X8 ml_X8_57 sm_X8_endOfWay hd_X8_endOfWay rfl rfl ⟨(Nat.le_of_ble_eq_true rfl), (Nat.le_of_ble_eq_true rfl)⟩ ⟨(Nat.le_of_ble_eq_true rfl), (Nat.le_of_ble_eq_true rfl)⟩ (Nat.le_of_ble_eq_true rfl) jX8_remove_14 (fun v ws' => Wa.and (fun hv => ?_))
    obtain ⟨rfl, rfl⟩ := hv
    refine sg0 C foX8 coX8 oX8_remove_17 rfl rfl rfl ?_
    refine cl_s C (kX8_isLeafOf hAD rfl hP (wayT T P) (fit_T _ _ hwf) 16 0 _ hwf (by decide) hN hwn) cd_X8_isLeafOf in_X8 ml_X8_61 sm_X8_isLeafOf hd_X8_isLeafOf rfl rfl ⟨(Nat.le_of_ble_eq_true rfl), (Nat.le_of_ble_eq_true rfl)⟩ ⟨(Nat.le_of_ble_eq_true rfl), (Nat.le_of_ble_eq_true rfl)⟩ (Nat.le_of_ble_eq_true rfl) jX8_remove_18 (fun v ws' => Wa.and (fun hv => ?_))
    obtain ⟨rfl, rfl⟩ := hv
    refine b1_ne (tgt := 26) C jX8_remove_21 (by decide) (fun h21 => ?_) (fun h21 => ?_)
    · have hl : lfT (wayT T P) P = true := Decidable.byContradiction fun e1 => h21 (if_neg e1)
      refine sg0 C foX8 coX8 oX8_remove_26 rfl rfl rfl ?_
      refine cl_s C (kX8_erased hAD rfl rfl hP T hTT 16 0 N hfT (by decide) hN hxT) cd_X8_erased in_X8 ml_X8_79 sm_X8_erased hd_X8_erased rfl rfl ⟨(Nat.le_of_ble_eq_true rfl), (Nat.le_of_ble_eq_true rfl)⟩ ⟨(Nat.le_of_ble_eq_true rfl), (Nat.le_of_ble_eq_true rfl)⟩ (Nat.le_of_ble_eq_true rfl) jX8_remove_33 (fun v ws' => Wa.ex (fun T1 => Wa.and (fun hv => ?_)))
      obtain ⟨rfl, rfl, hK1⟩ := hv
      have hN1 := hN.and (nodeAt.ns (D := D) T1)
      have C := C.to (N2 := fun H => N H ∧ nodeAt D H T1) hN1
      have hK2 := del_fit2 hTT hK1
      refine sg0 C foX8 coX8 oX8_remove_36 rfl rfl rfl ?_
      exact rt_i C hr hlk jX8_remove_40 (fun H hH => Or.inr ⟨T1, ⟨hl, rfl, rfl, hK2⟩, hH.1, hH.2⟩)
    · have hl : ¬ lfT (wayT T P) P = true := fun e1 => by rw [if_pos e1] at h21; exact absurd h21 (by decide)
      refine sg0 C foX8 coX8 oX8_remove_24 rfl rfl rfl ?_
      refine Wa.wid (k1 := 17) (k2 := 85) (by decide) (by decide) ?_
      exact rt_i C hr hlk jX8_remove_25 (fun H hH => Or.inl ⟨hl, rfl, rfl, hH⟩)
  · exact absurd h4 (by decide)
set_option maxRecDepth 100000 in
set_option maxHeartbeats 4000000 in
theorem kX8_write (hAD : AD ad 9) (hN : NS D N) {vo : Option Term} (hvo : ∀ V, vo = some V → fitT V 16 ∧ ∀ H, N H → nodeAt D H V) {P : Nat} (hP : P < 65536) (v : Int64) (hw0 : ∀ V, vo = some V → ¬ isH (wayT V P) = true → fitT (wrtT (strp V) P (tL 0 P v)) 16) : Ct l yX8_write cX8_write 6 (some .int) (rK 21 18 88) D ca ad (xW qt nv kf (vF vo) fp fd ra rb wn to tl so sl) 9 [.ref 0, .int (nI P), .long v] N (fun r ws2 H => (vo = none ∧ r = some (.int (-2)) ∧ ws2 = (xW qt nv kf (vF vo) fp fd ra rb wn to tl so sl) ∧ N H) ∨ (∃ V, vo = some V ∧ isH (wayT V P) = true ∧ r = some (.int (-4)) ∧ ws2 = (xW qt nv kf (vF vo) fp fd ra rb wn to tl so sl) ∧ N H) ∨ (∃ V, vo = some V ∧ ¬ isH (wayT V P) = true ∧ 700 < nodT (wrtT (strp V) P (tL 0 P v)) ∧ r = some (.int (-3)) ∧ ws2 = (xW qt nv kf (vF vo) fp fd ra rb wn to tl so sl) ∧ N H) ∨ ∃ T1 V, (vo = some V ∧ ¬ isH (wayT V P) = true ∧ nodT (wrtT (strp V) P (tL 0 P v)) ≤ 700 ∧ r = some (.int (if lfT (wayT V P) P = true then 0 else 1)) ∧ ws2 = (xW qt nv kf (vF (some T1)) fp fd ra rb wn to tl so sl) ∧ strp T1 = strp (wrtT (strp V) P (tL 0 P v))) ∧ N H ∧ nodeAt D H T1) := by
  cases vo with
  | none =>
    refine enter (lv := [(0, .ref 0), (1, .int (nI P)), (2, .long v)]) (by decide +kernel) (Nat.le_of_ble_eq_true rfl) rfl hAD (fun U hK => ns_write hK hN) ?_
    intro p e s m below meth c A args hA C hr hlk hnm
    refine sg0 C foX8 coX8 oX8_write_0 rfl rfl rfl ?_
    refine cl_s C (kX8_isPath hAD rfl hN (nI P)) cd_X8_isPath in_X8 ml_X8_53 sm_X8_isPath hd_X8_isPath rfl rfl ⟨(Nat.le_of_ble_eq_true rfl), (Nat.le_of_ble_eq_true rfl)⟩ ⟨(Nat.le_of_ble_eq_true rfl), (Nat.le_of_ble_eq_true rfl)⟩ (Nat.le_of_ble_eq_true rfl) jX8_write_1 (fun v ws' => Wa.and (fun hv => ?_))
    obtain ⟨rfl, rfl⟩ := hv
    rw [if_pos (pth_ok hP)]
    refine b1_ne (tgt := 9) C jX8_write_4 (by decide) (fun h4 => ?_) (fun h4 => ?_)
    · refine sg0 C foX8 coX8 oX8_write_9 rfl rfl rfl ?_
      refine bnn_n C jX8_write_13 ?_
      refine sg0 C foX8 coX8 oX8_write_16 rfl rfl rfl ?_
      refine Wa.wid (k1 := 18) (k2 := 88) (by decide) (by decide) ?_
      exact rt_i C hr hlk jX8_write_18 (fun H hH => Or.inl ⟨rfl, rfl, rfl, hH⟩)
    · exact absurd h4 (by decide)
  | some V =>
    obtain ⟨hfV, hxV⟩ := hvo V rfl
    have hVT := fit_T V _ hfV
    have hwn : ∀ H, N H → nodeAt D H (wayT V P) := fun H hH => way_node V P (hxV H hH)
    have hwf := way_fit V hVT P 16 (Nat.le_refl _) hfV
    refine enter (lv := [(0, .ref 0), (1, .int (nI P)), (2, .long v)]) (by decide +kernel) (Nat.le_of_ble_eq_true rfl) rfl hAD (fun U hK => ns_write hK hN) ?_
    intro p e s m below meth c A args hA C hr hlk hnm
    refine sg0 C foX8 coX8 oX8_write_0 rfl rfl rfl ?_
    refine cl_s C (kX8_isPath hAD rfl hN (nI P)) cd_X8_isPath in_X8 ml_X8_53 sm_X8_isPath hd_X8_isPath rfl rfl ⟨(Nat.le_of_ble_eq_true rfl), (Nat.le_of_ble_eq_true rfl)⟩ ⟨(Nat.le_of_ble_eq_true rfl), (Nat.le_of_ble_eq_true rfl)⟩ (Nat.le_of_ble_eq_true rfl) jX8_write_1 (fun v ws' => Wa.and (fun hv => ?_))
    obtain ⟨rfl, rfl⟩ := hv
    rw [if_pos (pth_ok hP)]
    refine b1_ne (tgt := 9) C jX8_write_4 (by decide) (fun h4 => ?_) (fun h4 => ?_)
    · refine sg0 C foX8 coX8 oX8_write_9 rfl rfl rfl ?_
      refine bnn_r (tgt := 19) C jX8_write_13 (by decide) ?_
      refine sg0 C foX8 coX8 oX8_write_19 rfl rfl rfl ?_
      refine cl_s C (kX8_endOfWay hAD rfl hN hfV hxV hP) cd_X8_endOfWay in_X8 ml_X8_57 sm_X8_endOfWay hd_X8_endOfWay rfl rfl ⟨(Nat.le_of_ble_eq_true rfl), (Nat.le_of_ble_eq_true rfl)⟩ ⟨(Nat.le_of_ble_eq_true rfl), (Nat.le_of_ble_eq_true rfl)⟩ (Nat.le_of_ble_eq_true rfl) jX8_write_24 (fun v ws' => Wa.and (fun hv => ?_))
      obtain ⟨rfl, rfl⟩ := hv
      refine sg0 C foX8 coX8 oX8_write_27 rfl rfl rfl ?_
      refine ni_H C hwn kl_X8_134 jX8_write_31 ?_
      refine b1_eq (tgt := 40) C jX8_write_34 (by decide) (fun h34 => ?_) (fun h34 => ?_)
      · have hh : ¬ isH (wayT V P) = true := fun e1 => by rw [if_pos e1] at h34; exact absurd h34 (by decide)
        have hw := hw0 V rfl hh
        refine sg0 C foX8 coX8 oX8_write_40 rfl rfl rfl ?_
        refine nw (ci := 3) (fs := [.long 0, .int 0, .long 0]) C hN rfl (by decide) kl_X8_65 is_X3 in_X3 tyX3 tyX3_ok dfX3 ⟨(Nat.le_of_ble_eq_true rfl), (Nat.le_of_ble_eq_true rfl)⟩ jX8_write_44 (fun H1 q1 hN_q1 hq1 => ?_)
        have C := C.to (N2 := BN D H1 q1 3 [.long 0, .int 0, .long 0]) BN.ns
        refine sg0 C foX8 coX8 oX8_write_47 rfl rfl rfl ?_
        refine cl_i C (kX3_init hAD rfl rfl P v) (C.2.2.2.2.2 _ hq1) cd_X3_init in_X3 ml_X8_67 im_X3_init rfl hd_X3_init rfl rfl ⟨(Nat.le_of_ble_eq_true rfl), (Nat.le_of_ble_eq_true rfl)⟩ ⟨(Nat.le_of_ble_eq_true rfl), (Nat.le_of_ble_eq_true rfl)⟩ (Nat.le_of_ble_eq_true rfl) jX8_write_50 (fun v ws' => Wa.and (fun hv => ?_))
        obtain ⟨rfl, rfl⟩ := hv
        have hNB : NS D (BN D H1 q1 3 [.long (leafF P v), .int (nI P), .long v]) := BN.ns
        have C := C.to (N2 := BN D H1 q1 3 [.long (leafF P v), .int (nI P), .long v]) hNB
        refine sg0 C foX8 coX8 oX8_write_53 rfl rfl rfl ?_
        refine cl_s C (kX8_written hAD rfl rfl hP V hVT 16 0 _ hfV (by decide) hNB (fun H hH => nodeAt.ns V _ _ (hxV H1 hN_q1) hH.2.1) (fun H hH => hH.2.2)) cd_X8_written in_X8 ml_X8_70 sm_X8_written hd_X8_written rfl rfl ⟨(Nat.le_of_ble_eq_true rfl), (Nat.le_of_ble_eq_true rfl)⟩ ⟨(Nat.le_of_ble_eq_true rfl), (Nat.le_of_ble_eq_true rfl)⟩ (Nat.le_of_ble_eq_true rfl) jX8_write_54 (fun v ws' => Wa.ex (fun T1 => Wa.and (fun hv => ?_)))
        obtain ⟨rfl, rfl, hK1⟩ := hv
        have hN1 := hNB.and (nodeAt.ns (D := D) T1)
        have C := C.to (N2 := (fun H => BN D H1 q1 3 [.long (leafF P v), .int (nI P), .long v] H ∧ nodeAt D H T1)) hN1
        refine Wa.pl (Z := isT T1) (fun H hH => nodeAt.T T1 hH.2) (fun h1T => ?_)
        obtain ⟨hf1, hK2⟩ := wr_fit hVT h1T hK1 hw
        have hce := wr_nod h1T (fit_T _ _ hw) hK2
        have hcl := nod_le _ (fit_T _ _ hw) 16 hw
        refine sg0 C foX8 coX8 oX8_write_57 rfl rfl rfl ?_
        refine cl_s C (kX8_nodesOf hAD rfl T1 h1T 16 0 _ hf1 (by decide) hN1 (fun H hH => hH.2)) cd_X8_nodesOf in_X8 ml_X8_130 sm_X8_nodesOf hd_X8_nodesOf rfl rfl ⟨(Nat.le_of_ble_eq_true rfl), (Nat.le_of_ble_eq_true rfl)⟩ ⟨(Nat.le_of_ble_eq_true rfl), (Nat.le_of_ble_eq_true rfl)⟩ (Nat.le_of_ble_eq_true rfl) jX8_write_62 (fun v ws' => Wa.and (fun hv => ?_))
        obtain ⟨rfl, rfl⟩ := hv
        rw [hce]
        refine sg0 C foX8 coX8 oX8_write_65 rfl rfl rfl ?_
        refine b2_le (tgt := 74) C jX8_write_68 (by decide) (fun h68 => ?_) (fun h68 => ?_)
        · have hq : nodT (wrtT (strp V) P (tL 0 P v)) ≤ 700 := Nat.not_lt.mp fun q9 => absurd h68 (by rw [show (700 : Int32) = nI 700 from rfl]; exact nI_ge q9 (by omega))
          refine sg0 C foX8 coX8 oX8_write_74 rfl rfl rfl ?_
          refine cl_s C (kX8_isLeafOf hAD rfl hP (wayT V P) (fit_T _ _ hwf) 16 0 _ hwf (by decide) hN1 (fun H hH => nodeAt.ns _ _ _ (hwn H1 hN_q1) hH.1.2.1)) cd_X8_isLeafOf in_X8 ml_X8_61 sm_X8_isLeafOf hd_X8_isLeafOf rfl rfl ⟨(Nat.le_of_ble_eq_true rfl), (Nat.le_of_ble_eq_true rfl)⟩ ⟨(Nat.le_of_ble_eq_true rfl), (Nat.le_of_ble_eq_true rfl)⟩ (Nat.le_of_ble_eq_true rfl) jX8_write_83 (fun v ws' => Wa.and (fun hv => ?_))
          obtain ⟨rfl, rfl⟩ := hv
          refine b1_eq (tgt := 93) C jX8_write_86 (by decide) (fun h86 => ?_) (fun h86 => ?_)
          · have hl : ¬ lfT (wayT V P) P = true := fun e1 => by rw [if_pos e1] at h86; exact absurd h86 (by decide)
            refine sg0 C foX8 coX8 oX8_write_93 rfl rfl rfl ?_
            refine Wa.wid (k1 := 18) (k2 := 88) (by decide) (by decide) ?_
            exact rt_i C hr hlk jX8_write_94 (fun H hH => Or.inr (Or.inr (Or.inr ⟨T1, V, ⟨rfl, hh, hq, by rw [if_neg hl], rfl, hK2⟩, hN _ _ hN_q1 hH.1.2.1, hH.2⟩)))
          · have hl : lfT (wayT V P) P = true := Decidable.byContradiction fun e1 => h86 (if_neg e1)
            refine sg0 C foX8 coX8 oX8_write_89 rfl rfl rfl ?_
            refine Wa.wid (k1 := 18) (k2 := 88) (by decide) (by decide) ?_
            exact rt_i C hr hlk jX8_write_94 (fun H hH => Or.inr (Or.inr (Or.inr ⟨T1, V, ⟨rfl, hh, hq, by rw [if_pos hl], rfl, hK2⟩, hN _ _ hN_q1 hH.1.2.1, hH.2⟩)))
        · have hq : 700 < nodT (wrtT (strp V) P (tL 0 P v)) := Nat.not_le.mp fun q9 => h68 (by rw [show (700 : Int32) = nI 700 from rfl]; exact nI_le q9 (by decide))
          refine sg0 C foX8 coX8 oX8_write_71 rfl rfl rfl ?_
          refine Wa.wid (k1 := 18) (k2 := 88) (by decide) (by decide) ?_
          exact rt_i C hr hlk jX8_write_73 (fun H hH => Or.inr (Or.inr (Or.inl ⟨V, rfl, hh, hq, rfl, rfl, hN _ _ hN_q1 hH.1.2.1⟩)))
      · have hh : isH (wayT V P) = true := Decidable.byContradiction fun e1 => h34 (if_neg e1)
        refine sg0 C foX8 coX8 oX8_write_37 rfl rfl rfl ?_
        refine Wa.wid (k1 := 18) (k2 := 88) (by decide) (by decide) ?_
        exact rt_i C hr hlk jX8_write_39 (fun H hH => Or.inr (Or.inl ⟨V, rfl, hh, rfl, rfl, hH⟩))
    · exact absurd h4 (by decide)
set_option maxRecDepth 100000 in
set_option maxHeartbeats 4000000 in
theorem kX8_erase (hAD : AD ad 9) (hN : NS D N) {vo : Option Term} (hvo : ∀ V, vo = some V → fitT V 16 ∧ ∀ H, N H → nodeAt D H V) {P : Nat} (hP : P < 65536) : Ct l yX8_erase cX8_erase 3 (some .int) (rK 21 17 85) D ca ad (xW qt nv kf (vF vo) fp fd ra rb wn to tl so sl) 9 [.ref 0, .int (nI P)] N (fun r ws2 H => (vo = none ∧ r = some (.int (-2)) ∧ ws2 = (xW qt nv kf (vF vo) fp fd ra rb wn to tl so sl) ∧ N H) ∨ (∃ V, vo = some V ∧ isH (wayT V P) = true ∧ r = some (.int (-4)) ∧ ws2 = (xW qt nv kf (vF vo) fp fd ra rb wn to tl so sl) ∧ N H) ∨ (∃ V, vo = some V ∧ ¬ isH (wayT V P) = true ∧ ¬ lfT (wayT V P) P = true ∧ r = some (.int 0) ∧ ws2 = (xW qt nv kf (vF vo) fp fd ra rb wn to tl so sl) ∧ N H) ∨ ∃ T1 V, (vo = some V ∧ ¬ isH (wayT V P) = true ∧ lfT (wayT V P) P = true ∧ r = some (.int 1) ∧ ws2 = (xW qt nv kf (vF (some T1)) fp fd ra rb wn to tl so sl) ∧ strp T1 = strp (delT (strp V) P)) ∧ N H ∧ nodeAt D H T1) := by
  cases vo with
  | none =>
    refine enter (lv := [(0, .ref 0), (1, .int (nI P))]) (by decide +kernel) (Nat.le_of_ble_eq_true rfl) rfl hAD (fun U hK => ns_write hK hN) ?_
    intro p e s m below meth c A args hA C hr hlk hnm
    refine sg0 C foX8 coX8 oX8_erase_0 rfl rfl rfl ?_
    refine cl_s C (kX8_isPath hAD rfl hN (nI P)) cd_X8_isPath in_X8 ml_X8_53 sm_X8_isPath hd_X8_isPath rfl rfl ⟨(Nat.le_of_ble_eq_true rfl), (Nat.le_of_ble_eq_true rfl)⟩ ⟨(Nat.le_of_ble_eq_true rfl), (Nat.le_of_ble_eq_true rfl)⟩ (Nat.le_of_ble_eq_true rfl) jX8_erase_1 (fun v ws' => Wa.and (fun hv => ?_))
    obtain ⟨rfl, rfl⟩ := hv
    rw [if_pos (pth_ok hP)]
    refine b1_ne (tgt := 9) C jX8_erase_4 (by decide) (fun h4 => ?_) (fun h4 => ?_)
    · refine sg0 C foX8 coX8 oX8_erase_9 rfl rfl rfl ?_
      refine bnn_n C jX8_erase_13 ?_
      refine sg0 C foX8 coX8 oX8_erase_16 rfl rfl rfl ?_
      refine Wa.wid (k1 := 17) (k2 := 85) (by decide) (by decide) ?_
      exact rt_i C hr hlk jX8_erase_18 (fun H hH => Or.inl ⟨rfl, rfl, rfl, hH⟩)
    · exact absurd h4 (by decide)
  | some V =>
    obtain ⟨hfV, hxV⟩ := hvo V rfl
    have hVT := fit_T V _ hfV
    have hwn : ∀ H, N H → nodeAt D H (wayT V P) := fun H hH => way_node V P (hxV H hH)
    have hwf := way_fit V hVT P 16 (Nat.le_refl _) hfV
    refine enter (lv := [(0, .ref 0), (1, .int (nI P))]) (by decide +kernel) (Nat.le_of_ble_eq_true rfl) rfl hAD (fun U hK => ns_write hK hN) ?_
    intro p e s m below meth c A args hA C hr hlk hnm
    refine sg0 C foX8 coX8 oX8_erase_0 rfl rfl rfl ?_
    refine cl_s C (kX8_isPath hAD rfl hN (nI P)) cd_X8_isPath in_X8 ml_X8_53 sm_X8_isPath hd_X8_isPath rfl rfl ⟨(Nat.le_of_ble_eq_true rfl), (Nat.le_of_ble_eq_true rfl)⟩ ⟨(Nat.le_of_ble_eq_true rfl), (Nat.le_of_ble_eq_true rfl)⟩ (Nat.le_of_ble_eq_true rfl) jX8_erase_1 (fun v ws' => Wa.and (fun hv => ?_))
    obtain ⟨rfl, rfl⟩ := hv
    rw [if_pos (pth_ok hP)]
    refine b1_ne (tgt := 9) C jX8_erase_4 (by decide) (fun h4 => ?_) (fun h4 => ?_)
    · refine sg0 C foX8 coX8 oX8_erase_9 rfl rfl rfl ?_
      refine bnn_r (tgt := 19) C jX8_erase_13 (by decide) ?_
      refine sg0 C foX8 coX8 oX8_erase_19 rfl rfl rfl ?_
      refine cl_s C (kX8_endOfWay hAD rfl hN hfV hxV hP) cd_X8_endOfWay in_X8 ml_X8_57 sm_X8_endOfWay hd_X8_endOfWay rfl rfl ⟨(Nat.le_of_ble_eq_true rfl), (Nat.le_of_ble_eq_true rfl)⟩ ⟨(Nat.le_of_ble_eq_true rfl), (Nat.le_of_ble_eq_true rfl)⟩ (Nat.le_of_ble_eq_true rfl) jX8_erase_24 (fun v ws' => Wa.and (fun hv => ?_))
      obtain ⟨rfl, rfl⟩ := hv
      refine sg0 C foX8 coX8 oX8_erase_27 rfl rfl rfl ?_
      refine ni_H C hwn kl_X8_134 jX8_erase_29 ?_
      refine b1_eq (tgt := 38) C jX8_erase_32 (by decide) (fun h32 => ?_) (fun h32 => ?_)
      · have hh : ¬ isH (wayT V P) = true := fun e1 => by rw [if_pos e1] at h32; exact absurd h32 (by decide)
        refine sg0 C foX8 coX8 oX8_erase_38 rfl rfl rfl ?_
        refine cl_s C (kX8_isLeafOf hAD rfl hP (wayT V P) (fit_T _ _ hwf) 16 0 _ hwf (by decide) hN hwn) cd_X8_isLeafOf in_X8 ml_X8_61 sm_X8_isLeafOf hd_X8_isLeafOf rfl rfl ⟨(Nat.le_of_ble_eq_true rfl), (Nat.le_of_ble_eq_true rfl)⟩ ⟨(Nat.le_of_ble_eq_true rfl), (Nat.le_of_ble_eq_true rfl)⟩ (Nat.le_of_ble_eq_true rfl) jX8_erase_40 (fun v ws' => Wa.and (fun hv => ?_))
        obtain ⟨rfl, rfl⟩ := hv
        refine b1_ne (tgt := 48) C jX8_erase_43 (by decide) (fun h43 => ?_) (fun h43 => ?_)
        · have hl : lfT (wayT V P) P = true := Decidable.byContradiction fun e1 => h43 (if_neg e1)
          refine sg0 C foX8 coX8 oX8_erase_48 rfl rfl rfl ?_
          refine cl_s C (kX8_erased hAD rfl rfl hP V hVT 16 0 N hfV (by decide) hN hxV) cd_X8_erased in_X8 ml_X8_79 sm_X8_erased hd_X8_erased rfl rfl ⟨(Nat.le_of_ble_eq_true rfl), (Nat.le_of_ble_eq_true rfl)⟩ ⟨(Nat.le_of_ble_eq_true rfl), (Nat.le_of_ble_eq_true rfl)⟩ (Nat.le_of_ble_eq_true rfl) jX8_erase_55 (fun v ws' => Wa.ex (fun T1 => Wa.and (fun hv => ?_)))
          obtain ⟨rfl, rfl, hK1⟩ := hv
          have hN1 := hN.and (nodeAt.ns (D := D) T1)
          have C := C.to (N2 := fun H => N H ∧ nodeAt D H T1) hN1
          have hK2 := del_fit2 hVT hK1
          refine sg0 C foX8 coX8 oX8_erase_58 rfl rfl rfl ?_
          exact rt_i C hr hlk jX8_erase_62 (fun H hH => Or.inr (Or.inr (Or.inr ⟨T1, V, ⟨rfl, hh, hl, rfl, rfl, hK2⟩, hH.1, hH.2⟩)))
        · have hl : ¬ lfT (wayT V P) P = true := fun e1 => by rw [if_pos e1] at h43; exact absurd h43 (by decide)
          refine sg0 C foX8 coX8 oX8_erase_46 rfl rfl rfl ?_
          refine Wa.wid (k1 := 17) (k2 := 85) (by decide) (by decide) ?_
          exact rt_i C hr hlk jX8_erase_47 (fun H hH => Or.inr (Or.inr (Or.inl ⟨V, rfl, hh, hl, rfl, rfl, hH⟩)))
      · have hh : isH (wayT V P) = true := Decidable.byContradiction fun e1 => h32 (if_neg e1)
        refine sg0 C foX8 coX8 oX8_erase_35 rfl rfl rfl ?_
        refine Wa.wid (k1 := 17) (k2 := 85) (by decide) (by decide) ?_
        exact rt_i C hr hlk jX8_erase_37 (fun H hH => Or.inr (Or.inl ⟨V, rfl, hh, rfl, rfl, hH⟩))
    · exact absurd h4 (by decide)
end
end
section
/-! ===== lN n to 2^64: shifts, and, or, masks, one bit ===== -/
theorem wb_tb (n : Nat) : (lN n).toBitVec = BitVec.ofNat 64 n := rfl
theorem wb_inj {a b : Int64} (h : a.toBitVec = b.toBitVec) : a = b := Int64.toBitVec_inj.mp h
theorem wb_tn {n : Nat} (h : n < 2 ^ 64) : (lN n).toBitVec.toNat = n := by rw [wb_tb, BitVec.toNat_ofNat, Nat.mod_eq_of_lt h]
theorem wb_of (x : Int64) : ∃ n, n < 2 ^ 64 ∧ x = lN n := ⟨x.toBitVec.toNat, x.toBitVec.isLt, wb_inj (by rw [wb_tb]; simp)⟩
theorem wb_of32 (x : Int32) : ∃ n, n < 2 ^ 32 ∧ x = nI n := ⟨x.toBitVec.toNat, x.toBitVec.isLt, Int32.toBitVec_inj.mp (by show _ = BitVec.ofNat 32 _; simp)⟩
theorem wb_c : ∀ k, k < 64 → ((nI k).toInt64 &&& 63) = lN k := by decide +kernel
theorem wb_cu : ∀ k, k < 64 → ((nI k).toInt64.toUInt64 &&& Int64.toUInt64 63) = UInt64.ofNat k := by decide +kernel
theorem wb_sm : ∀ k, k < 64 → (BitVec.ofNat 64 k).smod 64 = BitVec.ofNat 64 k := by decide +kernel
theorem wb_pw {a b : Nat} (h : a ≤ b) : 2 ^ b = 2 ^ a * 2 ^ (b - a) := by rw [← Nat.pow_add]; congr 1; omega
theorem wb_lt2 {a b : Nat} (h : a < b) : 2 ^ a < 2 ^ b := Nat.pow_lt_pow_right (by decide) h
theorem wb_mod (n : Nat) : lN n = lN (n % 2 ^ 64) := wb_inj (by rw [wb_tb, wb_tb]; apply BitVec.eq_of_toNat_eq; rw [BitVec.toNat_ofNat, BitVec.toNat_ofNat, Nat.mod_mod])
theorem wb_shr {n k : Nat} (hn : n < 2 ^ 64) (hk : k < 64) : ((lN n).toUInt64 >>> ((nI k).toInt64.toUInt64 &&& Int64.toUInt64 63)).toInt64 = lN (n / 2 ^ k) := by
  rw [wb_cu k hk]
  apply wb_inj
  apply BitVec.eq_of_toNat_eq
  show ((lN n).toUInt64 >>> UInt64.ofNat k).toNat = (BitVec.ofNat 64 _).toNat
  have h1 : (UInt64.ofNat k).toNat = k := by
    show (BitVec.ofNat 64 k).toNat = k
    rw [BitVec.toNat_ofNat, Nat.mod_eq_of_lt (by omega)]
  have h2 : (lN n).toUInt64.toNat = n := wb_tn hn
  rw [UInt64.toNat_shiftRight, h1, h2, Nat.mod_eq_of_lt hk, Nat.shiftRight_eq_div_pow, BitVec.toNat_ofNat, Nat.mod_eq_of_lt (Nat.lt_of_le_of_lt (Nat.div_le_self _ _) hn)]
theorem wb_shl (n : Nat) {k : Nat} (hk : k < 64) : lN n <<< ((nI k).toInt64 &&& 63) = lN (n * 2 ^ k) := by
  rw [wb_c k hk]
  apply wb_inj
  rw [Int64.toBitVec_shiftLeft, wb_tb, wb_tb, wb_tb, wb_sm k hk]
  apply BitVec.eq_of_toNat_eq
  rw [BitVec.shiftLeft_eq', BitVec.toNat_shiftLeft, BitVec.toNat_ofNat, BitVec.toNat_ofNat, BitVec.toNat_ofNat, Nat.mod_eq_of_lt (show k < 2 ^ 64 by omega), Nat.shiftLeft_eq, Nat.mul_mod, Nat.mod_mod, ← Nat.mul_mod]
theorem wb_and {a b : Nat} (ha : a < 2 ^ 64) (hb : b < 2 ^ 64) : lN a &&& lN b = lN (a &&& b) := by
  apply wb_inj
  rw [Int64.toBitVec_and, wb_tb, wb_tb, wb_tb]
  apply BitVec.eq_of_toNat_eq
  rw [BitVec.toNat_and, BitVec.toNat_ofNat, BitVec.toNat_ofNat, BitVec.toNat_ofNat, Nat.mod_eq_of_lt ha, Nat.mod_eq_of_lt hb, Nat.mod_eq_of_lt (Nat.and_lt_two_pow _ hb)]
theorem wb_or {a b : Nat} (ha : a < 2 ^ 64) (hb : b < 2 ^ 64) : lN a ||| lN b = lN (a ||| b) := by
  apply wb_inj
  rw [Int64.toBitVec_or, wb_tb, wb_tb, wb_tb]
  apply BitVec.eq_of_toNat_eq
  rw [BitVec.toNat_or, BitVec.toNat_ofNat, BitVec.toNat_ofNat, BitVec.toNat_ofNat, Nat.mod_eq_of_lt ha, Nat.mod_eq_of_lt hb, Nat.mod_eq_of_lt (Nat.or_lt_two_pow ha hb)]
theorem wb_mask {n k : Nat} (hn : n < 2 ^ 64) (hk : k < 64) : lN n &&& lN (2 ^ k - 1) = lN (n % 2 ^ k) := by
  rw [wb_and hn (by have := wb_lt2 hk; omega), Nat.and_two_pow_sub_one_eq_mod]
theorem wb_a1 {n : Nat} (hn : n < 2 ^ 64) : lN n &&& 1 = lN (n % 2) := wb_mask (k := 1) hn (by decide)
theorem wb_bit {n k : Nat} (hn : n < 2 ^ 64) (hk : k < 64) : ((lN n).toUInt64 >>> ((nI k).toInt64.toUInt64 &&& Int64.toUInt64 63)).toInt64 &&& 1 = lN (n / 2 ^ k % 2) := by
  rw [wb_shr hn hk, wb_a1 (Nat.lt_of_le_of_lt (Nat.div_le_self _ _) hn)]
theorem wb_xor {q k : Nat} (hk : k < 63) (h : 2 ^ k ≤ q) (h2 : q < 2 ^ (k + 1)) : lN q ^^^ lN (2 ^ k) = lN (q - 2 ^ k) := by
  obtain ⟨r, rfl⟩ : ∃ r, q = 2 ^ k + r := ⟨q - 2 ^ k, by omega⟩
  have hr : r < 2 ^ k := by rw [Nat.pow_succ] at h2; omega
  have hx : (2 ^ k + r) ^^^ 2 ^ k = r := by
    apply Nat.eq_of_testBit_eq
    intro i
    rw [Nat.testBit_xor, Nat.testBit_two_pow]
    rcases Nat.lt_trichotomy i k with h | h | h
    · rw [Nat.testBit_two_pow_add_gt h]
      simp [show ¬ k = i by omega]
    · subst h
      rw [Nat.testBit_two_pow_add_eq]
      simp
    · have a1 : 2 ^ (k + 1) ≤ 2 ^ i := Nat.pow_le_pow_right (by decide) h
      rw [Nat.testBit_lt_two_pow (show 2 ^ k + r < 2 ^ i by omega), Nat.testBit_lt_two_pow (show r < 2 ^ i by omega)]
      simp [show ¬ k = i by omega]
  have b1 := wb_lt2 (show k + 1 < 64 by omega)
  have b2 := wb_lt2 (show k < 64 by omega)
  apply wb_inj
  rw [Int64.toBitVec_xor, wb_tb, wb_tb, wb_tb]
  apply BitVec.eq_of_toNat_eq
  rw [BitVec.toNat_xor, BitVec.toNat_ofNat, BitVec.toNat_ofNat, BitVec.toNat_ofNat, Nat.mod_eq_of_lt (by omega : 2 ^ k + r < 2 ^ 64), Nat.mod_eq_of_lt b2, hx, Nat.add_sub_cancel_left, Nat.mod_eq_of_lt (by omega)]
/-! ===== lN: masks, 'or' of parts that don't overlap is a sum ===== -/
theorem u_tn {n : Nat} (h : n < 2 ^ 64) : (UInt64.ofNat n).toNat = n := Nat.mod_eq_of_lt h
theorem g_and {a b c : Nat} (ha : a < 2 ^ 64) (hb : b < 2 ^ 64) (hc : a &&& b = c) : lN a &&& lN b = lN c := by
  subst hc
  have h : UInt64.ofNat a &&& UInt64.ofNat b = UInt64.ofNat (a &&& b) := UInt64.toNat_inj.mp (by rw [UInt64.toNat_and, u_tn ha, u_tn hb, u_tn (Nat.and_lt_two_pow a hb)])
  have h2 := congrArg UInt64.toInt64 h
  exact h2
theorem g_and1 {a : Nat} (ha : a < 2 ^ 64) : lN a &&& 1 = lN (a % 2) := g_and (b := 1) ha (by decide) (Nat.and_two_pow_sub_one_eq_mod a 1)
theorem g_mask {a s p : Nat} (hp : 2 ^ s = p) (hs : s < 64) (ha : a < 2 ^ 64) : lN a &&& lN (p - 1) = lN (a % p) := by
  subst hp
  have := Nat.pow_lt_pow_right (show 1 < 2 by decide) hs
  exact g_and ha (by omega) (Nat.and_two_pow_sub_one_eq_mod a s)
theorem g_or {k p a b : Nat} (hp : 2 ^ k = p) (ha : a < p) (h : b * p + a < 2 ^ 64) : lN (b * p) ||| lN a = lN (b * p + a) := by
  subst hp
  have h1 : b * 2 ^ k ||| a = b * 2 ^ k + a := by rw [← Nat.shiftLeft_eq, Nat.shiftLeft_add_eq_or_of_lt ha]
  have h3 : UInt64.ofNat (b * 2 ^ k) ||| UInt64.ofNat a = UInt64.ofNat (b * 2 ^ k + a) := UInt64.toNat_inj.mp (by rw [UInt64.toNat_or, u_tn (by omega), u_tn (by omega), u_tn h, h1])
  have h2 := congrArg UInt64.toInt64 h3
  exact h2
theorem g_or' {k p a b : Nat} (hp : 2 ^ k = p) (ha : a < p) (h : a + b * p < 2 ^ 64) : lN a ||| lN (b * p) = lN (a + b * p) := by
  rw [Int64.or_comm, g_or hp ha (by omega), Nat.add_comm]
theorem g_ushr {a k p : Nat} {y : UInt64} (hy : y = UInt64.ofNat k) (hk : k < 64) (hp : 2 ^ k = p) (ha : a < 2 ^ 64) : ((lN a).toUInt64 >>> y).toInt64 = lN (a / p) := by
  subst hy hp
  have h : UInt64.ofNat a >>> UInt64.ofNat k = UInt64.ofNat (a / 2 ^ k) := UInt64.toNat_inj.mp (by rw [UInt64.toNat_shiftRight, u_tn ha, u_tn (by omega), u_tn (Nat.lt_of_le_of_lt (Nat.div_le_self _ _) ha), Nat.mod_eq_of_lt hk, Nat.shiftRight_eq_div_pow])
  have h2 := congrArg UInt64.toInt64 h
  exact h2
theorem g_shl {a k p : Nat} {y : Int64} (hy : y.toBitVec.smod 64 = BitVec.ofNat 64 k) (hk : k < 64) (hp : 2 ^ k = p) (ha : a < 2 ^ 64) : lN a <<< y = lN (a * p) := by
  subst hp
  apply Int64.toBitVec_inj.mp
  rw [Int64.toBitVec_shiftLeft, hy]
  apply BitVec.eq_of_toNat_eq
  have hb : (lN a).toBitVec.toNat = a := Nat.mod_eq_of_lt ha
  have hk' : (BitVec.ofNat 64 k).toNat = k := Nat.mod_eq_of_lt (by omega)
  have h : ((lN a).toBitVec <<< BitVec.ofNat 64 k).toNat = (a * 2 ^ k) % 2 ^ 64 := by simp only [BitVec.shiftLeft_eq', BitVec.toNat_shiftLeft, hb, hk', Nat.shiftLeft_eq]
  exact h
/-! octets as numbers; what a row of octets is, read as a node -/
def ocOk (S : List Int32) : Prop := ∀ x ∈ S, ∃ o : Nat, o < 256 ∧ x = nI o
def oc (S : List Int32) (j : Nat) : Nat := ((S[j]?).getD 0).toNatClampNeg
theorem oc_at {S : List Int32} (h : ocOk S) {j : Nat} (hj : j < S.length) : S[j]? = some (nI (oc S j)) ∧ oc S j < 256 := by
  obtain ⟨o, h1, h2⟩ := h S[j] (List.getElem_mem hj)
  have h3 : S[j]? = some S[j] := List.getElem?_eq_getElem hj
  have h4 : oc S j = o := by
    unfold oc
    rw [h3, h2]
    exact nI_clamp (by omega)
  exact ⟨by rw [h3, h4, h2], by omega⟩
/-- a number of n octets from place i on -/
def nmF (S : List Int32) : Nat → Nat → Int64 → Int64
  | 0, _, a => a
  | n + 1, i, a => nmF S n (i + 1) ((a <<< ((8 : Int32).toInt64 &&& 63)) ||| (((S[i]?).getD 0).toInt64))
theorem nm_step {a o : Nat} (ho : o < 256) (ha : a < 2 ^ 40) : (lN a <<< ((8 : Int32).toInt64 &&& 63)) ||| (nI o).toInt64 = lN (a * 256 + o) := by
  rw [show (8 : Int32) = nI 8 from rfl, wb_shl a (by decide), nI_l (by omega)]
  exact g_or (k := 8) (p := 2 ^ 8) (a := o) (b := a) rfl (by omega) (by omega)
theorem nm1 {S : List Int32} (h : ocOk S) {i : Nat} (hi : i < S.length) : (nmF S 1 i 0).toInt32 = nI (oc S i) := by
  obtain ⟨h1, h2⟩ := oc_at h hi
  simp only [nmF]
  rw [h1]
  show ((0 : Int64) <<< _ ||| (nI (oc S i)).toInt64).toInt32 = _
  rw [show (0 : Int64) = lN 0 from rfl, nm_step h2 (by decide), lN_i, Nat.zero_mul, Nat.zero_add]
theorem nm2 {S : List Int32} (h : ocOk S) {i : Nat} (hi : i + 1 < S.length) : (nmF S 2 i 0).toInt32 = nI (oc S i * 256 + oc S (i + 1)) := by
  obtain ⟨h1, h2⟩ := oc_at h (show i < S.length by omega)
  obtain ⟨h3, h4⟩ := oc_at h hi
  simp only [nmF]
  rw [h1, h3]
  show (((0 : Int64) <<< _ ||| (nI (oc S i)).toInt64) <<< _ ||| (nI (oc S (i + 1))).toInt64).toInt32 = _
  rw [show (0 : Int64) = lN 0 from rfl, nm_step h2 (by decide), Nat.zero_mul, Nat.zero_add, nm_step h4 (Nat.lt_trans h2 (by decide)), lN_i]
abbrev PR : Type := (Nat × Nat) ⊕ (Term × Nat)
/-- a fork, its first octet at i; rc reads a node below -/
def prK (S : List Int32) (rc : Nat → Nat → Nat → PR) (go : Bool) (i f t : Nat) : PR :=
  if S.length < i + 2 then .inl (1, S.length) else
  if 16 ≤ oc S (i + 1) then .inl (3, i + 1) else
  if S.length < i + 4 then .inl (1, S.length) else
  if stm (oc S (i + 2) * 256 + oc S (i + 3)) (oc S (i + 1)) = oc S (i + 2) * 256 + oc S (i + 3) ∧ f ≤ oc S (i + 2) * 256 + oc S (i + 3) ∧ oc S (i + 2) * 256 + oc S (i + 3) + 2 ^ (16 - oc S (i + 1)) - 1 ≤ t ∧ go = true then
    match rc (i + 4) (oc S (i + 2) * 256 + oc S (i + 3)) (oc S (i + 2) * 256 + oc S (i + 3) + 2 ^ (15 - oc S (i + 1)) - 1) with
    | .inl z => .inl z
    | .inr (x, i1) => match rc i1 (oc S (i + 2) * 256 + oc S (i + 3) + 2 ^ (15 - oc S (i + 1))) (oc S (i + 2) * 256 + oc S (i + 3) + 2 ^ (16 - oc S (i + 1)) - 1) with
      | .inl z => .inl z
      | .inr (y, i2) => .inr (tF 0 (oc S (i + 1)) (oc S (i + 2) * 256 + oc S (i + 3)) x y, i2)
  else .inl (4, i + 2)
/-- a leaf, its first octet at i -/
def prL (S : List Int32) (i f t : Nat) : PR :=
  if S.length < i + 3 then .inl (1, S.length) else
  if f ≤ oc S (i + 1) * 256 + oc S (i + 2) ∧ oc S (i + 1) * 256 + oc S (i + 2) ≤ t then
    if S.length < i + 11 then .inl (1, S.length) else .inr (tL 0 (oc S (i + 1) * 256 + oc S (i + 2)) (nmF S 8 (i + 3) 0), i + 11)
  else .inl (5, i + 1)
def prN (S : List Int32) (i f t : Nat) (w : Bool) (fk : PR) : PR :=
  if S.length ≤ i then .inl (1, S.length) else
  if oc S i = 0 then (if S.length < i + 9 then .inl (1, S.length) else .inr (tH 0 (nmF S 8 (i + 1) 0), i + 9)) else
  if oc S i = 1 then fk else
  if oc S i = 2 then prL S i f t else
  if oc S i = 3 ∧ w = true then .inr (tE 0, i + 1) else .inl (2, i)
/-- a node whose place is f .. t, from place i of the row on; g forks deep at most -/
def prs (S : List Int32) : Nat → Nat → Nat → Nat → Bool → PR
  | 0, i, f, t, w => prN S i f t w (prK S (fun _ _ _ => .inl (0, 0)) false i f t)
  | g + 1, i, f, t, w => prN S i f t w (prK S (fun i' f' t' => prs S g i' f' t' false) true i f t)
/-- how many octets were used, at most -/
def usd (S : List Int32) (r : PR) (i : Nat) : Nat := match r with
  | .inl _ => S.length - i
  | .inr z => z.2 - i
theorem prL_r {S : List Int32} {i f t i1 : Nat} {U : Term} (h : prL S i f t = .inr (U, i1)) : i < i1 ∧ i1 ≤ S.length := by
  unfold prL at h
  split at h
  · cases h
  · split at h
    · split at h
      · cases h
      · cases h; omega
    · cases h
theorem prK_r {S : List Int32} {rc : Nat → Nat → Nat → PR} (hrc : ∀ i f t U i1, rc i f t = .inr (U, i1) → i < i1 ∧ i1 ≤ S.length) {go : Bool} {i f t i1 : Nat} {U : Term} (h : prK S rc go i f t = .inr (U, i1)) : i + 4 < i1 ∧ i1 ≤ S.length := by
  unfold prK at h
  split at h
  · cases h
  · split at h
    · cases h
    · split at h
      · cases h
      · split at h
        · split at h
          · cases h
          next x j1 e1 =>
            split at h
            · cases h
            next y j2 e2 =>
              cases h
              have a1 := hrc _ _ _ _ _ e1
              have a2 := hrc _ _ _ _ _ e2
              omega
        · cases h
theorem prN_r {S : List Int32} {i f t i1 : Nat} {w : Bool} {fk : PR} {U : Term} (hf : ∀ U i1, fk = .inr (U, i1) → i < i1 ∧ i1 ≤ S.length) (h : prN S i f t w fk = .inr (U, i1)) : i < i1 ∧ i1 ≤ S.length := by
  unfold prN at h
  split at h
  · cases h
  · split at h
    · split at h
      · cases h
      · cases h; omega
    · split at h
      · exact hf _ _ h
      · split at h
        · exact prL_r h
        · split at h
          · cases h; omega
          · cases h
theorem prs_r {S : List Int32} : ∀ (g i f t : Nat) (w : Bool) (U : Term) (i1 : Nat), prs S g i f t w = .inr (U, i1) → i < i1 ∧ i1 ≤ S.length := by
  intro g
  induction g with
  | zero =>
    intro i f t w U i1 h
    refine prN_r (fun U i1 h2 => ?_) h
    have := prK_r (fun i f t U i1 h9 => by cases h9) h2
    omega
  | succ g ih =>
    intro i f t w U i1 h
    refine prN_r (fun U i1 h2 => ?_) h
    have := prK_r (fun i f t U i1 h9 => ih i f t false U i1 h9) h2
    omega
end
section
/-! the reader: single octets and numbers, leaves -/
section
variable {l : Launch} {D : va_G} {ca : Nat → ClassId} {ad : Nat → Nat} {N : Heap → Prop} {c0 c1 c2 c3 c4 c7 c8 : va_E} {S : List Int32} {to : Nat → Int32} {fa fp : Int32}
set_option maxRecDepth 100000 in
set_option maxHeartbeats 4000000 in
theorem kX6_refuse (hAD : AD ad 10) (hN : NS D N) {i : Nat} (x y : Int32) : Ct l yX6_refuse cX6_refuse 3 (some (.object "PathProofs$Node")) (rK 0 0 0) D ca ad (c0 :: c1 :: c2 :: c3 :: c4 :: .inr (6, [.ref 6, .int (nI S.length)]) :: .inl (0, 4000, .inl to) :: c7 :: c8 :: .inr (5, [.ref 5, .int (nI i), .int fa, .int fp]) :: []) 10 [.ref 9, .int x, .int y] N (fun r ws2 H => (r = some .null ∧ ws2 = (c0 :: c1 :: c2 :: c3 :: c4 :: .inr (6, [.ref 6, .int (nI S.length)]) :: .inl (0, 4000, .inl to) :: c7 :: c8 :: .inr (5, [.ref 5, .int (nI i), .int x, .int y]) :: [])) ∧ N H) := by
  refine enter (lv := [(0, .ref 9), (1, .int x), (2, .int y)]) (by decide +kernel) (Nat.le_of_ble_eq_true rfl) rfl hAD (fun U hK => ns_write hK hN) ?_
  intro p e s m below meth c A args hA C hr hlk hnm
  refine sg0 C foX6 coX6 oX6_refuse_0 rfl rfl rfl ?_
  exact rt_n C hr (Or.inl ⟨_, rfl⟩) hlk jX6_refuse_11 (fun H hN => ⟨⟨rfl, rfl⟩, hN⟩)
set_option maxRecDepth 100000 in
set_option maxHeartbeats 4000000 in
theorem kX6_lacks (hAD : AD ad 10) (hN : NS D N) {i j : Nat} (hlen : S.length ≤ 4000) (hi : i ≤ S.length) (hj : j ≤ 8) : Ct l yX6_lacks cX6_lacks 2 (some .boolean) (rK 1 0 0) D ca ad (c0 :: c1 :: c2 :: c3 :: c4 :: .inr (6, [.ref 6, .int (nI S.length)]) :: .inl (0, 4000, .inl to) :: c7 :: c8 :: .inr (5, [.ref 5, .int (nI i), .int fa, .int fp]) :: []) 10 [.ref 9, .int (nI j)] N (fun r ws2 H => ((S.length < i + j ∧ r = some (.int 1) ∧ ws2 = (c0 :: c1 :: c2 :: c3 :: c4 :: .inr (6, [.ref 6, .int (nI S.length)]) :: .inl (0, 4000, .inl to) :: c7 :: c8 :: .inr (5, [.ref 5, .int (nI i), .int 1, .int (nI S.length)]) :: [])) ∨ (i + j ≤ S.length ∧ r = some (.int 0) ∧ ws2 = (c0 :: c1 :: c2 :: c3 :: c4 :: .inr (6, [.ref 6, .int (nI S.length)]) :: .inl (0, 4000, .inl to) :: c7 :: c8 :: .inr (5, [.ref 5, .int (nI i), .int fa, .int fp]) :: []))) ∧ N H) := by
  refine enter (lv := [(0, .ref 9), (1, .int (nI j))]) (by decide +kernel) (Nat.le_of_ble_eq_true rfl) rfl hAD (fun U hK => ns_write hK hN) ?_
  intro p e s m below meth c A args hA C hr hlk hnm
  refine sg0 C foX6 coX6 oX6_lacks_0 rfl rfl rfl ?_
  rw [pk_sub hi]
  refine b2_lt (tgt := 18) C jX6_lacks_13 (by decide) (fun h13 => ?_) (fun h13 => ?_)
  · have hq : S.length < i + j := by have := (nI_ltI (by omega) (by omega)).mp h13; omega
    refine sg0 C foX6 coX6 oX6_lacks_18 rfl rfl rfl ?_
    refine cl_v C (kX6_refuse hAD hN 1 (nI S.length)) (rcv (ci := 5) C.2.1 rfl rfl) cd_X6_refuse in_X6 ml_X6_35 im_X6_refuse se_X6_refuse hd_X6_refuse rfl rfl ⟨(Nat.le_of_ble_eq_true rfl), (Nat.le_of_ble_eq_true rfl)⟩ ⟨(Nat.le_of_ble_eq_true rfl), (Nat.le_of_ble_eq_true rfl)⟩ (Nat.le_of_ble_eq_true rfl) jX6_lacks_27 (fun v ws' => Wa.and (fun hv => ?_))
    obtain ⟨rfl, rfl⟩ := hv
    refine sg0 C foX6 coX6 oX6_lacks_30 rfl rfl rfl ?_
    exact rt_z C hr hlk (by decide) jX6_lacks_32 (fun H hH => ⟨Or.inl ⟨hq, rfl, rfl⟩, hH⟩)
  · have hq : i + j ≤ S.length := by have := Nat.not_lt.mp (fun q => h13 ((nI_ltI (by omega) (by omega)).mpr q)); omega
    refine sg0 C foX6 coX6 oX6_lacks_16 rfl rfl rfl ?_
    exact rt_z C hr hlk (by decide) jX6_lacks_17 (fun H hH => ⟨Or.inr ⟨hq, rfl, rfl⟩, hH⟩)
end
section
variable {p : Program} {l : Launch} {e : Env} {R : Room} {s : State} {m : MethodId} {args : Array Value} {below : List Frame} {meth : Method} {c : Code} {cells slots : Nat} {QQ : State → Prop} {D : va_G} {ca : Nat → ClassId} {ad : Nat → Nat} {A : Nat → Prop} {N : Heap → Prop} {c0 c1 c2 c3 c4 c7 c8 : va_E} {S : List Int32} {to : Nat → Int32} {fa fp : Int32}
set_option maxRecDepth 100000 in
set_option maxHeartbeats 4000000 in
theorem lp_number (C : Cx p s m args c cX6_number 5 RX6 D ca ad A N 10) (hAD : AD ad 10) (hN : NS D N) (hS : tpR to S) (hlen : S.length ≤ 4000) {j : Nat} (hj : j ≤ 8) (hR : 1 ≤ R.frames ∧ 40 ≤ R.locals ∧ cells ≤ R.cells ∧ slots ≤ R.slots) : ∀ (mm k i : Nat) (a : Int64), k + mm = j → i + mm ≤ S.length → Wa p l e R s m args below meth c cells slots QQ D ca ad A 5 N ([(0, .ref 9), (1, .int (nI j)), (2, .long (nmF S mm i a)), (4, .int (nI j))], [], (c0 :: c1 :: c2 :: c3 :: c4 :: .inr (6, [.ref 6, .int (nI S.length)]) :: .inl (0, 4000, .inl to) :: c7 :: c8 :: .inr (5, [.ref 5, .int (nI (i + mm)), .int fa, .int fp]) :: [])) 60 → Wa p l e R s m args below meth c cells slots QQ D ca ad A 5 N ([(0, .ref 9), (1, .int (nI j)), (2, .long (a)), (4, .int (nI k))], [], (c0 :: c1 :: c2 :: c3 :: c4 :: .inr (6, [.ref 6, .int (nI S.length)]) :: .inl (0, 4000, .inl to) :: c7 :: c8 :: .inr (5, [.ref 5, .int (nI i), .int fa, .int fp]) :: [])) 5 := by
  obtain ⟨hR1, hR2, hR3, hR4⟩ := hR
  intro mm
  induction mm with
  | zero =>
    intro k i a hk hi hK
    have hkj : k = j := by omega
    subst hkj
    refine sg0 C foX6 coX6 oX6_number_5 rfl rfl rfl ?_
    exact b2_ge (tgt := 60) C jX6_number_8 (by decide) (fun _ => hK) (fun h8 => absurd (Int32.le_refl _) h8)
  | succ mm ih =>
    intro k i a hk hi hK
    have hcl : (nI i).toNatClampNeg = i := nI_clamp (by omega)
    have htl : to i = (S[i]?).getD 0 := by rw [hS i (by omega) (by omega)]; rfl
    simp only [nmF] at hK
    refine sg0 C foX6 coX6 oX6_number_5 rfl rfl rfl ?_
    refine b2_ge (tgt := 60) C jX6_number_8 (by decide) (fun h8 => ?_) (fun h8 => ?_)
    · exact absurd h8 (nI_ge (by omega) (by omega))
    · refine sg0 C foX6 coX6 oX6_number_11 rfl rfl rfl ?_
      refine cl_v C (kX7_has hAD hN (show 7 + ([c7, c8, .inr (5, [.ref 5, .int (nI i), .int fa, .int fp])] : List va_E).length = 10 from rfl) hlen (nI i)) (rcv (ci := 6) C.2.1 rfl rfl) cd_X7_has in_X7 ml_X6_81 im_X7_has se_X7_has hd_X7_has rfl rfl ⟨by omega, by show 8 + (2 + 11) + 40 * 0 ≤ R.locals; omega⟩ ⟨by show cells + 0 ≤ R.cells; omega, by show slots + 0 ≤ R.slots; omega⟩ (Nat.le_of_ble_eq_true rfl) jX6_number_19 (fun v ws' => Wa.and (fun hv => ?_))
      obtain ⟨rfl, rfl⟩ := hv
      rw [if_pos (show 0 ≤ (nI i).toInt ∧ (nI i).toInt < (S.length : Int) by rw [nI_toInt (by omega)]; omega)]
      refine b1_eq (tgt := 60) C jX6_number_22 (by decide) (fun h22 => ?_) (fun h22 => ?_)
      · exact absurd h22 (by decide)
      · refine sg C foX6 coX6 oX6_number_25 rfl rfl rfl ⟨vp_in_nI (by omega) (by decide), trivial⟩ ?_
        rw [nI_1 i, nI_1 k, hcl, htl]
        exact ih (k + 1) (i + 1) _ (by omega) (by omega) (by rw [show i + 1 + mm = i + (mm + 1) by omega]; exact hK)
end
section
variable {l : Launch} {D : va_G} {ca : Nat → ClassId} {ad : Nat → Nat} {N : Heap → Prop} {c0 c1 c2 c3 c4 c7 c8 : va_E} {S : List Int32} {to : Nat → Int32} {fa fp : Int32}
set_option maxRecDepth 100000 in
set_option maxHeartbeats 4000000 in
theorem kX6_number (hAD : AD ad 10) (hN : NS D N) {i j : Nat} (hS : tpR to S) (hlen : S.length ≤ 4000) (hj : j ≤ 8) (hi : i + j ≤ S.length) : Ct l yX6_number cX6_number 5 (some .long) (rK 1 0 0) D ca ad (c0 :: c1 :: c2 :: c3 :: c4 :: .inr (6, [.ref 6, .int (nI S.length)]) :: .inl (0, 4000, .inl to) :: c7 :: c8 :: .inr (5, [.ref 5, .int (nI i), .int fa, .int fp]) :: []) 10 [.ref 9, .int (nI j)] N (fun r ws2 H => (r = some (.long (nmF S j i 0)) ∧ ws2 = (c0 :: c1 :: c2 :: c3 :: c4 :: .inr (6, [.ref 6, .int (nI S.length)]) :: .inl (0, 4000, .inl to) :: c7 :: c8 :: .inr (5, [.ref 5, .int (nI (i + j)), .int fa, .int fp]) :: [])) ∧ N H) := by
  refine enter (lv := [(0, .ref 9), (1, .int (nI j))]) (by decide +kernel) (Nat.le_of_ble_eq_true rfl) rfl hAD (fun U hK => ns_write hK hN) ?_
  intro p e s m below meth c A args hA C hr hlk hnm
  refine sg0 C foX6 coX6 oX6_number_0 rfl rfl rfl ?_
  refine lp_number C hAD hN hS hlen hj ⟨(Nat.le_of_ble_eq_true rfl), (Nat.le_of_ble_eq_true rfl), (Nat.le_of_ble_eq_true rfl), (Nat.le_of_ble_eq_true rfl)⟩ j 0 i 0 (Nat.zero_add j) hi ?_
  refine sg0 C foX6 coX6 oX6_number_60 rfl rfl rfl ?_
  exact rt_l C hr hlk jX6_number_61 (fun H hH => ⟨⟨rfl, rfl⟩, hH⟩)
end
/-- what reading a node leaves: a fault, or a node and the place behind it -/
abbrev rdG (D : va_G) (N : Heap → Prop) (W9 : Nat → Int32 → Int32 → List va_E) (fa fp : Int32) (res : PR) : Option Value → List va_E → Heap → Prop := fun r ws2 H => (∃ a b i2, (res = .inl (a, b) ∧ r = some .null ∧ ws2 = W9 i2 (nI a) (nI b)) ∧ N H) ∨ ∃ T, (∃ U i1, res = .inr (U, i1) ∧ r = some (.ref (adr T + 100)) ∧ ws2 = W9 i1 fa fp ∧ strp T = U) ∧ N H ∧ nodeAt D H T
theorem Wa.or {p : Program} {l : Launch} {e : Env} {R : Room} {s : State} {m : MethodId} {args : Array Value} {below : List Frame} {meth : Method} {c : Code} {cells slots : Nat} {Q : State → Prop} {D : va_G} {ca : Nat → ClassId} {ad : Nat → Nat} {A : Nat → Prop} {nL : Nat} {N1 N2 : Heap → Prop} {S : AS} {pc : Nat} (h1 : Wa p l e R s m args below meth c cells slots Q D ca ad A nL N1 S pc) (h2 : Wa p l e R s m args below meth c cells slots Q D ca ad A nL N2 S pc) : Wa p l e R s m args below meth c cells slots Q D ca ad A nL (fun H => N1 H ∨ N2 H) S pc := fun H locs ls a1 a2 a3 a4 => a4.elim (h1 H locs ls a1 a2 a3) (h2 H locs ls a1 a2 a3)
section
variable {l : Launch} {D : va_G} {ca : Nat → ClassId} {ad : Nat → Nat} {N : Heap → Prop} {c0 c1 c2 c3 c4 c7 c8 : va_E} {S : List Int32} {to : Nat → Int32} {fa fp : Int32}
set_option maxRecDepth 100000 in
set_option maxHeartbeats 4000000 in
theorem kX6_readLeaf (hAD : AD ad 10) (hN : NS D N) {i f t : Nat} (hS : tpR to S) (hlen : S.length ≤ 4000) (hoc : ocOk S) (hww : ∀ (i : Nat) (fa fp : Int32), ((c0 :: c1 :: c2 :: c3 :: c4 :: .inr (6, [.ref 6, .int (nI S.length)]) :: .inl (0, 4000, .inl to) :: c7 :: c8 :: .inr (5, [.ref 5, .int (nI i), .int fa, .int fp]) :: []) : List va_E).all nno = true) (hi : i < S.length) (hf : f < 65536) (ht : t < 65536) : Ct l yX6_readLeaf cX6_readLeaf 4 (some (.object "PathProofs$Node")) (rK 3 (usd S (prL S i f t) i / 4) (5 * (usd S (prL S i f t) i / 4))) D ca ad (c0 :: c1 :: c2 :: c3 :: c4 :: .inr (6, [.ref 6, .int (nI S.length)]) :: .inl (0, 4000, .inl to) :: c7 :: c8 :: .inr (5, [.ref 5, .int (nI (i + 1)), .int fa, .int fp]) :: []) 10 [.ref 9, .int (nI f), .int (nI t)] N (rdG D N (fun i fa fp => (c0 :: c1 :: c2 :: c3 :: c4 :: .inr (6, [.ref 6, .int (nI S.length)]) :: .inl (0, 4000, .inl to) :: c7 :: c8 :: .inr (5, [.ref 5, .int (nI i), .int fa, .int fp]) :: [])) fa fp (prL S i f t)) := by
  refine enter (lv := [(0, .ref 9), (1, .int (nI f)), (2, .int (nI t))]) (by decide +kernel) (Nat.le_of_ble_eq_true rfl) rfl hAD (fun U hK => ns_write hK hN) ?_
  intro p e s m below meth c A args hA C hr hlk hnm
  refine sg0 C foX6 coX6 oX6_readLeaf_0 rfl rfl rfl ?_
  refine cl_v C (kX6_lacks hAD hN (i := i + 1) (j := 2) hlen (by omega) (by decide)) (rcv (ci := 5) C.2.1 rfl rfl) cd_X6_lacks in_X6 ml_X6_45 im_X6_lacks se_X6_lacks hd_X6_lacks rfl rfl ⟨(Nat.le_of_ble_eq_true rfl), (Nat.le_of_ble_eq_true rfl)⟩ ⟨by show 0 + 0 ≤ _; omega, by show 0 + 0 ≤ _; omega⟩ (Nat.le_of_ble_eq_true rfl) jX6_readLeaf_2 (fun v ws' => Wa.and (fun hv => ?_))
  rcases hv with ⟨hl2, rfl, rfl⟩ | ⟨hl2, rfl, rfl⟩
  · refine b1_eq (tgt := 10) C jX6_readLeaf_5 (by decide) (fun h5 => ?_) (fun h5 => ?_)
    · exact absurd h5 (by decide)
    · refine sg0 C foX6 coX6 oX6_readLeaf_8 rfl rfl rfl ?_
      refine Wa.wid (k1 := usd S (prL S i f t) i / 4) (k2 := 5 * (usd S (prL S i f t) i / 4)) (Nat.zero_le _) (Nat.zero_le _) ?_
      exact rt_n C hr (Or.inl ⟨_, rfl⟩) hlk jX6_readLeaf_9 (fun H hH => Or.inl ⟨1, S.length, i + 1, ⟨by unfold prL; rw [if_pos (by omega)], rfl, rfl⟩, hH⟩)
  · refine b1_eq (tgt := 10) C jX6_readLeaf_5 (by decide) (fun h5 => ?_) (fun h5 => ?_)
    · refine sg0 C foX6 coX6 oX6_readLeaf_10 rfl rfl rfl ?_
      refine cl_v C (kX6_number hAD hN (i := i + 1) (j := 2) hS hlen (by decide) hl2) (rcv (ci := 5) C.2.1 rfl rfl) cd_X6_number in_X6 ml_X6_49 im_X6_number se_X6_number hd_X6_number rfl rfl ⟨(Nat.le_of_ble_eq_true rfl), (Nat.le_of_ble_eq_true rfl)⟩ ⟨by show 0 + 0 ≤ _; omega, by show 0 + 0 ≤ _; omega⟩ (Nat.le_of_ble_eq_true rfl) jX6_readLeaf_12 (fun v ws' => Wa.and (fun hv => ?_))
      obtain ⟨rfl, rfl⟩ := hv
      have h1b := (oc_at hoc (show i + 1 < S.length by omega)).2
      have h2b := (oc_at hoc (show i + 2 < S.length by omega)).2
      have hnm : (nmF S 2 (i + 1) 0).toInt32 = nI (oc S (i + 1) * 256 + oc S (i + 2)) := nm2 hoc (by omega)
      refine sg0 C foX6 coX6 oX6_readLeaf_15 rfl rfl rfl ?_
      rw [hnm]
      refine b2_lt (tgt := 27) C jX6_readLeaf_19 (by decide) (fun h19 => ?_) (fun h19 => ?_)
      · have hq : (oc S (i + 1) * 256 + oc S (i + 2)) < f := (nI_ltI (by omega) (by omega)).mp h19
        refine sg0 C foX6 coX6 oX6_readLeaf_27 rfl rfl rfl ?_
        rw [show (2 : Int32) = nI 2 from rfl, pk_sub (show 2 ≤ i + 1 + 2 by omega), show i + 1 + 2 - 2 = i + 1 by omega]
        refine cl_v C (kX6_refuse hAD hN 5 (nI (i + 1))) (rcv (ci := 5) C.2.1 rfl rfl) cd_X6_refuse in_X6 ml_X6_35 im_X6_refuse se_X6_refuse hd_X6_refuse rfl rfl ⟨(Nat.le_of_ble_eq_true rfl), (Nat.le_of_ble_eq_true rfl)⟩ ⟨by show 0 + 0 ≤ _; omega, by show 0 + 0 ≤ _; omega⟩ (Nat.le_of_ble_eq_true rfl) jX6_readLeaf_35 (fun v ws' => Wa.and (fun hv => ?_))
        obtain ⟨rfl, rfl⟩ := hv
        refine Wa.wid (k1 := usd S (prL S i f t) i / 4) (k2 := 5 * (usd S (prL S i f t) i / 4)) (Nat.zero_le _) (Nat.zero_le _) ?_
        exact rt_n C hr (Or.inl ⟨_, rfl⟩) hlk jX6_readLeaf_38 (fun H hH => Or.inl ⟨5, i + 1, i + 3, ⟨by unfold prL; rw [if_neg (by omega), if_neg (by omega)], rfl, rfl⟩, hH⟩)
      · have hq : f ≤ (oc S (i + 1) * 256 + oc S (i + 2)) := Nat.not_lt.mp fun q => h19 ((nI_ltI (by omega) (by omega)).mpr q)
        refine sg0 C foX6 coX6 oX6_readLeaf_22 rfl rfl rfl ?_
        refine b2_le (tgt := 39) C jX6_readLeaf_24 (by decide) (fun h24 => ?_) (fun h24 => ?_)
        · have hq2 : (oc S (i + 1) * 256 + oc S (i + 2)) ≤ t := (nI_leI (by omega) (by omega)).mp h24
          refine sg0 C foX6 coX6 oX6_readLeaf_39 rfl rfl rfl ?_
          refine cl_v C (kX6_lacks hAD hN (i := i + 1 + 2) (j := 8) hlen (by omega) (by decide)) (rcv (ci := 5) C.2.1 rfl rfl) cd_X6_lacks in_X6 ml_X6_45 im_X6_lacks se_X6_lacks hd_X6_lacks rfl rfl ⟨(Nat.le_of_ble_eq_true rfl), (Nat.le_of_ble_eq_true rfl)⟩ ⟨by show 0 + 0 ≤ _; omega, by show 0 + 0 ≤ _; omega⟩ (Nat.le_of_ble_eq_true rfl) jX6_readLeaf_42 (fun v ws' => Wa.and (fun hv => ?_))
          rcases hv with ⟨hl42, rfl, rfl⟩ | ⟨hl42, rfl, rfl⟩
          · refine b1_eq (tgt := 52) C jX6_readLeaf_45 (by decide) (fun h45 => ?_) (fun h45 => ?_)
            · exact absurd h45 (by decide)
            · refine sg0 C foX6 coX6 oX6_readLeaf_48 rfl rfl rfl ?_
              refine Wa.wid (k1 := usd S (prL S i f t) i / 4) (k2 := 5 * (usd S (prL S i f t) i / 4)) (Nat.zero_le _) (Nat.zero_le _) ?_
              exact rt_n C hr (Or.inl ⟨_, rfl⟩) hlk jX6_readLeaf_66 (fun H hH => Or.inl ⟨1, S.length, i + 3, ⟨by unfold prL; rw [if_neg (by omega), if_pos (by omega), if_pos (by omega)], rfl, rfl⟩, hH⟩)
          · refine b1_eq (tgt := 52) C jX6_readLeaf_45 (by decide) (fun h45 => ?_) (fun h45 => ?_)
            · have hres : prL S i f t = .inr (tL 0 (oc S (i + 1) * 256 + oc S (i + 2)) (nmF S 8 (i + 3) 0), i + 11) := by unfold prL; rw [if_neg (by omega), if_pos (by omega), if_neg (by omega)]
              have hu : usd S (prL S i f t) i / 4 = 2 := by rw [hres]; show (i + 11 - i) / 4 = 2; omega
              refine nw (ci := 3) (fs := [.long 0, .int 0, .long 0]) C hN rfl (by decide) kl_X6_67 is_X3 in_X3 tyX3 tyX3_ok dfX3 ⟨by rw [hu]; decide, by rw [hu]; decide⟩ jX6_readLeaf_52 (fun H1 q1 hN_q1 hq1 => ?_)
              have C := C.to (N2 := BN D H1 q1 3 [.long 0, .int 0, .long 0]) BN.ns
              refine sg0 C foX6 coX6 oX6_readLeaf_55 rfl rfl rfl ?_
              refine cl_v C (kX6_number hAD BN.ns (i := i + 1 + 2) (j := 8) hS hlen (by decide) hl42) (rcv (ci := 5) C.2.1 rfl rfl) cd_X6_number in_X6 ml_X6_49 im_X6_number se_X6_number hd_X6_number rfl rfl ⟨(Nat.le_of_ble_eq_true rfl), (Nat.le_of_ble_eq_true rfl)⟩ ⟨by show 0 + 1 + 0 ≤ usd S (prL S i f t) i / 4; omega, by show 0 + 3 + 0 ≤ 5 * (usd S (prL S i f t) i / 4); omega⟩ (Nat.le_of_ble_eq_true rfl) jX6_readLeaf_60 (fun v ws' => Wa.and (fun hv => ?_))
              obtain ⟨rfl, rfl⟩ := hv
              refine cl_i C (kX3_init hAD rfl (hww _ _ _) (oc S (i + 1) * 256 + oc S (i + 2)) (nmF S 8 (i + 3) 0)) (C.2.2.2.2.2 _ hq1) cd_X3_init in_X3 ml_X6_69 im_X3_init rfl hd_X3_init rfl rfl ⟨(Nat.le_of_ble_eq_true rfl), (Nat.le_of_ble_eq_true rfl)⟩ ⟨by show 0 + 1 + 0 + 0 ≤ usd S (prL S i f t) i / 4; omega, by show 0 + 3 + 0 + 0 ≤ 5 * (usd S (prL S i f t) i / 4); omega⟩ (Nat.le_of_ble_eq_true rfl) jX6_readLeaf_63 (fun v ws' => Wa.and (fun hv => ?_))
              obtain ⟨rfl, rfl⟩ := hv
              have C := C.to (N2 := BN D H1 q1 3 [.long (leafF (oc S (i + 1) * 256 + oc S (i + 2)) (nmF S 8 (i + 3) 0)), .int (nI (oc S (i + 1) * 256 + oc S (i + 2))), .long (nmF S 8 (i + 3) 0)]) BN.ns
              refine Wa.wid (k1 := usd S (prL S i f t) i / 4) (k2 := 5 * (usd S (prL S i f t) i / 4)) (by rw [hu]; decide) (by rw [hu]; decide) ?_
              exact rt_a C hr (Or.inl ⟨_, rfl⟩) hlk jX6_readLeaf_66 (fun H hH => Or.inr ⟨tL q1 (oc S (i + 1) * 256 + oc S (i + 2)) (nmF S 8 (i + 3) 0), ⟨_, _, hres, rfl, rfl, rfl⟩, hN _ _ hN_q1 hH.2.1, hH.2.2⟩)
            · exact absurd rfl h45
        · have hq2 : t < (oc S (i + 1) * 256 + oc S (i + 2)) := Nat.not_le.mp fun q => h24 ((nI_leI (by omega) (by omega)).mpr q)
          refine sg0 C foX6 coX6 oX6_readLeaf_27 rfl rfl rfl ?_
          rw [show (2 : Int32) = nI 2 from rfl, pk_sub (show 2 ≤ i + 1 + 2 by omega), show i + 1 + 2 - 2 = i + 1 by omega]
          refine cl_v C (kX6_refuse hAD hN 5 (nI (i + 1))) (rcv (ci := 5) C.2.1 rfl rfl) cd_X6_refuse in_X6 ml_X6_35 im_X6_refuse se_X6_refuse hd_X6_refuse rfl rfl ⟨(Nat.le_of_ble_eq_true rfl), (Nat.le_of_ble_eq_true rfl)⟩ ⟨by show 0 + 0 ≤ _; omega, by show 0 + 0 ≤ _; omega⟩ (Nat.le_of_ble_eq_true rfl) jX6_readLeaf_35 (fun v ws' => Wa.and (fun hv => ?_))
          obtain ⟨rfl, rfl⟩ := hv
          refine Wa.wid (k1 := usd S (prL S i f t) i / 4) (k2 := 5 * (usd S (prL S i f t) i / 4)) (Nat.zero_le _) (Nat.zero_le _) ?_
          exact rt_n C hr (Or.inl ⟨_, rfl⟩) hlk jX6_readLeaf_38 (fun H hH => Or.inl ⟨5, i + 1, i + 3, ⟨by unfold prL; rw [if_neg (by omega), if_neg (by omega)], rfl, rfl⟩, hH⟩)
    · exact absurd rfl h5
end
end
section
/-! the reader: forks, nodes, the whole -/
section
variable {S : List Int32} {rc : Nat → Nat → Nat → PR} {go : Bool} {i f t : Nat}
theorem prK_u1 (hrc : ∀ i f t U i1, rc i f t = .inr (U, i1) → i < i1 ∧ i1 ≤ S.length) (h4 : i + 4 ≤ S.length) (hB : oc S (i + 1) ≤ 15) (hc : stm (oc S (i + 2) * 256 + oc S (i + 3)) (oc S (i + 1)) = oc S (i + 2) * 256 + oc S (i + 3) ∧ f ≤ oc S (i + 2) * 256 + oc S (i + 3) ∧ oc S (i + 2) * 256 + oc S (i + 3) + 2 ^ (16 - oc S (i + 1)) - 1 ≤ t ∧ go = true) : usd S (rc (i + 4) (oc S (i + 2) * 256 + oc S (i + 3)) (oc S (i + 2) * 256 + oc S (i + 3) + 2 ^ (15 - oc S (i + 1)) - 1)) (i + 4) + 4 ≤ usd S (prK S rc go i f t) i := by
  unfold prK
  rw [if_neg (by omega), if_neg (by omega), if_neg (by omega), if_pos hc]
  cases e1 : rc (i + 4) (oc S (i + 2) * 256 + oc S (i + 3)) (oc S (i + 2) * 256 + oc S (i + 3) + 2 ^ (15 - oc S (i + 1)) - 1) with
  | inl z => simp only [usd]; omega
  | inr z =>
    obtain ⟨x, i1⟩ := z
    have a1 := hrc _ _ _ _ _ e1
    simp only []
    cases e2 : rc i1 (oc S (i + 2) * 256 + oc S (i + 3) + 2 ^ (15 - oc S (i + 1))) (oc S (i + 2) * 256 + oc S (i + 3) + 2 ^ (16 - oc S (i + 1)) - 1) with
    | inl z => simp only [usd]; omega
    | inr z =>
      obtain ⟨y, i2⟩ := z
      have a2 := hrc _ _ _ _ _ e2
      simp only [usd]; omega
theorem prK_u2 (hrc : ∀ i f t U i1, rc i f t = .inr (U, i1) → i < i1 ∧ i1 ≤ S.length) (h4 : i + 4 ≤ S.length) (hB : oc S (i + 1) ≤ 15) (hc : stm (oc S (i + 2) * 256 + oc S (i + 3)) (oc S (i + 1)) = oc S (i + 2) * 256 + oc S (i + 3) ∧ f ≤ oc S (i + 2) * 256 + oc S (i + 3) ∧ oc S (i + 2) * 256 + oc S (i + 3) + 2 ^ (16 - oc S (i + 1)) - 1 ≤ t ∧ go = true) {x : Term} {i1 : Nat} (e1 : rc (i + 4) (oc S (i + 2) * 256 + oc S (i + 3)) (oc S (i + 2) * 256 + oc S (i + 3) + 2 ^ (15 - oc S (i + 1)) - 1) = .inr (x, i1)) : usd S (rc (i + 4) (oc S (i + 2) * 256 + oc S (i + 3)) (oc S (i + 2) * 256 + oc S (i + 3) + 2 ^ (15 - oc S (i + 1)) - 1)) (i + 4) + usd S (rc i1 (oc S (i + 2) * 256 + oc S (i + 3) + 2 ^ (15 - oc S (i + 1))) (oc S (i + 2) * 256 + oc S (i + 3) + 2 ^ (16 - oc S (i + 1)) - 1)) i1 + 4 ≤ usd S (prK S rc go i f t) i := by
  unfold prK
  rw [if_neg (by omega), if_neg (by omega), if_neg (by omega), if_pos hc, e1]
  have a1 := hrc _ _ _ _ _ e1
  simp only []
  cases e2 : rc i1 (oc S (i + 2) * 256 + oc S (i + 3) + 2 ^ (15 - oc S (i + 1))) (oc S (i + 2) * 256 + oc S (i + 3) + 2 ^ (16 - oc S (i + 1)) - 1) with
  | inl z => simp only [usd]; omega
  | inr z =>
    obtain ⟨y, i2⟩ := z
    have a2 := hrc _ _ _ _ _ e2
    simp only [usd]; omega
end
def rcg (S : List Int32) : Nat → (Nat → Nat → Nat → PR) × Bool
  | 0 => (fun _ _ _ => .inl (0, 0), false)
  | g + 1 => (fun i f t => prs S g i f t false, true)
theorem prs_eq (S : List Int32) (g i f t : Nat) (w : Bool) : prs S g i f t w = prN S i f t w (prK S (rcg S g).1 (rcg S g).2 i f t) := by cases g <;> rfl
theorem rcg_r {S : List Int32} (g : Nat) : ∀ i f t U i1, (rcg S g).1 i f t = .inr (U, i1) → i < i1 ∧ i1 ≤ S.length := by
  cases g with
  | zero => intro i f t U i1 h; cases h
  | succ g => intro i f t U i1 h; exact prs_r g i f t false U i1 h
section
variable {l : Launch} {D : va_G} {ca : Nat → ClassId} {ad : Nat → Nat} {N : Heap → Prop} {c0 c1 c2 c3 c4 c7 c8 : va_E} {S : List Int32} {to : Nat → Int32} {fa fp : Int32}
set_option maxRecDepth 100000 in
set_option maxHeartbeats 4000000 in
theorem kX6_readFork (hAD : AD ad 10) (hN : NS D N) {i f t d k : Nat} {rc : Nat → Nat → Nat → PR} {go : Bool} (hS : tpR to S) (hlen : S.length ≤ 4000) (hoc : ocOk S) (hww : ∀ (i : Nat) (fa fp : Int32), ((c0 :: c1 :: c2 :: c3 :: c4 :: .inr (6, [.ref 6, .int (nI S.length)]) :: .inl (0, 4000, .inl to) :: c7 :: c8 :: .inr (5, [.ref 5, .int (nI i), .int fa, .int fp]) :: []) : List va_E).all nno = true) (hi : i < S.length) (hf : f < 65536) (ht : t < 65536) (hk : 4 ≤ k) (hd : d ≤ 16) (hgo : go = true ↔ d < 16) (hrc : ∀ i f t U i1, rc i f t = .inr (U, i1) → i < i1 ∧ i1 ≤ S.length) (hrec : d < 16 → ∀ (N : Heap → Prop) (i f t : Nat), NS D N → i ≤ S.length → f < 65536 → t < 65536 → Ct l yX6_readNode cX6_readNode 4 (some (.object "PathProofs$Node")) (rK k (usd S (rc i f t) i / 4) (5 * (usd S (rc i f t) i / 4))) D ca ad (c0 :: c1 :: c2 :: c3 :: c4 :: .inr (6, [.ref 6, .int (nI S.length)]) :: .inl (0, 4000, .inl to) :: c7 :: c8 :: .inr (5, [.ref 5, .int (nI i), .int fa, .int fp]) :: []) 10 [.ref 9, .int (nI f), .int (nI t), .int (nI (d + 1))] N (rdG D N (fun i fa fp => (c0 :: c1 :: c2 :: c3 :: c4 :: .inr (6, [.ref 6, .int (nI S.length)]) :: .inl (0, 4000, .inl to) :: c7 :: c8 :: .inr (5, [.ref 5, .int (nI i), .int fa, .int fp]) :: [])) fa fp (rc i f t))) : Ct l yX6_readFork cX6_readFork 9 (some (.object "PathProofs$Node")) (rK (k + 1) (usd S (prK S rc go i f t) i / 4) (5 * (usd S (prK S rc go i f t) i / 4))) D ca ad (c0 :: c1 :: c2 :: c3 :: c4 :: .inr (6, [.ref 6, .int (nI S.length)]) :: .inl (0, 4000, .inl to) :: c7 :: c8 :: .inr (5, [.ref 5, .int (nI (i + 1)), .int fa, .int fp]) :: []) 10 [.ref 9, .int (nI f), .int (nI t), .int (nI d)] N (rdG D N (fun i fa fp => (c0 :: c1 :: c2 :: c3 :: c4 :: .inr (6, [.ref 6, .int (nI S.length)]) :: .inl (0, 4000, .inl to) :: c7 :: c8 :: .inr (5, [.ref 5, .int (nI i), .int fa, .int fp]) :: [])) fa fp (prK S rc go i f t)) := by
  refine enter (lv := [(0, .ref 9), (1, .int (nI f)), (2, .int (nI t)), (3, .int (nI d))]) (by decide +kernel) (Nat.le_of_ble_eq_true rfl) rfl hAD (fun U hK => ns_write hK hN) ?_
  intro p e s m below meth c A args hA C hr hlk hnm
  refine sg0 C foX6 coX6 oX6_readFork_0 rfl rfl rfl ?_
  refine cl_v C (kX6_lacks hAD hN (i := i + 1) (j := 1) hlen (by omega) (by decide)) (rcv (ci := 5) C.2.1 rfl rfl) cd_X6_lacks in_X6 ml_X6_45 im_X6_lacks se_X6_lacks hd_X6_lacks rfl rfl ⟨by show 1 + 1 ≤ k + 1; omega, by show 8 + (2 + 11) + 40 * (1) ≤ 40 * (k + 1); omega⟩ ⟨by show 0 + 0 ≤ usd S (prK S rc go i f t) i / 4; omega, by show 0 + 0 ≤ 5 * (usd S (prK S rc go i f t) i / 4); omega⟩ (Nat.le_of_ble_eq_true rfl) jX6_readFork_2 (fun v ws' => Wa.and (fun hv => ?_))
  rcases hv with ⟨hl2, rfl, rfl⟩ | ⟨hl2, rfl, rfl⟩
  · refine b1_eq (tgt := 10) C jX6_readFork_5 (by decide) (fun h5 => ?_) (fun h5 => ?_)
    · exact absurd h5 (by decide)
    · refine sg0 C foX6 coX6 oX6_readFork_8 rfl rfl rfl ?_
      refine Wa.wid (k1 := usd S (prK S rc go i f t) i / 4) (k2 := 5 * (usd S (prK S rc go i f t) i / 4)) (Nat.zero_le _) (Nat.zero_le _) ?_
      exact rt_n C hr (Or.inl ⟨_, rfl⟩) hlk jX6_readFork_9 (fun H hH => Or.inl ⟨1, S.length, i + 1, ⟨by unfold prK; rw [if_pos (by omega)], rfl, rfl⟩, hH⟩)
  · refine b1_eq (tgt := 10) C jX6_readFork_5 (by decide) (fun h5 => ?_) (fun h5 => ?_)
    · refine sg0 C foX6 coX6 oX6_readFork_10 rfl rfl rfl ?_
      refine cl_v C (kX6_number hAD hN (i := i + 1) (j := 1) hS hlen (by decide) hl2) (rcv (ci := 5) C.2.1 rfl rfl) cd_X6_number in_X6 ml_X6_49 im_X6_number se_X6_number hd_X6_number rfl rfl ⟨by show 1 + 1 ≤ k + 1; omega, by show 8 + (5 + 11) + 40 * (1) ≤ 40 * (k + 1); omega⟩ ⟨by show 0 + 0 ≤ usd S (prK S rc go i f t) i / 4; omega, by show 0 + 0 ≤ 5 * (usd S (prK S rc go i f t) i / 4); omega⟩ (Nat.le_of_ble_eq_true rfl) jX6_readFork_12 (fun v ws' => Wa.and (fun hv => ?_))
      obtain ⟨rfl, rfl⟩ := hv
      have h1b := (oc_at hoc (show i + 1 < S.length by omega)).2
      have hnm1 : (nmF S 1 (i + 1) 0).toInt32 = nI (oc S (i + 1)) := nm1 hoc (by omega)
      refine sg0 C foX6 coX6 oX6_readFork_15 rfl rfl rfl ?_
      rw [hnm1]
      refine b2_lt (tgt := 37) C jX6_readFork_22 (by decide) (fun h22 => ?_) (fun h22 => ?_)
      · have hB : oc S (i + 1) ≤ 15 := by have := (nI_ltI (by omega) (by decide)).mp (show nI (oc S (i + 1)) < nI 16 from h22); omega
        refine sg0 C foX6 coX6 oX6_readFork_37 rfl rfl rfl ?_
        refine cl_v C (kX6_lacks hAD hN (i := i + 1 + 1) (j := 2) hlen (by omega) (by decide)) (rcv (ci := 5) C.2.1 rfl rfl) cd_X6_lacks in_X6 ml_X6_45 im_X6_lacks se_X6_lacks hd_X6_lacks rfl rfl ⟨by show 1 + 1 ≤ k + 1; omega, by show 8 + (2 + 11) + 40 * (1) ≤ 40 * (k + 1); omega⟩ ⟨by show 0 + 0 ≤ usd S (prK S rc go i f t) i / 4; omega, by show 0 + 0 ≤ 5 * (usd S (prK S rc go i f t) i / 4); omega⟩ (Nat.le_of_ble_eq_true rfl) jX6_readFork_39 (fun v ws' => Wa.and (fun hv => ?_))
        rcases hv with ⟨hl39, rfl, rfl⟩ | ⟨hl39, rfl, rfl⟩
        · refine b1_eq (tgt := 47) C jX6_readFork_42 (by decide) (fun h42 => ?_) (fun h42 => ?_)
          · exact absurd h42 (by decide)
          · refine sg0 C foX6 coX6 oX6_readFork_45 rfl rfl rfl ?_
            refine Wa.wid (k1 := usd S (prK S rc go i f t) i / 4) (k2 := 5 * (usd S (prK S rc go i f t) i / 4)) (Nat.zero_le _) (Nat.zero_le _) ?_
            exact rt_n C hr (Or.inl ⟨_, rfl⟩) hlk jX6_readFork_46 (fun H hH => Or.inl ⟨1, S.length, i + 1 + 1, ⟨by unfold prK; rw [if_neg (by omega), if_neg (by omega), if_pos (by omega)], rfl, rfl⟩, hH⟩)
        · refine b1_eq (tgt := 47) C jX6_readFork_42 (by decide) (fun h42 => ?_) (fun h42 => ?_)
          · refine sg0 C foX6 coX6 oX6_readFork_47 rfl rfl rfl ?_
            refine cl_v C (kX6_number hAD hN (i := i + 1 + 1) (j := 2) hS hlen (by decide) hl39) (rcv (ci := 5) C.2.1 rfl rfl) cd_X6_number in_X6 ml_X6_49 im_X6_number se_X6_number hd_X6_number rfl rfl ⟨by show 1 + 1 ≤ k + 1; omega, by show 8 + (5 + 11) + 40 * (1) ≤ 40 * (k + 1); omega⟩ ⟨by show 0 + 0 ≤ usd S (prK S rc go i f t) i / 4; omega, by show 0 + 0 ≤ 5 * (usd S (prK S rc go i f t) i / 4); omega⟩ (Nat.le_of_ble_eq_true rfl) jX6_readFork_49 (fun v ws' => Wa.and (fun hv => ?_))
            obtain ⟨rfl, rfl⟩ := hv
            have h2b := (oc_at hoc (show i + 2 < S.length by omega)).2
            have h3b := (oc_at hoc (show i + 3 < S.length by omega)).2
            have hnm2 : (nmF S 2 (i + 1 + 1) 0).toInt32 = nI (oc S (i + 2) * 256 + oc S (i + 3)) := nm2 hoc (by omega)
            have hp1 := Nat.two_pow_pos (15 - oc S (i + 1))
            have hp3 : 2 ^ (16 - oc S (i + 1)) = 2 ^ (15 - oc S (i + 1)) * 2 := by rw [← Nat.pow_succ]; congr 1; omega
            have hp4 : 2 ^ (16 - oc S (i + 1)) ≤ 65536 := Nat.le_trans (Nat.pow_le_pow_right (n := 2) (j := 16) (by decide) (by omega)) (by decide)
            have hm2 : (2 : Int32) * nI (2 ^ (15 - oc S (i + 1))) = nI (2 ^ (16 - oc S (i + 1))) := by rw [show (2 : Int32) = nI 2 from rfl, pk_mul, hp3, Nat.mul_comm]
            refine sg0 C foX6 coX6 oX6_readFork_52 rfl rfl rfl ?_
            rw [hnm2, one_shl15 hB]
            refine cl_sn C (kX8_stemOf hAD rfl hN (P := (oc S (i + 2) * 256 + oc S (i + 3))) (B := oc S (i + 1)) (by omega) (by omega)) cd_X8_stemOf in_X8 (by decide) sm_X8_stemOf hd_X8_stemOf rfl rfl ⟨by show 0 + 1 ≤ k + 1; omega, by show 8 + (2 + 11) + 40 * (0) ≤ 40 * (k + 1); omega⟩ ⟨by show 0 + 0 ≤ usd S (prK S rc go i f t) i / 4; omega, by show 0 + 0 ≤ 5 * (usd S (prK S rc go i f t) i / 4); omega⟩ (Nat.le_of_ble_eq_true rfl) jX6_readFork_70 (fun v ws' => Wa.and (fun hv => ?_))
            obtain ⟨rfl, rfl⟩ := hv
            have hsl := stm_le (oc S (i + 2) * 256 + oc S (i + 3)) (oc S (i + 1))
            refine b2_ne (tgt := 101) C jX6_readFork_73 (by decide) (fun h73 => ?_) (fun h73 => ?_)
            · have hx : ¬ stm (oc S (i + 2) * 256 + oc S (i + 3)) (oc S (i + 1)) = (oc S (i + 2) * 256 + oc S (i + 3)) := fun e9 => h73 (by rw [e9])
              refine sg0 C foX6 coX6 oX6_readFork_101 rfl rfl rfl ?_
              rw [show (2 : Int32) = nI 2 from rfl, pk_sub (show 2 ≤ i + 1 + 1 + 2 by omega), show i + 1 + 1 + 2 - 2 = i + 2 by omega]
              refine cl_v C (kX6_refuse hAD hN 4 (nI (i + 2))) (rcv (ci := 5) C.2.1 rfl rfl) cd_X6_refuse in_X6 ml_X6_35 im_X6_refuse se_X6_refuse hd_X6_refuse rfl rfl ⟨by show 0 + 1 ≤ k + 1; omega, by show 8 + (3 + 11) + 40 * (0) ≤ 40 * (k + 1); omega⟩ ⟨by show 0 + 0 ≤ usd S (prK S rc go i f t) i / 4; omega, by show 0 + 0 ≤ 5 * (usd S (prK S rc go i f t) i / 4); omega⟩ (Nat.le_of_ble_eq_true rfl) jX6_readFork_109 (fun v ws' => Wa.and (fun hv => ?_))
              obtain ⟨rfl, rfl⟩ := hv
              refine Wa.wid (k1 := usd S (prK S rc go i f t) i / 4) (k2 := 5 * (usd S (prK S rc go i f t) i / 4)) (Nat.zero_le _) (Nat.zero_le _) ?_
              exact rt_n C hr (Or.inl ⟨_, rfl⟩) hlk jX6_readFork_112 (fun H hH => Or.inl ⟨4, i + 2, i + 1 + 1 + 2, ⟨by unfold prK; rw [if_neg (by omega), if_neg (by omega), if_neg (by omega), if_neg (fun e9 => hx e9.1)], rfl, rfl⟩, hH⟩)
            · have hx : stm (oc S (i + 2) * 256 + oc S (i + 3)) (oc S (i + 1)) = (oc S (i + 2) * 256 + oc S (i + 3)) := ((nI_eq (by omega) (by omega)).mp h73).symm
              refine sg0 C foX6 coX6 oX6_readFork_76 rfl rfl rfl ?_
              refine b2_lt (tgt := 101) C jX6_readFork_79 (by decide) (fun h79 => ?_) (fun h79 => ?_)
              · have hx2 : (oc S (i + 2) * 256 + oc S (i + 3)) < f := (nI_ltI (by omega) (by omega)).mp h79
                refine sg0 C foX6 coX6 oX6_readFork_101 rfl rfl rfl ?_
                rw [show (2 : Int32) = nI 2 from rfl, pk_sub (show 2 ≤ i + 1 + 1 + 2 by omega), show i + 1 + 1 + 2 - 2 = i + 2 by omega]
                refine cl_v C (kX6_refuse hAD hN 4 (nI (i + 2))) (rcv (ci := 5) C.2.1 rfl rfl) cd_X6_refuse in_X6 ml_X6_35 im_X6_refuse se_X6_refuse hd_X6_refuse rfl rfl ⟨by show 0 + 1 ≤ k + 1; omega, by show 8 + (3 + 11) + 40 * (0) ≤ 40 * (k + 1); omega⟩ ⟨by show 0 + 0 ≤ usd S (prK S rc go i f t) i / 4; omega, by show 0 + 0 ≤ 5 * (usd S (prK S rc go i f t) i / 4); omega⟩ (Nat.le_of_ble_eq_true rfl) jX6_readFork_109 (fun v ws' => Wa.and (fun hv => ?_))
                obtain ⟨rfl, rfl⟩ := hv
                refine Wa.wid (k1 := usd S (prK S rc go i f t) i / 4) (k2 := 5 * (usd S (prK S rc go i f t) i / 4)) (Nat.zero_le _) (Nat.zero_le _) ?_
                exact rt_n C hr (Or.inl ⟨_, rfl⟩) hlk jX6_readFork_112 (fun H hH => Or.inl ⟨4, i + 2, i + 1 + 1 + 2, ⟨by unfold prK; rw [if_neg (by omega), if_neg (by omega), if_neg (by omega), if_neg (fun e9 => absurd e9.2.1 (by omega))], rfl, rfl⟩, hH⟩)
              · have hx2 : f ≤ (oc S (i + 2) * 256 + oc S (i + 3)) := Nat.not_lt.mp fun q => h79 ((nI_ltI (by omega) (by omega)).mpr q)
                refine sg0 C foX6 coX6 oX6_readFork_82 rfl rfl rfl ?_
                rw [hm2, nI_add, show (1 : Int32) = nI 1 from rfl, pk_sub (show 1 ≤ (oc S (i + 2) * 256 + oc S (i + 3)) + 2 ^ (16 - oc S (i + 1)) by omega)]
                refine b2_gt (tgt := 101) C jX6_readFork_92 (by decide) (fun h92 => ?_) (fun h92 => ?_)
                · have hx3 : t < ((oc S (i + 2) * 256 + oc S (i + 3)) + 2 ^ (16 - oc S (i + 1)) - 1) := (nI_ltI (by omega) (by omega)).mp h92
                  refine sg0 C foX6 coX6 oX6_readFork_101 rfl rfl rfl ?_
                  rw [show (2 : Int32) = nI 2 from rfl, pk_sub (show 2 ≤ i + 1 + 1 + 2 by omega), show i + 1 + 1 + 2 - 2 = i + 2 by omega]
                  refine cl_v C (kX6_refuse hAD hN 4 (nI (i + 2))) (rcv (ci := 5) C.2.1 rfl rfl) cd_X6_refuse in_X6 ml_X6_35 im_X6_refuse se_X6_refuse hd_X6_refuse rfl rfl ⟨by show 0 + 1 ≤ k + 1; omega, by show 8 + (3 + 11) + 40 * (0) ≤ 40 * (k + 1); omega⟩ ⟨by show 0 + 0 ≤ usd S (prK S rc go i f t) i / 4; omega, by show 0 + 0 ≤ 5 * (usd S (prK S rc go i f t) i / 4); omega⟩ (Nat.le_of_ble_eq_true rfl) jX6_readFork_109 (fun v ws' => Wa.and (fun hv => ?_))
                  obtain ⟨rfl, rfl⟩ := hv
                  refine Wa.wid (k1 := usd S (prK S rc go i f t) i / 4) (k2 := 5 * (usd S (prK S rc go i f t) i / 4)) (Nat.zero_le _) (Nat.zero_le _) ?_
                  exact rt_n C hr (Or.inl ⟨_, rfl⟩) hlk jX6_readFork_112 (fun H hH => Or.inl ⟨4, i + 2, i + 1 + 1 + 2, ⟨by unfold prK; rw [if_neg (by omega), if_neg (by omega), if_neg (by omega), if_neg (fun e9 => absurd e9.2.2.1 (by omega))], rfl, rfl⟩, hH⟩)
                · have hx3 : ((oc S (i + 2) * 256 + oc S (i + 3)) + 2 ^ (16 - oc S (i + 1)) - 1) ≤ t := Nat.not_lt.mp fun q => h92 ((nI_ltI (by omega) (by omega)).mpr q)
                  refine sg0 C foX6 coX6 oX6_readFork_95 rfl rfl rfl ?_
                  refine b2_lt (tgt := 113) C jX6_readFork_98 (by decide) (fun h98 => ?_) (fun h98 => ?_)
                  · have hx4 : d < 16 := (nI_ltI (by omega) (by decide)).mp (show nI d < nI 16 from h98)
                    have hc := And.intro hx (And.intro hx2 (And.intro hx3 (hgo.mpr hx4)))
                    have hu1 := prK_u1 (S := S) (rc := rc) (go := go) (f := f) (t := t) hrc (by omega) hB hc
                    refine sg0 C foX6 coX6 oX6_readFork_113 rfl rfl rfl ?_
                    rw [nI_add, show (1 : Int32) = nI 1 from rfl, pk_sub (show 1 ≤ ((oc S (i + 2) * 256 + oc S (i + 3)) + 2 ^ (15 - oc S (i + 1))) by omega), nI_add d 1]
                    refine cl_v C (hrec hx4 N (i + 4) (oc S (i + 2) * 256 + oc S (i + 3)) ((oc S (i + 2) * 256 + oc S (i + 3)) + 2 ^ (15 - oc S (i + 1)) - 1) hN (by omega) (by omega) (by omega)) (rcv (ci := 5) C.2.1 rfl rfl) cd_X6_readNode in_X6 ml_X6_26 im_X6_readNode se_X6_readNode hd_X6_readNode rfl rfl ⟨by show k + 1 ≤ k + 1; omega, by show 8 + (4 + 11) + 40 * (k) ≤ 40 * (k + 1); omega⟩ ⟨by show 0 + usd S (rc (i + 4) (oc S (i + 2) * 256 + oc S (i + 3)) ((oc S (i + 2) * 256 + oc S (i + 3)) + 2 ^ (15 - oc S (i + 1)) - 1)) (i + 4) / 4 ≤ usd S (prK S rc go i f t) i / 4; omega, by show 0 + 5 * (usd S (rc (i + 4) (oc S (i + 2) * 256 + oc S (i + 3)) ((oc S (i + 2) * 256 + oc S (i + 3)) + 2 ^ (15 - oc S (i + 1)) - 1)) (i + 4) / 4) ≤ 5 * (usd S (prK S rc go i f t) i / 4); omega⟩ (Nat.le_of_ble_eq_true rfl) jX6_readFork_126 (fun v ws' => Wa.or (Wa.ex (fun ca1 => Wa.ex (fun cb1 => Wa.ex (fun ci1 => Wa.and (fun hv => ?_))))) (Wa.ex (fun T1 => Wa.and (fun hv => ?_))))
                    skip
                    · obtain ⟨e1, rfl, rfl⟩ := hv
                      refine sg0 C foX6 coX6 oX6_readFork_129 rfl rfl rfl ?_
                      refine bnn_n C jX6_readFork_133 ?_
                      refine sg0 C foX6 coX6 oX6_readFork_136 rfl rfl rfl ?_
                      refine Wa.wid (k1 := usd S (prK S rc go i f t) i / 4) (k2 := 5 * (usd S (prK S rc go i f t) i / 4)) (by show 0 + usd S (rc (i + 4) (oc S (i + 2) * 256 + oc S (i + 3)) ((oc S (i + 2) * 256 + oc S (i + 3)) + 2 ^ (15 - oc S (i + 1)) - 1)) (i + 4) / 4 ≤ _; omega) (by show 0 + 5 * (usd S (rc (i + 4) (oc S (i + 2) * 256 + oc S (i + 3)) ((oc S (i + 2) * 256 + oc S (i + 3)) + 2 ^ (15 - oc S (i + 1)) - 1)) (i + 4) / 4) ≤ _; omega) ?_
                      exact rt_n C hr (Or.inl ⟨_, rfl⟩) hlk jX6_readFork_137 (fun H hH => Or.inl ⟨ca1, cb1, ci1, ⟨by unfold prK; rw [if_neg (by omega), if_neg (by omega), if_neg (by omega), if_pos hc, e1], rfl, rfl⟩, hH⟩)
                    · obtain ⟨U1, i1, e1, rfl, rfl, hs1⟩ := hv
                      have hN1 := hN.and (nodeAt.ns (D := D) T1)
                      have C := C.to (N2 := fun H => N H ∧ nodeAt D H T1) hN1
                      have hi1 := hrc _ _ _ _ _ e1
                      have hu2 := prK_u2 (S := S) (rc := rc) (go := go) (f := f) (t := t) hrc (by omega) hB hc e1
                      refine sg0 C foX6 coX6 oX6_readFork_129 rfl rfl rfl ?_
                      refine bnn_r (tgt := 138) C jX6_readFork_133 (by decide) ?_
                      refine sg0 C foX6 coX6 oX6_readFork_138 rfl rfl rfl ?_
                      rw [hm2, nI_add, nI_add, show (1 : Int32) = nI 1 from rfl, pk_sub (show 1 ≤ (oc S (i + 2) * 256 + oc S (i + 3)) + 2 ^ (16 - oc S (i + 1)) by omega), nI_add d 1]
                      refine cl_v C (hrec hx4 _ i1 ((oc S (i + 2) * 256 + oc S (i + 3)) + 2 ^ (15 - oc S (i + 1))) ((oc S (i + 2) * 256 + oc S (i + 3)) + 2 ^ (16 - oc S (i + 1)) - 1) hN1 (by omega) (by omega) (by omega)) (rcv (ci := 5) C.2.1 rfl rfl) cd_X6_readNode in_X6 ml_X6_26 im_X6_readNode se_X6_readNode hd_X6_readNode rfl rfl ⟨by show k + 1 ≤ k + 1; omega, by show 8 + (4 + 11) + 40 * (k) ≤ 40 * (k + 1); omega⟩ ⟨by show 0 + usd S (rc (i + 4) (oc S (i + 2) * 256 + oc S (i + 3)) ((oc S (i + 2) * 256 + oc S (i + 3)) + 2 ^ (15 - oc S (i + 1)) - 1)) (i + 4) / 4 + usd S (rc i1 ((oc S (i + 2) * 256 + oc S (i + 3)) + 2 ^ (15 - oc S (i + 1))) ((oc S (i + 2) * 256 + oc S (i + 3)) + 2 ^ (16 - oc S (i + 1)) - 1)) i1 / 4 ≤ usd S (prK S rc go i f t) i / 4; omega, by show 0 + 5 * (usd S (rc (i + 4) (oc S (i + 2) * 256 + oc S (i + 3)) ((oc S (i + 2) * 256 + oc S (i + 3)) + 2 ^ (15 - oc S (i + 1)) - 1)) (i + 4) / 4) + 5 * (usd S (rc i1 ((oc S (i + 2) * 256 + oc S (i + 3)) + 2 ^ (15 - oc S (i + 1))) ((oc S (i + 2) * 256 + oc S (i + 3)) + 2 ^ (16 - oc S (i + 1)) - 1)) i1 / 4) ≤ 5 * (usd S (prK S rc go i f t) i / 4); omega⟩ (Nat.le_of_ble_eq_true rfl) jX6_readFork_156 (fun v ws' => Wa.or (Wa.ex (fun ca1 => Wa.ex (fun cb1 => Wa.ex (fun ci1 => Wa.and (fun hv => ?_))))) (Wa.ex (fun T2 => Wa.and (fun hv => ?_))))
                      skip
                      · obtain ⟨e2, rfl, rfl⟩ := hv
                        refine sg0 C foX6 coX6 oX6_readFork_159 rfl rfl rfl ?_
                        refine bnn_n C jX6_readFork_163 ?_
                        refine sg0 C foX6 coX6 oX6_readFork_166 rfl rfl rfl ?_
                        refine Wa.wid (k1 := usd S (prK S rc go i f t) i / 4) (k2 := 5 * (usd S (prK S rc go i f t) i / 4)) (by show 0 + usd S (rc (i + 4) (oc S (i + 2) * 256 + oc S (i + 3)) ((oc S (i + 2) * 256 + oc S (i + 3)) + 2 ^ (15 - oc S (i + 1)) - 1)) (i + 4) / 4 + usd S (rc i1 ((oc S (i + 2) * 256 + oc S (i + 3)) + 2 ^ (15 - oc S (i + 1))) ((oc S (i + 2) * 256 + oc S (i + 3)) + 2 ^ (16 - oc S (i + 1)) - 1)) i1 / 4 ≤ _; omega) (by show 0 + 5 * (usd S (rc (i + 4) (oc S (i + 2) * 256 + oc S (i + 3)) ((oc S (i + 2) * 256 + oc S (i + 3)) + 2 ^ (15 - oc S (i + 1)) - 1)) (i + 4) / 4) + 5 * (usd S (rc i1 ((oc S (i + 2) * 256 + oc S (i + 3)) + 2 ^ (15 - oc S (i + 1))) ((oc S (i + 2) * 256 + oc S (i + 3)) + 2 ^ (16 - oc S (i + 1)) - 1)) i1 / 4) ≤ _; omega) ?_
                        exact rt_n C hr (Or.inl ⟨_, rfl⟩) hlk jX6_readFork_185 (fun H hH => Or.inl ⟨ca1, cb1, ci1, ⟨by unfold prK; rw [if_neg (by omega), if_neg (by omega), if_neg (by omega), if_pos hc, e1]; simp only [e2], rfl, rfl⟩, hH.1⟩)
                      · obtain ⟨U2, i2, e2, rfl, rfl, hs2⟩ := hv
                        have hN2 := hN1.and (nodeAt.ns (D := D) T2)
                        have C := C.to (N2 := fun H => (N H ∧ nodeAt D H T1) ∧ nodeAt D H T2) hN2
                        have hi2 := hrc _ _ _ _ _ e2
                        refine sg0 C foX6 coX6 oX6_readFork_159 rfl rfl rfl ?_
                        refine bnn_r (tgt := 170) C jX6_readFork_163 (by decide) ?_
                        refine nw (ci := 1) (fs := [.long 0, .int 0, .int 0, .null, .null]) C hN2 rfl (by decide) kl_X6_76 is_X1 in_X1 tyX1 tyX1_ok dfX1 ⟨by show 0 + usd S (rc (i + 4) (oc S (i + 2) * 256 + oc S (i + 3)) ((oc S (i + 2) * 256 + oc S (i + 3)) + 2 ^ (15 - oc S (i + 1)) - 1)) (i + 4) / 4 + usd S (rc i1 ((oc S (i + 2) * 256 + oc S (i + 3)) + 2 ^ (15 - oc S (i + 1))) ((oc S (i + 2) * 256 + oc S (i + 3)) + 2 ^ (16 - oc S (i + 1)) - 1)) i1 / 4 + 1 ≤ usd S (prK S rc go i f t) i / 4; omega, by show 0 + 5 * (usd S (rc (i + 4) (oc S (i + 2) * 256 + oc S (i + 3)) ((oc S (i + 2) * 256 + oc S (i + 3)) + 2 ^ (15 - oc S (i + 1)) - 1)) (i + 4) / 4) + 5 * (usd S (rc i1 ((oc S (i + 2) * 256 + oc S (i + 3)) + 2 ^ (15 - oc S (i + 1))) ((oc S (i + 2) * 256 + oc S (i + 3)) + 2 ^ (16 - oc S (i + 1)) - 1)) i1 / 4) + 5 ≤ 5 * (usd S (prK S rc go i f t) i / 4); omega⟩ jX6_readFork_170 (fun H1 q1 hN_q1 hq1 => ?_)
                        have C := C.to (N2 := BN D H1 q1 1 [.long 0, .int 0, .int 0, .null, .null]) BN.ns
                        refine sg0 C foX6 coX6 oX6_readFork_173 rfl rfl rfl ?_
                        refine cl_i C (kX1_init hAD rfl (hww _ _ _) (oc S (i + 1)) (oc S (i + 2) * 256 + oc S (i + 3)) hN_q1.1.2 hN_q1.2) (C.2.2.2.2.2 _ hq1) cd_X1_init in_X1 ml_X6_78 im_X1_init rfl hd_X1_init rfl rfl ⟨by show 2 + 1 ≤ k + 1; omega, by show 8 + (5 + 11) + 40 * (2) ≤ 40 * (k + 1); omega⟩ ⟨by show 0 + usd S (rc (i + 4) (oc S (i + 2) * 256 + oc S (i + 3)) ((oc S (i + 2) * 256 + oc S (i + 3)) + 2 ^ (15 - oc S (i + 1)) - 1)) (i + 4) / 4 + usd S (rc i1 ((oc S (i + 2) * 256 + oc S (i + 3)) + 2 ^ (15 - oc S (i + 1))) ((oc S (i + 2) * 256 + oc S (i + 3)) + 2 ^ (16 - oc S (i + 1)) - 1)) i1 / 4 + 1 + 0 ≤ usd S (prK S rc go i f t) i / 4; omega, by show 0 + 5 * (usd S (rc (i + 4) (oc S (i + 2) * 256 + oc S (i + 3)) ((oc S (i + 2) * 256 + oc S (i + 3)) + 2 ^ (15 - oc S (i + 1)) - 1)) (i + 4) / 4) + 5 * (usd S (rc i1 ((oc S (i + 2) * 256 + oc S (i + 3)) + 2 ^ (15 - oc S (i + 1))) ((oc S (i + 2) * 256 + oc S (i + 3)) + 2 ^ (16 - oc S (i + 1)) - 1)) i1 / 4) + 5 + 0 ≤ 5 * (usd S (prK S rc go i f t) i / 4); omega⟩ (Nat.le_of_ble_eq_true rfl) jX6_readFork_182 (fun v ws' => Wa.and (fun hv => ?_))
                        obtain ⟨rfl, rfl⟩ := hv
                        have C := C.to (N2 := BN D H1 q1 1 [.long (forkF (oc S (i + 1)) (oc S (i + 2) * 256 + oc S (i + 3)) (dig T1) (dig T2)), .int (nI (oc S (i + 1))), .int (nI (oc S (i + 2) * 256 + oc S (i + 3))), .ref (adr T1), .ref (adr T2)]) BN.ns
                        refine Wa.wid (k1 := usd S (prK S rc go i f t) i / 4) (k2 := 5 * (usd S (prK S rc go i f t) i / 4)) (by show 0 + usd S (rc (i + 4) (oc S (i + 2) * 256 + oc S (i + 3)) ((oc S (i + 2) * 256 + oc S (i + 3)) + 2 ^ (15 - oc S (i + 1)) - 1)) (i + 4) / 4 + usd S (rc i1 ((oc S (i + 2) * 256 + oc S (i + 3)) + 2 ^ (15 - oc S (i + 1))) ((oc S (i + 2) * 256 + oc S (i + 3)) + 2 ^ (16 - oc S (i + 1)) - 1)) i1 / 4 + 1 + 0 ≤ _; omega) (by show 0 + 5 * (usd S (rc (i + 4) (oc S (i + 2) * 256 + oc S (i + 3)) ((oc S (i + 2) * 256 + oc S (i + 3)) + 2 ^ (15 - oc S (i + 1)) - 1)) (i + 4) / 4) + 5 * (usd S (rc i1 ((oc S (i + 2) * 256 + oc S (i + 3)) + 2 ^ (15 - oc S (i + 1))) ((oc S (i + 2) * 256 + oc S (i + 3)) + 2 ^ (16 - oc S (i + 1)) - 1)) i1 / 4) + 5 + 0 ≤ _; omega) ?_
                        exact rt_a C hr (Or.inl ⟨_, rfl⟩) hlk jX6_readFork_185 (fun H hH => Or.inr ⟨tF q1 (oc S (i + 1)) (oc S (i + 2) * 256 + oc S (i + 3)) T1 T2, ⟨tF 0 (oc S (i + 1)) (oc S (i + 2) * 256 + oc S (i + 3)) U1 U2, i2, by unfold prK; rw [if_neg (by omega), if_neg (by omega), if_neg (by omega), if_pos hc, e1]; simp only [e2], rfl, rfl, by simp only [strp, hs1, hs2]⟩, hN _ _ hN_q1.1.1 hH.2.1, hH.2.2, nodeAt.ns T1 _ _ hN_q1.1.2 hH.2.1, nodeAt.ns T2 _ _ hN_q1.2 hH.2.1⟩)
                  · have hx4 : ¬ d < 16 := fun q => h98 (show nI d < nI 16 from nI_lt q (by decide))
                    refine sg0 C foX6 coX6 oX6_readFork_101 rfl rfl rfl ?_
                    rw [show (2 : Int32) = nI 2 from rfl, pk_sub (show 2 ≤ i + 1 + 1 + 2 by omega), show i + 1 + 1 + 2 - 2 = i + 2 by omega]
                    refine cl_v C (kX6_refuse hAD hN 4 (nI (i + 2))) (rcv (ci := 5) C.2.1 rfl rfl) cd_X6_refuse in_X6 ml_X6_35 im_X6_refuse se_X6_refuse hd_X6_refuse rfl rfl ⟨by show 0 + 1 ≤ k + 1; omega, by show 8 + (3 + 11) + 40 * (0) ≤ 40 * (k + 1); omega⟩ ⟨by show 0 + 0 ≤ usd S (prK S rc go i f t) i / 4; omega, by show 0 + 0 ≤ 5 * (usd S (prK S rc go i f t) i / 4); omega⟩ (Nat.le_of_ble_eq_true rfl) jX6_readFork_109 (fun v ws' => Wa.and (fun hv => ?_))
                    obtain ⟨rfl, rfl⟩ := hv
                    refine Wa.wid (k1 := usd S (prK S rc go i f t) i / 4) (k2 := 5 * (usd S (prK S rc go i f t) i / 4)) (Nat.zero_le _) (Nat.zero_le _) ?_
                    exact rt_n C hr (Or.inl ⟨_, rfl⟩) hlk jX6_readFork_112 (fun H hH => Or.inl ⟨4, i + 2, i + 1 + 1 + 2, ⟨by unfold prK; rw [if_neg (by omega), if_neg (by omega), if_neg (by omega), if_neg (fun e9 => hx4 (hgo.mp e9.2.2.2))], rfl, rfl⟩, hH⟩)
          · exact absurd rfl h42
      · have hB : 16 ≤ oc S (i + 1) := Nat.not_lt.mp fun q9 => h22 (show nI (oc S (i + 1)) < nI 16 from nI_lt q9 (by decide))
        refine sg0 C foX6 coX6 oX6_readFork_25 rfl rfl rfl ?_
        rw [show (1 : Int32) = nI 1 from rfl, pk_sub (show 1 ≤ i + 1 + 1 by omega), show i + 1 + 1 - 1 = i + 1 by omega]
        refine cl_v C (kX6_refuse hAD hN 3 (nI (i + 1))) (rcv (ci := 5) C.2.1 rfl rfl) cd_X6_refuse in_X6 ml_X6_35 im_X6_refuse se_X6_refuse hd_X6_refuse rfl rfl ⟨by show 0 + 1 ≤ k + 1; omega, by show 8 + (3 + 11) + 40 * (0) ≤ 40 * (k + 1); omega⟩ ⟨by show 0 + 0 ≤ usd S (prK S rc go i f t) i / 4; omega, by show 0 + 0 ≤ 5 * (usd S (prK S rc go i f t) i / 4); omega⟩ (Nat.le_of_ble_eq_true rfl) jX6_readFork_33 (fun v ws' => Wa.and (fun hv => ?_))
        obtain ⟨rfl, rfl⟩ := hv
        refine Wa.wid (k1 := usd S (prK S rc go i f t) i / 4) (k2 := 5 * (usd S (prK S rc go i f t) i / 4)) (Nat.zero_le _) (Nat.zero_le _) ?_
        exact rt_n C hr (Or.inl ⟨_, rfl⟩) hlk jX6_readFork_36 (fun H hH => Or.inl ⟨3, i + 1, i + 2, ⟨by unfold prK; rw [if_neg (by omega), if_pos hB], rfl, rfl⟩, hH⟩)
    · exact absurd rfl h5
end
section
variable {l : Launch} {D : va_G} {ca : Nat → ClassId} {ad : Nat → Nat} {N : Heap → Prop} {c0 c1 c2 c3 c4 c7 c8 : va_E} {S : List Int32} {to : Nat → Int32} {fa fp : Int32}
set_option maxRecDepth 100000 in
set_option maxHeartbeats 4000000 in
theorem kX6_node1 (hAD : AD ad 10) (hN : NS D N) {i f t d g : Nat} {w : Bool} (hS : tpR to S) (hlen : S.length ≤ 4000) (hoc : ocOk S) (hww : ∀ (i : Nat) (fa fp : Int32), ((c0 :: c1 :: c2 :: c3 :: c4 :: .inr (6, [.ref 6, .int (nI S.length)]) :: .inl (0, 4000, .inl to) :: c7 :: c8 :: .inr (5, [.ref 5, .int (nI i), .int fa, .int fp]) :: []) : List va_E).all nno = true) (hi : i ≤ S.length) (hf : f < 65536) (ht : t < 65536) (hd : d + g = 16) (hw : w = true ↔ d = 0) (hfork : ∀ {N : Heap → Prop} {i f t : Nat}, NS D N → i < S.length → f < 65536 → t < 65536 → Ct l yX6_readFork cX6_readFork 9 (some (.object "PathProofs$Node")) (rK (2 * g + 5) (usd S (prK S (rcg S g).1 (rcg S g).2 i f t) i / 4) (5 * (usd S (prK S (rcg S g).1 (rcg S g).2 i f t) i / 4))) D ca ad (c0 :: c1 :: c2 :: c3 :: c4 :: .inr (6, [.ref 6, .int (nI S.length)]) :: .inl (0, 4000, .inl to) :: c7 :: c8 :: .inr (5, [.ref 5, .int (nI (i + 1)), .int fa, .int fp]) :: []) 10 [.ref 9, .int (nI f), .int (nI t), .int (nI d)] N (rdG D N (fun i fa fp => (c0 :: c1 :: c2 :: c3 :: c4 :: .inr (6, [.ref 6, .int (nI S.length)]) :: .inl (0, 4000, .inl to) :: c7 :: c8 :: .inr (5, [.ref 5, .int (nI i), .int fa, .int fp]) :: [])) fa fp (prK S (rcg S g).1 (rcg S g).2 i f t))) : Ct l yX6_readNode cX6_readNode 4 (some (.object "PathProofs$Node")) (rK (2 * g + 6) (usd S (prs S g i f t w) i / 4 + (if w = true then 1 else 0)) (5 * (usd S (prs S g i f t w) i / 4 + (if w = true then 1 else 0)))) D ca ad (c0 :: c1 :: c2 :: c3 :: c4 :: .inr (6, [.ref 6, .int (nI S.length)]) :: .inl (0, 4000, .inl to) :: c7 :: c8 :: .inr (5, [.ref 5, .int (nI i), .int fa, .int fp]) :: []) 10 [.ref 9, .int (nI f), .int (nI t), .int (nI d)] N (rdG D N (fun i fa fp => (c0 :: c1 :: c2 :: c3 :: c4 :: .inr (6, [.ref 6, .int (nI S.length)]) :: .inl (0, 4000, .inl to) :: c7 :: c8 :: .inr (5, [.ref 5, .int (nI i), .int fa, .int fp]) :: [])) fa fp (prs S g i f t w)) := by
  rcases (show oc S i = 0 ∨ oc S i = 1 ∨ oc S i = 2 ∨ oc S i = 3 ∨ 4 ≤ oc S i by omega) with ho | ho | ho | ho | ho
  · refine enter (lv := [(0, .ref 9), (1, .int (nI f)), (2, .int (nI t)), (3, .int (nI d))]) (by decide +kernel) (Nat.le_of_ble_eq_true rfl) rfl hAD (fun U hK => ns_write hK hN) ?_
    intro p e s m below meth c A args hA C hr hlk hnm
    refine sg0 C foX6 coX6 oX6_readNode_0 rfl rfl rfl ?_
    refine cl_v C (kX6_lacks hAD hN (i := i) (j := 1) hlen (by omega) (by decide)) (rcv (ci := 5) C.2.1 rfl rfl) cd_X6_lacks in_X6 ml_X6_45 im_X6_lacks se_X6_lacks hd_X6_lacks rfl rfl ⟨by show 1 + 1 ≤ 2 * g + 6; omega, by show 8 + (2 + 11) + 40 * (1) ≤ 40 * (2 * g + 6); omega⟩ ⟨by show 0 + 0 ≤ (usd S (prs S g i f t w) i / 4 + (if w = true then 1 else 0)); omega, by show 0 + 0 ≤ 5 * (usd S (prs S g i f t w) i / 4 + (if w = true then 1 else 0)); omega⟩ (Nat.le_of_ble_eq_true rfl) jX6_readNode_2 (fun v ws' => Wa.and (fun hv => ?_))
    rcases hv with ⟨hl2, rfl, rfl⟩ | ⟨hl2, rfl, rfl⟩
    · refine b1_eq (tgt := 10) C jX6_readNode_5 (by decide) (fun h5 => ?_) (fun h5 => ?_)
      · exact absurd h5 (by decide)
      · refine sg0 C foX6 coX6 oX6_readNode_8 rfl rfl rfl ?_
        refine Wa.wid (k1 := (usd S (prs S g i f t w) i / 4 + (if w = true then 1 else 0))) (k2 := 5 * (usd S (prs S g i f t w) i / 4 + (if w = true then 1 else 0))) (Nat.zero_le _) (Nat.zero_le _) ?_
        exact rt_n C hr (Or.inl ⟨_, rfl⟩) hlk jX6_readNode_9 (fun H hH => Or.inl ⟨1, S.length, i, ⟨by rw [prs_eq]; unfold prN; rw [if_pos (by omega)], rfl, rfl⟩, hH⟩)
    · refine b1_eq (tgt := 10) C jX6_readNode_5 (by decide) (fun h5 => ?_) (fun h5 => ?_)
      · refine sg0 C foX6 coX6 oX6_readNode_10 rfl rfl rfl ?_
        refine cl_v C (kX6_number hAD hN (i := i) (j := 1) hS hlen (by decide) hl2) (rcv (ci := 5) C.2.1 rfl rfl) cd_X6_number in_X6 ml_X6_49 im_X6_number se_X6_number hd_X6_number rfl rfl ⟨by show 1 + 1 ≤ 2 * g + 6; omega, by show 8 + (5 + 11) + 40 * (1) ≤ 40 * (2 * g + 6); omega⟩ ⟨by show 0 + 0 ≤ (usd S (prs S g i f t w) i / 4 + (if w = true then 1 else 0)); omega, by show 0 + 0 ≤ 5 * (usd S (prs S g i f t w) i / 4 + (if w = true then 1 else 0)); omega⟩ (Nat.le_of_ble_eq_true rfl) jX6_readNode_12 (fun v ws' => Wa.and (fun hv => ?_))
        obtain ⟨rfl, rfl⟩ := hv
        have h1b := (oc_at hoc (show i < S.length by omega)).2
        have hnm1 : (nmF S 1 i 0).toInt32 = nI (oc S i) := nm1 hoc (by omega)
        refine sg0 C foX6 coX6 oX6_readNode_15 rfl rfl rfl ?_
        rw [hnm1, ho]
        refine tbI (off := 32) (tgt := 48) C jX6_readNode_16 (by decide) (by decide) (by decide) (by decide) ?_
        refine sg0 C foX6 coX6 oX6_readNode_48 rfl rfl rfl ?_
        refine cl_v C (kX6_lacks hAD hN (i := i + 1) (j := 8) hlen (by omega) (by decide)) (rcv (ci := 5) C.2.1 rfl rfl) cd_X6_lacks in_X6 ml_X6_45 im_X6_lacks se_X6_lacks hd_X6_lacks rfl rfl ⟨by show 1 + 1 ≤ 2 * g + 6; omega, by show 8 + (2 + 11) + 40 * (1) ≤ 40 * (2 * g + 6); omega⟩ ⟨by show 0 + 0 ≤ (usd S (prs S g i f t w) i / 4 + (if w = true then 1 else 0)); omega, by show 0 + 0 ≤ 5 * (usd S (prs S g i f t w) i / 4 + (if w = true then 1 else 0)); omega⟩ (Nat.le_of_ble_eq_true rfl) jX6_readNode_51 (fun v ws' => Wa.and (fun hv => ?_))
        rcases hv with ⟨hl51, rfl, rfl⟩ | ⟨hl51, rfl, rfl⟩
        · refine b1_eq (tgt := 61) C jX6_readNode_54 (by decide) (fun h54 => ?_) (fun h54 => ?_)
          · exact absurd h54 (by decide)
          · refine sg0 C foX6 coX6 oX6_readNode_57 rfl rfl rfl ?_
            refine Wa.wid (k1 := (usd S (prs S g i f t w) i / 4 + (if w = true then 1 else 0))) (k2 := 5 * (usd S (prs S g i f t w) i / 4 + (if w = true then 1 else 0))) (Nat.zero_le _) (Nat.zero_le _) ?_
            exact rt_n C hr (Or.inl ⟨_, rfl⟩) hlk jX6_readNode_74 (fun H hH => Or.inl ⟨1, S.length, i + 1, ⟨by rw [prs_eq]; unfold prN; rw [if_neg (by omega), if_pos ho, if_pos (by omega)], rfl, rfl⟩, hH⟩)
        · refine b1_eq (tgt := 61) C jX6_readNode_54 (by decide) (fun h54 => ?_) (fun h54 => ?_)
          · have hres : prs S g i f t w = .inr (tH 0 (nmF S 8 (i + 1) 0), i + 9) := by rw [prs_eq]; unfold prN; rw [if_neg (by omega), if_pos ho, if_neg (by omega)]
            have hu : usd S (prs S g i f t w) i / 4 = 2 := by rw [hres]; show (i + 9 - i) / 4 = 2; omega
            refine nw (ci := 2) (fs := [.long 0]) C hN rfl (by decide) kl_X6_53 is_X2 in_X2 tyX2 tyX2_ok (fun j hj => by rcases (show j = 0 from Nat.lt_one_iff.mp hj) with rfl; rfl) ⟨by show 0 + 1 ≤ (usd S (prs S g i f t w) i / 4 + (if w = true then 1 else 0)); omega, by show 0 + 1 ≤ 5 * (usd S (prs S g i f t w) i / 4 + (if w = true then 1 else 0)); omega⟩ jX6_readNode_61 (fun H1 q1 hN_q1 hq1 => ?_)
            have C := C.to (N2 := BN D H1 q1 2 [.long 0]) BN.ns
            refine sg0 C foX6 coX6 oX6_readNode_64 rfl rfl rfl ?_
            refine cl_v C (kX6_number hAD BN.ns (i := i + 1) (j := 8) hS hlen (by decide) hl51) (rcv (ci := 5) C.2.1 rfl rfl) cd_X6_number in_X6 ml_X6_49 im_X6_number se_X6_number hd_X6_number rfl rfl ⟨by show 1 + 1 ≤ 2 * g + 6; omega, by show 8 + (5 + 11) + 40 * (1) ≤ 40 * (2 * g + 6); omega⟩ ⟨by show 0 + 1 + 0 ≤ (usd S (prs S g i f t w) i / 4 + (if w = true then 1 else 0)); omega, by show 0 + 1 + 0 ≤ 5 * (usd S (prs S g i f t w) i / 4 + (if w = true then 1 else 0)); omega⟩ (Nat.le_of_ble_eq_true rfl) jX6_readNode_68 (fun v ws' => Wa.and (fun hv => ?_))
            obtain ⟨rfl, rfl⟩ := hv
            refine cl_i C (kX2_init hAD rfl (hww _ _ _) (nmF S 8 (i + 1) 0)) (C.2.2.2.2.2 _ hq1) cd_X2_init in_X2 ml_X6_55 im_X2_init rfl hd_X2_init rfl rfl ⟨by show 2 + 1 ≤ 2 * g + 6; omega, by show 8 + (3 + 11) + 40 * (2) ≤ 40 * (2 * g + 6); omega⟩ ⟨by show 0 + 1 + 0 + 0 ≤ (usd S (prs S g i f t w) i / 4 + (if w = true then 1 else 0)); omega, by show 0 + 1 + 0 + 0 ≤ 5 * (usd S (prs S g i f t w) i / 4 + (if w = true then 1 else 0)); omega⟩ (Nat.le_of_ble_eq_true rfl) jX6_readNode_71 (fun v ws' => Wa.and (fun hv => ?_))
            obtain ⟨rfl, rfl⟩ := hv
            have C := C.to (N2 := BN D H1 q1 2 [.long (nmF S 8 (i + 1) 0)]) BN.ns
            refine Wa.wid (k1 := (usd S (prs S g i f t w) i / 4 + (if w = true then 1 else 0))) (k2 := 5 * (usd S (prs S g i f t w) i / 4 + (if w = true then 1 else 0))) (by show 0 + 1 + 0 + 0 ≤ (usd S (prs S g i f t w) i / 4 + (if w = true then 1 else 0)); omega) (by show 0 + 1 + 0 + 0 ≤ 5 * (usd S (prs S g i f t w) i / 4 + (if w = true then 1 else 0)); omega) ?_
            exact rt_a C hr (Or.inl ⟨_, rfl⟩) hlk jX6_readNode_74 (fun H hH => Or.inr ⟨tH q1 (nmF S 8 (i + 1) 0), ⟨_, _, hres, rfl, rfl, rfl⟩, hN _ _ hN_q1 hH.2.1, hH.2.2⟩)
          · exact absurd rfl h54
      · exact absurd rfl h5
  · refine enter (lv := [(0, .ref 9), (1, .int (nI f)), (2, .int (nI t)), (3, .int (nI d))]) (by decide +kernel) (Nat.le_of_ble_eq_true rfl) rfl hAD (fun U hK => ns_write hK hN) ?_
    intro p e s m below meth c A args hA C hr hlk hnm
    refine sg0 C foX6 coX6 oX6_readNode_0 rfl rfl rfl ?_
    refine cl_v C (kX6_lacks hAD hN (i := i) (j := 1) hlen (by omega) (by decide)) (rcv (ci := 5) C.2.1 rfl rfl) cd_X6_lacks in_X6 ml_X6_45 im_X6_lacks se_X6_lacks hd_X6_lacks rfl rfl ⟨by show 1 + 1 ≤ 2 * g + 6; omega, by show 8 + (2 + 11) + 40 * (1) ≤ 40 * (2 * g + 6); omega⟩ ⟨by show 0 + 0 ≤ (usd S (prs S g i f t w) i / 4 + (if w = true then 1 else 0)); omega, by show 0 + 0 ≤ 5 * (usd S (prs S g i f t w) i / 4 + (if w = true then 1 else 0)); omega⟩ (Nat.le_of_ble_eq_true rfl) jX6_readNode_2 (fun v ws' => Wa.and (fun hv => ?_))
    rcases hv with ⟨hl2, rfl, rfl⟩ | ⟨hl2, rfl, rfl⟩
    · refine b1_eq (tgt := 10) C jX6_readNode_5 (by decide) (fun h5 => ?_) (fun h5 => ?_)
      · exact absurd h5 (by decide)
      · refine sg0 C foX6 coX6 oX6_readNode_8 rfl rfl rfl ?_
        refine Wa.wid (k1 := (usd S (prs S g i f t w) i / 4 + (if w = true then 1 else 0))) (k2 := 5 * (usd S (prs S g i f t w) i / 4 + (if w = true then 1 else 0))) (Nat.zero_le _) (Nat.zero_le _) ?_
        exact rt_n C hr (Or.inl ⟨_, rfl⟩) hlk jX6_readNode_9 (fun H hH => Or.inl ⟨1, S.length, i, ⟨by rw [prs_eq]; unfold prN; rw [if_pos (by omega)], rfl, rfl⟩, hH⟩)
    · refine b1_eq (tgt := 10) C jX6_readNode_5 (by decide) (fun h5 => ?_) (fun h5 => ?_)
      · refine sg0 C foX6 coX6 oX6_readNode_10 rfl rfl rfl ?_
        refine cl_v C (kX6_number hAD hN (i := i) (j := 1) hS hlen (by decide) hl2) (rcv (ci := 5) C.2.1 rfl rfl) cd_X6_number in_X6 ml_X6_49 im_X6_number se_X6_number hd_X6_number rfl rfl ⟨by show 1 + 1 ≤ 2 * g + 6; omega, by show 8 + (5 + 11) + 40 * (1) ≤ 40 * (2 * g + 6); omega⟩ ⟨by show 0 + 0 ≤ (usd S (prs S g i f t w) i / 4 + (if w = true then 1 else 0)); omega, by show 0 + 0 ≤ 5 * (usd S (prs S g i f t w) i / 4 + (if w = true then 1 else 0)); omega⟩ (Nat.le_of_ble_eq_true rfl) jX6_readNode_12 (fun v ws' => Wa.and (fun hv => ?_))
        obtain ⟨rfl, rfl⟩ := hv
        have h1b := (oc_at hoc (show i < S.length by omega)).2
        have hnm1 : (nmF S 1 i 0).toInt32 = nI (oc S i) := nm1 hoc (by omega)
        refine sg0 C foX6 coX6 oX6_readNode_15 rfl rfl rfl ?_
        rw [hnm1, ho]
        refine tbI (off := 59) (tgt := 75) C jX6_readNode_16 (by decide) (by decide) (by decide) (by decide) ?_
        have hres : (prs S g i f t w) = (prK S (rcg S g).1 (rcg S g).2 i f t) := by rw [prs_eq]; unfold prN; rw [if_neg (by omega), if_neg (by omega), if_pos ho]
        have hule : usd S (prK S (rcg S g).1 (rcg S g).2 i f t) i / 4 ≤ (usd S (prs S g i f t w) i / 4 + (if w = true then 1 else 0)) := by rw [hres]; omega
        refine sg0 C foX6 coX6 oX6_readNode_75 rfl rfl rfl ?_
        refine cl_v C (hfork hN (by omega) hf ht) (rcv (ci := 5) C.2.1 rfl rfl) cd_X6_readFork in_X6 ml_X6_58 im_X6_readFork se_X6_readFork hd_X6_readFork rfl rfl ⟨by show 2 * g + 5 + 1 ≤ 2 * g + 6; omega, by show 8 + (9 + 11) + 40 * (2 * g + 5) ≤ 40 * (2 * g + 6); omega⟩ ⟨by show 0 + usd S (prK S (rcg S g).1 (rcg S g).2 i f t) i / 4 ≤ (usd S (prs S g i f t w) i / 4 + (if w = true then 1 else 0)); omega, by show 0 + 5 * (usd S (prK S (rcg S g).1 (rcg S g).2 i f t) i / 4) ≤ 5 * (usd S (prs S g i f t w) i / 4 + (if w = true then 1 else 0)); omega⟩ (Nat.le_of_ble_eq_true rfl) jX6_readNode_79 (fun v ws' => Wa.or (Wa.ex (fun ca1 => Wa.ex (fun cb1 => Wa.ex (fun ci1 => Wa.and (fun hv => ?_))))) (Wa.ex (fun T1 => Wa.and (fun hv => ?_))))
        skip
        · obtain ⟨e1, rfl, rfl⟩ := hv
          refine Wa.wid (k1 := (usd S (prs S g i f t w) i / 4 + (if w = true then 1 else 0))) (k2 := 5 * (usd S (prs S g i f t w) i / 4 + (if w = true then 1 else 0))) (by show 0 + usd S (prK S (rcg S g).1 (rcg S g).2 i f t) i / 4 ≤ (usd S (prs S g i f t w) i / 4 + (if w = true then 1 else 0)); omega) (by show 0 + 5 * (usd S (prK S (rcg S g).1 (rcg S g).2 i f t) i / 4) ≤ 5 * (usd S (prs S g i f t w) i / 4 + (if w = true then 1 else 0)); omega) ?_
          exact rt_n C hr (Or.inl ⟨_, rfl⟩) hlk jX6_readNode_82 (fun H hH => Or.inl ⟨ca1, cb1, ci1, ⟨hres.trans e1, rfl, rfl⟩, hH⟩)
        · obtain ⟨U1, i1, e1, rfl, rfl, hs1⟩ := hv
          have C := C.to (N2 := fun H => N H ∧ nodeAt D H T1) (hN.and (nodeAt.ns (D := D) T1))
          refine Wa.wid (k1 := (usd S (prs S g i f t w) i / 4 + (if w = true then 1 else 0))) (k2 := 5 * (usd S (prs S g i f t w) i / 4 + (if w = true then 1 else 0))) (by show 0 + usd S (prK S (rcg S g).1 (rcg S g).2 i f t) i / 4 ≤ (usd S (prs S g i f t w) i / 4 + (if w = true then 1 else 0)); omega) (by show 0 + 5 * (usd S (prK S (rcg S g).1 (rcg S g).2 i f t) i / 4) ≤ 5 * (usd S (prs S g i f t w) i / 4 + (if w = true then 1 else 0)); omega) ?_
          exact rt_a C hr (Or.inl ⟨_, rfl⟩) hlk jX6_readNode_82 (fun H hH => Or.inr ⟨T1, ⟨U1, i1, hres.trans e1, rfl, rfl, hs1⟩, hH.1, hH.2⟩)
      · exact absurd rfl h5
  · refine enter (lv := [(0, .ref 9), (1, .int (nI f)), (2, .int (nI t)), (3, .int (nI d))]) (by decide +kernel) (Nat.le_of_ble_eq_true rfl) rfl hAD (fun U hK => ns_write hK hN) ?_
    intro p e s m below meth c A args hA C hr hlk hnm
    refine sg0 C foX6 coX6 oX6_readNode_0 rfl rfl rfl ?_
    refine cl_v C (kX6_lacks hAD hN (i := i) (j := 1) hlen (by omega) (by decide)) (rcv (ci := 5) C.2.1 rfl rfl) cd_X6_lacks in_X6 ml_X6_45 im_X6_lacks se_X6_lacks hd_X6_lacks rfl rfl ⟨by show 1 + 1 ≤ 2 * g + 6; omega, by show 8 + (2 + 11) + 40 * (1) ≤ 40 * (2 * g + 6); omega⟩ ⟨by show 0 + 0 ≤ (usd S (prs S g i f t w) i / 4 + (if w = true then 1 else 0)); omega, by show 0 + 0 ≤ 5 * (usd S (prs S g i f t w) i / 4 + (if w = true then 1 else 0)); omega⟩ (Nat.le_of_ble_eq_true rfl) jX6_readNode_2 (fun v ws' => Wa.and (fun hv => ?_))
    rcases hv with ⟨hl2, rfl, rfl⟩ | ⟨hl2, rfl, rfl⟩
    · refine b1_eq (tgt := 10) C jX6_readNode_5 (by decide) (fun h5 => ?_) (fun h5 => ?_)
      · exact absurd h5 (by decide)
      · refine sg0 C foX6 coX6 oX6_readNode_8 rfl rfl rfl ?_
        refine Wa.wid (k1 := (usd S (prs S g i f t w) i / 4 + (if w = true then 1 else 0))) (k2 := 5 * (usd S (prs S g i f t w) i / 4 + (if w = true then 1 else 0))) (Nat.zero_le _) (Nat.zero_le _) ?_
        exact rt_n C hr (Or.inl ⟨_, rfl⟩) hlk jX6_readNode_9 (fun H hH => Or.inl ⟨1, S.length, i, ⟨by rw [prs_eq]; unfold prN; rw [if_pos (by omega)], rfl, rfl⟩, hH⟩)
    · refine b1_eq (tgt := 10) C jX6_readNode_5 (by decide) (fun h5 => ?_) (fun h5 => ?_)
      · refine sg0 C foX6 coX6 oX6_readNode_10 rfl rfl rfl ?_
        refine cl_v C (kX6_number hAD hN (i := i) (j := 1) hS hlen (by decide) hl2) (rcv (ci := 5) C.2.1 rfl rfl) cd_X6_number in_X6 ml_X6_49 im_X6_number se_X6_number hd_X6_number rfl rfl ⟨by show 1 + 1 ≤ 2 * g + 6; omega, by show 8 + (5 + 11) + 40 * (1) ≤ 40 * (2 * g + 6); omega⟩ ⟨by show 0 + 0 ≤ (usd S (prs S g i f t w) i / 4 + (if w = true then 1 else 0)); omega, by show 0 + 0 ≤ 5 * (usd S (prs S g i f t w) i / 4 + (if w = true then 1 else 0)); omega⟩ (Nat.le_of_ble_eq_true rfl) jX6_readNode_12 (fun v ws' => Wa.and (fun hv => ?_))
        obtain ⟨rfl, rfl⟩ := hv
        have h1b := (oc_at hoc (show i < S.length by omega)).2
        have hnm1 : (nmF S 1 i 0).toInt32 = nI (oc S i) := nm1 hoc (by omega)
        refine sg0 C foX6 coX6 oX6_readNode_15 rfl rfl rfl ?_
        rw [hnm1, ho]
        refine tbI (off := 67) (tgt := 83) C jX6_readNode_16 (by decide) (by decide) (by decide) (by decide) ?_
        have hres : (prs S g i f t w) = prL S i f t := by rw [prs_eq]; unfold prN; rw [if_neg (by omega), if_neg (by omega), if_neg (by omega), if_pos ho]
        have hule : usd S (prL S i f t) i / 4 ≤ (usd S (prs S g i f t w) i / 4 + (if w = true then 1 else 0)) := by rw [hres]; omega
        refine sg0 C foX6 coX6 oX6_readNode_83 rfl rfl rfl ?_
        refine cl_v C (kX6_readLeaf hAD hN hS hlen hoc hww (by omega) hf ht) (rcv (ci := 5) C.2.1 rfl rfl) cd_X6_readLeaf in_X6 ml_X6_61 im_X6_readLeaf se_X6_readLeaf hd_X6_readLeaf rfl rfl ⟨by show 3 + 1 ≤ 2 * g + 6; omega, by show 8 + (4 + 11) + 40 * 3 ≤ 40 * (2 * g + 6); omega⟩ ⟨by show 0 + usd S (prL S i f t) i / 4 ≤ (usd S (prs S g i f t w) i / 4 + (if w = true then 1 else 0)); omega, by show 0 + 5 * (usd S (prL S i f t) i / 4) ≤ 5 * (usd S (prs S g i f t w) i / 4 + (if w = true then 1 else 0)); omega⟩ (Nat.le_of_ble_eq_true rfl) jX6_readNode_86 (fun v ws' => Wa.or (Wa.ex (fun ca1 => Wa.ex (fun cb1 => Wa.ex (fun ci1 => Wa.and (fun hv => ?_))))) (Wa.ex (fun T1 => Wa.and (fun hv => ?_))))
        skip
        · obtain ⟨e1, rfl, rfl⟩ := hv
          refine Wa.wid (k1 := (usd S (prs S g i f t w) i / 4 + (if w = true then 1 else 0))) (k2 := 5 * (usd S (prs S g i f t w) i / 4 + (if w = true then 1 else 0))) (by show 0 + usd S (prL S i f t) i / 4 ≤ (usd S (prs S g i f t w) i / 4 + (if w = true then 1 else 0)); omega) (by show 0 + 5 * (usd S (prL S i f t) i / 4) ≤ 5 * (usd S (prs S g i f t w) i / 4 + (if w = true then 1 else 0)); omega) ?_
          exact rt_n C hr (Or.inl ⟨_, rfl⟩) hlk jX6_readNode_89 (fun H hH => Or.inl ⟨ca1, cb1, ci1, ⟨hres.trans e1, rfl, rfl⟩, hH⟩)
        · obtain ⟨U1, i1, e1, rfl, rfl, hs1⟩ := hv
          have C := C.to (N2 := fun H => N H ∧ nodeAt D H T1) (hN.and (nodeAt.ns (D := D) T1))
          refine Wa.wid (k1 := (usd S (prs S g i f t w) i / 4 + (if w = true then 1 else 0))) (k2 := 5 * (usd S (prs S g i f t w) i / 4 + (if w = true then 1 else 0))) (by show 0 + usd S (prL S i f t) i / 4 ≤ (usd S (prs S g i f t w) i / 4 + (if w = true then 1 else 0)); omega) (by show 0 + 5 * (usd S (prL S i f t) i / 4) ≤ 5 * (usd S (prs S g i f t w) i / 4 + (if w = true then 1 else 0)); omega) ?_
          exact rt_a C hr (Or.inl ⟨_, rfl⟩) hlk jX6_readNode_89 (fun H hH => Or.inr ⟨T1, ⟨U1, i1, hres.trans e1, rfl, rfl, hs1⟩, hH.1, hH.2⟩)
      · exact absurd rfl h5
  · refine enter (lv := [(0, .ref 9), (1, .int (nI f)), (2, .int (nI t)), (3, .int (nI d))]) (by decide +kernel) (Nat.le_of_ble_eq_true rfl) rfl hAD (fun U hK => ns_write hK hN) ?_
    intro p e s m below meth c A args hA C hr hlk hnm
    refine sg0 C foX6 coX6 oX6_readNode_0 rfl rfl rfl ?_
    refine cl_v C (kX6_lacks hAD hN (i := i) (j := 1) hlen (by omega) (by decide)) (rcv (ci := 5) C.2.1 rfl rfl) cd_X6_lacks in_X6 ml_X6_45 im_X6_lacks se_X6_lacks hd_X6_lacks rfl rfl ⟨by show 1 + 1 ≤ 2 * g + 6; omega, by show 8 + (2 + 11) + 40 * (1) ≤ 40 * (2 * g + 6); omega⟩ ⟨by show 0 + 0 ≤ (usd S (prs S g i f t w) i / 4 + (if w = true then 1 else 0)); omega, by show 0 + 0 ≤ 5 * (usd S (prs S g i f t w) i / 4 + (if w = true then 1 else 0)); omega⟩ (Nat.le_of_ble_eq_true rfl) jX6_readNode_2 (fun v ws' => Wa.and (fun hv => ?_))
    rcases hv with ⟨hl2, rfl, rfl⟩ | ⟨hl2, rfl, rfl⟩
    · refine b1_eq (tgt := 10) C jX6_readNode_5 (by decide) (fun h5 => ?_) (fun h5 => ?_)
      · exact absurd h5 (by decide)
      · refine sg0 C foX6 coX6 oX6_readNode_8 rfl rfl rfl ?_
        refine Wa.wid (k1 := (usd S (prs S g i f t w) i / 4 + (if w = true then 1 else 0))) (k2 := 5 * (usd S (prs S g i f t w) i / 4 + (if w = true then 1 else 0))) (Nat.zero_le _) (Nat.zero_le _) ?_
        exact rt_n C hr (Or.inl ⟨_, rfl⟩) hlk jX6_readNode_9 (fun H hH => Or.inl ⟨1, S.length, i, ⟨by rw [prs_eq]; unfold prN; rw [if_pos (by omega)], rfl, rfl⟩, hH⟩)
    · refine b1_eq (tgt := 10) C jX6_readNode_5 (by decide) (fun h5 => ?_) (fun h5 => ?_)
      · refine sg0 C foX6 coX6 oX6_readNode_10 rfl rfl rfl ?_
        refine cl_v C (kX6_number hAD hN (i := i) (j := 1) hS hlen (by decide) hl2) (rcv (ci := 5) C.2.1 rfl rfl) cd_X6_number in_X6 ml_X6_49 im_X6_number se_X6_number hd_X6_number rfl rfl ⟨by show 1 + 1 ≤ 2 * g + 6; omega, by show 8 + (5 + 11) + 40 * (1) ≤ 40 * (2 * g + 6); omega⟩ ⟨by show 0 + 0 ≤ (usd S (prs S g i f t w) i / 4 + (if w = true then 1 else 0)); omega, by show 0 + 0 ≤ 5 * (usd S (prs S g i f t w) i / 4 + (if w = true then 1 else 0)); omega⟩ (Nat.le_of_ble_eq_true rfl) jX6_readNode_12 (fun v ws' => Wa.and (fun hv => ?_))
        obtain ⟨rfl, rfl⟩ := hv
        have h1b := (oc_at hoc (show i < S.length by omega)).2
        have hnm1 : (nmF S 1 i 0).toInt32 = nI (oc S i) := nm1 hoc (by omega)
        refine sg0 C foX6 coX6 oX6_readNode_15 rfl rfl rfl ?_
        rw [hnm1, ho]
        refine tbI (off := 74) (tgt := 90) C jX6_readNode_16 (by decide) (by decide) (by decide) (by decide) ?_
        refine sg0 C foX6 coX6 oX6_readNode_90 rfl rfl rfl ?_
        refine b1_ne (tgt := 104) C jX6_readNode_91 (by decide) (fun h91 => ?_) (fun h91 => ?_)
        · have hdz : ¬ d = 0 := fun q => h91 (by rw [q]; rfl)
          refine sg0 C foX6 coX6 oX6_readNode_104 rfl rfl rfl ?_
          rw [show (1 : Int32) = nI 1 from rfl, pk_sub (show 1 ≤ i + 1 by omega), show i + 1 - 1 = i by omega]
          refine cl_v C (kX6_refuse hAD hN 2 (nI i)) (rcv (ci := 5) C.2.1 rfl rfl) cd_X6_refuse in_X6 ml_X6_35 im_X6_refuse se_X6_refuse hd_X6_refuse rfl rfl ⟨by show 0 + 1 ≤ 2 * g + 6; omega, by show 8 + (3 + 11) + 40 * (0) ≤ 40 * (2 * g + 6); omega⟩ ⟨by show 0 + 0 ≤ (usd S (prs S g i f t w) i / 4 + (if w = true then 1 else 0)); omega, by show 0 + 0 ≤ 5 * (usd S (prs S g i f t w) i / 4 + (if w = true then 1 else 0)); omega⟩ (Nat.le_of_ble_eq_true rfl) jX6_readNode_112 (fun v ws' => Wa.and (fun hv => ?_))
          obtain ⟨rfl, rfl⟩ := hv
          refine Wa.wid (k1 := (usd S (prs S g i f t w) i / 4 + (if w = true then 1 else 0))) (k2 := 5 * (usd S (prs S g i f t w) i / 4 + (if w = true then 1 else 0))) (Nat.zero_le _) (Nat.zero_le _) ?_
          exact rt_n C hr (Or.inl ⟨_, rfl⟩) hlk jX6_readNode_115 (fun H hH => Or.inl ⟨2, i, i + 1, ⟨by rw [prs_eq]; unfold prN; rw [if_neg (by omega), if_neg (by omega), if_neg (by omega), if_neg (by omega), if_neg (fun e9 => hdz (hw.mp e9.2))], rfl, rfl⟩, hH⟩)
        · have hdz : d = 0 := Decidable.byContradiction fun q => nI_ne0 (by omega) (by omega) h91
          have hwt := hw.mpr hdz
          have hu : (if w = true then 1 else 0) = 1 := if_pos hwt
          refine nw (ci := 0) (fs := [.long 0]) C hN rfl (by decide) kl_X6_64 is_X0 in_X0 tyX0 tyX0_ok (fun j hj => by rcases (show j = 0 from Nat.lt_one_iff.mp hj) with rfl; rfl) ⟨by show 0 + 1 ≤ (usd S (prs S g i f t w) i / 4 + (if w = true then 1 else 0)); omega, by show 0 + 1 ≤ 5 * (usd S (prs S g i f t w) i / 4 + (if w = true then 1 else 0)); omega⟩ jX6_readNode_94 (fun H1 q1 hN_q1 hq1 => ?_)
          have C := C.to (N2 := BN D H1 q1 0 [.long 0]) BN.ns
          refine sg0 C foX6 coX6 oX6_readNode_97 rfl rfl rfl ?_
          refine cl_i C (kX0_init hAD rfl (hww _ _ _)) (C.2.2.2.2.2 _ hq1) cd_X0_init in_X0 ml_X6_66 im_X0_init rfl hd_X0_init rfl rfl ⟨by show 2 + 1 ≤ 2 * g + 6; omega, by show 8 + (1 + 11) + 40 * (2) ≤ 40 * (2 * g + 6); omega⟩ ⟨by show 0 + 1 + 0 ≤ (usd S (prs S g i f t w) i / 4 + (if w = true then 1 else 0)); omega, by show 0 + 1 + 0 ≤ 5 * (usd S (prs S g i f t w) i / 4 + (if w = true then 1 else 0)); omega⟩ (Nat.le_of_ble_eq_true rfl) jX6_readNode_98 (fun v ws' => Wa.and (fun hv => ?_))
          obtain ⟨rfl, rfl⟩ := hv
          have C := C.to (N2 := BN D H1 q1 0 [.long emptyF]) BN.ns
          refine sg0 C foX6 coX6 oX6_readNode_101 rfl rfl rfl ?_
          refine Wa.wid (k1 := (usd S (prs S g i f t w) i / 4 + (if w = true then 1 else 0))) (k2 := 5 * (usd S (prs S g i f t w) i / 4 + (if w = true then 1 else 0))) (by show 0 + 1 + 0 ≤ (usd S (prs S g i f t w) i / 4 + (if w = true then 1 else 0)); omega) (by show 0 + 1 + 0 ≤ 5 * (usd S (prs S g i f t w) i / 4 + (if w = true then 1 else 0)); omega) ?_
          exact rt_a C hr (Or.inl ⟨_, rfl⟩) hlk jX6_readNode_115 (fun H hH => Or.inr ⟨tE q1, ⟨tE 0, i + 1, by rw [prs_eq]; unfold prN; rw [if_neg (by omega), if_neg (by omega), if_neg (by omega), if_neg (by omega), if_pos ⟨ho, hwt⟩], rfl, rfl, rfl⟩, hN _ _ hN_q1 hH.2.1, hH.2.2⟩)
      · exact absurd rfl h5
  · refine enter (lv := [(0, .ref 9), (1, .int (nI f)), (2, .int (nI t)), (3, .int (nI d))]) (by decide +kernel) (Nat.le_of_ble_eq_true rfl) rfl hAD (fun U hK => ns_write hK hN) ?_
    intro p e s m below meth c A args hA C hr hlk hnm
    refine sg0 C foX6 coX6 oX6_readNode_0 rfl rfl rfl ?_
    refine cl_v C (kX6_lacks hAD hN (i := i) (j := 1) hlen (by omega) (by decide)) (rcv (ci := 5) C.2.1 rfl rfl) cd_X6_lacks in_X6 ml_X6_45 im_X6_lacks se_X6_lacks hd_X6_lacks rfl rfl ⟨by show 1 + 1 ≤ 2 * g + 6; omega, by show 8 + (2 + 11) + 40 * (1) ≤ 40 * (2 * g + 6); omega⟩ ⟨by show 0 + 0 ≤ (usd S (prs S g i f t w) i / 4 + (if w = true then 1 else 0)); omega, by show 0 + 0 ≤ 5 * (usd S (prs S g i f t w) i / 4 + (if w = true then 1 else 0)); omega⟩ (Nat.le_of_ble_eq_true rfl) jX6_readNode_2 (fun v ws' => Wa.and (fun hv => ?_))
    rcases hv with ⟨hl2, rfl, rfl⟩ | ⟨hl2, rfl, rfl⟩
    · refine b1_eq (tgt := 10) C jX6_readNode_5 (by decide) (fun h5 => ?_) (fun h5 => ?_)
      · exact absurd h5 (by decide)
      · refine sg0 C foX6 coX6 oX6_readNode_8 rfl rfl rfl ?_
        refine Wa.wid (k1 := (usd S (prs S g i f t w) i / 4 + (if w = true then 1 else 0))) (k2 := 5 * (usd S (prs S g i f t w) i / 4 + (if w = true then 1 else 0))) (Nat.zero_le _) (Nat.zero_le _) ?_
        exact rt_n C hr (Or.inl ⟨_, rfl⟩) hlk jX6_readNode_9 (fun H hH => Or.inl ⟨1, S.length, i, ⟨by rw [prs_eq]; unfold prN; rw [if_pos (by omega)], rfl, rfl⟩, hH⟩)
    · refine b1_eq (tgt := 10) C jX6_readNode_5 (by decide) (fun h5 => ?_) (fun h5 => ?_)
      · refine sg0 C foX6 coX6 oX6_readNode_10 rfl rfl rfl ?_
        refine cl_v C (kX6_number hAD hN (i := i) (j := 1) hS hlen (by decide) hl2) (rcv (ci := 5) C.2.1 rfl rfl) cd_X6_number in_X6 ml_X6_49 im_X6_number se_X6_number hd_X6_number rfl rfl ⟨by show 1 + 1 ≤ 2 * g + 6; omega, by show 8 + (5 + 11) + 40 * (1) ≤ 40 * (2 * g + 6); omega⟩ ⟨by show 0 + 0 ≤ (usd S (prs S g i f t w) i / 4 + (if w = true then 1 else 0)); omega, by show 0 + 0 ≤ 5 * (usd S (prs S g i f t w) i / 4 + (if w = true then 1 else 0)); omega⟩ (Nat.le_of_ble_eq_true rfl) jX6_readNode_12 (fun v ws' => Wa.and (fun hv => ?_))
        obtain ⟨rfl, rfl⟩ := hv
        have h1b := (oc_at hoc (show i < S.length by omega)).2
        have hnm1 : (nmF S 1 i 0).toInt32 = nI (oc S i) := nm1 hoc (by omega)
        refine sg0 C foX6 coX6 oX6_readNode_15 rfl rfl rfl ?_
        rw [hnm1]
        refine tbO (tgt := 116) C jX6_readNode_16 (Or.inr (by rw [nI_toInt (by omega)]; omega)) (by decide) ?_
        refine sg0 C foX6 coX6 oX6_readNode_116 rfl rfl rfl ?_
        rw [show (1 : Int32) = nI 1 from rfl, pk_sub (show 1 ≤ i + 1 by omega), show i + 1 - 1 = i by omega]
        refine cl_v C (kX6_refuse hAD hN 2 (nI i)) (rcv (ci := 5) C.2.1 rfl rfl) cd_X6_refuse in_X6 ml_X6_35 im_X6_refuse se_X6_refuse hd_X6_refuse rfl rfl ⟨by show 0 + 1 ≤ 2 * g + 6; omega, by show 8 + (3 + 11) + 40 * (0) ≤ 40 * (2 * g + 6); omega⟩ ⟨by show 0 + 0 ≤ (usd S (prs S g i f t w) i / 4 + (if w = true then 1 else 0)); omega, by show 0 + 0 ≤ 5 * (usd S (prs S g i f t w) i / 4 + (if w = true then 1 else 0)); omega⟩ (Nat.le_of_ble_eq_true rfl) jX6_readNode_124 (fun v ws' => Wa.and (fun hv => ?_))
        obtain ⟨rfl, rfl⟩ := hv
        refine Wa.wid (k1 := (usd S (prs S g i f t w) i / 4 + (if w = true then 1 else 0))) (k2 := 5 * (usd S (prs S g i f t w) i / 4 + (if w = true then 1 else 0))) (Nat.zero_le _) (Nat.zero_le _) ?_
        exact rt_n C hr (Or.inl ⟨_, rfl⟩) hlk jX6_readNode_127 (fun H hH => Or.inl ⟨2, i, i + 1, ⟨by rw [prs_eq]; unfold prN; rw [if_neg (by omega), if_neg (by omega), if_neg (by omega), if_neg (by omega), if_neg (fun e9 => absurd e9.1 (by omega))], rfl, rfl⟩, hH⟩)
      · exact absurd rfl h5
set_option maxRecDepth 100000 in
set_option maxHeartbeats 4000000 in
theorem kX6_readNode (hAD : AD ad 10) (hS : tpR to S) (hlen : S.length ≤ 4000) (hoc : ocOk S) (hww : ∀ (i : Nat) (fa fp : Int32), ((c0 :: c1 :: c2 :: c3 :: c4 :: .inr (6, [.ref 6, .int (nI S.length)]) :: .inl (0, 4000, .inl to) :: c7 :: c8 :: .inr (5, [.ref 5, .int (nI i), .int fa, .int fp]) :: []) : List va_E).all nno = true) : ∀ (g d : Nat) (w : Bool) (N : Heap → Prop) (i f t : Nat), d + g = 16 → (w = true ↔ d = 0) → NS D N → i ≤ S.length → f < 65536 → t < 65536 → Ct l yX6_readNode cX6_readNode 4 (some (.object "PathProofs$Node")) (rK (2 * g + 6) (usd S (prs S g i f t w) i / 4 + (if w = true then 1 else 0)) (5 * (usd S (prs S g i f t w) i / 4 + (if w = true then 1 else 0)))) D ca ad (c0 :: c1 :: c2 :: c3 :: c4 :: .inr (6, [.ref 6, .int (nI S.length)]) :: .inl (0, 4000, .inl to) :: c7 :: c8 :: .inr (5, [.ref 5, .int (nI i), .int fa, .int fp]) :: []) 10 [.ref 9, .int (nI f), .int (nI t), .int (nI d)] N (rdG D N (fun i fa fp => (c0 :: c1 :: c2 :: c3 :: c4 :: .inr (6, [.ref 6, .int (nI S.length)]) :: .inl (0, 4000, .inl to) :: c7 :: c8 :: .inr (5, [.ref 5, .int (nI i), .int fa, .int fp]) :: [])) fa fp (prs S g i f t w)) := by
  intro g
  induction g with
  | zero =>
    intro d w N i f t hd hw hN hi hf ht
    refine kX6_node1 hAD hN hS hlen hoc hww hi hf ht hd hw ?_
    intro N i f t hN hi hf ht
    exact kX6_readFork hAD hN hS hlen hoc hww hi hf ht (k := 4) (by decide) (by omega) ⟨fun q => (by cases q), fun q => absurd q (by omega)⟩ (rcg_r 0) (fun q => absurd q (by omega))
  | succ g ih =>
    intro d w N i f t hd hw hN hi hf ht
    refine kX6_node1 hAD hN hS hlen hoc hww hi hf ht hd hw ?_
    intro N i f t hN hi hf ht
    refine kX6_readFork hAD hN hS hlen hoc hww hi hf ht (k := 2 * g + 6) (by omega) (by omega) ⟨fun _ => by omega, fun _ => rfl⟩ (rcg_r (g + 1)) (fun q N i f t hN hi hf ht => ?_)
    exact ih (d + 1) false N i f t (by omega) ⟨fun q => (by cases q), fun q => by omega⟩ hN hi hf ht
end
end
