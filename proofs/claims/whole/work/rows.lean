section
-- ===== PART A: goes FIRST, ahead of the names: the tables' words, and 'selects' of the private methods out of them =====
/-- a private method of a class that the tables say can be made, by its rows of tables_1 -/
def lw_okq (q : MethodName × Nat) : Prop := (q.1.cls ≠ "java/lang/invoke/MethodHandle" ∧ q.1.cls ≠ "java/lang/invoke/VarHandle") ∧ Cond.instantiable q.1.cls q.2 ∈ tables_1 ∧ Cond.privateMethod q.1 ∈ tables_1 ∧ Cond.instanceMethod q.1 ∈ tables_1
theorem lw_p0 : lw_okq (⟨"PathProofs", "wholeOf", "(I)LPathProofs$Node;"⟩, 9) := ⟨⟨by decide +kernel, by decide +kernel⟩, List.mem_of_getElem? (i := 13) (by decide +kernel), List.mem_of_getElem? (i := 225) (by decide +kernel), List.mem_of_getElem? (i := 226) (by decide +kernel)⟩
theorem lw_p1 : lw_okq (⟨"PathProofs", "tapeBecomes", "(LPathProofs$Node;)I"⟩, 9) := ⟨⟨by decide +kernel, by decide +kernel⟩, List.mem_of_getElem? (i := 13) (by decide +kernel), List.mem_of_getElem? (i := 252) (by decide +kernel), List.mem_of_getElem? (i := 253) (by decide +kernel)⟩
theorem lw_p2 : lw_okq (⟨"PathProofs", "appendShown", "(LPathProofs$Node;III)V"⟩, 9) := ⟨⟨by decide +kernel, by decide +kernel⟩, List.mem_of_getElem? (i := 13) (by decide +kernel), List.mem_of_getElem? (i := 256) (by decide +kernel), List.mem_of_getElem? (i := 257) (by decide +kernel)⟩
theorem lw_p3 : lw_okq (⟨"PathProofs$Reading", "readNode", "(III)LPathProofs$Node;"⟩, 4) := ⟨⟨by decide +kernel, by decide +kernel⟩, List.mem_of_getElem? (i := 301) (by decide +kernel), List.mem_of_getElem? (i := 327) (by decide +kernel), List.mem_of_getElem? (i := 328) (by decide +kernel)⟩
theorem lw_p4 : lw_okq (⟨"PathProofs$Reading", "lacks", "(I)Z"⟩, 4) := ⟨⟨by decide +kernel, by decide +kernel⟩, List.mem_of_getElem? (i := 301) (by decide +kernel), List.mem_of_getElem? (i := 331) (by decide +kernel), List.mem_of_getElem? (i := 332) (by decide +kernel)⟩
theorem lw_p5 : lw_okq (⟨"PathProofs$Reading", "refuse", "(II)LPathProofs$Node;"⟩, 4) := ⟨⟨by decide +kernel, by decide +kernel⟩, List.mem_of_getElem? (i := 301) (by decide +kernel), List.mem_of_getElem? (i := 335) (by decide +kernel), List.mem_of_getElem? (i := 336) (by decide +kernel)⟩
theorem lw_p6 : lw_okq (⟨"PathProofs$Reading", "number", "(I)J"⟩, 4) := ⟨⟨by decide +kernel, by decide +kernel⟩, List.mem_of_getElem? (i := 301) (by decide +kernel), List.mem_of_getElem? (i := 339) (by decide +kernel), List.mem_of_getElem? (i := 340) (by decide +kernel)⟩
theorem lw_p7 : lw_okq (⟨"PathProofs$Reading", "readFork", "(III)LPathProofs$Node;"⟩, 4) := ⟨⟨by decide +kernel, by decide +kernel⟩, List.mem_of_getElem? (i := 301) (by decide +kernel), List.mem_of_getElem? (i := 352) (by decide +kernel), List.mem_of_getElem? (i := 353) (by decide +kernel)⟩
theorem lw_p8 : lw_okq (⟨"PathProofs$Reading", "readLeaf", "(II)LPathProofs$Node;"⟩, 4) := ⟨⟨by decide +kernel, by decide +kernel⟩, List.mem_of_getElem? (i := 301) (by decide +kernel), List.mem_of_getElem? (i := 359) (by decide +kernel), List.mem_of_getElem? (i := 360) (by decide +kernel)⟩
theorem lw_p9 : lw_okq (⟨"PathProofsModel", "find", "(I)I"⟩, 42) := ⟨⟨by decide +kernel, by decide +kernel⟩, List.mem_of_getElem? (i := 422) (by decide +kernel), List.mem_of_getElem? (i := 564) (by decide +kernel), List.mem_of_getElem? (i := 565) (by decide +kernel)⟩
theorem lw_p10 : lw_okq (⟨"PathProofsModel", "baseOf", "(I)I"⟩, 42) := ⟨⟨by decide +kernel, by decide +kernel⟩, List.mem_of_getElem? (i := 422) (by decide +kernel), List.mem_of_getElem? (i := 580) (by decide +kernel), List.mem_of_getElem? (i := 581) (by decide +kernel)⟩
theorem lw_p11 : lw_okq (⟨"PathProofsModel", "sizeOf", "(I)I"⟩, 42) := ⟨⟨by decide +kernel, by decide +kernel⟩, List.mem_of_getElem? (i := 422) (by decide +kernel), List.mem_of_getElem? (i := 584) (by decide +kernel), List.mem_of_getElem? (i := 585) (by decide +kernel)⟩
theorem lw_p12 : lw_okq (⟨"PathProofsModel", "digest", "(II)J"⟩, 42) := ⟨⟨by decide +kernel, by decide +kernel⟩, List.mem_of_getElem? (i := 422) (by decide +kernel), List.mem_of_getElem? (i := 588) (by decide +kernel), List.mem_of_getElem? (i := 589) (by decide +kernel)⟩
theorem lw_p13 : lw_okq (⟨"PathProofsModel", "rest", "(IIII)V"⟩, 42) := ⟨⟨by decide +kernel, by decide +kernel⟩, List.mem_of_getElem? (i := 422) (by decide +kernel), List.mem_of_getElem? (i := 627) (by decide +kernel), List.mem_of_getElem? (i := 628) (by decide +kernel)⟩
theorem lw_p14 : lw_okq (⟨"PathProofsModel", "isWanted", "(II)Z"⟩, 42) := ⟨⟨by decide +kernel, by decide +kernel⟩, List.mem_of_getElem? (i := 422) (by decide +kernel), List.mem_of_getElem? (i := 631) (by decide +kernel), List.mem_of_getElem? (i := 632) (by decide +kernel)⟩
theorem lw_p15 : lw_okq (⟨"PathProofsModel", "lay", "(JI)V"⟩, 42) := ⟨⟨by decide +kernel, by decide +kernel⟩, List.mem_of_getElem? (i := 422) (by decide +kernel), List.mem_of_getElem? (i := 635) (by decide +kernel), List.mem_of_getElem? (i := 636) (by decide +kernel)⟩
def lw_privs_1 : List (MethodName × Nat) := [(⟨"PathProofs", "wholeOf", "(I)LPathProofs$Node;"⟩, 9), (⟨"PathProofs", "tapeBecomes", "(LPathProofs$Node;)I"⟩, 9), (⟨"PathProofs", "appendShown", "(LPathProofs$Node;III)V"⟩, 9), (⟨"PathProofs$Reading", "readNode", "(III)LPathProofs$Node;"⟩, 4), (⟨"PathProofs$Reading", "lacks", "(I)Z"⟩, 4), (⟨"PathProofs$Reading", "refuse", "(II)LPathProofs$Node;"⟩, 4), (⟨"PathProofs$Reading", "number", "(I)J"⟩, 4), (⟨"PathProofs$Reading", "readFork", "(III)LPathProofs$Node;"⟩, 4), (⟨"PathProofs$Reading", "readLeaf", "(II)LPathProofs$Node;"⟩, 4), (⟨"PathProofsModel", "find", "(I)I"⟩, 42), (⟨"PathProofsModel", "baseOf", "(I)I"⟩, 42), (⟨"PathProofsModel", "sizeOf", "(I)I"⟩, 42), (⟨"PathProofsModel", "digest", "(II)J"⟩, 42), (⟨"PathProofsModel", "rest", "(IIII)V"⟩, 42), (⟨"PathProofsModel", "isWanted", "(II)Z"⟩, 42), (⟨"PathProofsModel", "lay", "(JI)V"⟩, 42)]
theorem lw_r1 : ∀ q ∈ lw_privs_1, lw_okq q := List.forall_mem_cons.mpr ⟨lw_p0, List.forall_mem_cons.mpr ⟨lw_p1, List.forall_mem_cons.mpr ⟨lw_p2, List.forall_mem_cons.mpr ⟨lw_p3, List.forall_mem_cons.mpr ⟨lw_p4, List.forall_mem_cons.mpr ⟨lw_p5, List.forall_mem_cons.mpr ⟨lw_p6, List.forall_mem_cons.mpr ⟨lw_p7, List.forall_mem_cons.mpr ⟨lw_p8, List.forall_mem_cons.mpr ⟨lw_p9, List.forall_mem_cons.mpr ⟨lw_p10, List.forall_mem_cons.mpr ⟨lw_p11, List.forall_mem_cons.mpr ⟨lw_p12, List.forall_mem_cons.mpr ⟨lw_p13, List.forall_mem_cons.mpr ⟨lw_p14, List.forall_mem_cons.mpr ⟨lw_p15, fun _ h => absurd h List.not_mem_nil⟩⟩⟩⟩⟩⟩⟩⟩⟩⟩⟩⟩⟩⟩⟩⟩
theorem lw_p16 : lw_okq (⟨"PathProofsModel", "laidOut", "()I"⟩, 42) := ⟨⟨by decide +kernel, by decide +kernel⟩, List.mem_of_getElem? (i := 422) (by decide +kernel), List.mem_of_getElem? (i := 640) (by decide +kernel), List.mem_of_getElem? (i := 641) (by decide +kernel)⟩
theorem lw_p17 : lw_okq (⟨"PathProofsModel", "taken", "(IZII)I"⟩, 42) := ⟨⟨by decide +kernel, by decide +kernel⟩, List.mem_of_getElem? (i := 422) (by decide +kernel), List.mem_of_getElem? (i := 664) (by decide +kernel), List.mem_of_getElem? (i := 665) (by decide +kernel)⟩
theorem lw_p18 : lw_okq (⟨"PathProofsModel", "numeral", "(I)J"⟩, 42) := ⟨⟨by decide +kernel, by decide +kernel⟩, List.mem_of_getElem? (i := 422) (by decide +kernel), List.mem_of_getElem? (i := 668) (by decide +kernel), List.mem_of_getElem? (i := 669) (by decide +kernel)⟩
theorem lw_p19 : lw_okq (⟨"PathProofsModel", "sumUp", "(I)J"⟩, 42) := ⟨⟨by decide +kernel, by decide +kernel⟩, List.mem_of_getElem? (i := 422) (by decide +kernel), List.mem_of_getElem? (i := 672) (by decide +kernel), List.mem_of_getElem? (i := 673) (by decide +kernel)⟩
theorem lw_p20 : lw_okq (⟨"PathProofsModel", "way", "(I)V"⟩, 42) := ⟨⟨by decide +kernel, by decide +kernel⟩, List.mem_of_getElem? (i := 422) (by decide +kernel), List.mem_of_getElem? (i := 684) (by decide +kernel), List.mem_of_getElem? (i := 685) (by decide +kernel)⟩
theorem lw_p21 : lw_okq (⟨"PathProofsModel", "isThere", "(I)Z"⟩, 42) := ⟨⟨by decide +kernel, by decide +kernel⟩, List.mem_of_getElem? (i := 422) (by decide +kernel), List.mem_of_getElem? (i := 691) (by decide +kernel), List.mem_of_getElem? (i := 692) (by decide +kernel)⟩
theorem lw_p22 : lw_okq (⟨"PathProofsModel", "fresh", "()I"⟩, 42) := ⟨⟨by decide +kernel, by decide +kernel⟩, List.mem_of_getElem? (i := 422) (by decide +kernel), List.mem_of_getElem? (i := 703) (by decide +kernel), List.mem_of_getElem? (i := 704) (by decide +kernel)⟩
theorem lw_p23 : lw_okq (⟨"PathProofsModel", "stand", "(III)V"⟩, 42) := ⟨⟨by decide +kernel, by decide +kernel⟩, List.mem_of_getElem? (i := 422) (by decide +kernel), List.mem_of_getElem? (i := 707) (by decide +kernel), List.mem_of_getElem? (i := 708) (by decide +kernel)⟩
theorem lw_p24 : lw_okq (⟨"PathProofsModel", "goThrough", "(II)V"⟩, 42) := ⟨⟨by decide +kernel, by decide +kernel⟩, List.mem_of_getElem? (i := 422) (by decide +kernel), List.mem_of_getElem? (i := 723) (by decide +kernel), List.mem_of_getElem? (i := 724) (by decide +kernel)⟩
def lw_privs_2 : List (MethodName × Nat) := [(⟨"PathProofsModel", "laidOut", "()I"⟩, 42), (⟨"PathProofsModel", "taken", "(IZII)I"⟩, 42), (⟨"PathProofsModel", "numeral", "(I)J"⟩, 42), (⟨"PathProofsModel", "sumUp", "(I)J"⟩, 42), (⟨"PathProofsModel", "way", "(I)V"⟩, 42), (⟨"PathProofsModel", "isThere", "(I)Z"⟩, 42), (⟨"PathProofsModel", "fresh", "()I"⟩, 42), (⟨"PathProofsModel", "stand", "(III)V"⟩, 42), (⟨"PathProofsModel", "goThrough", "(II)V"⟩, 42)]
theorem lw_r2 : ∀ q ∈ lw_privs_2, lw_okq q := List.forall_mem_cons.mpr ⟨lw_p16, List.forall_mem_cons.mpr ⟨lw_p17, List.forall_mem_cons.mpr ⟨lw_p18, List.forall_mem_cons.mpr ⟨lw_p19, List.forall_mem_cons.mpr ⟨lw_p20, List.forall_mem_cons.mpr ⟨lw_p21, List.forall_mem_cons.mpr ⟨lw_p22, List.forall_mem_cons.mpr ⟨lw_p23, List.forall_mem_cons.mpr ⟨lw_p24, fun _ h => absurd h List.not_mem_nil⟩⟩⟩⟩⟩⟩⟩⟩⟩
def lw_privs : List (MethodName × Nat) := lw_privs_1 ++ (lw_privs_2)
def lw_tbl : List Cond := k2_sels lw_privs ++ tables_1
theorem lw_privs_ok : ∀ q ∈ lw_privs, lw_okq q := by
  show ∀ q ∈ lw_privs_1 ++ (lw_privs_2), lw_okq q
  exact List.forall_mem_append.mpr ⟨lw_r1, lw_r2⟩
end
section
def RX0 : String := "PathProofs$Empty"
def TX0 : u_T := fun k => match k with
  | _ => ("PathProofs$Node", "digest", "J", true)
def tyX0 : Nat → FieldType := fun k => match k with
  | _ => .long
abbrev wsX00 : List Cond := u_ws RX0 TX0 1
theorem nmX0 : ∀ a, a < 1 → ∀ b, b < 1 → a ≠ b → (TX0 a).2.1 ≠ (TX0 b).2.1 := by decide +kernel
theorem tyX0_ok : ∀ k, k < 1 → parseFieldDescriptor (TX0 k).2.2.1 = some (tyX0 k) := by decide +kernel
abbrev cX0_init : ByteArray := prog_2_method_1_code
def yX0_init : MethodName := ⟨RX0, "<init>", "()V"⟩
def RX1 : String := "PathProofs$Fork"
def TX1 : u_T := fun k => match k with
  | 0 => ("PathProofs$Node", "digest", "J", true)
  | 1 => ("PathProofs$Fork", "bit", "I", true)
  | 2 => ("PathProofs$Fork", "stem", "I", true)
  | 3 => ("PathProofs$Fork", "low", "LPathProofs$Node;", true)
  | _ => ("PathProofs$Fork", "high", "LPathProofs$Node;", true)
def tyX1 : Nat → FieldType := fun k => match k with
  | 0 => .long
  | 1 => .int
  | 2 => .int
  | 3 => .object "PathProofs$Node"
  | _ => .object "PathProofs$Node"
abbrev wsX10 : List Cond := u_ws RX1 TX1 5
theorem nmX1 : ∀ a, a < 5 → ∀ b, b < 5 → a ≠ b → (TX1 a).2.1 ≠ (TX1 b).2.1 := by decide +kernel
theorem tyX1_ok : ∀ k, k < 5 → parseFieldDescriptor (TX1 k).2.2.1 = some (tyX1 k) := by decide +kernel
abbrev cX1_init : ByteArray := prog_3_method_1_code
def yX1_init : MethodName := ⟨RX1, "<init>", "(IILPathProofs$Node;LPathProofs$Node;)V"⟩
abbrev cX1_takesIn : ByteArray := prog_3_method_2_code
def yX1_takesIn : MethodName := ⟨RX1, "takesIn", "(I)Z"⟩
abbrev cX1_middle : ByteArray := prog_3_method_3_code
def yX1_middle : MethodName := ⟨RX1, "middle", "()I"⟩
abbrev cX1_last : ByteArray := prog_3_method_4_code
def yX1_last : MethodName := ⟨RX1, "last", "()I"⟩
abbrev cX1_toward : ByteArray := prog_3_method_5_code
def yX1_toward : MethodName := ⟨RX1, "toward", "(I)LPathProofs$Node;"⟩
abbrev cX1_besides : ByteArray := prog_3_method_6_code
def yX1_besides : MethodName := ⟨RX1, "besides", "(I)LPathProofs$Node;"⟩
abbrev cX1_with : ByteArray := prog_3_method_7_code
def yX1_with : MethodName := ⟨RX1, "with", "(ILPathProofs$Node;)LPathProofs$Fork;"⟩
def RX2 : String := "PathProofs$Hidden"
def TX2 : u_T := fun k => match k with
  | _ => ("PathProofs$Node", "digest", "J", true)
def tyX2 : Nat → FieldType := fun k => match k with
  | _ => .long
abbrev wsX20 : List Cond := u_ws RX2 TX2 1
theorem nmX2 : ∀ a, a < 1 → ∀ b, b < 1 → a ≠ b → (TX2 a).2.1 ≠ (TX2 b).2.1 := by decide +kernel
theorem tyX2_ok : ∀ k, k < 1 → parseFieldDescriptor (TX2 k).2.2.1 = some (tyX2 k) := by decide +kernel
abbrev cX2_init : ByteArray := prog_4_method_1_code
def yX2_init : MethodName := ⟨RX2, "<init>", "(J)V"⟩
def RX3 : String := "PathProofs$Leaf"
def TX3 : u_T := fun k => match k with
  | 0 => ("PathProofs$Node", "digest", "J", true)
  | 1 => ("PathProofs$Leaf", "path", "I", true)
  | _ => ("PathProofs$Leaf", "value", "J", true)
def tyX3 : Nat → FieldType := fun k => match k with
  | 0 => .long
  | 1 => .int
  | _ => .long
abbrev wsX30 : List Cond := u_ws RX3 TX3 3
theorem nmX3 : ∀ a, a < 3 → ∀ b, b < 3 → a ≠ b → (TX3 a).2.1 ≠ (TX3 b).2.1 := by decide +kernel
theorem tyX3_ok : ∀ k, k < 3 → parseFieldDescriptor (TX3 k).2.2.1 = some (tyX3 k) := by decide +kernel
abbrev cX3_init : ByteArray := prog_5_method_1_code
def yX3_init : MethodName := ⟨RX3, "<init>", "(IJ)V"⟩
def RX4 : String := "PathProofs$Node"
def TX4 : u_T := fun k => match k with
  | _ => ("", "", "", false)
def tyX4 : Nat → FieldType := fun k => match k with
  | _ => .int
abbrev wsX40 : List Cond := u_ws RX4 TX4 0
theorem nmX4 : ∀ a, a < 0 → ∀ b, b < 0 → a ≠ b → (TX4 a).2.1 ≠ (TX4 b).2.1 := by decide +kernel
theorem tyX4_ok : ∀ k, k < 0 → parseFieldDescriptor (TX4 k).2.2.1 = some (tyX4 k) := by decide +kernel
abbrev cX4_init : ByteArray := prog_6_method_1_code
def yX4_init : MethodName := ⟨RX4, "<init>", "(J)V"⟩
def RX5 : String := "PathProofs$Ranges"
def TX5 : u_T := fun k => match k with
  | 0 => ("PathProofs$Ranges", "firsts", "[I", true)
  | 1 => ("PathProofs$Ranges", "lasts", "[I", true)
  | _ => ("PathProofs$Ranges", "size", "I", false)
def tyX5 : Nat → FieldType := fun k => match k with
  | 0 => .array .int
  | 1 => .array .int
  | _ => .int
abbrev wsX50 : List Cond := u_ws RX5 TX5 3
theorem nmX5 : ∀ a, a < 3 → ∀ b, b < 3 → a ≠ b → (TX5 a).2.1 ≠ (TX5 b).2.1 := by decide +kernel
theorem tyX5_ok : ∀ k, k < 3 → parseFieldDescriptor (TX5 k).2.2.1 = some (tyX5 k) := by decide +kernel
abbrev cX5_init : ByteArray := prog_7_method_1_code
def yX5_init : MethodName := ⟨RX5, "<init>", "()V"⟩
abbrev cX5_add : ByteArray := prog_7_method_2_code
def yX5_add : MethodName := ⟨RX5, "add", "(II)Z"⟩
abbrev cX5_meet : ByteArray := prog_7_method_3_code
def yX5_meet : MethodName := ⟨RX5, "meet", "(II)Z"⟩
def RX6 : String := "PathProofs$Reading"
def TX6 : u_T := fun k => match k with
  | 0 => ("PathProofs$Reading", "tape", "LPathProofs$Tape;", true)
  | 1 => ("PathProofs$Reading", "at", "I", false)
  | 2 => ("PathProofs$Reading", "fault", "I", false)
  | _ => ("PathProofs$Reading", "faultPlace", "I", false)
def tyX6 : Nat → FieldType := fun k => match k with
  | 0 => .object "PathProofs$Tape"
  | 1 => .int
  | 2 => .int
  | _ => .int
abbrev wsX60 : List Cond := u_ws RX6 TX6 4
theorem nmX6 : ∀ a, a < 4 → ∀ b, b < 4 → a ≠ b → (TX6 a).2.1 ≠ (TX6 b).2.1 := by decide +kernel
theorem tyX6_ok : ∀ k, k < 4 → parseFieldDescriptor (TX6 k).2.2.1 = some (tyX6 k) := by decide +kernel
abbrev cX6_init : ByteArray := prog_8_method_1_code
def yX6_init : MethodName := ⟨RX6, "<init>", "(LPathProofs$Tape;)V"⟩
abbrev cX6_wholeWith : ByteArray := prog_8_method_2_code
def yX6_wholeWith : MethodName := ⟨RX6, "wholeWith", "(J)LPathProofs$Node;"⟩
abbrev cX6_readNode : ByteArray := prog_8_method_3_code
def yX6_readNode : MethodName := ⟨RX6, "readNode", "(III)LPathProofs$Node;"⟩
abbrev cX6_readLeaf : ByteArray := prog_8_method_4_code
def yX6_readLeaf : MethodName := ⟨RX6, "readLeaf", "(II)LPathProofs$Node;"⟩
abbrev cX6_readFork : ByteArray := prog_8_method_5_code
def yX6_readFork : MethodName := ⟨RX6, "readFork", "(III)LPathProofs$Node;"⟩
abbrev cX6_lacks : ByteArray := prog_8_method_6_code
def yX6_lacks : MethodName := ⟨RX6, "lacks", "(I)Z"⟩
abbrev cX6_number : ByteArray := prog_8_method_7_code
def yX6_number : MethodName := ⟨RX6, "number", "(I)J"⟩
abbrev cX6_refuse : ByteArray := prog_8_method_8_code
def yX6_refuse : MethodName := ⟨RX6, "refuse", "(II)LPathProofs$Node;"⟩
def RX7 : String := "PathProofs$Tape"
def TX7 : u_T := fun k => match k with
  | 0 => ("PathProofs$Tape", "octets", "[I", true)
  | _ => ("PathProofs$Tape", "length", "I", false)
def tyX7 : Nat → FieldType := fun k => match k with
  | 0 => .array .int
  | _ => .int
abbrev wsX70 : List Cond := u_ws RX7 TX7 2
theorem nmX7 : ∀ a, a < 2 → ∀ b, b < 2 → a ≠ b → (TX7 a).2.1 ≠ (TX7 b).2.1 := by decide +kernel
theorem tyX7_ok : ∀ k, k < 2 → parseFieldDescriptor (TX7 k).2.2.1 = some (tyX7 k) := by decide +kernel
abbrev cX7_init : ByteArray := prog_9_method_1_code
def yX7_init : MethodName := ⟨RX7, "<init>", "()V"⟩
abbrev cX7_has : ByteArray := prog_9_method_2_code
def yX7_has : MethodName := ⟨RX7, "has", "(I)Z"⟩
abbrev cX7_append : ByteArray := prog_9_method_3_code
def yX7_append : MethodName := ⟨RX7, "append", "(IJ)V"⟩
def RX8 : String := "PathProofs"
def TX8 : u_T := fun k => match k with
  | 0 => ("PathProofs", "kept", "[LPathProofs$Node;", true)
  | 1 => ("PathProofs", "wanted", "LPathProofs$Ranges;", true)
  | 2 => ("PathProofs", "tree", "LPathProofs$Node;", false)
  | 3 => ("PathProofs", "versions", "I", false)
  | 4 => ("PathProofs", "tape", "LPathProofs$Tape;", false)
  | 5 => ("PathProofs", "spare", "LPathProofs$Tape;", false)
  | 6 => ("PathProofs", "view", "LPathProofs$Node;", false)
  | 7 => ("PathProofs", "faultPlace", "I", false)
  | _ => ("PathProofs", "found", "J", false)
def tyX8 : Nat → FieldType := fun k => match k with
  | 0 => .array (.object "PathProofs$Node")
  | 1 => .object "PathProofs$Ranges"
  | 2 => .object "PathProofs$Node"
  | 3 => .int
  | 4 => .object "PathProofs$Tape"
  | 5 => .object "PathProofs$Tape"
  | 6 => .object "PathProofs$Node"
  | 7 => .int
  | _ => .long
abbrev wsX80 : List Cond := u_ws RX8 TX8 9
theorem nmX8 : ∀ a, a < 9 → ∀ b, b < 9 → a ≠ b → (TX8 a).2.1 ≠ (TX8 b).2.1 := by decide +kernel
theorem tyX8_ok : ∀ k, k < 9 → parseFieldDescriptor (TX8 k).2.2.1 = some (tyX8 k) := by decide +kernel
abbrev cX8_init : ByteArray := prog_1_method_1_code
def yX8_init : MethodName := ⟨RX8, "<init>", "()V"⟩
abbrev cX8_put : ByteArray := prog_1_method_2_code
def yX8_put : MethodName := ⟨RX8, "put", "(IJ)I"⟩
abbrev cX8_remove : ByteArray := prog_1_method_3_code
def yX8_remove : MethodName := ⟨RX8, "remove", "(I)I"⟩
abbrev cX8_keep : ByteArray := prog_1_method_4_code
def yX8_keep : MethodName := ⟨RX8, "keep", "()I"⟩
abbrev cX8_root : ByteArray := prog_1_method_5_code
def yX8_root : MethodName := ⟨RX8, "root", "(I)J"⟩
abbrev cX8_leaves : ByteArray := prog_1_method_6_code
def yX8_leaves : MethodName := ⟨RX8, "leaves", "(I)I"⟩
abbrev cX8_want : ByteArray := prog_1_method_7_code
def yX8_want : MethodName := ⟨RX8, "want", "(II)I"⟩
abbrev cX8_forget : ByteArray := prog_1_method_8_code
def yX8_forget : MethodName := ⟨RX8, "forget", "()I"⟩
abbrev cX8_show : ByteArray := prog_1_method_9_code
def yX8_show : MethodName := ⟨RX8, "show", "(I)I"⟩
abbrev cX8_pass : ByteArray := prog_1_method_10_code
def yX8_pass : MethodName := ⟨RX8, "pass", "()I"⟩
abbrev cX8_feed : ByteArray := prog_1_method_11_code
def yX8_feed : MethodName := ⟨RX8, "feed", "(IJ)I"⟩
abbrev cX8_cut : ByteArray := prog_1_method_12_code
def yX8_cut : MethodName := ⟨RX8, "cut", "(I)I"⟩
abbrev cX8_spoil : ByteArray := prog_1_method_13_code
def yX8_spoil : MethodName := ⟨RX8, "spoil", "(II)I"⟩
abbrev cX8_take : ByteArray := prog_1_method_14_code
def yX8_take : MethodName := ⟨RX8, "take", "(J)I"⟩
abbrev cX8_place : ByteArray := prog_1_method_15_code
def yX8_place : MethodName := ⟨RX8, "place", "()I"⟩
abbrev cX8_get : ByteArray := prog_1_method_16_code
def yX8_get : MethodName := ⟨RX8, "get", "(I)I"⟩
abbrev cX8_value : ByteArray := prog_1_method_17_code
def yX8_value : MethodName := ⟨RX8, "value", "()J"⟩
abbrev cX8_write : ByteArray := prog_1_method_18_code
def yX8_write : MethodName := ⟨RX8, "write", "(IJ)I"⟩
abbrev cX8_erase : ByteArray := prog_1_method_19_code
def yX8_erase : MethodName := ⟨RX8, "erase", "(I)I"⟩
abbrev cX8_view : ByteArray := prog_1_method_20_code
def yX8_view : MethodName := ⟨RX8, "view", "()J"⟩
abbrev cX8_count : ByteArray := prog_1_method_21_code
def yX8_count : MethodName := ⟨RX8, "count", "(II)I"⟩
abbrev cX8_next : ByteArray := prog_1_method_22_code
def yX8_next : MethodName := ⟨RX8, "next", "(I)I"⟩
abbrev cX8_told : ByteArray := prog_1_method_23_code
def yX8_told : MethodName := ⟨RX8, "told", "(I)I"⟩
abbrev cX8_octet : ByteArray := prog_1_method_24_code
def yX8_octet : MethodName := ⟨RX8, "octet", "(I)I"⟩
abbrev cX8_isPath : ByteArray := prog_1_method_25_code
def yX8_isPath : MethodName := ⟨RX8, "isPath", "(I)Z"⟩
abbrev cX8_isRange : ByteArray := prog_1_method_26_code
def yX8_isRange : MethodName := ⟨RX8, "isRange", "(II)Z"⟩
abbrev cX8_isHigh : ByteArray := prog_1_method_27_code
def yX8_isHigh : MethodName := ⟨RX8, "isHigh", "(II)Z"⟩
abbrev cX8_stemOf : ByteArray := prog_1_method_28_code
def yX8_stemOf : MethodName := ⟨RX8, "stemOf", "(II)I"⟩
abbrev cX8_firstOtherBit : ByteArray := prog_1_method_29_code
def yX8_firstOtherBit : MethodName := ⟨RX8, "firstOtherBit", "(II)I"⟩
abbrev cX8_mix : ByteArray := prog_1_method_30_code
def yX8_mix : MethodName := ⟨RX8, "mix", "(JJ)J"⟩
abbrev cX8_emptyDigest : ByteArray := prog_1_method_31_code
def yX8_emptyDigest : MethodName := ⟨RX8, "emptyDigest", "()J"⟩
abbrev cX8_leafDigest : ByteArray := prog_1_method_32_code
def yX8_leafDigest : MethodName := ⟨RX8, "leafDigest", "(IJ)J"⟩
abbrev cX8_forkDigest : ByteArray := prog_1_method_33_code
def yX8_forkDigest : MethodName := ⟨RX8, "forkDigest", "(IIJJ)J"⟩
abbrev cX8_wholeOf : ByteArray := prog_1_method_34_code
def yX8_wholeOf : MethodName := ⟨RX8, "wholeOf", "(I)LPathProofs$Node;"⟩
abbrev cX8_endOfWay : ByteArray := prog_1_method_35_code
def yX8_endOfWay : MethodName := ⟨RX8, "endOfWay", "(LPathProofs$Node;I)LPathProofs$Node;"⟩
abbrev cX8_isLeafOf : ByteArray := prog_1_method_36_code
def yX8_isLeafOf : MethodName := ⟨RX8, "isLeafOf", "(LPathProofs$Node;I)Z"⟩
abbrev cX8_written : ByteArray := prog_1_method_37_code
def yX8_written : MethodName := ⟨RX8, "written", "(LPathProofs$Node;LPathProofs$Leaf;I)LPathProofs$Node;"⟩
abbrev cX8_forkOf : ByteArray := prog_1_method_38_code
def yX8_forkOf : MethodName := ⟨RX8, "forkOf", "(LPathProofs$Node;ILPathProofs$Leaf;)LPathProofs$Node;"⟩
abbrev cX8_erased : ByteArray := prog_1_method_39_code
def yX8_erased : MethodName := ⟨RX8, "erased", "(LPathProofs$Node;II)LPathProofs$Node;"⟩
abbrev cX8_leavesWithin : ByteArray := prog_1_method_40_code
def yX8_leavesWithin : MethodName := ⟨RX8, "leavesWithin", "(LPathProofs$Node;III)I"⟩
abbrev cX8_nodesOf : ByteArray := prog_1_method_41_code
def yX8_nodesOf : MethodName := ⟨RX8, "nodesOf", "(LPathProofs$Node;I)I"⟩
abbrev cX8_mostForks : ByteArray := prog_1_method_42_code
def yX8_mostForks : MethodName := ⟨RX8, "mostForks", "(LPathProofs$Node;I)I"⟩
abbrev cX8_hiddenOver : ByteArray := prog_1_method_43_code
def yX8_hiddenOver : MethodName := ⟨RX8, "hiddenOver", "(LPathProofs$Node;IIIII)I"⟩
abbrev cX8_leastFrom : ByteArray := prog_1_method_44_code
def yX8_leastFrom : MethodName := ⟨RX8, "leastFrom", "(LPathProofs$Node;III)I"⟩
abbrev cX8_tapeBecomes : ByteArray := prog_1_method_45_code
def yX8_tapeBecomes : MethodName := ⟨RX8, "tapeBecomes", "(LPathProofs$Node;)I"⟩
abbrev cX8_appendShown : ByteArray := prog_1_method_46_code
def yX8_appendShown : MethodName := ⟨RX8, "appendShown", "(LPathProofs$Node;III)V"⟩
def RX9 : String := "PathProofsModel"
def TX9 : u_T := fun k => match k with
  | 0 => ("PathProofsModel", "path", "[I", true)
  | 1 => ("PathProofsModel", "value", "[J", true)
  | 2 => ("PathProofsModel", "size", "[I", true)
  | 3 => ("PathProofsModel", "versions", "I", false)
  | 4 => ("PathProofsModel", "from", "[I", true)
  | 5 => ("PathProofsModel", "to", "[I", true)
  | 6 => ("PathProofsModel", "wanted", "I", false)
  | 7 => ("PathProofsModel", "tape", "[I", true)
  | 8 => ("PathProofsModel", "taped", "I", false)
  | 9 => ("PathProofsModel", "waitDigest", "[J", true)
  | 10 => ("PathProofsModel", "waitBit", "[I", true)
  | 11 => ("PathProofsModel", "waitDeep", "[I", true)
  | 12 => ("PathProofsModel", "deepest", "I", false)
  | 13 => ("PathProofsModel", "out", "[I", true)
  | 14 => ("PathProofsModel", "laid", "I", false)
  | 15 => ("PathProofsModel", "oneOf", "[I", true)
  | 16 => ("PathProofsModel", "twoOf", "[I", true)
  | 17 => ("PathProofsModel", "placeFrom", "[I", true)
  | 18 => ("PathProofsModel", "placeTo", "[I", true)
  | 19 => ("PathProofsModel", "rests", "I", false)
  | 20 => ("PathProofsModel", "kind", "[I", true)
  | 21 => ("PathProofsModel", "bitOf", "[I", true)
  | 22 => ("PathProofsModel", "stem", "[I", true)
  | 23 => ("PathProofsModel", "held", "[J", true)
  | 24 => ("PathProofsModel", "low", "[I", true)
  | 25 => ("PathProofsModel", "high", "[I", true)
  | 26 => ("PathProofsModel", "sum", "[J", true)
  | 27 => ("PathProofsModel", "row", "[I", true)
  | 28 => ("PathProofsModel", "half", "I", false)
  | 29 => ("PathProofsModel", "nodes", "I", false)
  | 30 => ("PathProofsModel", "root", "I", false)
  | 31 => ("PathProofsModel", "free", "[I", true)
  | 32 => ("PathProofsModel", "freed", "I", false)
  | 33 => ("PathProofsModel", "faultAt", "I", false)
  | 34 => ("PathProofsModel", "at", "I", false)
  | 35 => ("PathProofsModel", "end", "I", false)
  | 36 => ("PathProofsModel", "above", "I", false)
  | 37 => ("PathProofsModel", "found", "J", false)
  | 38 => ("PathProofsModel", "counted", "I", false)
  | 39 => ("PathProofsModel", "leastLeaf", "I", false)
  | 40 => ("PathProofsModel", "leastHidden", "I", false)
  | _ => ("PathProofsModel", "hiddenMany", "I", false)
def tyX9 : Nat → FieldType := fun k => match k with
  | 0 => .array .int
  | 1 => .array .long
  | 2 => .array .int
  | 3 => .int
  | 4 => .array .int
  | 5 => .array .int
  | 6 => .int
  | 7 => .array .int
  | 8 => .int
  | 9 => .array .long
  | 10 => .array .int
  | 11 => .array .int
  | 12 => .int
  | 13 => .array .int
  | 14 => .int
  | 15 => .array .int
  | 16 => .array .int
  | 17 => .array .int
  | 18 => .array .int
  | 19 => .int
  | 20 => .array .int
  | 21 => .array .int
  | 22 => .array .int
  | 23 => .array .long
  | 24 => .array .int
  | 25 => .array .int
  | 26 => .array .long
  | 27 => .array .int
  | 28 => .int
  | 29 => .int
  | 30 => .int
  | 31 => .array .int
  | 32 => .int
  | 33 => .int
  | 34 => .int
  | 35 => .int
  | 36 => .int
  | 37 => .long
  | 38 => .int
  | 39 => .int
  | 40 => .int
  | _ => .int
abbrev wsX90 : List Cond := u_ws RX9 TX9 42
theorem nmX9 : ∀ a, a < 42 → ∀ b, b < 42 → a ≠ b → (TX9 a).2.1 ≠ (TX9 b).2.1 := by decide +kernel
theorem tyX9_ok : ∀ k, k < 42 → parseFieldDescriptor (TX9 k).2.2.1 = some (tyX9 k) := by decide +kernel
abbrev cX9_init : ByteArray := prog_11_method_1_code
def yX9_init : MethodName := ⟨RX9, "<init>", "()V"⟩
abbrev cX9_isPath : ByteArray := prog_11_method_2_code
def yX9_isPath : MethodName := ⟨RX9, "isPath", "(I)Z"⟩
abbrev cX9_firstBit : ByteArray := prog_11_method_3_code
def yX9_firstBit : MethodName := ⟨RX9, "firstBit", "(II)I"⟩
abbrev cX9_stemOf : ByteArray := prog_11_method_4_code
def yX9_stemOf : MethodName := ⟨RX9, "stemOf", "(II)I"⟩
abbrev cX9_mix : ByteArray := prog_11_method_5_code
def yX9_mix : MethodName := ⟨RX9, "mix", "(JJ)J"⟩
abbrev cX9_leafDigest : ByteArray := prog_11_method_6_code
def yX9_leafDigest : MethodName := ⟨RX9, "leafDigest", "(IJ)J"⟩
abbrev cX9_forkDigest : ByteArray := prog_11_method_7_code
def yX9_forkDigest : MethodName := ⟨RX9, "forkDigest", "(IIJJ)J"⟩
abbrev cX9_baseOf : ByteArray := prog_11_method_8_code
def yX9_baseOf : MethodName := ⟨RX9, "baseOf", "(I)I"⟩
abbrev cX9_sizeOf : ByteArray := prog_11_method_9_code
def yX9_sizeOf : MethodName := ⟨RX9, "sizeOf", "(I)I"⟩
abbrev cX9_find : ByteArray := prog_11_method_10_code
def yX9_find : MethodName := ⟨RX9, "find", "(I)I"⟩
abbrev cX9_put : ByteArray := prog_11_method_11_code
def yX9_put : MethodName := ⟨RX9, "put", "(IJ)I"⟩
abbrev cX9_remove : ByteArray := prog_11_method_12_code
def yX9_remove : MethodName := ⟨RX9, "remove", "(I)I"⟩
abbrev cX9_keep : ByteArray := prog_11_method_13_code
def yX9_keep : MethodName := ⟨RX9, "keep", "()I"⟩
abbrev cX9_digest : ByteArray := prog_11_method_14_code
def yX9_digest : MethodName := ⟨RX9, "digest", "(II)J"⟩
abbrev cX9_root : ByteArray := prog_11_method_15_code
def yX9_root : MethodName := ⟨RX9, "root", "(I)J"⟩
abbrev cX9_leaves : ByteArray := prog_11_method_16_code
def yX9_leaves : MethodName := ⟨RX9, "leaves", "(I)I"⟩
abbrev cX9_want : ByteArray := prog_11_method_17_code
def yX9_want : MethodName := ⟨RX9, "want", "(II)I"⟩
abbrev cX9_forget : ByteArray := prog_11_method_18_code
def yX9_forget : MethodName := ⟨RX9, "forget", "()I"⟩
abbrev cX9_isWanted : ByteArray := prog_11_method_19_code
def yX9_isWanted : MethodName := ⟨RX9, "isWanted", "(II)Z"⟩
abbrev cX9_lay : ByteArray := prog_11_method_20_code
def yX9_lay : MethodName := ⟨RX9, "lay", "(JI)V"⟩
abbrev cX9_laidOut : ByteArray := prog_11_method_21_code
def yX9_laidOut : MethodName := ⟨RX9, "laidOut", "()I"⟩
abbrev cX9_rest : ByteArray := prog_11_method_22_code
def yX9_rest : MethodName := ⟨RX9, "rest", "(IIII)V"⟩
abbrev cX9_show : ByteArray := prog_11_method_23_code
def yX9_show : MethodName := ⟨RX9, "show", "(I)I"⟩
abbrev cX9_feed : ByteArray := prog_11_method_24_code
def yX9_feed : MethodName := ⟨RX9, "feed", "(IJ)I"⟩
abbrev cX9_cut : ByteArray := prog_11_method_25_code
def yX9_cut : MethodName := ⟨RX9, "cut", "(I)I"⟩
abbrev cX9_spoil : ByteArray := prog_11_method_26_code
def yX9_spoil : MethodName := ⟨RX9, "spoil", "(II)I"⟩
abbrev cX9_octet : ByteArray := prog_11_method_27_code
def yX9_octet : MethodName := ⟨RX9, "octet", "(I)I"⟩
abbrev cX9_numeral : ByteArray := prog_11_method_28_code
def yX9_numeral : MethodName := ⟨RX9, "numeral", "(I)J"⟩
abbrev cX9_sumUp : ByteArray := prog_11_method_29_code
def yX9_sumUp : MethodName := ⟨RX9, "sumUp", "(I)J"⟩
abbrev cX9_taken : ByteArray := prog_11_method_30_code
def yX9_taken : MethodName := ⟨RX9, "taken", "(IZII)I"⟩
abbrev cX9_take : ByteArray := prog_11_method_31_code
def yX9_take : MethodName := ⟨RX9, "take", "(J)I"⟩
abbrev cX9_place : ByteArray := prog_11_method_32_code
def yX9_place : MethodName := ⟨RX9, "place", "()I"⟩
abbrev cX9_takesIn : ByteArray := prog_11_method_33_code
def yX9_takesIn : MethodName := ⟨RX9, "takesIn", "(III)Z"⟩
abbrev cX9_way : ByteArray := prog_11_method_34_code
def yX9_way : MethodName := ⟨RX9, "way", "(I)V"⟩
abbrev cX9_isThere : ByteArray := prog_11_method_35_code
def yX9_isThere : MethodName := ⟨RX9, "isThere", "(I)Z"⟩
abbrev cX9_get : ByteArray := prog_11_method_36_code
def yX9_get : MethodName := ⟨RX9, "get", "(I)I"⟩
abbrev cX9_value : ByteArray := prog_11_method_37_code
def yX9_value : MethodName := ⟨RX9, "value", "()J"⟩
abbrev cX9_fresh : ByteArray := prog_11_method_38_code
def yX9_fresh : MethodName := ⟨RX9, "fresh", "()I"⟩
abbrev cX9_stand : ByteArray := prog_11_method_39_code
def yX9_stand : MethodName := ⟨RX9, "stand", "(III)V"⟩
abbrev cX9_write : ByteArray := prog_11_method_40_code
def yX9_write : MethodName := ⟨RX9, "write", "(IJ)I"⟩
abbrev cX9_erase : ByteArray := prog_11_method_41_code
def yX9_erase : MethodName := ⟨RX9, "erase", "(I)I"⟩
abbrev cX9_view : ByteArray := prog_11_method_42_code
def yX9_view : MethodName := ⟨RX9, "view", "()J"⟩
abbrev cX9_goThrough : ByteArray := prog_11_method_43_code
def yX9_goThrough : MethodName := ⟨RX9, "goThrough", "(II)V"⟩
abbrev cX9_count : ByteArray := prog_11_method_44_code
def yX9_count : MethodName := ⟨RX9, "count", "(II)I"⟩
abbrev cX9_next : ByteArray := prog_11_method_45_code
def yX9_next : MethodName := ⟨RX9, "next", "(I)I"⟩
abbrev cX9_pass : ByteArray := prog_11_method_46_code
def yX9_pass : MethodName := ⟨RX9, "pass", "()I"⟩
abbrev cX9_told : ByteArray := prog_11_method_47_code
def yX9_told : MethodName := ⟨RX9, "told", "(I)I"⟩
def RJ9 : String := "java/lang/Math"
def TJ9 : u_T := fun k => match k with
  | _ => ("", "", "", false)
def tyJ9 : Nat → FieldType := fun k => match k with
  | _ => .int
abbrev wsJ90 : List Cond := u_ws RJ9 TJ9 0
theorem nmJ9 : ∀ a, a < 0 → ∀ b, b < 0 → a ≠ b → (TJ9 a).2.1 ≠ (TJ9 b).2.1 := by decide +kernel
theorem tyJ9_ok : ∀ k, k < 0 → parseFieldDescriptor (TJ9 k).2.2.1 = some (tyJ9 k) := by decide +kernel
abbrev cJ9_max_7cf53 : ByteArray := prog_12_method_65_code
def yJ9_max_7cf53 : MethodName := ⟨RJ9, "max", "(II)I"⟩
def RL : String := "PathProofsLaw"
abbrev cL_law : ByteArray := code
def yL_law : MethodName := ⟨RL, "law", "([I)Z"⟩
abbrev vwCl : List vw_C := [(RX0, TX0, 1), (RX1, TX1, 5), (RX2, TX2, 1), (RX3, TX3, 3), (RX5, TX5, 3), (RX6, TX6, 4), (RX7, TX7, 2), (RX8, TX8, 9), (RX9, TX9, 42)]
def tb : List Cond := lw_tbl.filter goodWord
theorem tbm {w : Cond} (i : Nat) (h : lw_tbl[i]? = some w) (g : goodWord w = true) : w ∈ tb := List.mem_filter.mpr ⟨List.mem_of_getElem? h, g⟩
theorem tb_good {w : Cond} (h : w ∈ tb) : goodWord w = true := (List.mem_filter.mp h).2
theorem tb_in {w : Cond} (h : w ∈ tb) : w ∈ lw_tbl := (List.mem_filter.mp h).1
theorem tbs (ws : List Cond) (ps : List Nat) (hp : ws = ps.filterMap (fun i => lw_tbl[i]?)) (h : ws.all goodWord = true) : ∀ w ∈ ws, w ∈ tb := by
  intro w hw
  have h1 := List.all_eq_true.mp h w hw
  rw [hp] at hw
  obtain ⟨i, -, hi⟩ := List.mem_filterMap.mp hw
  exact tbm i hi h1
/-- a callee's words among the caller's -/
theorem tb_gi {y : MethodName} {b : ByteArray} {m : Nat} {r : Option FieldType} (h : Cond.code y b m r ∈ tb) : GoodIn tb (Cond.code y b m r :: tb) := by
  intro w hw
  rcases List.mem_cons.mp hw with rfl | hw
  · exact ⟨h, good_of_word (tb_good h)⟩
  · exact ⟨hw, good_of_word (tb_good hw)⟩
theorem in_L : (Cond.initialized RL : Cond) ∈ tb := tbm 25 (by decide +kernel) (by decide +kernel)
theorem in_X8 : (Cond.initialized RX8 : Cond) ∈ tb := tbm 26 (by decide +kernel) (by decide +kernel)
theorem in_X5 : (Cond.initialized RX5 : Cond) ∈ tb := tbm 27 (by decide +kernel) (by decide +kernel)
theorem in_X4 : (Cond.initialized RX4 : Cond) ∈ tb := tbm 28 (by decide +kernel) (by decide +kernel)
theorem in_X0 : (Cond.initialized RX0 : Cond) ∈ tb := tbm 29 (by decide +kernel) (by decide +kernel)
theorem in_X7 : (Cond.initialized RX7 : Cond) ∈ tb := tbm 30 (by decide +kernel) (by decide +kernel)
theorem in_X9 : (Cond.initialized RX9 : Cond) ∈ tb := tbm 31 (by decide +kernel) (by decide +kernel)
theorem in_X3 : (Cond.initialized RX3 : Cond) ∈ tb := tbm 32 (by decide +kernel) (by decide +kernel)
theorem in_X1 : (Cond.initialized RX1 : Cond) ∈ tb := tbm 33 (by decide +kernel) (by decide +kernel)
theorem in_X6 : (Cond.initialized RX6 : Cond) ∈ tb := tbm 34 (by decide +kernel) (by decide +kernel)
theorem in_X2 : (Cond.initialized RX2 : Cond) ∈ tb := tbm 35 (by decide +kernel) (by decide +kernel)
theorem in_J9 : (Cond.initialized RJ9 : Cond) ∈ tb := tbm 36 (by decide +kernel) (by decide +kernel)
theorem kl_L_7 : (Cond.classLink RL 7 RX8 : Cond) ∈ tb := tbm 37 (by decide +kernel) (by decide +kernel)
theorem is_X8 : (Cond.instantiable RX8 9 : Cond) ∈ tb := tbm 38 (by decide +kernel) (by decide +kernel)
theorem ml_L_9 : (Cond.methodLink RL 9 yX8_init : Cond) ∈ tb := tbm 39 (by decide +kernel) (by decide +kernel)
theorem im_X8_init : (Cond.instanceMethod yX8_init : Cond) ∈ tb := tbm 40 (by decide +kernel) (by decide +kernel)
theorem cd_X8_init : (Cond.code yX8_init cX8_init 1 none : Cond) ∈ tb := tbm 41 (by decide +kernel) (by decide +kernel)
theorem ml_X8_1 : (Cond.methodLink RX8 1 objectInit : Cond) ∈ tb := tbm 42 (by decide +kernel) (by decide +kernel)
theorem im_objectInit : (Cond.instanceMethod objectInit : Cond) ∈ tb := tbm 43 (by decide +kernel) (by decide +kernel)
theorem cd_objectInit : (Cond.code objectInit ⟨#[0xb1]⟩ 1 none : Cond) ∈ tb := tbm 44 (by decide +kernel) (by decide +kernel)
theorem kl_X8_9 : (Cond.classLink RX8 9 RX4 : Cond) ∈ tb := tbm 45 (by decide +kernel) (by decide +kernel)
theorem kl_X8_15 : (Cond.classLink RX8 15 RX5 : Cond) ∈ tb := tbm 47 (by decide +kernel) (by decide +kernel)
theorem is_X5 : (Cond.instantiable RX5 3 : Cond) ∈ tb := tbm 48 (by decide +kernel) (by decide +kernel)
theorem im_X5_init : (Cond.instanceMethod yX5_init : Cond) ∈ tb := tbm 50 (by decide +kernel) (by decide +kernel)
theorem cd_X5_init : (Cond.code yX5_init cX5_init 1 none : Cond) ∈ tb := tbm 51 (by decide +kernel) (by decide +kernel)
theorem ml_X5_3 : (Cond.methodLink RX5 3 objectInit : Cond) ∈ tb := tbm 52 (by decide +kernel) (by decide +kernel)
theorem fl_X5_9 : (Cond.fieldLink RX5 9 "PathProofs$Ranges" "firsts" "[I" : Cond) ∈ tb := tbm 53 (by decide +kernel) (by decide +kernel)
theorem fl_X5_15 : (Cond.fieldLink RX5 15 "PathProofs$Ranges" "lasts" "[I" : Cond) ∈ tb := tbm 54 (by decide +kernel) (by decide +kernel)
theorem fl_X5_18 : (Cond.fieldLink RX5 18 "PathProofs$Ranges" "size" "I" : Cond) ∈ tb := tbm 55 (by decide +kernel) (by decide +kernel)
theorem fl_X8_97 : (Cond.fieldLink RX8 97 "PathProofs$Ranges" "size" "I" : Cond) ∈ tb := tbm 56 (by decide +kernel) (by decide +kernel)
theorem ac_int : (Cond.arrayClass .int : Cond) ∈ tb := tbm 64 (by decide +kernel) (by decide +kernel)
theorem kl_X8_22 : (Cond.classLink RX8 22 RX0 : Cond) ∈ tb := tbm 65 (by decide +kernel) (by decide +kernel)
theorem is_X0 : (Cond.instantiable RX0 1 : Cond) ∈ tb := tbm 66 (by decide +kernel) (by decide +kernel)
theorem ml_X8_24 : (Cond.methodLink RX8 24 yX0_init : Cond) ∈ tb := tbm 67 (by decide +kernel) (by decide +kernel)
theorem im_X0_init : (Cond.instanceMethod yX0_init : Cond) ∈ tb := tbm 68 (by decide +kernel) (by decide +kernel)
theorem cd_X0_init : (Cond.code yX0_init cX0_init 1 none : Cond) ∈ tb := tbm 69 (by decide +kernel) (by decide +kernel)
theorem sm_X8_emptyDigest : (Cond.static yX8_emptyDigest : Cond) ∈ tb := tbm 71 (by decide +kernel) (by decide +kernel)
theorem cd_X8_emptyDigest : (Cond.code yX8_emptyDigest cX8_emptyDigest 0 (some .long) : Cond) ∈ tb := tbm 72 (by decide +kernel) (by decide +kernel)
theorem co_X8_159 : (Cond.constantLong RX8 159 (3) : Cond) ∈ tb := tbm 73 (by decide +kernel) (by decide +kernel)
theorem ml_X8_161 : (Cond.methodLink RX8 161 yX8_mix : Cond) ∈ tb := tbm 74 (by decide +kernel) (by decide +kernel)
theorem sm_X8_mix : (Cond.static yX8_mix : Cond) ∈ tb := tbm 75 (by decide +kernel) (by decide +kernel)
theorem cd_X8_mix : (Cond.code yX8_mix cX8_mix 6 (some .long) : Cond) ∈ tb := tbm 76 (by decide +kernel) (by decide +kernel)
theorem co_X8_155 : (Cond.constantLong RX8 155 (-7046029254386353131) : Cond) ∈ tb := tbm 77 (by decide +kernel) (by decide +kernel)
theorem co_X8_157 : (Cond.constantLong RX8 157 (-4658895280553007687) : Cond) ∈ tb := tbm 78 (by decide +kernel) (by decide +kernel)
theorem ml_X0_7 : (Cond.methodLink RX0 7 yX4_init : Cond) ∈ tb := tbm 79 (by decide +kernel) (by decide +kernel)
theorem im_X4_init : (Cond.instanceMethod yX4_init : Cond) ∈ tb := tbm 80 (by decide +kernel) (by decide +kernel)
theorem cd_X4_init : (Cond.code yX4_init cX4_init 3 none : Cond) ∈ tb := tbm 81 (by decide +kernel) (by decide +kernel)
theorem ml_X4_1 : (Cond.methodLink RX4 1 objectInit : Cond) ∈ tb := tbm 82 (by decide +kernel) (by decide +kernel)
theorem fl_X1_3 : (Cond.fieldLink RX1 3 "PathProofs$Node" "digest" "J" : Cond) ∈ tb := tbm 83 (by decide +kernel) (by decide +kernel)
theorem fl_X4_7 : (Cond.fieldLink RX4 7 "PathProofs$Node" "digest" "J" : Cond) ∈ tb := tbm 84 (by decide +kernel) (by decide +kernel)
theorem fl_X6_39 : (Cond.fieldLink RX6 39 "PathProofs$Node" "digest" "J" : Cond) ∈ tb := tbm 85 (by decide +kernel) (by decide +kernel)
theorem fl_X8_87 : (Cond.fieldLink RX8 87 "PathProofs$Node" "digest" "J" : Cond) ∈ tb := tbm 86 (by decide +kernel) (by decide +kernel)
theorem kl_X8_33 : (Cond.classLink RX8 33 RX7 : Cond) ∈ tb := tbm 90 (by decide +kernel) (by decide +kernel)
theorem is_X7 : (Cond.instantiable RX7 2 : Cond) ∈ tb := tbm 91 (by decide +kernel) (by decide +kernel)
theorem im_X7_init : (Cond.instanceMethod yX7_init : Cond) ∈ tb := tbm 93 (by decide +kernel) (by decide +kernel)
theorem cd_X7_init : (Cond.code yX7_init cX7_init 1 none : Cond) ∈ tb := tbm 94 (by decide +kernel) (by decide +kernel)
theorem ml_X7_3 : (Cond.methodLink RX7 3 objectInit : Cond) ∈ tb := tbm 95 (by decide +kernel) (by decide +kernel)
theorem fl_X7_9 : (Cond.fieldLink RX7 9 "PathProofs$Tape" "octets" "[I" : Cond) ∈ tb := tbm 96 (by decide +kernel) (by decide +kernel)
theorem fl_X6_84 : (Cond.fieldLink RX6 84 "PathProofs$Tape" "octets" "[I" : Cond) ∈ tb := tbm 97 (by decide +kernel) (by decide +kernel)
theorem fl_X8_113 : (Cond.fieldLink RX8 113 "PathProofs$Tape" "octets" "[I" : Cond) ∈ tb := tbm 98 (by decide +kernel) (by decide +kernel)
theorem fl_X7_15 : (Cond.fieldLink RX7 15 "PathProofs$Tape" "length" "I" : Cond) ∈ tb := tbm 99 (by decide +kernel) (by decide +kernel)
theorem fl_X6_30 : (Cond.fieldLink RX6 30 "PathProofs$Tape" "length" "I" : Cond) ∈ tb := tbm 100 (by decide +kernel) (by decide +kernel)
theorem fl_X8_104 : (Cond.fieldLink RX8 104 "PathProofs$Tape" "length" "I" : Cond) ∈ tb := tbm 101 (by decide +kernel) (by decide +kernel)
theorem fl_X8_11 : (Cond.fieldLink RX8 11 "PathProofs" "kept" "[LPathProofs$Node;" : Cond) ∈ tb := tbm 107 (by decide +kernel) (by decide +kernel)
theorem fl_X8_18 : (Cond.fieldLink RX8 18 "PathProofs" "wanted" "LPathProofs$Ranges;" : Cond) ∈ tb := tbm 108 (by decide +kernel) (by decide +kernel)
theorem fl_X8_25 : (Cond.fieldLink RX8 25 "PathProofs" "tree" "LPathProofs$Node;" : Cond) ∈ tb := tbm 109 (by decide +kernel) (by decide +kernel)
theorem fl_X8_29 : (Cond.fieldLink RX8 29 "PathProofs" "versions" "I" : Cond) ∈ tb := tbm 110 (by decide +kernel) (by decide +kernel)
theorem fl_X8_36 : (Cond.fieldLink RX8 36 "PathProofs" "tape" "LPathProofs$Tape;" : Cond) ∈ tb := tbm 111 (by decide +kernel) (by decide +kernel)
theorem fl_X8_40 : (Cond.fieldLink RX8 40 "PathProofs" "spare" "LPathProofs$Tape;" : Cond) ∈ tb := tbm 112 (by decide +kernel) (by decide +kernel)
theorem fl_X8_43 : (Cond.fieldLink RX8 43 "PathProofs" "view" "LPathProofs$Node;" : Cond) ∈ tb := tbm 113 (by decide +kernel) (by decide +kernel)
theorem fl_X8_46 : (Cond.fieldLink RX8 46 "PathProofs" "faultPlace" "I" : Cond) ∈ tb := tbm 114 (by decide +kernel) (by decide +kernel)
theorem fl_X8_49 : (Cond.fieldLink RX8 49 "PathProofs" "found" "J" : Cond) ∈ tb := tbm 115 (by decide +kernel) (by decide +kernel)
theorem ml_L_15 : (Cond.methodLink RL 15 yX8_put : Cond) ∈ tb := tbm 135 (by decide +kernel) (by decide +kernel)
theorem im_X8_put : (Cond.instanceMethod yX8_put : Cond) ∈ tb := tbm 136 (by decide +kernel) (by decide +kernel)
theorem se_X8_put : (Cond.selects RX8 yX8_put yX8_put : Cond) ∈ tb := tbm 137 (by decide +kernel) (by decide +kernel)
theorem cd_X8_put : (Cond.code yX8_put cX8_put 6 (some .int) : Cond) ∈ tb := tbm 138 (by decide +kernel) (by decide +kernel)
theorem ml_X8_53 : (Cond.methodLink RX8 53 yX8_isPath : Cond) ∈ tb := tbm 139 (by decide +kernel) (by decide +kernel)
theorem sm_X8_isPath : (Cond.static yX8_isPath : Cond) ∈ tb := tbm 140 (by decide +kernel) (by decide +kernel)
theorem cd_X8_isPath : (Cond.code yX8_isPath cX8_isPath 1 (some .boolean) : Cond) ∈ tb := tbm 141 (by decide +kernel) (by decide +kernel)
theorem co_X8_74 : (Cond.constant RX8 74 65535 : Cond) ∈ tb := tbm 142 (by decide +kernel) (by decide +kernel)
theorem ml_X8_57 : (Cond.methodLink RX8 57 yX8_endOfWay : Cond) ∈ tb := tbm 143 (by decide +kernel) (by decide +kernel)
theorem sm_X8_endOfWay : (Cond.static yX8_endOfWay : Cond) ∈ tb := tbm 144 (by decide +kernel) (by decide +kernel)
theorem cd_X8_endOfWay : (Cond.code yX8_endOfWay cX8_endOfWay 5 (some (.object "PathProofs$Node")) : Cond) ∈ tb := tbm 145 (by decide +kernel) (by decide +kernel)
theorem kl_X8_167 : (Cond.classLink RX8 167 RX1 : Cond) ∈ tb := tbm 146 (by decide +kernel) (by decide +kernel)
theorem ml_X8_169 : (Cond.methodLink RX8 169 yX1_takesIn : Cond) ∈ tb := tbm 147 (by decide +kernel) (by decide +kernel)
theorem im_X1_takesIn : (Cond.instanceMethod yX1_takesIn : Cond) ∈ tb := tbm 148 (by decide +kernel) (by decide +kernel)
theorem se_X1_takesIn : (Cond.selects RX1 yX1_takesIn yX1_takesIn : Cond) ∈ tb := tbm 149 (by decide +kernel) (by decide +kernel)
theorem cd_X1_takesIn : (Cond.code yX1_takesIn cX1_takesIn 2 (some .boolean) : Cond) ∈ tb := tbm 150 (by decide +kernel) (by decide +kernel)
theorem sm_X8_stemOf : (Cond.static yX8_stemOf : Cond) ∈ tb := tbm 152 (by decide +kernel) (by decide +kernel)
theorem cd_X8_stemOf : (Cond.code yX8_stemOf cX8_stemOf 2 (some .int) : Cond) ∈ tb := tbm 153 (by decide +kernel) (by decide +kernel)
theorem ml_X8_172 : (Cond.methodLink RX8 172 yX1_toward : Cond) ∈ tb := tbm 154 (by decide +kernel) (by decide +kernel)
theorem im_X1_toward : (Cond.instanceMethod yX1_toward : Cond) ∈ tb := tbm 155 (by decide +kernel) (by decide +kernel)
theorem se_X1_toward : (Cond.selects RX1 yX1_toward yX1_toward : Cond) ∈ tb := tbm 156 (by decide +kernel) (by decide +kernel)
theorem cd_X1_toward : (Cond.code yX1_toward cX1_toward 2 (some (.object "PathProofs$Node")) : Cond) ∈ tb := tbm 157 (by decide +kernel) (by decide +kernel)
theorem sm_X8_isHigh : (Cond.static yX8_isHigh : Cond) ∈ tb := tbm 159 (by decide +kernel) (by decide +kernel)
theorem cd_X8_isHigh : (Cond.code yX8_isHigh cX8_isHigh 2 (some .boolean) : Cond) ∈ tb := tbm 160 (by decide +kernel) (by decide +kernel)
theorem ml_X8_61 : (Cond.methodLink RX8 61 yX8_isLeafOf : Cond) ∈ tb := tbm 161 (by decide +kernel) (by decide +kernel)
theorem sm_X8_isLeafOf : (Cond.static yX8_isLeafOf : Cond) ∈ tb := tbm 162 (by decide +kernel) (by decide +kernel)
theorem cd_X8_isLeafOf : (Cond.code yX8_isLeafOf cX8_isLeafOf 3 (some .boolean) : Cond) ∈ tb := tbm 163 (by decide +kernel) (by decide +kernel)
theorem kl_X8_65 : (Cond.classLink RX8 65 RX3 : Cond) ∈ tb := tbm 164 (by decide +kernel) (by decide +kernel)
theorem is_X3 : (Cond.instantiable RX3 3 : Cond) ∈ tb := tbm 165 (by decide +kernel) (by decide +kernel)
theorem ml_X8_67 : (Cond.methodLink RX8 67 yX3_init : Cond) ∈ tb := tbm 166 (by decide +kernel) (by decide +kernel)
theorem im_X3_init : (Cond.instanceMethod yX3_init : Cond) ∈ tb := tbm 167 (by decide +kernel) (by decide +kernel)
theorem cd_X3_init : (Cond.code yX3_init cX3_init 4 none : Cond) ∈ tb := tbm 168 (by decide +kernel) (by decide +kernel)
theorem sm_X8_leafDigest : (Cond.static yX8_leafDigest : Cond) ∈ tb := tbm 170 (by decide +kernel) (by decide +kernel)
theorem cd_X8_leafDigest : (Cond.code yX8_leafDigest cX8_leafDigest 3 (some .long) : Cond) ∈ tb := tbm 171 (by decide +kernel) (by decide +kernel)
theorem ml_X3_7 : (Cond.methodLink RX3 7 yX4_init : Cond) ∈ tb := tbm 172 (by decide +kernel) (by decide +kernel)
theorem fl_X3_13 : (Cond.fieldLink RX3 13 "PathProofs$Leaf" "path" "I" : Cond) ∈ tb := tbm 173 (by decide +kernel) (by decide +kernel)
theorem fl_X8_136 : (Cond.fieldLink RX8 136 "PathProofs$Leaf" "path" "I" : Cond) ∈ tb := tbm 174 (by decide +kernel) (by decide +kernel)
theorem fl_X3_19 : (Cond.fieldLink RX3 19 "PathProofs$Leaf" "value" "J" : Cond) ∈ tb := tbm 175 (by decide +kernel) (by decide +kernel)
theorem fl_X8_139 : (Cond.fieldLink RX8 139 "PathProofs$Leaf" "value" "J" : Cond) ∈ tb := tbm 176 (by decide +kernel) (by decide +kernel)
theorem ml_X8_70 : (Cond.methodLink RX8 70 yX8_written : Cond) ∈ tb := tbm 183 (by decide +kernel) (by decide +kernel)
theorem sm_X8_written : (Cond.static yX8_written : Cond) ∈ tb := tbm 184 (by decide +kernel) (by decide +kernel)
theorem cd_X8_written : (Cond.code yX8_written cX8_written 4 (some (.object "PathProofs$Node")) : Cond) ∈ tb := tbm 185 (by decide +kernel) (by decide +kernel)
theorem ml_X8_175 : (Cond.methodLink RX8 175 yX1_with : Cond) ∈ tb := tbm 186 (by decide +kernel) (by decide +kernel)
theorem im_X1_with : (Cond.instanceMethod yX1_with : Cond) ∈ tb := tbm 187 (by decide +kernel) (by decide +kernel)
theorem se_X1_with : (Cond.selects RX1 yX1_with yX1_with : Cond) ∈ tb := tbm 188 (by decide +kernel) (by decide +kernel)
theorem cd_X1_with : (Cond.code yX1_with cX1_with 3 (some (.object "PathProofs$Fork")) : Cond) ∈ tb := tbm 189 (by decide +kernel) (by decide +kernel)
theorem kl_X1_18 : (Cond.classLink RX1 18 RX1 : Cond) ∈ tb := tbm 190 (by decide +kernel) (by decide +kernel)
theorem is_X1 : (Cond.instantiable RX1 5 : Cond) ∈ tb := tbm 191 (by decide +kernel) (by decide +kernel)
theorem ml_X1_41 : (Cond.methodLink RX1 41 yX1_init : Cond) ∈ tb := tbm 192 (by decide +kernel) (by decide +kernel)
theorem im_X1_init : (Cond.instanceMethod yX1_init : Cond) ∈ tb := tbm 193 (by decide +kernel) (by decide +kernel)
theorem cd_X1_init : (Cond.code yX1_init cX1_init 5 none : Cond) ∈ tb := tbm 194 (by decide +kernel) (by decide +kernel)
theorem sm_X8_forkDigest : (Cond.static yX8_forkDigest : Cond) ∈ tb := tbm 196 (by decide +kernel) (by decide +kernel)
theorem cd_X8_forkDigest : (Cond.code yX8_forkDigest cX8_forkDigest 6 (some .long) : Cond) ∈ tb := tbm 197 (by decide +kernel) (by decide +kernel)
theorem co_X8_165 : (Cond.constantLong RX8 165 (2) : Cond) ∈ tb := tbm 198 (by decide +kernel) (by decide +kernel)
theorem ml_X1_13 : (Cond.methodLink RX1 13 yX4_init : Cond) ∈ tb := tbm 199 (by decide +kernel) (by decide +kernel)
theorem fl_X1_17 : (Cond.fieldLink RX1 17 "PathProofs$Fork" "bit" "I" : Cond) ∈ tb := tbm 200 (by decide +kernel) (by decide +kernel)
theorem fl_X8_224 : (Cond.fieldLink RX8 224 "PathProofs$Fork" "bit" "I" : Cond) ∈ tb := tbm 201 (by decide +kernel) (by decide +kernel)
theorem fl_X1_23 : (Cond.fieldLink RX1 23 "PathProofs$Fork" "stem" "I" : Cond) ∈ tb := tbm 202 (by decide +kernel) (by decide +kernel)
theorem fl_X8_179 : (Cond.fieldLink RX8 179 "PathProofs$Fork" "stem" "I" : Cond) ∈ tb := tbm 203 (by decide +kernel) (by decide +kernel)
theorem fl_X1_26 : (Cond.fieldLink RX1 26 "PathProofs$Fork" "low" "LPathProofs$Node;" : Cond) ∈ tb := tbm 204 (by decide +kernel) (by decide +kernel)
theorem fl_X8_199 : (Cond.fieldLink RX8 199 "PathProofs$Fork" "low" "LPathProofs$Node;" : Cond) ∈ tb := tbm 205 (by decide +kernel) (by decide +kernel)
theorem fl_X1_30 : (Cond.fieldLink RX1 30 "PathProofs$Fork" "high" "LPathProofs$Node;" : Cond) ∈ tb := tbm 206 (by decide +kernel) (by decide +kernel)
theorem fl_X8_202 : (Cond.fieldLink RX8 202 "PathProofs$Fork" "high" "LPathProofs$Node;" : Cond) ∈ tb := tbm 207 (by decide +kernel) (by decide +kernel)
theorem ml_X8_182 : (Cond.methodLink RX8 182 yX8_forkOf : Cond) ∈ tb := tbm 218 (by decide +kernel) (by decide +kernel)
theorem sm_X8_forkOf : (Cond.static yX8_forkOf : Cond) ∈ tb := tbm 219 (by decide +kernel) (by decide +kernel)
theorem cd_X8_forkOf : (Cond.code yX8_forkOf cX8_forkOf 5 (some (.object "PathProofs$Node")) : Cond) ∈ tb := tbm 220 (by decide +kernel) (by decide +kernel)
theorem ml_X8_186 : (Cond.methodLink RX8 186 yX8_firstOtherBit : Cond) ∈ tb := tbm 221 (by decide +kernel) (by decide +kernel)
theorem sm_X8_firstOtherBit : (Cond.static yX8_firstOtherBit : Cond) ∈ tb := tbm 222 (by decide +kernel) (by decide +kernel)
theorem cd_X8_firstOtherBit : (Cond.code yX8_firstOtherBit cX8_firstOtherBit 3 (some .int) : Cond) ∈ tb := tbm 223 (by decide +kernel) (by decide +kernel)
theorem ml_X8_152 : (Cond.methodLink RX8 152 yX8_isHigh : Cond) ∈ tb := tbm 224 (by decide +kernel) (by decide +kernel)
theorem ml_X8_190 : (Cond.methodLink RX8 190 yX8_stemOf : Cond) ∈ tb := tbm 225 (by decide +kernel) (by decide +kernel)
theorem ml_X8_193 : (Cond.methodLink RX8 193 yX1_init : Cond) ∈ tb := tbm 226 (by decide +kernel) (by decide +kernel)
theorem ml_X8_75 : (Cond.methodLink RX8 75 yX8_leavesWithin : Cond) ∈ tb := tbm 227 (by decide +kernel) (by decide +kernel)
theorem sm_X8_leavesWithin : (Cond.static yX8_leavesWithin : Cond) ∈ tb := tbm 228 (by decide +kernel) (by decide +kernel)
theorem cd_X8_leavesWithin : (Cond.code yX8_leavesWithin cX8_leavesWithin 5 (some .int) : Cond) ∈ tb := tbm 229 (by decide +kernel) (by decide +kernel)
theorem ml_L_20 : (Cond.methodLink RL 20 yX8_remove : Cond) ∈ tb := tbm 230 (by decide +kernel) (by decide +kernel)
theorem im_X8_remove : (Cond.instanceMethod yX8_remove : Cond) ∈ tb := tbm 231 (by decide +kernel) (by decide +kernel)
theorem se_X8_remove : (Cond.selects RX8 yX8_remove yX8_remove : Cond) ∈ tb := tbm 232 (by decide +kernel) (by decide +kernel)
theorem cd_X8_remove : (Cond.code yX8_remove cX8_remove 2 (some .int) : Cond) ∈ tb := tbm 233 (by decide +kernel) (by decide +kernel)
theorem ml_X8_79 : (Cond.methodLink RX8 79 yX8_erased : Cond) ∈ tb := tbm 234 (by decide +kernel) (by decide +kernel)
theorem sm_X8_erased : (Cond.static yX8_erased : Cond) ∈ tb := tbm 235 (by decide +kernel) (by decide +kernel)
theorem cd_X8_erased : (Cond.code yX8_erased cX8_erased 5 (some (.object "PathProofs$Node")) : Cond) ∈ tb := tbm 236 (by decide +kernel) (by decide +kernel)
theorem ml_X8_196 : (Cond.methodLink RX8 196 yX1_besides : Cond) ∈ tb := tbm 237 (by decide +kernel) (by decide +kernel)
theorem im_X1_besides : (Cond.instanceMethod yX1_besides : Cond) ∈ tb := tbm 238 (by decide +kernel) (by decide +kernel)
theorem se_X1_besides : (Cond.selects RX1 yX1_besides yX1_besides : Cond) ∈ tb := tbm 239 (by decide +kernel) (by decide +kernel)
theorem cd_X1_besides : (Cond.code yX1_besides cX1_besides 2 (some (.object "PathProofs$Node")) : Cond) ∈ tb := tbm 240 (by decide +kernel) (by decide +kernel)
theorem ml_L_25 : (Cond.methodLink RL 25 yX8_keep : Cond) ∈ tb := tbm 241 (by decide +kernel) (by decide +kernel)
theorem im_X8_keep : (Cond.instanceMethod yX8_keep : Cond) ∈ tb := tbm 242 (by decide +kernel) (by decide +kernel)
theorem se_X8_keep : (Cond.selects RX8 yX8_keep yX8_keep : Cond) ∈ tb := tbm 243 (by decide +kernel) (by decide +kernel)
theorem cd_X8_keep : (Cond.code yX8_keep cX8_keep 1 (some .int) : Cond) ∈ tb := tbm 244 (by decide +kernel) (by decide +kernel)
theorem ml_L_30 : (Cond.methodLink RL 30 yX8_root : Cond) ∈ tb := tbm 245 (by decide +kernel) (by decide +kernel)
theorem im_X8_root : (Cond.instanceMethod yX8_root : Cond) ∈ tb := tbm 246 (by decide +kernel) (by decide +kernel)
theorem se_X8_root : (Cond.selects RX8 yX8_root yX8_root : Cond) ∈ tb := tbm 247 (by decide +kernel) (by decide +kernel)
theorem cd_X8_root : (Cond.code yX8_root cX8_root 3 (some .long) : Cond) ∈ tb := tbm 248 (by decide +kernel) (by decide +kernel)
theorem ml_X8_83 : (Cond.methodLink RX8 83 yX8_wholeOf : Cond) ∈ tb := tbm 249 (by decide +kernel) (by decide +kernel)
theorem im_X8_wholeOf : (Cond.instanceMethod yX8_wholeOf : Cond) ∈ tb := tbm 251 (by decide +kernel) (by decide +kernel)
theorem cd_X8_wholeOf : (Cond.code yX8_wholeOf cX8_wholeOf 2 (some (.object "PathProofs$Node")) : Cond) ∈ tb := tbm 252 (by decide +kernel) (by decide +kernel)
theorem ml_L_35 : (Cond.methodLink RL 35 yX8_leaves : Cond) ∈ tb := tbm 253 (by decide +kernel) (by decide +kernel)
theorem im_X8_leaves : (Cond.instanceMethod yX8_leaves : Cond) ∈ tb := tbm 254 (by decide +kernel) (by decide +kernel)
theorem se_X8_leaves : (Cond.selects RX8 yX8_leaves yX8_leaves : Cond) ∈ tb := tbm 255 (by decide +kernel) (by decide +kernel)
theorem cd_X8_leaves : (Cond.code yX8_leaves cX8_leaves 3 (some .int) : Cond) ∈ tb := tbm 256 (by decide +kernel) (by decide +kernel)
theorem ml_L_39 : (Cond.methodLink RL 39 yX8_want : Cond) ∈ tb := tbm 257 (by decide +kernel) (by decide +kernel)
theorem im_X8_want : (Cond.instanceMethod yX8_want : Cond) ∈ tb := tbm 258 (by decide +kernel) (by decide +kernel)
theorem se_X8_want : (Cond.selects RX8 yX8_want yX8_want : Cond) ∈ tb := tbm 259 (by decide +kernel) (by decide +kernel)
theorem cd_X8_want : (Cond.code yX8_want cX8_want 3 (some .int) : Cond) ∈ tb := tbm 260 (by decide +kernel) (by decide +kernel)
theorem ml_X8_90 : (Cond.methodLink RX8 90 yX8_isRange : Cond) ∈ tb := tbm 261 (by decide +kernel) (by decide +kernel)
theorem sm_X8_isRange : (Cond.static yX8_isRange : Cond) ∈ tb := tbm 262 (by decide +kernel) (by decide +kernel)
theorem cd_X8_isRange : (Cond.code yX8_isRange cX8_isRange 2 (some .boolean) : Cond) ∈ tb := tbm 263 (by decide +kernel) (by decide +kernel)
theorem ml_X8_94 : (Cond.methodLink RX8 94 yX5_add : Cond) ∈ tb := tbm 264 (by decide +kernel) (by decide +kernel)
theorem im_X5_add : (Cond.instanceMethod yX5_add : Cond) ∈ tb := tbm 265 (by decide +kernel) (by decide +kernel)
theorem se_X5_add : (Cond.selects RX5 yX5_add yX5_add : Cond) ∈ tb := tbm 266 (by decide +kernel) (by decide +kernel)
theorem cd_X5_add : (Cond.code yX5_add cX5_add 3 (some .boolean) : Cond) ∈ tb := tbm 267 (by decide +kernel) (by decide +kernel)
theorem ml_L_44 : (Cond.methodLink RL 44 yX8_forget : Cond) ∈ tb := tbm 268 (by decide +kernel) (by decide +kernel)
theorem im_X8_forget : (Cond.instanceMethod yX8_forget : Cond) ∈ tb := tbm 269 (by decide +kernel) (by decide +kernel)
theorem se_X8_forget : (Cond.selects RX8 yX8_forget yX8_forget : Cond) ∈ tb := tbm 270 (by decide +kernel) (by decide +kernel)
theorem cd_X8_forget : (Cond.code yX8_forget cX8_forget 2 (some .int) : Cond) ∈ tb := tbm 271 (by decide +kernel) (by decide +kernel)
theorem ml_L_48 : (Cond.methodLink RL 48 yX8_show : Cond) ∈ tb := tbm 272 (by decide +kernel) (by decide +kernel)
theorem im_X8_show : (Cond.instanceMethod yX8_show : Cond) ∈ tb := tbm 273 (by decide +kernel) (by decide +kernel)
theorem se_X8_show : (Cond.selects RX8 yX8_show yX8_show : Cond) ∈ tb := tbm 274 (by decide +kernel) (by decide +kernel)
theorem cd_X8_show : (Cond.code yX8_show cX8_show 3 (some .int) : Cond) ∈ tb := tbm 275 (by decide +kernel) (by decide +kernel)
theorem ml_X8_100 : (Cond.methodLink RX8 100 yX8_tapeBecomes : Cond) ∈ tb := tbm 276 (by decide +kernel) (by decide +kernel)
theorem im_X8_tapeBecomes : (Cond.instanceMethod yX8_tapeBecomes : Cond) ∈ tb := tbm 278 (by decide +kernel) (by decide +kernel)
theorem cd_X8_tapeBecomes : (Cond.code yX8_tapeBecomes cX8_tapeBecomes 3 (some .int) : Cond) ∈ tb := tbm 279 (by decide +kernel) (by decide +kernel)
theorem ml_X8_217 : (Cond.methodLink RX8 217 yX8_appendShown : Cond) ∈ tb := tbm 280 (by decide +kernel) (by decide +kernel)
theorem im_X8_appendShown : (Cond.instanceMethod yX8_appendShown : Cond) ∈ tb := tbm 282 (by decide +kernel) (by decide +kernel)
theorem cd_X8_appendShown : (Cond.code yX8_appendShown cX8_appendShown 7 none : Cond) ∈ tb := tbm 283 (by decide +kernel) (by decide +kernel)
theorem kl_X8_134 : (Cond.classLink RX8 134 RX2 : Cond) ∈ tb := tbm 284 (by decide +kernel) (by decide +kernel)
theorem ml_X8_221 : (Cond.methodLink RX8 221 yX5_meet : Cond) ∈ tb := tbm 285 (by decide +kernel) (by decide +kernel)
theorem im_X5_meet : (Cond.instanceMethod yX5_meet : Cond) ∈ tb := tbm 286 (by decide +kernel) (by decide +kernel)
theorem se_X5_meet : (Cond.selects RX5 yX5_meet yX5_meet : Cond) ∈ tb := tbm 287 (by decide +kernel) (by decide +kernel)
theorem cd_X5_meet : (Cond.code yX5_meet cX5_meet 4 (some .boolean) : Cond) ∈ tb := tbm 288 (by decide +kernel) (by decide +kernel)
theorem ml_X8_107 : (Cond.methodLink RX8 107 yX7_append : Cond) ∈ tb := tbm 289 (by decide +kernel) (by decide +kernel)
theorem im_X7_append : (Cond.instanceMethod yX7_append : Cond) ∈ tb := tbm 290 (by decide +kernel) (by decide +kernel)
theorem se_X7_append : (Cond.selects RX7 yX7_append yX7_append : Cond) ∈ tb := tbm 291 (by decide +kernel) (by decide +kernel)
theorem cd_X7_append : (Cond.code yX7_append cX7_append 5 none : Cond) ∈ tb := tbm 292 (by decide +kernel) (by decide +kernel)
theorem ml_X8_210 : (Cond.methodLink RX8 210 yX1_middle : Cond) ∈ tb := tbm 293 (by decide +kernel) (by decide +kernel)
theorem im_X1_middle : (Cond.instanceMethod yX1_middle : Cond) ∈ tb := tbm 294 (by decide +kernel) (by decide +kernel)
theorem se_X1_middle : (Cond.selects RX1 yX1_middle yX1_middle : Cond) ∈ tb := tbm 295 (by decide +kernel) (by decide +kernel)
theorem cd_X1_middle : (Cond.code yX1_middle cX1_middle 1 (some .int) : Cond) ∈ tb := tbm 296 (by decide +kernel) (by decide +kernel)
theorem ml_X8_214 : (Cond.methodLink RX8 214 yX1_last : Cond) ∈ tb := tbm 297 (by decide +kernel) (by decide +kernel)
theorem im_X1_last : (Cond.instanceMethod yX1_last : Cond) ∈ tb := tbm 298 (by decide +kernel) (by decide +kernel)
theorem se_X1_last : (Cond.selects RX1 yX1_last yX1_last : Cond) ∈ tb := tbm 299 (by decide +kernel) (by decide +kernel)
theorem cd_X1_last : (Cond.code yX1_last cX1_last 1 (some .int) : Cond) ∈ tb := tbm 300 (by decide +kernel) (by decide +kernel)
theorem ml_L_52 : (Cond.methodLink RL 52 yX8_pass : Cond) ∈ tb := tbm 301 (by decide +kernel) (by decide +kernel)
theorem im_X8_pass : (Cond.instanceMethod yX8_pass : Cond) ∈ tb := tbm 302 (by decide +kernel) (by decide +kernel)
theorem se_X8_pass : (Cond.selects RX8 yX8_pass yX8_pass : Cond) ∈ tb := tbm 303 (by decide +kernel) (by decide +kernel)
theorem cd_X8_pass : (Cond.code yX8_pass cX8_pass 1 (some .int) : Cond) ∈ tb := tbm 304 (by decide +kernel) (by decide +kernel)
theorem ml_L_56 : (Cond.methodLink RL 56 yX8_feed : Cond) ∈ tb := tbm 305 (by decide +kernel) (by decide +kernel)
theorem im_X8_feed : (Cond.instanceMethod yX8_feed : Cond) ∈ tb := tbm 306 (by decide +kernel) (by decide +kernel)
theorem se_X8_feed : (Cond.selects RX8 yX8_feed yX8_feed : Cond) ∈ tb := tbm 307 (by decide +kernel) (by decide +kernel)
theorem cd_X8_feed : (Cond.code yX8_feed cX8_feed 4 (some .int) : Cond) ∈ tb := tbm 308 (by decide +kernel) (by decide +kernel)
theorem ml_L_60 : (Cond.methodLink RL 60 yX8_cut : Cond) ∈ tb := tbm 309 (by decide +kernel) (by decide +kernel)
theorem im_X8_cut : (Cond.instanceMethod yX8_cut : Cond) ∈ tb := tbm 310 (by decide +kernel) (by decide +kernel)
theorem se_X8_cut : (Cond.selects RX8 yX8_cut yX8_cut : Cond) ∈ tb := tbm 311 (by decide +kernel) (by decide +kernel)
theorem cd_X8_cut : (Cond.code yX8_cut cX8_cut 3 (some .int) : Cond) ∈ tb := tbm 312 (by decide +kernel) (by decide +kernel)
theorem ml_L_64 : (Cond.methodLink RL 64 yX8_spoil : Cond) ∈ tb := tbm 313 (by decide +kernel) (by decide +kernel)
theorem im_X8_spoil : (Cond.instanceMethod yX8_spoil : Cond) ∈ tb := tbm 314 (by decide +kernel) (by decide +kernel)
theorem se_X8_spoil : (Cond.selects RX8 yX8_spoil yX8_spoil : Cond) ∈ tb := tbm 315 (by decide +kernel) (by decide +kernel)
theorem cd_X8_spoil : (Cond.code yX8_spoil cX8_spoil 3 (some .int) : Cond) ∈ tb := tbm 316 (by decide +kernel) (by decide +kernel)
theorem ml_X8_110 : (Cond.methodLink RX8 110 yX7_has : Cond) ∈ tb := tbm 317 (by decide +kernel) (by decide +kernel)
theorem im_X7_has : (Cond.instanceMethod yX7_has : Cond) ∈ tb := tbm 318 (by decide +kernel) (by decide +kernel)
theorem se_X7_has : (Cond.selects RX7 yX7_has yX7_has : Cond) ∈ tb := tbm 319 (by decide +kernel) (by decide +kernel)
theorem cd_X7_has : (Cond.code yX7_has cX7_has 2 (some .boolean) : Cond) ∈ tb := tbm 320 (by decide +kernel) (by decide +kernel)
theorem ml_L_68 : (Cond.methodLink RL 68 yX8_take : Cond) ∈ tb := tbm 321 (by decide +kernel) (by decide +kernel)
theorem im_X8_take : (Cond.instanceMethod yX8_take : Cond) ∈ tb := tbm 322 (by decide +kernel) (by decide +kernel)
theorem se_X8_take : (Cond.selects RX8 yX8_take yX8_take : Cond) ∈ tb := tbm 323 (by decide +kernel) (by decide +kernel)
theorem cd_X8_take : (Cond.code yX8_take cX8_take 5 (some .int) : Cond) ∈ tb := tbm 324 (by decide +kernel) (by decide +kernel)
theorem kl_X8_117 : (Cond.classLink RX8 117 RX6 : Cond) ∈ tb := tbm 325 (by decide +kernel) (by decide +kernel)
theorem is_X6 : (Cond.instantiable RX6 4 : Cond) ∈ tb := tbm 326 (by decide +kernel) (by decide +kernel)
theorem ml_X8_119 : (Cond.methodLink RX8 119 yX6_init : Cond) ∈ tb := tbm 327 (by decide +kernel) (by decide +kernel)
theorem im_X6_init : (Cond.instanceMethod yX6_init : Cond) ∈ tb := tbm 328 (by decide +kernel) (by decide +kernel)
theorem cd_X6_init : (Cond.code yX6_init cX6_init 2 none : Cond) ∈ tb := tbm 329 (by decide +kernel) (by decide +kernel)
theorem ml_X6_3 : (Cond.methodLink RX6 3 objectInit : Cond) ∈ tb := tbm 330 (by decide +kernel) (by decide +kernel)
theorem fl_X6_21 : (Cond.fieldLink RX6 21 "PathProofs$Reading" "tape" "LPathProofs$Tape;" : Cond) ∈ tb := tbm 331 (by decide +kernel) (by decide +kernel)
theorem fl_X6_9 : (Cond.fieldLink RX6 9 "PathProofs$Reading" "at" "I" : Cond) ∈ tb := tbm 332 (by decide +kernel) (by decide +kernel)
theorem fl_X6_15 : (Cond.fieldLink RX6 15 "PathProofs$Reading" "fault" "I" : Cond) ∈ tb := tbm 333 (by decide +kernel) (by decide +kernel)
theorem fl_X8_127 : (Cond.fieldLink RX8 127 "PathProofs$Reading" "fault" "I" : Cond) ∈ tb := tbm 334 (by decide +kernel) (by decide +kernel)
theorem fl_X6_18 : (Cond.fieldLink RX6 18 "PathProofs$Reading" "faultPlace" "I" : Cond) ∈ tb := tbm 335 (by decide +kernel) (by decide +kernel)
theorem fl_X8_126 : (Cond.fieldLink RX8 126 "PathProofs$Reading" "faultPlace" "I" : Cond) ∈ tb := tbm 336 (by decide +kernel) (by decide +kernel)
theorem ml_X8_122 : (Cond.methodLink RX8 122 yX6_wholeWith : Cond) ∈ tb := tbm 346 (by decide +kernel) (by decide +kernel)
theorem im_X6_wholeWith : (Cond.instanceMethod yX6_wholeWith : Cond) ∈ tb := tbm 347 (by decide +kernel) (by decide +kernel)
theorem se_X6_wholeWith : (Cond.selects RX6 yX6_wholeWith yX6_wholeWith : Cond) ∈ tb := tbm 348 (by decide +kernel) (by decide +kernel)
theorem cd_X6_wholeWith : (Cond.code yX6_wholeWith cX6_wholeWith 4 (some (.object "PathProofs$Node")) : Cond) ∈ tb := tbm 349 (by decide +kernel) (by decide +kernel)
theorem co_X6_25 : (Cond.constant RX6 25 65535 : Cond) ∈ tb := tbm 350 (by decide +kernel) (by decide +kernel)
theorem ml_X6_26 : (Cond.methodLink RX6 26 yX6_readNode : Cond) ∈ tb := tbm 351 (by decide +kernel) (by decide +kernel)
theorem im_X6_readNode : (Cond.instanceMethod yX6_readNode : Cond) ∈ tb := tbm 353 (by decide +kernel) (by decide +kernel)
theorem cd_X6_readNode : (Cond.code yX6_readNode cX6_readNode 4 (some (.object "PathProofs$Node")) : Cond) ∈ tb := tbm 354 (by decide +kernel) (by decide +kernel)
theorem ml_X6_45 : (Cond.methodLink RX6 45 yX6_lacks : Cond) ∈ tb := tbm 355 (by decide +kernel) (by decide +kernel)
theorem im_X6_lacks : (Cond.instanceMethod yX6_lacks : Cond) ∈ tb := tbm 357 (by decide +kernel) (by decide +kernel)
theorem cd_X6_lacks : (Cond.code yX6_lacks cX6_lacks 2 (some .boolean) : Cond) ∈ tb := tbm 358 (by decide +kernel) (by decide +kernel)
theorem ml_X6_35 : (Cond.methodLink RX6 35 yX6_refuse : Cond) ∈ tb := tbm 359 (by decide +kernel) (by decide +kernel)
theorem im_X6_refuse : (Cond.instanceMethod yX6_refuse : Cond) ∈ tb := tbm 361 (by decide +kernel) (by decide +kernel)
theorem cd_X6_refuse : (Cond.code yX6_refuse cX6_refuse 3 (some (.object "PathProofs$Node")) : Cond) ∈ tb := tbm 362 (by decide +kernel) (by decide +kernel)
theorem ml_X6_49 : (Cond.methodLink RX6 49 yX6_number : Cond) ∈ tb := tbm 363 (by decide +kernel) (by decide +kernel)
theorem im_X6_number : (Cond.instanceMethod yX6_number : Cond) ∈ tb := tbm 365 (by decide +kernel) (by decide +kernel)
theorem cd_X6_number : (Cond.code yX6_number cX6_number 5 (some .long) : Cond) ∈ tb := tbm 366 (by decide +kernel) (by decide +kernel)
theorem ml_X6_81 : (Cond.methodLink RX6 81 yX7_has : Cond) ∈ tb := tbm 367 (by decide +kernel) (by decide +kernel)
theorem kl_X6_53 : (Cond.classLink RX6 53 RX2 : Cond) ∈ tb := tbm 368 (by decide +kernel) (by decide +kernel)
theorem is_X2 : (Cond.instantiable RX2 1 : Cond) ∈ tb := tbm 369 (by decide +kernel) (by decide +kernel)
theorem ml_X6_55 : (Cond.methodLink RX6 55 yX2_init : Cond) ∈ tb := tbm 370 (by decide +kernel) (by decide +kernel)
theorem im_X2_init : (Cond.instanceMethod yX2_init : Cond) ∈ tb := tbm 371 (by decide +kernel) (by decide +kernel)
theorem cd_X2_init : (Cond.code yX2_init cX2_init 3 none : Cond) ∈ tb := tbm 372 (by decide +kernel) (by decide +kernel)
theorem ml_X2_1 : (Cond.methodLink RX2 1 yX4_init : Cond) ∈ tb := tbm 373 (by decide +kernel) (by decide +kernel)
theorem ml_X6_58 : (Cond.methodLink RX6 58 yX6_readFork : Cond) ∈ tb := tbm 376 (by decide +kernel) (by decide +kernel)
theorem im_X6_readFork : (Cond.instanceMethod yX6_readFork : Cond) ∈ tb := tbm 378 (by decide +kernel) (by decide +kernel)
theorem cd_X6_readFork : (Cond.code yX6_readFork cX6_readFork 9 (some (.object "PathProofs$Node")) : Cond) ∈ tb := tbm 379 (by decide +kernel) (by decide +kernel)
theorem kl_X6_76 : (Cond.classLink RX6 76 RX1 : Cond) ∈ tb := tbm 381 (by decide +kernel) (by decide +kernel)
theorem ml_X6_78 : (Cond.methodLink RX6 78 yX1_init : Cond) ∈ tb := tbm 382 (by decide +kernel) (by decide +kernel)
theorem ml_X6_61 : (Cond.methodLink RX6 61 yX6_readLeaf : Cond) ∈ tb := tbm 383 (by decide +kernel) (by decide +kernel)
theorem im_X6_readLeaf : (Cond.instanceMethod yX6_readLeaf : Cond) ∈ tb := tbm 385 (by decide +kernel) (by decide +kernel)
theorem cd_X6_readLeaf : (Cond.code yX6_readLeaf cX6_readLeaf 4 (some (.object "PathProofs$Node")) : Cond) ∈ tb := tbm 386 (by decide +kernel) (by decide +kernel)
theorem kl_X6_67 : (Cond.classLink RX6 67 RX3 : Cond) ∈ tb := tbm 387 (by decide +kernel) (by decide +kernel)
theorem ml_X6_69 : (Cond.methodLink RX6 69 yX3_init : Cond) ∈ tb := tbm 388 (by decide +kernel) (by decide +kernel)
theorem kl_X6_64 : (Cond.classLink RX6 64 RX0 : Cond) ∈ tb := tbm 389 (by decide +kernel) (by decide +kernel)
theorem ml_X6_66 : (Cond.methodLink RX6 66 yX0_init : Cond) ∈ tb := tbm 390 (by decide +kernel) (by decide +kernel)
theorem ml_X8_130 : (Cond.methodLink RX8 130 yX8_nodesOf : Cond) ∈ tb := tbm 391 (by decide +kernel) (by decide +kernel)
theorem sm_X8_nodesOf : (Cond.static yX8_nodesOf : Cond) ∈ tb := tbm 392 (by decide +kernel) (by decide +kernel)
theorem cd_X8_nodesOf : (Cond.code yX8_nodesOf cX8_nodesOf 3 (some .int) : Cond) ∈ tb := tbm 393 (by decide +kernel) (by decide +kernel)
theorem ml_L_73 : (Cond.methodLink RL 73 yX8_place : Cond) ∈ tb := tbm 394 (by decide +kernel) (by decide +kernel)
theorem im_X8_place : (Cond.instanceMethod yX8_place : Cond) ∈ tb := tbm 395 (by decide +kernel) (by decide +kernel)
theorem se_X8_place : (Cond.selects RX8 yX8_place yX8_place : Cond) ∈ tb := tbm 396 (by decide +kernel) (by decide +kernel)
theorem cd_X8_place : (Cond.code yX8_place cX8_place 1 (some .int) : Cond) ∈ tb := tbm 397 (by decide +kernel) (by decide +kernel)
theorem ml_L_77 : (Cond.methodLink RL 77 yX8_get : Cond) ∈ tb := tbm 398 (by decide +kernel) (by decide +kernel)
theorem im_X8_get : (Cond.instanceMethod yX8_get : Cond) ∈ tb := tbm 399 (by decide +kernel) (by decide +kernel)
theorem se_X8_get : (Cond.selects RX8 yX8_get yX8_get : Cond) ∈ tb := tbm 400 (by decide +kernel) (by decide +kernel)
theorem cd_X8_get : (Cond.code yX8_get cX8_get 4 (some .int) : Cond) ∈ tb := tbm 401 (by decide +kernel) (by decide +kernel)
theorem ml_L_81 : (Cond.methodLink RL 81 yX8_value : Cond) ∈ tb := tbm 402 (by decide +kernel) (by decide +kernel)
theorem im_X8_value : (Cond.instanceMethod yX8_value : Cond) ∈ tb := tbm 403 (by decide +kernel) (by decide +kernel)
theorem se_X8_value : (Cond.selects RX8 yX8_value yX8_value : Cond) ∈ tb := tbm 404 (by decide +kernel) (by decide +kernel)
theorem cd_X8_value : (Cond.code yX8_value cX8_value 1 (some .long) : Cond) ∈ tb := tbm 405 (by decide +kernel) (by decide +kernel)
theorem ml_L_86 : (Cond.methodLink RL 86 yX8_write : Cond) ∈ tb := tbm 406 (by decide +kernel) (by decide +kernel)
theorem im_X8_write : (Cond.instanceMethod yX8_write : Cond) ∈ tb := tbm 407 (by decide +kernel) (by decide +kernel)
theorem se_X8_write : (Cond.selects RX8 yX8_write yX8_write : Cond) ∈ tb := tbm 408 (by decide +kernel) (by decide +kernel)
theorem cd_X8_write : (Cond.code yX8_write cX8_write 6 (some .int) : Cond) ∈ tb := tbm 409 (by decide +kernel) (by decide +kernel)
theorem ml_L_90 : (Cond.methodLink RL 90 yX8_erase : Cond) ∈ tb := tbm 410 (by decide +kernel) (by decide +kernel)
theorem im_X8_erase : (Cond.instanceMethod yX8_erase : Cond) ∈ tb := tbm 411 (by decide +kernel) (by decide +kernel)
theorem se_X8_erase : (Cond.selects RX8 yX8_erase yX8_erase : Cond) ∈ tb := tbm 412 (by decide +kernel) (by decide +kernel)
theorem cd_X8_erase : (Cond.code yX8_erase cX8_erase 3 (some .int) : Cond) ∈ tb := tbm 413 (by decide +kernel) (by decide +kernel)
theorem ml_L_94 : (Cond.methodLink RL 94 yX8_view : Cond) ∈ tb := tbm 414 (by decide +kernel) (by decide +kernel)
theorem im_X8_view : (Cond.instanceMethod yX8_view : Cond) ∈ tb := tbm 415 (by decide +kernel) (by decide +kernel)
theorem se_X8_view : (Cond.selects RX8 yX8_view yX8_view : Cond) ∈ tb := tbm 416 (by decide +kernel) (by decide +kernel)
theorem cd_X8_view : (Cond.code yX8_view cX8_view 1 (some .long) : Cond) ∈ tb := tbm 417 (by decide +kernel) (by decide +kernel)
theorem ml_L_98 : (Cond.methodLink RL 98 yX8_count : Cond) ∈ tb := tbm 418 (by decide +kernel) (by decide +kernel)
theorem im_X8_count : (Cond.instanceMethod yX8_count : Cond) ∈ tb := tbm 419 (by decide +kernel) (by decide +kernel)
theorem se_X8_count : (Cond.selects RX8 yX8_count yX8_count : Cond) ∈ tb := tbm 420 (by decide +kernel) (by decide +kernel)
theorem cd_X8_count : (Cond.code yX8_count cX8_count 3 (some .int) : Cond) ∈ tb := tbm 421 (by decide +kernel) (by decide +kernel)
theorem ml_X8_142 : (Cond.methodLink RX8 142 yX8_hiddenOver : Cond) ∈ tb := tbm 422 (by decide +kernel) (by decide +kernel)
theorem sm_X8_hiddenOver : (Cond.static yX8_hiddenOver : Cond) ∈ tb := tbm 423 (by decide +kernel) (by decide +kernel)
theorem cd_X8_hiddenOver : (Cond.code yX8_hiddenOver cX8_hiddenOver 7 (some .int) : Cond) ∈ tb := tbm 424 (by decide +kernel) (by decide +kernel)
theorem ml_L_102 : (Cond.methodLink RL 102 yX8_next : Cond) ∈ tb := tbm 425 (by decide +kernel) (by decide +kernel)
theorem im_X8_next : (Cond.instanceMethod yX8_next : Cond) ∈ tb := tbm 426 (by decide +kernel) (by decide +kernel)
theorem se_X8_next : (Cond.selects RX8 yX8_next yX8_next : Cond) ∈ tb := tbm 427 (by decide +kernel) (by decide +kernel)
theorem cd_X8_next : (Cond.code yX8_next cX8_next 2 (some .int) : Cond) ∈ tb := tbm 428 (by decide +kernel) (by decide +kernel)
theorem ml_X8_146 : (Cond.methodLink RX8 146 yX8_leastFrom : Cond) ∈ tb := tbm 429 (by decide +kernel) (by decide +kernel)
theorem sm_X8_leastFrom : (Cond.static yX8_leastFrom : Cond) ∈ tb := tbm 430 (by decide +kernel) (by decide +kernel)
theorem cd_X8_leastFrom : (Cond.code yX8_leastFrom cX8_leastFrom 6 (some .int) : Cond) ∈ tb := tbm 431 (by decide +kernel) (by decide +kernel)
theorem ml_L_106 : (Cond.methodLink RL 106 yX8_told : Cond) ∈ tb := tbm 432 (by decide +kernel) (by decide +kernel)
theorem im_X8_told : (Cond.instanceMethod yX8_told : Cond) ∈ tb := tbm 433 (by decide +kernel) (by decide +kernel)
theorem se_X8_told : (Cond.selects RX8 yX8_told yX8_told : Cond) ∈ tb := tbm 434 (by decide +kernel) (by decide +kernel)
theorem cd_X8_told : (Cond.code yX8_told cX8_told 2 (some .int) : Cond) ∈ tb := tbm 435 (by decide +kernel) (by decide +kernel)
theorem ml_X8_149 : (Cond.methodLink RX8 149 yX8_mostForks : Cond) ∈ tb := tbm 436 (by decide +kernel) (by decide +kernel)
theorem sm_X8_mostForks : (Cond.static yX8_mostForks : Cond) ∈ tb := tbm 437 (by decide +kernel) (by decide +kernel)
theorem cd_X8_mostForks : (Cond.code yX8_mostForks cX8_mostForks 3 (some .int) : Cond) ∈ tb := tbm 438 (by decide +kernel) (by decide +kernel)
theorem ml_X8_205 : (Cond.methodLink RX8 205 yJ9_max_7cf53 : Cond) ∈ tb := tbm 439 (by decide +kernel) (by decide +kernel)
theorem sm_J9_max_7cf53 : (Cond.static yJ9_max_7cf53 : Cond) ∈ tb := tbm 440 (by decide +kernel) (by decide +kernel)
theorem cd_J9_max_7cf53 : (Cond.code yJ9_max_7cf53 cJ9_max_7cf53 2 (some .int) : Cond) ∈ tb := tbm 441 (by decide +kernel) (by decide +kernel)
theorem ml_L_110 : (Cond.methodLink RL 110 yX8_octet : Cond) ∈ tb := tbm 442 (by decide +kernel) (by decide +kernel)
theorem im_X8_octet : (Cond.instanceMethod yX8_octet : Cond) ∈ tb := tbm 443 (by decide +kernel) (by decide +kernel)
theorem se_X8_octet : (Cond.selects RX8 yX8_octet yX8_octet : Cond) ∈ tb := tbm 444 (by decide +kernel) (by decide +kernel)
theorem cd_X8_octet : (Cond.code yX8_octet cX8_octet 2 (some .int) : Cond) ∈ tb := tbm 445 (by decide +kernel) (by decide +kernel)
theorem kl_L_10 : (Cond.classLink RL 10 RX9 : Cond) ∈ tb := tbm 446 (by decide +kernel) (by decide +kernel)
theorem is_X9 : (Cond.instantiable RX9 42 : Cond) ∈ tb := tbm 447 (by decide +kernel) (by decide +kernel)
theorem ml_L_12 : (Cond.methodLink RL 12 yX9_init : Cond) ∈ tb := tbm 448 (by decide +kernel) (by decide +kernel)
theorem im_X9_init : (Cond.instanceMethod yX9_init : Cond) ∈ tb := tbm 449 (by decide +kernel) (by decide +kernel)
theorem cd_X9_init : (Cond.code yX9_init cX9_init 1 none : Cond) ∈ tb := tbm 450 (by decide +kernel) (by decide +kernel)
theorem ml_X9_1 : (Cond.methodLink RX9 1 objectInit : Cond) ∈ tb := tbm 451 (by decide +kernel) (by decide +kernel)
theorem fl_X9_7 : (Cond.fieldLink RX9 7 "PathProofsModel" "path" "[I" : Cond) ∈ tb := tbm 452 (by decide +kernel) (by decide +kernel)
theorem fl_X9_13 : (Cond.fieldLink RX9 13 "PathProofsModel" "value" "[J" : Cond) ∈ tb := tbm 453 (by decide +kernel) (by decide +kernel)
theorem fl_X9_17 : (Cond.fieldLink RX9 17 "PathProofsModel" "size" "[I" : Cond) ∈ tb := tbm 454 (by decide +kernel) (by decide +kernel)
theorem fl_X9_98 : (Cond.fieldLink RX9 98 "PathProofsModel" "versions" "I" : Cond) ∈ tb := tbm 455 (by decide +kernel) (by decide +kernel)
theorem fl_X9_20 : (Cond.fieldLink RX9 20 "PathProofsModel" "from" "[I" : Cond) ∈ tb := tbm 456 (by decide +kernel) (by decide +kernel)
theorem fl_X9_23 : (Cond.fieldLink RX9 23 "PathProofsModel" "to" "[I" : Cond) ∈ tb := tbm 457 (by decide +kernel) (by decide +kernel)
theorem fl_X9_139 : (Cond.fieldLink RX9 139 "PathProofsModel" "wanted" "I" : Cond) ∈ tb := tbm 458 (by decide +kernel) (by decide +kernel)
theorem fl_X9_26 : (Cond.fieldLink RX9 26 "PathProofsModel" "tape" "[I" : Cond) ∈ tb := tbm 459 (by decide +kernel) (by decide +kernel)
theorem fl_X9_147 : (Cond.fieldLink RX9 147 "PathProofsModel" "taped" "I" : Cond) ∈ tb := tbm 460 (by decide +kernel) (by decide +kernel)
theorem fl_X9_29 : (Cond.fieldLink RX9 29 "PathProofsModel" "waitDigest" "[J" : Cond) ∈ tb := tbm 461 (by decide +kernel) (by decide +kernel)
theorem fl_X9_32 : (Cond.fieldLink RX9 32 "PathProofsModel" "waitBit" "[I" : Cond) ∈ tb := tbm 462 (by decide +kernel) (by decide +kernel)
theorem fl_X9_35 : (Cond.fieldLink RX9 35 "PathProofsModel" "waitDeep" "[I" : Cond) ∈ tb := tbm 463 (by decide +kernel) (by decide +kernel)
theorem fl_X9_109 : (Cond.fieldLink RX9 109 "PathProofsModel" "deepest" "I" : Cond) ∈ tb := tbm 464 (by decide +kernel) (by decide +kernel)
theorem fl_X9_38 : (Cond.fieldLink RX9 38 "PathProofsModel" "out" "[I" : Cond) ∈ tb := tbm 465 (by decide +kernel) (by decide +kernel)
theorem fl_X9_142 : (Cond.fieldLink RX9 142 "PathProofsModel" "laid" "I" : Cond) ∈ tb := tbm 466 (by decide +kernel) (by decide +kernel)
theorem fl_X9_41 : (Cond.fieldLink RX9 41 "PathProofsModel" "oneOf" "[I" : Cond) ∈ tb := tbm 467 (by decide +kernel) (by decide +kernel)
theorem fl_X9_44 : (Cond.fieldLink RX9 44 "PathProofsModel" "twoOf" "[I" : Cond) ∈ tb := tbm 468 (by decide +kernel) (by decide +kernel)
theorem fl_X9_47 : (Cond.fieldLink RX9 47 "PathProofsModel" "placeFrom" "[I" : Cond) ∈ tb := tbm 469 (by decide +kernel) (by decide +kernel)
theorem fl_X9_50 : (Cond.fieldLink RX9 50 "PathProofsModel" "placeTo" "[I" : Cond) ∈ tb := tbm 470 (by decide +kernel) (by decide +kernel)
theorem fl_X9_150 : (Cond.fieldLink RX9 150 "PathProofsModel" "rests" "I" : Cond) ∈ tb := tbm 471 (by decide +kernel) (by decide +kernel)
theorem fl_X9_53 : (Cond.fieldLink RX9 53 "PathProofsModel" "kind" "[I" : Cond) ∈ tb := tbm 472 (by decide +kernel) (by decide +kernel)
theorem fl_X9_56 : (Cond.fieldLink RX9 56 "PathProofsModel" "bitOf" "[I" : Cond) ∈ tb := tbm 473 (by decide +kernel) (by decide +kernel)
theorem fl_X9_59 : (Cond.fieldLink RX9 59 "PathProofsModel" "stem" "[I" : Cond) ∈ tb := tbm 474 (by decide +kernel) (by decide +kernel)
theorem fl_X9_62 : (Cond.fieldLink RX9 62 "PathProofsModel" "held" "[J" : Cond) ∈ tb := tbm 475 (by decide +kernel) (by decide +kernel)
theorem fl_X9_65 : (Cond.fieldLink RX9 65 "PathProofsModel" "low" "[I" : Cond) ∈ tb := tbm 476 (by decide +kernel) (by decide +kernel)
theorem fl_X9_68 : (Cond.fieldLink RX9 68 "PathProofsModel" "high" "[I" : Cond) ∈ tb := tbm 477 (by decide +kernel) (by decide +kernel)
theorem fl_X9_71 : (Cond.fieldLink RX9 71 "PathProofsModel" "sum" "[J" : Cond) ∈ tb := tbm 478 (by decide +kernel) (by decide +kernel)
theorem fl_X9_74 : (Cond.fieldLink RX9 74 "PathProofsModel" "row" "[I" : Cond) ∈ tb := tbm 479 (by decide +kernel) (by decide +kernel)
theorem fl_X9_176 : (Cond.fieldLink RX9 176 "PathProofsModel" "half" "I" : Cond) ∈ tb := tbm 480 (by decide +kernel) (by decide +kernel)
theorem fl_X9_186 : (Cond.fieldLink RX9 186 "PathProofsModel" "nodes" "I" : Cond) ∈ tb := tbm 481 (by decide +kernel) (by decide +kernel)
theorem fl_X9_77 : (Cond.fieldLink RX9 77 "PathProofsModel" "root" "I" : Cond) ∈ tb := tbm 482 (by decide +kernel) (by decide +kernel)
theorem fl_X9_81 : (Cond.fieldLink RX9 81 "PathProofsModel" "free" "[I" : Cond) ∈ tb := tbm 483 (by decide +kernel) (by decide +kernel)
theorem fl_X9_189 : (Cond.fieldLink RX9 189 "PathProofsModel" "freed" "I" : Cond) ∈ tb := tbm 484 (by decide +kernel) (by decide +kernel)
theorem fl_X9_84 : (Cond.fieldLink RX9 84 "PathProofsModel" "faultAt" "I" : Cond) ∈ tb := tbm 485 (by decide +kernel) (by decide +kernel)
theorem fl_X9_169 : (Cond.fieldLink RX9 169 "PathProofsModel" "at" "I" : Cond) ∈ tb := tbm 486 (by decide +kernel) (by decide +kernel)
theorem fl_X9_192 : (Cond.fieldLink RX9 192 "PathProofsModel" "end" "I" : Cond) ∈ tb := tbm 487 (by decide +kernel) (by decide +kernel)
theorem fl_X9_195 : (Cond.fieldLink RX9 195 "PathProofsModel" "above" "I" : Cond) ∈ tb := tbm 488 (by decide +kernel) (by decide +kernel)
theorem fl_X9_202 : (Cond.fieldLink RX9 202 "PathProofsModel" "found" "J" : Cond) ∈ tb := tbm 489 (by decide +kernel) (by decide +kernel)
theorem fl_X9_220 : (Cond.fieldLink RX9 220 "PathProofsModel" "counted" "I" : Cond) ∈ tb := tbm 490 (by decide +kernel) (by decide +kernel)
theorem fl_X9_224 : (Cond.fieldLink RX9 224 "PathProofsModel" "leastLeaf" "I" : Cond) ∈ tb := tbm 491 (by decide +kernel) (by decide +kernel)
theorem fl_X9_227 : (Cond.fieldLink RX9 227 "PathProofsModel" "leastHidden" "I" : Cond) ∈ tb := tbm 492 (by decide +kernel) (by decide +kernel)
theorem fl_X9_230 : (Cond.fieldLink RX9 230 "PathProofsModel" "hiddenMany" "I" : Cond) ∈ tb := tbm 493 (by decide +kernel) (by decide +kernel)
theorem ac_long : (Cond.arrayClass .long : Cond) ∈ tb := tbm 579 (by decide +kernel) (by decide +kernel)
theorem ml_L_19 : (Cond.methodLink RL 19 yX9_put : Cond) ∈ tb := tbm 580 (by decide +kernel) (by decide +kernel)
theorem im_X9_put : (Cond.instanceMethod yX9_put : Cond) ∈ tb := tbm 581 (by decide +kernel) (by decide +kernel)
theorem se_X9_put : (Cond.selects RX9 yX9_put yX9_put : Cond) ∈ tb := tbm 582 (by decide +kernel) (by decide +kernel)
theorem cd_X9_put : (Cond.code yX9_put cX9_put 6 (some .int) : Cond) ∈ tb := tbm 583 (by decide +kernel) (by decide +kernel)
theorem ml_X9_101 : (Cond.methodLink RX9 101 yX9_isPath : Cond) ∈ tb := tbm 584 (by decide +kernel) (by decide +kernel)
theorem sm_X9_isPath : (Cond.static yX9_isPath : Cond) ∈ tb := tbm 585 (by decide +kernel) (by decide +kernel)
theorem cd_X9_isPath : (Cond.code yX9_isPath cX9_isPath 1 (some .boolean) : Cond) ∈ tb := tbm 586 (by decide +kernel) (by decide +kernel)
theorem co_X9_87 : (Cond.constant RX9 87 65535 : Cond) ∈ tb := tbm 587 (by decide +kernel) (by decide +kernel)
theorem ml_X9_105 : (Cond.methodLink RX9 105 yX9_find : Cond) ∈ tb := tbm 588 (by decide +kernel) (by decide +kernel)
theorem im_X9_find : (Cond.instanceMethod yX9_find : Cond) ∈ tb := tbm 590 (by decide +kernel) (by decide +kernel)
theorem cd_X9_find : (Cond.code yX9_find cX9_find 3 (some .int) : Cond) ∈ tb := tbm 591 (by decide +kernel) (by decide +kernel)
theorem ml_L_24 : (Cond.methodLink RL 24 yX9_remove : Cond) ∈ tb := tbm 592 (by decide +kernel) (by decide +kernel)
theorem im_X9_remove : (Cond.instanceMethod yX9_remove : Cond) ∈ tb := tbm 593 (by decide +kernel) (by decide +kernel)
theorem se_X9_remove : (Cond.selects RX9 yX9_remove yX9_remove : Cond) ∈ tb := tbm 594 (by decide +kernel) (by decide +kernel)
theorem cd_X9_remove : (Cond.code yX9_remove cX9_remove 4 (some .int) : Cond) ∈ tb := tbm 595 (by decide +kernel) (by decide +kernel)
theorem ml_L_29 : (Cond.methodLink RL 29 yX9_keep : Cond) ∈ tb := tbm 596 (by decide +kernel) (by decide +kernel)
theorem im_X9_keep : (Cond.instanceMethod yX9_keep : Cond) ∈ tb := tbm 597 (by decide +kernel) (by decide +kernel)
theorem se_X9_keep : (Cond.selects RX9 yX9_keep yX9_keep : Cond) ∈ tb := tbm 598 (by decide +kernel) (by decide +kernel)
theorem cd_X9_keep : (Cond.code yX9_keep cX9_keep 2 (some .int) : Cond) ∈ tb := tbm 599 (by decide +kernel) (by decide +kernel)
theorem ml_L_34 : (Cond.methodLink RL 34 yX9_root : Cond) ∈ tb := tbm 600 (by decide +kernel) (by decide +kernel)
theorem im_X9_root : (Cond.instanceMethod yX9_root : Cond) ∈ tb := tbm 601 (by decide +kernel) (by decide +kernel)
theorem se_X9_root : (Cond.selects RX9 yX9_root yX9_root : Cond) ∈ tb := tbm 602 (by decide +kernel) (by decide +kernel)
theorem cd_X9_root : (Cond.code yX9_root cX9_root 3 (some .long) : Cond) ∈ tb := tbm 603 (by decide +kernel) (by decide +kernel)
theorem ml_X9_129 : (Cond.methodLink RX9 129 yX9_baseOf : Cond) ∈ tb := tbm 604 (by decide +kernel) (by decide +kernel)
theorem im_X9_baseOf : (Cond.instanceMethod yX9_baseOf : Cond) ∈ tb := tbm 606 (by decide +kernel) (by decide +kernel)
theorem cd_X9_baseOf : (Cond.code yX9_baseOf cX9_baseOf 2 (some .int) : Cond) ∈ tb := tbm 607 (by decide +kernel) (by decide +kernel)
theorem ml_X9_132 : (Cond.methodLink RX9 132 yX9_sizeOf : Cond) ∈ tb := tbm 608 (by decide +kernel) (by decide +kernel)
theorem im_X9_sizeOf : (Cond.instanceMethod yX9_sizeOf : Cond) ∈ tb := tbm 610 (by decide +kernel) (by decide +kernel)
theorem cd_X9_sizeOf : (Cond.code yX9_sizeOf cX9_sizeOf 2 (some .int) : Cond) ∈ tb := tbm 611 (by decide +kernel) (by decide +kernel)
theorem ml_X9_135 : (Cond.methodLink RX9 135 yX9_digest : Cond) ∈ tb := tbm 612 (by decide +kernel) (by decide +kernel)
theorem im_X9_digest : (Cond.instanceMethod yX9_digest : Cond) ∈ tb := tbm 614 (by decide +kernel) (by decide +kernel)
theorem cd_X9_digest : (Cond.code yX9_digest cX9_digest 9 (some .long) : Cond) ∈ tb := tbm 615 (by decide +kernel) (by decide +kernel)
theorem co_X9_112 : (Cond.constantLong RX9 112 (3) : Cond) ∈ tb := tbm 616 (by decide +kernel) (by decide +kernel)
theorem ml_X9_92 : (Cond.methodLink RX9 92 yX9_mix : Cond) ∈ tb := tbm 617 (by decide +kernel) (by decide +kernel)
theorem sm_X9_mix : (Cond.static yX9_mix : Cond) ∈ tb := tbm 618 (by decide +kernel) (by decide +kernel)
theorem cd_X9_mix : (Cond.code yX9_mix cX9_mix 6 (some .long) : Cond) ∈ tb := tbm 619 (by decide +kernel) (by decide +kernel)
theorem co_X9_88 : (Cond.constantLong RX9 88 (-7046029254386353131) : Cond) ∈ tb := tbm 620 (by decide +kernel) (by decide +kernel)
theorem co_X9_90 : (Cond.constantLong RX9 90 (-4658895280553007687) : Cond) ∈ tb := tbm 621 (by decide +kernel) (by decide +kernel)
theorem ml_X9_114 : (Cond.methodLink RX9 114 yX9_firstBit : Cond) ∈ tb := tbm 622 (by decide +kernel) (by decide +kernel)
theorem sm_X9_firstBit : (Cond.static yX9_firstBit : Cond) ∈ tb := tbm 623 (by decide +kernel) (by decide +kernel)
theorem cd_X9_firstBit : (Cond.code yX9_firstBit cX9_firstBit 3 (some .int) : Cond) ∈ tb := tbm 624 (by decide +kernel) (by decide +kernel)
theorem ml_X9_118 : (Cond.methodLink RX9 118 yX9_stemOf : Cond) ∈ tb := tbm 625 (by decide +kernel) (by decide +kernel)
theorem sm_X9_stemOf : (Cond.static yX9_stemOf : Cond) ∈ tb := tbm 626 (by decide +kernel) (by decide +kernel)
theorem cd_X9_stemOf : (Cond.code yX9_stemOf cX9_stemOf 2 (some .int) : Cond) ∈ tb := tbm 627 (by decide +kernel) (by decide +kernel)
theorem ml_X9_121 : (Cond.methodLink RX9 121 yX9_forkDigest : Cond) ∈ tb := tbm 628 (by decide +kernel) (by decide +kernel)
theorem sm_X9_forkDigest : (Cond.static yX9_forkDigest : Cond) ∈ tb := tbm 629 (by decide +kernel) (by decide +kernel)
theorem cd_X9_forkDigest : (Cond.code yX9_forkDigest cX9_forkDigest 6 (some .long) : Cond) ∈ tb := tbm 630 (by decide +kernel) (by decide +kernel)
theorem co_X9_96 : (Cond.constantLong RX9 96 (2) : Cond) ∈ tb := tbm 631 (by decide +kernel) (by decide +kernel)
theorem ml_X9_125 : (Cond.methodLink RX9 125 yX9_leafDigest : Cond) ∈ tb := tbm 632 (by decide +kernel) (by decide +kernel)
theorem sm_X9_leafDigest : (Cond.static yX9_leafDigest : Cond) ∈ tb := tbm 633 (by decide +kernel) (by decide +kernel)
theorem cd_X9_leafDigest : (Cond.code yX9_leafDigest cX9_leafDigest 3 (some .long) : Cond) ∈ tb := tbm 634 (by decide +kernel) (by decide +kernel)
theorem ml_L_38 : (Cond.methodLink RL 38 yX9_leaves : Cond) ∈ tb := tbm 635 (by decide +kernel) (by decide +kernel)
theorem im_X9_leaves : (Cond.instanceMethod yX9_leaves : Cond) ∈ tb := tbm 636 (by decide +kernel) (by decide +kernel)
theorem se_X9_leaves : (Cond.selects RX9 yX9_leaves yX9_leaves : Cond) ∈ tb := tbm 637 (by decide +kernel) (by decide +kernel)
theorem cd_X9_leaves : (Cond.code yX9_leaves cX9_leaves 2 (some .int) : Cond) ∈ tb := tbm 638 (by decide +kernel) (by decide +kernel)
theorem ml_L_43 : (Cond.methodLink RL 43 yX9_want : Cond) ∈ tb := tbm 639 (by decide +kernel) (by decide +kernel)
theorem im_X9_want : (Cond.instanceMethod yX9_want : Cond) ∈ tb := tbm 640 (by decide +kernel) (by decide +kernel)
theorem se_X9_want : (Cond.selects RX9 yX9_want yX9_want : Cond) ∈ tb := tbm 641 (by decide +kernel) (by decide +kernel)
theorem cd_X9_want : (Cond.code yX9_want cX9_want 3 (some .int) : Cond) ∈ tb := tbm 642 (by decide +kernel) (by decide +kernel)
theorem ml_L_47 : (Cond.methodLink RL 47 yX9_forget : Cond) ∈ tb := tbm 643 (by decide +kernel) (by decide +kernel)
theorem im_X9_forget : (Cond.instanceMethod yX9_forget : Cond) ∈ tb := tbm 644 (by decide +kernel) (by decide +kernel)
theorem se_X9_forget : (Cond.selects RX9 yX9_forget yX9_forget : Cond) ∈ tb := tbm 645 (by decide +kernel) (by decide +kernel)
theorem cd_X9_forget : (Cond.code yX9_forget cX9_forget 2 (some .int) : Cond) ∈ tb := tbm 646 (by decide +kernel) (by decide +kernel)
theorem ml_L_51 : (Cond.methodLink RL 51 yX9_show : Cond) ∈ tb := tbm 647 (by decide +kernel) (by decide +kernel)
theorem im_X9_show : (Cond.instanceMethod yX9_show : Cond) ∈ tb := tbm 648 (by decide +kernel) (by decide +kernel)
theorem se_X9_show : (Cond.selects RX9 yX9_show yX9_show : Cond) ∈ tb := tbm 649 (by decide +kernel) (by decide +kernel)
theorem cd_X9_show : (Cond.code yX9_show cX9_show 9 (some .int) : Cond) ∈ tb := tbm 650 (by decide +kernel) (by decide +kernel)
theorem ml_X9_153 : (Cond.methodLink RX9 153 yX9_rest : Cond) ∈ tb := tbm 651 (by decide +kernel) (by decide +kernel)
theorem im_X9_rest : (Cond.instanceMethod yX9_rest : Cond) ∈ tb := tbm 653 (by decide +kernel) (by decide +kernel)
theorem cd_X9_rest : (Cond.code yX9_rest cX9_rest 5 none : Cond) ∈ tb := tbm 654 (by decide +kernel) (by decide +kernel)
theorem ml_X9_157 : (Cond.methodLink RX9 157 yX9_isWanted : Cond) ∈ tb := tbm 655 (by decide +kernel) (by decide +kernel)
theorem im_X9_isWanted : (Cond.instanceMethod yX9_isWanted : Cond) ∈ tb := tbm 657 (by decide +kernel) (by decide +kernel)
theorem cd_X9_isWanted : (Cond.code yX9_isWanted cX9_isWanted 5 (some .boolean) : Cond) ∈ tb := tbm 658 (by decide +kernel) (by decide +kernel)
theorem ml_X9_161 : (Cond.methodLink RX9 161 yX9_lay : Cond) ∈ tb := tbm 659 (by decide +kernel) (by decide +kernel)
theorem im_X9_lay : (Cond.instanceMethod yX9_lay : Cond) ∈ tb := tbm 661 (by decide +kernel) (by decide +kernel)
theorem cd_X9_lay : (Cond.code yX9_lay cX9_lay 5 none : Cond) ∈ tb := tbm 662 (by decide +kernel) (by decide +kernel)
theorem co_X9_145 : (Cond.constantLong RX9 145 (255) : Cond) ∈ tb := tbm 663 (by decide +kernel) (by decide +kernel)
theorem ml_X9_165 : (Cond.methodLink RX9 165 yX9_laidOut : Cond) ∈ tb := tbm 664 (by decide +kernel) (by decide +kernel)
theorem im_X9_laidOut : (Cond.instanceMethod yX9_laidOut : Cond) ∈ tb := tbm 666 (by decide +kernel) (by decide +kernel)
theorem cd_X9_laidOut : (Cond.code yX9_laidOut cX9_laidOut 2 (some .int) : Cond) ∈ tb := tbm 667 (by decide +kernel) (by decide +kernel)
theorem ml_L_59 : (Cond.methodLink RL 59 yX9_feed : Cond) ∈ tb := tbm 668 (by decide +kernel) (by decide +kernel)
theorem im_X9_feed : (Cond.instanceMethod yX9_feed : Cond) ∈ tb := tbm 669 (by decide +kernel) (by decide +kernel)
theorem se_X9_feed : (Cond.selects RX9 yX9_feed yX9_feed : Cond) ∈ tb := tbm 670 (by decide +kernel) (by decide +kernel)
theorem cd_X9_feed : (Cond.code yX9_feed cX9_feed 5 (some .int) : Cond) ∈ tb := tbm 671 (by decide +kernel) (by decide +kernel)
theorem ml_L_63 : (Cond.methodLink RL 63 yX9_cut : Cond) ∈ tb := tbm 672 (by decide +kernel) (by decide +kernel)
theorem im_X9_cut : (Cond.instanceMethod yX9_cut : Cond) ∈ tb := tbm 673 (by decide +kernel) (by decide +kernel)
theorem se_X9_cut : (Cond.selects RX9 yX9_cut yX9_cut : Cond) ∈ tb := tbm 674 (by decide +kernel) (by decide +kernel)
theorem cd_X9_cut : (Cond.code yX9_cut cX9_cut 3 (some .int) : Cond) ∈ tb := tbm 675 (by decide +kernel) (by decide +kernel)
theorem ml_L_67 : (Cond.methodLink RL 67 yX9_spoil : Cond) ∈ tb := tbm 676 (by decide +kernel) (by decide +kernel)
theorem im_X9_spoil : (Cond.instanceMethod yX9_spoil : Cond) ∈ tb := tbm 677 (by decide +kernel) (by decide +kernel)
theorem se_X9_spoil : (Cond.selects RX9 yX9_spoil yX9_spoil : Cond) ∈ tb := tbm 678 (by decide +kernel) (by decide +kernel)
theorem cd_X9_spoil : (Cond.code yX9_spoil cX9_spoil 3 (some .int) : Cond) ∈ tb := tbm 679 (by decide +kernel) (by decide +kernel)
theorem ml_L_113 : (Cond.methodLink RL 113 yX9_octet : Cond) ∈ tb := tbm 680 (by decide +kernel) (by decide +kernel)
theorem im_X9_octet : (Cond.instanceMethod yX9_octet : Cond) ∈ tb := tbm 681 (by decide +kernel) (by decide +kernel)
theorem se_X9_octet : (Cond.selects RX9 yX9_octet yX9_octet : Cond) ∈ tb := tbm 682 (by decide +kernel) (by decide +kernel)
theorem cd_X9_octet : (Cond.code yX9_octet cX9_octet 2 (some .int) : Cond) ∈ tb := tbm 683 (by decide +kernel) (by decide +kernel)
theorem ml_L_72 : (Cond.methodLink RL 72 yX9_take : Cond) ∈ tb := tbm 684 (by decide +kernel) (by decide +kernel)
theorem im_X9_take : (Cond.instanceMethod yX9_take : Cond) ∈ tb := tbm 685 (by decide +kernel) (by decide +kernel)
theorem se_X9_take : (Cond.selects RX9 yX9_take yX9_take : Cond) ∈ tb := tbm 686 (by decide +kernel) (by decide +kernel)
theorem cd_X9_take : (Cond.code yX9_take cX9_take 8 (some .int) : Cond) ∈ tb := tbm 687 (by decide +kernel) (by decide +kernel)
theorem ml_X9_179 : (Cond.methodLink RX9 179 yX9_taken : Cond) ∈ tb := tbm 688 (by decide +kernel) (by decide +kernel)
theorem im_X9_taken : (Cond.instanceMethod yX9_taken : Cond) ∈ tb := tbm 690 (by decide +kernel) (by decide +kernel)
theorem cd_X9_taken : (Cond.code yX9_taken cX9_taken 6 (some .int) : Cond) ∈ tb := tbm 691 (by decide +kernel) (by decide +kernel)
theorem ml_X9_172 : (Cond.methodLink RX9 172 yX9_numeral : Cond) ∈ tb := tbm 692 (by decide +kernel) (by decide +kernel)
theorem im_X9_numeral : (Cond.instanceMethod yX9_numeral : Cond) ∈ tb := tbm 694 (by decide +kernel) (by decide +kernel)
theorem cd_X9_numeral : (Cond.code yX9_numeral cX9_numeral 5 (some .long) : Cond) ∈ tb := tbm 695 (by decide +kernel) (by decide +kernel)
theorem ml_X9_183 : (Cond.methodLink RX9 183 yX9_sumUp : Cond) ∈ tb := tbm 696 (by decide +kernel) (by decide +kernel)
theorem im_X9_sumUp : (Cond.instanceMethod yX9_sumUp : Cond) ∈ tb := tbm 698 (by decide +kernel) (by decide +kernel)
theorem cd_X9_sumUp : (Cond.code yX9_sumUp cX9_sumUp 5 (some .long) : Cond) ∈ tb := tbm 699 (by decide +kernel) (by decide +kernel)
theorem ml_L_76 : (Cond.methodLink RL 76 yX9_place : Cond) ∈ tb := tbm 700 (by decide +kernel) (by decide +kernel)
theorem im_X9_place : (Cond.instanceMethod yX9_place : Cond) ∈ tb := tbm 701 (by decide +kernel) (by decide +kernel)
theorem se_X9_place : (Cond.selects RX9 yX9_place yX9_place : Cond) ∈ tb := tbm 702 (by decide +kernel) (by decide +kernel)
theorem cd_X9_place : (Cond.code yX9_place cX9_place 1 (some .int) : Cond) ∈ tb := tbm 703 (by decide +kernel) (by decide +kernel)
theorem ml_L_80 : (Cond.methodLink RL 80 yX9_get : Cond) ∈ tb := tbm 704 (by decide +kernel) (by decide +kernel)
theorem im_X9_get : (Cond.instanceMethod yX9_get : Cond) ∈ tb := tbm 705 (by decide +kernel) (by decide +kernel)
theorem se_X9_get : (Cond.selects RX9 yX9_get yX9_get : Cond) ∈ tb := tbm 706 (by decide +kernel) (by decide +kernel)
theorem cd_X9_get : (Cond.code yX9_get cX9_get 2 (some .int) : Cond) ∈ tb := tbm 707 (by decide +kernel) (by decide +kernel)
theorem ml_X9_206 : (Cond.methodLink RX9 206 yX9_way : Cond) ∈ tb := tbm 708 (by decide +kernel) (by decide +kernel)
theorem im_X9_way : (Cond.instanceMethod yX9_way : Cond) ∈ tb := tbm 710 (by decide +kernel) (by decide +kernel)
theorem cd_X9_way : (Cond.code yX9_way cX9_way 2 none : Cond) ∈ tb := tbm 711 (by decide +kernel) (by decide +kernel)
theorem ml_X9_198 : (Cond.methodLink RX9 198 yX9_takesIn : Cond) ∈ tb := tbm 712 (by decide +kernel) (by decide +kernel)
theorem sm_X9_takesIn : (Cond.static yX9_takesIn : Cond) ∈ tb := tbm 713 (by decide +kernel) (by decide +kernel)
theorem cd_X9_takesIn : (Cond.code yX9_takesIn cX9_takesIn 3 (some .boolean) : Cond) ∈ tb := tbm 714 (by decide +kernel) (by decide +kernel)
theorem ml_X9_210 : (Cond.methodLink RX9 210 yX9_isThere : Cond) ∈ tb := tbm 715 (by decide +kernel) (by decide +kernel)
theorem im_X9_isThere : (Cond.instanceMethod yX9_isThere : Cond) ∈ tb := tbm 717 (by decide +kernel) (by decide +kernel)
theorem cd_X9_isThere : (Cond.code yX9_isThere cX9_isThere 2 (some .boolean) : Cond) ∈ tb := tbm 718 (by decide +kernel) (by decide +kernel)
theorem ml_L_85 : (Cond.methodLink RL 85 yX9_value : Cond) ∈ tb := tbm 719 (by decide +kernel) (by decide +kernel)
theorem im_X9_value : (Cond.instanceMethod yX9_value : Cond) ∈ tb := tbm 720 (by decide +kernel) (by decide +kernel)
theorem se_X9_value : (Cond.selects RX9 yX9_value yX9_value : Cond) ∈ tb := tbm 721 (by decide +kernel) (by decide +kernel)
theorem cd_X9_value : (Cond.code yX9_value cX9_value 1 (some .long) : Cond) ∈ tb := tbm 722 (by decide +kernel) (by decide +kernel)
theorem ml_L_89 : (Cond.methodLink RL 89 yX9_write : Cond) ∈ tb := tbm 723 (by decide +kernel) (by decide +kernel)
theorem im_X9_write : (Cond.instanceMethod yX9_write : Cond) ∈ tb := tbm 724 (by decide +kernel) (by decide +kernel)
theorem se_X9_write : (Cond.selects RX9 yX9_write yX9_write : Cond) ∈ tb := tbm 725 (by decide +kernel) (by decide +kernel)
theorem cd_X9_write : (Cond.code yX9_write cX9_write 8 (some .int) : Cond) ∈ tb := tbm 726 (by decide +kernel) (by decide +kernel)
theorem ml_X9_213 : (Cond.methodLink RX9 213 yX9_fresh : Cond) ∈ tb := tbm 727 (by decide +kernel) (by decide +kernel)
theorem im_X9_fresh : (Cond.instanceMethod yX9_fresh : Cond) ∈ tb := tbm 729 (by decide +kernel) (by decide +kernel)
theorem cd_X9_fresh : (Cond.code yX9_fresh cX9_fresh 1 (some .int) : Cond) ∈ tb := tbm 730 (by decide +kernel) (by decide +kernel)
theorem ml_X9_216 : (Cond.methodLink RX9 216 yX9_stand : Cond) ∈ tb := tbm 731 (by decide +kernel) (by decide +kernel)
theorem im_X9_stand : (Cond.instanceMethod yX9_stand : Cond) ∈ tb := tbm 733 (by decide +kernel) (by decide +kernel)
theorem cd_X9_stand : (Cond.code yX9_stand cX9_stand 4 none : Cond) ∈ tb := tbm 734 (by decide +kernel) (by decide +kernel)
theorem ml_L_93 : (Cond.methodLink RL 93 yX9_erase : Cond) ∈ tb := tbm 735 (by decide +kernel) (by decide +kernel)
theorem im_X9_erase : (Cond.instanceMethod yX9_erase : Cond) ∈ tb := tbm 736 (by decide +kernel) (by decide +kernel)
theorem se_X9_erase : (Cond.selects RX9 yX9_erase yX9_erase : Cond) ∈ tb := tbm 737 (by decide +kernel) (by decide +kernel)
theorem cd_X9_erase : (Cond.code yX9_erase cX9_erase 7 (some .int) : Cond) ∈ tb := tbm 738 (by decide +kernel) (by decide +kernel)
theorem ml_L_97 : (Cond.methodLink RL 97 yX9_view : Cond) ∈ tb := tbm 739 (by decide +kernel) (by decide +kernel)
theorem im_X9_view : (Cond.instanceMethod yX9_view : Cond) ∈ tb := tbm 740 (by decide +kernel) (by decide +kernel)
theorem se_X9_view : (Cond.selects RX9 yX9_view yX9_view : Cond) ∈ tb := tbm 741 (by decide +kernel) (by decide +kernel)
theorem cd_X9_view : (Cond.code yX9_view cX9_view 1 (some .long) : Cond) ∈ tb := tbm 742 (by decide +kernel) (by decide +kernel)
theorem ml_L_101 : (Cond.methodLink RL 101 yX9_count : Cond) ∈ tb := tbm 743 (by decide +kernel) (by decide +kernel)
theorem im_X9_count : (Cond.instanceMethod yX9_count : Cond) ∈ tb := tbm 744 (by decide +kernel) (by decide +kernel)
theorem se_X9_count : (Cond.selects RX9 yX9_count yX9_count : Cond) ∈ tb := tbm 745 (by decide +kernel) (by decide +kernel)
theorem cd_X9_count : (Cond.code yX9_count cX9_count 3 (some .int) : Cond) ∈ tb := tbm 746 (by decide +kernel) (by decide +kernel)
theorem ml_X9_233 : (Cond.methodLink RX9 233 yX9_goThrough : Cond) ∈ tb := tbm 747 (by decide +kernel) (by decide +kernel)
theorem im_X9_goThrough : (Cond.instanceMethod yX9_goThrough : Cond) ∈ tb := tbm 749 (by decide +kernel) (by decide +kernel)
theorem cd_X9_goThrough : (Cond.code yX9_goThrough cX9_goThrough 7 none : Cond) ∈ tb := tbm 750 (by decide +kernel) (by decide +kernel)
theorem co_X9_223 : (Cond.constant RX9 223 70000 : Cond) ∈ tb := tbm 751 (by decide +kernel) (by decide +kernel)
theorem ml_L_105 : (Cond.methodLink RL 105 yX9_next : Cond) ∈ tb := tbm 752 (by decide +kernel) (by decide +kernel)
theorem im_X9_next : (Cond.instanceMethod yX9_next : Cond) ∈ tb := tbm 753 (by decide +kernel) (by decide +kernel)
theorem se_X9_next : (Cond.selects RX9 yX9_next yX9_next : Cond) ∈ tb := tbm 754 (by decide +kernel) (by decide +kernel)
theorem cd_X9_next : (Cond.code yX9_next cX9_next 2 (some .int) : Cond) ∈ tb := tbm 755 (by decide +kernel) (by decide +kernel)
theorem ml_L_55 : (Cond.methodLink RL 55 yX9_pass : Cond) ∈ tb := tbm 756 (by decide +kernel) (by decide +kernel)
theorem im_X9_pass : (Cond.instanceMethod yX9_pass : Cond) ∈ tb := tbm 757 (by decide +kernel) (by decide +kernel)
theorem se_X9_pass : (Cond.selects RX9 yX9_pass yX9_pass : Cond) ∈ tb := tbm 758 (by decide +kernel) (by decide +kernel)
theorem cd_X9_pass : (Cond.code yX9_pass cX9_pass 6 (some .int) : Cond) ∈ tb := tbm 759 (by decide +kernel) (by decide +kernel)
theorem ml_L_109 : (Cond.methodLink RL 109 yX9_told : Cond) ∈ tb := tbm 760 (by decide +kernel) (by decide +kernel)
theorem im_X9_told : (Cond.instanceMethod yX9_told : Cond) ∈ tb := tbm 761 (by decide +kernel) (by decide +kernel)
theorem se_X9_told : (Cond.selects RX9 yX9_told yX9_told : Cond) ∈ tb := tbm 762 (by decide +kernel) (by decide +kernel)
theorem cd_X9_told : (Cond.code yX9_told cX9_told 4 (some .int) : Cond) ∈ tb := tbm 763 (by decide +kernel) (by decide +kernel)
theorem co_L_13 : (Cond.constantLong RL 13 (4294967295) : Cond) ∈ tb := tbm 764 (by decide +kernel) (by decide +kernel)
theorem se_X8_wholeOf : (Cond.selects RX8 yX8_wholeOf yX8_wholeOf : Cond) ∈ tb := tbm 0 (by decide +kernel) (by decide +kernel)
theorem se_X8_tapeBecomes : (Cond.selects RX8 yX8_tapeBecomes yX8_tapeBecomes : Cond) ∈ tb := tbm 1 (by decide +kernel) (by decide +kernel)
theorem se_X8_appendShown : (Cond.selects RX8 yX8_appendShown yX8_appendShown : Cond) ∈ tb := tbm 2 (by decide +kernel) (by decide +kernel)
theorem se_X6_readNode : (Cond.selects RX6 yX6_readNode yX6_readNode : Cond) ∈ tb := tbm 3 (by decide +kernel) (by decide +kernel)
theorem se_X6_lacks : (Cond.selects RX6 yX6_lacks yX6_lacks : Cond) ∈ tb := tbm 4 (by decide +kernel) (by decide +kernel)
theorem se_X6_refuse : (Cond.selects RX6 yX6_refuse yX6_refuse : Cond) ∈ tb := tbm 5 (by decide +kernel) (by decide +kernel)
theorem se_X6_number : (Cond.selects RX6 yX6_number yX6_number : Cond) ∈ tb := tbm 6 (by decide +kernel) (by decide +kernel)
theorem se_X6_readFork : (Cond.selects RX6 yX6_readFork yX6_readFork : Cond) ∈ tb := tbm 7 (by decide +kernel) (by decide +kernel)
theorem se_X6_readLeaf : (Cond.selects RX6 yX6_readLeaf yX6_readLeaf : Cond) ∈ tb := tbm 8 (by decide +kernel) (by decide +kernel)
theorem se_X9_find : (Cond.selects RX9 yX9_find yX9_find : Cond) ∈ tb := tbm 9 (by decide +kernel) (by decide +kernel)
theorem se_X9_baseOf : (Cond.selects RX9 yX9_baseOf yX9_baseOf : Cond) ∈ tb := tbm 10 (by decide +kernel) (by decide +kernel)
theorem se_X9_sizeOf : (Cond.selects RX9 yX9_sizeOf yX9_sizeOf : Cond) ∈ tb := tbm 11 (by decide +kernel) (by decide +kernel)
theorem se_X9_digest : (Cond.selects RX9 yX9_digest yX9_digest : Cond) ∈ tb := tbm 12 (by decide +kernel) (by decide +kernel)
theorem se_X9_rest : (Cond.selects RX9 yX9_rest yX9_rest : Cond) ∈ tb := tbm 13 (by decide +kernel) (by decide +kernel)
theorem se_X9_isWanted : (Cond.selects RX9 yX9_isWanted yX9_isWanted : Cond) ∈ tb := tbm 14 (by decide +kernel) (by decide +kernel)
theorem se_X9_lay : (Cond.selects RX9 yX9_lay yX9_lay : Cond) ∈ tb := tbm 15 (by decide +kernel) (by decide +kernel)
theorem se_X9_laidOut : (Cond.selects RX9 yX9_laidOut yX9_laidOut : Cond) ∈ tb := tbm 16 (by decide +kernel) (by decide +kernel)
theorem se_X9_taken : (Cond.selects RX9 yX9_taken yX9_taken : Cond) ∈ tb := tbm 17 (by decide +kernel) (by decide +kernel)
theorem se_X9_numeral : (Cond.selects RX9 yX9_numeral yX9_numeral : Cond) ∈ tb := tbm 18 (by decide +kernel) (by decide +kernel)
theorem se_X9_sumUp : (Cond.selects RX9 yX9_sumUp yX9_sumUp : Cond) ∈ tb := tbm 19 (by decide +kernel) (by decide +kernel)
theorem se_X9_way : (Cond.selects RX9 yX9_way yX9_way : Cond) ∈ tb := tbm 20 (by decide +kernel) (by decide +kernel)
theorem se_X9_isThere : (Cond.selects RX9 yX9_isThere yX9_isThere : Cond) ∈ tb := tbm 21 (by decide +kernel) (by decide +kernel)
theorem se_X9_fresh : (Cond.selects RX9 yX9_fresh yX9_fresh : Cond) ∈ tb := tbm 22 (by decide +kernel) (by decide +kernel)
theorem se_X9_stand : (Cond.selects RX9 yX9_stand yX9_stand : Cond) ∈ tb := tbm 23 (by decide +kernel) (by decide +kernel)
theorem se_X9_goThrough : (Cond.selects RX9 yX9_goThrough yX9_goThrough : Cond) ∈ tb := tbm 24 (by decide +kernel) (by decide +kernel)
theorem iw_X0 : ∀ w ∈ u_ws RX0 TX0 1, w ∈ tb := tbs _ [87] (by decide +kernel) (by decide +kernel)
theorem iw_X1 : ∀ w ∈ u_ws RX1 TX1 5, w ∈ tb := tbs _ [216, 208, 210, 212, 214] (by decide +kernel) (by decide +kernel)
theorem iw_X2 : ∀ w ∈ u_ws RX2 TX2 1, w ∈ tb := tbs _ [374] (by decide +kernel) (by decide +kernel)
theorem iw_X3 : ∀ w ∈ u_ws RX3 TX3 3, w ∈ tb := tbs _ [181, 177, 179] (by decide +kernel) (by decide +kernel)
theorem iw_X5 : ∀ w ∈ u_ws RX5 TX5 3, w ∈ tb := tbs _ [57, 59, 61] (by decide +kernel) (by decide +kernel)
theorem iw_X6 : ∀ w ∈ u_ws RX6 TX6 4, w ∈ tb := tbs _ [337, 339, 341, 343] (by decide +kernel) (by decide +kernel)
theorem iw_X7 : ∀ w ∈ u_ws RX7 TX7 2, w ∈ tb := tbs _ [102, 104] (by decide +kernel) (by decide +kernel)
theorem iw_X8 : ∀ w ∈ u_ws RX8 TX8 9, w ∈ tb := tbs _ [116, 118, 120, 122, 124, 126, 128, 130, 132] (by decide +kernel) (by decide +kernel)
theorem iw_X9 : ∀ w ∈ u_ws RX9 TX9 42, w ∈ tb := tbs _ [494, 496, 498, 500, 502, 504, 506, 508, 510, 512, 514, 516, 518, 520, 522, 524, 526, 528, 530, 532, 534, 536, 538, 540, 542, 544, 546, 548, 550, 552, 554, 556, 558, 560, 562, 564, 566, 568, 570, 572, 574, 576] (by decide +kernel) (by decide +kernel)
theorem hd_X0_init : yX0_init.cls ≠ "java/lang/invoke/MethodHandle" ∧ yX0_init.cls ≠ "java/lang/invoke/VarHandle" ∧ (parseMethodDescriptor yX0_init.desc).map (fun d => d.parameters.length) = some 0 := by decide +kernel
theorem hd_X1_init : yX1_init.cls ≠ "java/lang/invoke/MethodHandle" ∧ yX1_init.cls ≠ "java/lang/invoke/VarHandle" ∧ (parseMethodDescriptor yX1_init.desc).map (fun d => d.parameters.length) = some 4 := by decide +kernel
theorem hd_X1_takesIn : yX1_takesIn.cls ≠ "java/lang/invoke/MethodHandle" ∧ yX1_takesIn.cls ≠ "java/lang/invoke/VarHandle" ∧ (parseMethodDescriptor yX1_takesIn.desc).map (fun d => d.parameters.length) = some 1 := by decide +kernel
theorem hd_X1_middle : yX1_middle.cls ≠ "java/lang/invoke/MethodHandle" ∧ yX1_middle.cls ≠ "java/lang/invoke/VarHandle" ∧ (parseMethodDescriptor yX1_middle.desc).map (fun d => d.parameters.length) = some 0 := by decide +kernel
theorem hd_X1_last : yX1_last.cls ≠ "java/lang/invoke/MethodHandle" ∧ yX1_last.cls ≠ "java/lang/invoke/VarHandle" ∧ (parseMethodDescriptor yX1_last.desc).map (fun d => d.parameters.length) = some 0 := by decide +kernel
theorem hd_X1_toward : yX1_toward.cls ≠ "java/lang/invoke/MethodHandle" ∧ yX1_toward.cls ≠ "java/lang/invoke/VarHandle" ∧ (parseMethodDescriptor yX1_toward.desc).map (fun d => d.parameters.length) = some 1 := by decide +kernel
theorem hd_X1_besides : yX1_besides.cls ≠ "java/lang/invoke/MethodHandle" ∧ yX1_besides.cls ≠ "java/lang/invoke/VarHandle" ∧ (parseMethodDescriptor yX1_besides.desc).map (fun d => d.parameters.length) = some 1 := by decide +kernel
theorem hd_X1_with : yX1_with.cls ≠ "java/lang/invoke/MethodHandle" ∧ yX1_with.cls ≠ "java/lang/invoke/VarHandle" ∧ (parseMethodDescriptor yX1_with.desc).map (fun d => d.parameters.length) = some 2 := by decide +kernel
theorem hd_X2_init : yX2_init.cls ≠ "java/lang/invoke/MethodHandle" ∧ yX2_init.cls ≠ "java/lang/invoke/VarHandle" ∧ (parseMethodDescriptor yX2_init.desc).map (fun d => d.parameters.length) = some 1 := by decide +kernel
theorem hd_X3_init : yX3_init.cls ≠ "java/lang/invoke/MethodHandle" ∧ yX3_init.cls ≠ "java/lang/invoke/VarHandle" ∧ (parseMethodDescriptor yX3_init.desc).map (fun d => d.parameters.length) = some 2 := by decide +kernel
theorem hd_X4_init : yX4_init.cls ≠ "java/lang/invoke/MethodHandle" ∧ yX4_init.cls ≠ "java/lang/invoke/VarHandle" ∧ (parseMethodDescriptor yX4_init.desc).map (fun d => d.parameters.length) = some 1 := by decide +kernel
theorem hd_X5_init : yX5_init.cls ≠ "java/lang/invoke/MethodHandle" ∧ yX5_init.cls ≠ "java/lang/invoke/VarHandle" ∧ (parseMethodDescriptor yX5_init.desc).map (fun d => d.parameters.length) = some 0 := by decide +kernel
theorem hd_X5_add : yX5_add.cls ≠ "java/lang/invoke/MethodHandle" ∧ yX5_add.cls ≠ "java/lang/invoke/VarHandle" ∧ (parseMethodDescriptor yX5_add.desc).map (fun d => d.parameters.length) = some 2 := by decide +kernel
theorem hd_X5_meet : yX5_meet.cls ≠ "java/lang/invoke/MethodHandle" ∧ yX5_meet.cls ≠ "java/lang/invoke/VarHandle" ∧ (parseMethodDescriptor yX5_meet.desc).map (fun d => d.parameters.length) = some 2 := by decide +kernel
theorem hd_X6_init : yX6_init.cls ≠ "java/lang/invoke/MethodHandle" ∧ yX6_init.cls ≠ "java/lang/invoke/VarHandle" ∧ (parseMethodDescriptor yX6_init.desc).map (fun d => d.parameters.length) = some 1 := by decide +kernel
theorem hd_X6_wholeWith : yX6_wholeWith.cls ≠ "java/lang/invoke/MethodHandle" ∧ yX6_wholeWith.cls ≠ "java/lang/invoke/VarHandle" ∧ (parseMethodDescriptor yX6_wholeWith.desc).map (fun d => d.parameters.length) = some 1 := by decide +kernel
theorem hd_X6_readNode : yX6_readNode.cls ≠ "java/lang/invoke/MethodHandle" ∧ yX6_readNode.cls ≠ "java/lang/invoke/VarHandle" ∧ (parseMethodDescriptor yX6_readNode.desc).map (fun d => d.parameters.length) = some 3 := by decide +kernel
theorem hd_X6_readLeaf : yX6_readLeaf.cls ≠ "java/lang/invoke/MethodHandle" ∧ yX6_readLeaf.cls ≠ "java/lang/invoke/VarHandle" ∧ (parseMethodDescriptor yX6_readLeaf.desc).map (fun d => d.parameters.length) = some 2 := by decide +kernel
theorem hd_X6_readFork : yX6_readFork.cls ≠ "java/lang/invoke/MethodHandle" ∧ yX6_readFork.cls ≠ "java/lang/invoke/VarHandle" ∧ (parseMethodDescriptor yX6_readFork.desc).map (fun d => d.parameters.length) = some 3 := by decide +kernel
theorem hd_X6_lacks : yX6_lacks.cls ≠ "java/lang/invoke/MethodHandle" ∧ yX6_lacks.cls ≠ "java/lang/invoke/VarHandle" ∧ (parseMethodDescriptor yX6_lacks.desc).map (fun d => d.parameters.length) = some 1 := by decide +kernel
theorem hd_X6_number : yX6_number.cls ≠ "java/lang/invoke/MethodHandle" ∧ yX6_number.cls ≠ "java/lang/invoke/VarHandle" ∧ (parseMethodDescriptor yX6_number.desc).map (fun d => d.parameters.length) = some 1 := by decide +kernel
theorem hd_X6_refuse : yX6_refuse.cls ≠ "java/lang/invoke/MethodHandle" ∧ yX6_refuse.cls ≠ "java/lang/invoke/VarHandle" ∧ (parseMethodDescriptor yX6_refuse.desc).map (fun d => d.parameters.length) = some 2 := by decide +kernel
theorem hd_X7_init : yX7_init.cls ≠ "java/lang/invoke/MethodHandle" ∧ yX7_init.cls ≠ "java/lang/invoke/VarHandle" ∧ (parseMethodDescriptor yX7_init.desc).map (fun d => d.parameters.length) = some 0 := by decide +kernel
theorem hd_X7_has : yX7_has.cls ≠ "java/lang/invoke/MethodHandle" ∧ yX7_has.cls ≠ "java/lang/invoke/VarHandle" ∧ (parseMethodDescriptor yX7_has.desc).map (fun d => d.parameters.length) = some 1 := by decide +kernel
theorem hd_X7_append : yX7_append.cls ≠ "java/lang/invoke/MethodHandle" ∧ yX7_append.cls ≠ "java/lang/invoke/VarHandle" ∧ (parseMethodDescriptor yX7_append.desc).map (fun d => d.parameters.length) = some 2 := by decide +kernel
theorem hd_X8_init : yX8_init.cls ≠ "java/lang/invoke/MethodHandle" ∧ yX8_init.cls ≠ "java/lang/invoke/VarHandle" ∧ (parseMethodDescriptor yX8_init.desc).map (fun d => d.parameters.length) = some 0 := by decide +kernel
theorem hd_X8_put : yX8_put.cls ≠ "java/lang/invoke/MethodHandle" ∧ yX8_put.cls ≠ "java/lang/invoke/VarHandle" ∧ (parseMethodDescriptor yX8_put.desc).map (fun d => d.parameters.length) = some 2 := by decide +kernel
theorem hd_X8_remove : yX8_remove.cls ≠ "java/lang/invoke/MethodHandle" ∧ yX8_remove.cls ≠ "java/lang/invoke/VarHandle" ∧ (parseMethodDescriptor yX8_remove.desc).map (fun d => d.parameters.length) = some 1 := by decide +kernel
theorem hd_X8_keep : yX8_keep.cls ≠ "java/lang/invoke/MethodHandle" ∧ yX8_keep.cls ≠ "java/lang/invoke/VarHandle" ∧ (parseMethodDescriptor yX8_keep.desc).map (fun d => d.parameters.length) = some 0 := by decide +kernel
theorem hd_X8_root : yX8_root.cls ≠ "java/lang/invoke/MethodHandle" ∧ yX8_root.cls ≠ "java/lang/invoke/VarHandle" ∧ (parseMethodDescriptor yX8_root.desc).map (fun d => d.parameters.length) = some 1 := by decide +kernel
theorem hd_X8_leaves : yX8_leaves.cls ≠ "java/lang/invoke/MethodHandle" ∧ yX8_leaves.cls ≠ "java/lang/invoke/VarHandle" ∧ (parseMethodDescriptor yX8_leaves.desc).map (fun d => d.parameters.length) = some 1 := by decide +kernel
theorem hd_X8_want : yX8_want.cls ≠ "java/lang/invoke/MethodHandle" ∧ yX8_want.cls ≠ "java/lang/invoke/VarHandle" ∧ (parseMethodDescriptor yX8_want.desc).map (fun d => d.parameters.length) = some 2 := by decide +kernel
theorem hd_X8_forget : yX8_forget.cls ≠ "java/lang/invoke/MethodHandle" ∧ yX8_forget.cls ≠ "java/lang/invoke/VarHandle" ∧ (parseMethodDescriptor yX8_forget.desc).map (fun d => d.parameters.length) = some 0 := by decide +kernel
theorem hd_X8_show : yX8_show.cls ≠ "java/lang/invoke/MethodHandle" ∧ yX8_show.cls ≠ "java/lang/invoke/VarHandle" ∧ (parseMethodDescriptor yX8_show.desc).map (fun d => d.parameters.length) = some 1 := by decide +kernel
theorem hd_X8_pass : yX8_pass.cls ≠ "java/lang/invoke/MethodHandle" ∧ yX8_pass.cls ≠ "java/lang/invoke/VarHandle" ∧ (parseMethodDescriptor yX8_pass.desc).map (fun d => d.parameters.length) = some 0 := by decide +kernel
theorem hd_X8_feed : yX8_feed.cls ≠ "java/lang/invoke/MethodHandle" ∧ yX8_feed.cls ≠ "java/lang/invoke/VarHandle" ∧ (parseMethodDescriptor yX8_feed.desc).map (fun d => d.parameters.length) = some 2 := by decide +kernel
theorem hd_X8_cut : yX8_cut.cls ≠ "java/lang/invoke/MethodHandle" ∧ yX8_cut.cls ≠ "java/lang/invoke/VarHandle" ∧ (parseMethodDescriptor yX8_cut.desc).map (fun d => d.parameters.length) = some 1 := by decide +kernel
theorem hd_X8_spoil : yX8_spoil.cls ≠ "java/lang/invoke/MethodHandle" ∧ yX8_spoil.cls ≠ "java/lang/invoke/VarHandle" ∧ (parseMethodDescriptor yX8_spoil.desc).map (fun d => d.parameters.length) = some 2 := by decide +kernel
theorem hd_X8_take : yX8_take.cls ≠ "java/lang/invoke/MethodHandle" ∧ yX8_take.cls ≠ "java/lang/invoke/VarHandle" ∧ (parseMethodDescriptor yX8_take.desc).map (fun d => d.parameters.length) = some 1 := by decide +kernel
theorem hd_X8_place : yX8_place.cls ≠ "java/lang/invoke/MethodHandle" ∧ yX8_place.cls ≠ "java/lang/invoke/VarHandle" ∧ (parseMethodDescriptor yX8_place.desc).map (fun d => d.parameters.length) = some 0 := by decide +kernel
theorem hd_X8_get : yX8_get.cls ≠ "java/lang/invoke/MethodHandle" ∧ yX8_get.cls ≠ "java/lang/invoke/VarHandle" ∧ (parseMethodDescriptor yX8_get.desc).map (fun d => d.parameters.length) = some 1 := by decide +kernel
theorem hd_X8_value : yX8_value.cls ≠ "java/lang/invoke/MethodHandle" ∧ yX8_value.cls ≠ "java/lang/invoke/VarHandle" ∧ (parseMethodDescriptor yX8_value.desc).map (fun d => d.parameters.length) = some 0 := by decide +kernel
theorem hd_X8_write : yX8_write.cls ≠ "java/lang/invoke/MethodHandle" ∧ yX8_write.cls ≠ "java/lang/invoke/VarHandle" ∧ (parseMethodDescriptor yX8_write.desc).map (fun d => d.parameters.length) = some 2 := by decide +kernel
theorem hd_X8_erase : yX8_erase.cls ≠ "java/lang/invoke/MethodHandle" ∧ yX8_erase.cls ≠ "java/lang/invoke/VarHandle" ∧ (parseMethodDescriptor yX8_erase.desc).map (fun d => d.parameters.length) = some 1 := by decide +kernel
theorem hd_X8_view : yX8_view.cls ≠ "java/lang/invoke/MethodHandle" ∧ yX8_view.cls ≠ "java/lang/invoke/VarHandle" ∧ (parseMethodDescriptor yX8_view.desc).map (fun d => d.parameters.length) = some 0 := by decide +kernel
theorem hd_X8_count : yX8_count.cls ≠ "java/lang/invoke/MethodHandle" ∧ yX8_count.cls ≠ "java/lang/invoke/VarHandle" ∧ (parseMethodDescriptor yX8_count.desc).map (fun d => d.parameters.length) = some 2 := by decide +kernel
theorem hd_X8_next : yX8_next.cls ≠ "java/lang/invoke/MethodHandle" ∧ yX8_next.cls ≠ "java/lang/invoke/VarHandle" ∧ (parseMethodDescriptor yX8_next.desc).map (fun d => d.parameters.length) = some 1 := by decide +kernel
theorem hd_X8_told : yX8_told.cls ≠ "java/lang/invoke/MethodHandle" ∧ yX8_told.cls ≠ "java/lang/invoke/VarHandle" ∧ (parseMethodDescriptor yX8_told.desc).map (fun d => d.parameters.length) = some 1 := by decide +kernel
theorem hd_X8_octet : yX8_octet.cls ≠ "java/lang/invoke/MethodHandle" ∧ yX8_octet.cls ≠ "java/lang/invoke/VarHandle" ∧ (parseMethodDescriptor yX8_octet.desc).map (fun d => d.parameters.length) = some 1 := by decide +kernel
theorem hd_X8_isPath : yX8_isPath.cls ≠ "java/lang/invoke/MethodHandle" ∧ yX8_isPath.cls ≠ "java/lang/invoke/VarHandle" ∧ (parseMethodDescriptor yX8_isPath.desc).map (fun d => d.parameters.length) = some 1 := by decide +kernel
theorem hd_X8_isRange : yX8_isRange.cls ≠ "java/lang/invoke/MethodHandle" ∧ yX8_isRange.cls ≠ "java/lang/invoke/VarHandle" ∧ (parseMethodDescriptor yX8_isRange.desc).map (fun d => d.parameters.length) = some 2 := by decide +kernel
theorem hd_X8_isHigh : yX8_isHigh.cls ≠ "java/lang/invoke/MethodHandle" ∧ yX8_isHigh.cls ≠ "java/lang/invoke/VarHandle" ∧ (parseMethodDescriptor yX8_isHigh.desc).map (fun d => d.parameters.length) = some 2 := by decide +kernel
theorem hd_X8_stemOf : yX8_stemOf.cls ≠ "java/lang/invoke/MethodHandle" ∧ yX8_stemOf.cls ≠ "java/lang/invoke/VarHandle" ∧ (parseMethodDescriptor yX8_stemOf.desc).map (fun d => d.parameters.length) = some 2 := by decide +kernel
theorem hd_X8_firstOtherBit : yX8_firstOtherBit.cls ≠ "java/lang/invoke/MethodHandle" ∧ yX8_firstOtherBit.cls ≠ "java/lang/invoke/VarHandle" ∧ (parseMethodDescriptor yX8_firstOtherBit.desc).map (fun d => d.parameters.length) = some 2 := by decide +kernel
theorem hd_X8_mix : yX8_mix.cls ≠ "java/lang/invoke/MethodHandle" ∧ yX8_mix.cls ≠ "java/lang/invoke/VarHandle" ∧ (parseMethodDescriptor yX8_mix.desc).map (fun d => d.parameters.length) = some 2 := by decide +kernel
theorem hd_X8_emptyDigest : yX8_emptyDigest.cls ≠ "java/lang/invoke/MethodHandle" ∧ yX8_emptyDigest.cls ≠ "java/lang/invoke/VarHandle" ∧ (parseMethodDescriptor yX8_emptyDigest.desc).map (fun d => d.parameters.length) = some 0 := by decide +kernel
theorem hd_X8_leafDigest : yX8_leafDigest.cls ≠ "java/lang/invoke/MethodHandle" ∧ yX8_leafDigest.cls ≠ "java/lang/invoke/VarHandle" ∧ (parseMethodDescriptor yX8_leafDigest.desc).map (fun d => d.parameters.length) = some 2 := by decide +kernel
theorem hd_X8_forkDigest : yX8_forkDigest.cls ≠ "java/lang/invoke/MethodHandle" ∧ yX8_forkDigest.cls ≠ "java/lang/invoke/VarHandle" ∧ (parseMethodDescriptor yX8_forkDigest.desc).map (fun d => d.parameters.length) = some 4 := by decide +kernel
theorem hd_X8_wholeOf : yX8_wholeOf.cls ≠ "java/lang/invoke/MethodHandle" ∧ yX8_wholeOf.cls ≠ "java/lang/invoke/VarHandle" ∧ (parseMethodDescriptor yX8_wholeOf.desc).map (fun d => d.parameters.length) = some 1 := by decide +kernel
theorem hd_X8_endOfWay : yX8_endOfWay.cls ≠ "java/lang/invoke/MethodHandle" ∧ yX8_endOfWay.cls ≠ "java/lang/invoke/VarHandle" ∧ (parseMethodDescriptor yX8_endOfWay.desc).map (fun d => d.parameters.length) = some 2 := by decide +kernel
theorem hd_X8_isLeafOf : yX8_isLeafOf.cls ≠ "java/lang/invoke/MethodHandle" ∧ yX8_isLeafOf.cls ≠ "java/lang/invoke/VarHandle" ∧ (parseMethodDescriptor yX8_isLeafOf.desc).map (fun d => d.parameters.length) = some 2 := by decide +kernel
theorem hd_X8_written : yX8_written.cls ≠ "java/lang/invoke/MethodHandle" ∧ yX8_written.cls ≠ "java/lang/invoke/VarHandle" ∧ (parseMethodDescriptor yX8_written.desc).map (fun d => d.parameters.length) = some 3 := by decide +kernel
theorem hd_X8_forkOf : yX8_forkOf.cls ≠ "java/lang/invoke/MethodHandle" ∧ yX8_forkOf.cls ≠ "java/lang/invoke/VarHandle" ∧ (parseMethodDescriptor yX8_forkOf.desc).map (fun d => d.parameters.length) = some 3 := by decide +kernel
theorem hd_X8_erased : yX8_erased.cls ≠ "java/lang/invoke/MethodHandle" ∧ yX8_erased.cls ≠ "java/lang/invoke/VarHandle" ∧ (parseMethodDescriptor yX8_erased.desc).map (fun d => d.parameters.length) = some 3 := by decide +kernel
theorem hd_X8_leavesWithin : yX8_leavesWithin.cls ≠ "java/lang/invoke/MethodHandle" ∧ yX8_leavesWithin.cls ≠ "java/lang/invoke/VarHandle" ∧ (parseMethodDescriptor yX8_leavesWithin.desc).map (fun d => d.parameters.length) = some 4 := by decide +kernel
theorem hd_X8_nodesOf : yX8_nodesOf.cls ≠ "java/lang/invoke/MethodHandle" ∧ yX8_nodesOf.cls ≠ "java/lang/invoke/VarHandle" ∧ (parseMethodDescriptor yX8_nodesOf.desc).map (fun d => d.parameters.length) = some 2 := by decide +kernel
theorem hd_X8_mostForks : yX8_mostForks.cls ≠ "java/lang/invoke/MethodHandle" ∧ yX8_mostForks.cls ≠ "java/lang/invoke/VarHandle" ∧ (parseMethodDescriptor yX8_mostForks.desc).map (fun d => d.parameters.length) = some 2 := by decide +kernel
theorem hd_X8_hiddenOver : yX8_hiddenOver.cls ≠ "java/lang/invoke/MethodHandle" ∧ yX8_hiddenOver.cls ≠ "java/lang/invoke/VarHandle" ∧ (parseMethodDescriptor yX8_hiddenOver.desc).map (fun d => d.parameters.length) = some 6 := by decide +kernel
theorem hd_X8_leastFrom : yX8_leastFrom.cls ≠ "java/lang/invoke/MethodHandle" ∧ yX8_leastFrom.cls ≠ "java/lang/invoke/VarHandle" ∧ (parseMethodDescriptor yX8_leastFrom.desc).map (fun d => d.parameters.length) = some 4 := by decide +kernel
theorem hd_X8_tapeBecomes : yX8_tapeBecomes.cls ≠ "java/lang/invoke/MethodHandle" ∧ yX8_tapeBecomes.cls ≠ "java/lang/invoke/VarHandle" ∧ (parseMethodDescriptor yX8_tapeBecomes.desc).map (fun d => d.parameters.length) = some 1 := by decide +kernel
theorem hd_X8_appendShown : yX8_appendShown.cls ≠ "java/lang/invoke/MethodHandle" ∧ yX8_appendShown.cls ≠ "java/lang/invoke/VarHandle" ∧ (parseMethodDescriptor yX8_appendShown.desc).map (fun d => d.parameters.length) = some 4 := by decide +kernel
theorem hd_X9_init : yX9_init.cls ≠ "java/lang/invoke/MethodHandle" ∧ yX9_init.cls ≠ "java/lang/invoke/VarHandle" ∧ (parseMethodDescriptor yX9_init.desc).map (fun d => d.parameters.length) = some 0 := by decide +kernel
theorem hd_X9_isPath : yX9_isPath.cls ≠ "java/lang/invoke/MethodHandle" ∧ yX9_isPath.cls ≠ "java/lang/invoke/VarHandle" ∧ (parseMethodDescriptor yX9_isPath.desc).map (fun d => d.parameters.length) = some 1 := by decide +kernel
theorem hd_X9_firstBit : yX9_firstBit.cls ≠ "java/lang/invoke/MethodHandle" ∧ yX9_firstBit.cls ≠ "java/lang/invoke/VarHandle" ∧ (parseMethodDescriptor yX9_firstBit.desc).map (fun d => d.parameters.length) = some 2 := by decide +kernel
theorem hd_X9_stemOf : yX9_stemOf.cls ≠ "java/lang/invoke/MethodHandle" ∧ yX9_stemOf.cls ≠ "java/lang/invoke/VarHandle" ∧ (parseMethodDescriptor yX9_stemOf.desc).map (fun d => d.parameters.length) = some 2 := by decide +kernel
theorem hd_X9_mix : yX9_mix.cls ≠ "java/lang/invoke/MethodHandle" ∧ yX9_mix.cls ≠ "java/lang/invoke/VarHandle" ∧ (parseMethodDescriptor yX9_mix.desc).map (fun d => d.parameters.length) = some 2 := by decide +kernel
theorem hd_X9_leafDigest : yX9_leafDigest.cls ≠ "java/lang/invoke/MethodHandle" ∧ yX9_leafDigest.cls ≠ "java/lang/invoke/VarHandle" ∧ (parseMethodDescriptor yX9_leafDigest.desc).map (fun d => d.parameters.length) = some 2 := by decide +kernel
theorem hd_X9_forkDigest : yX9_forkDigest.cls ≠ "java/lang/invoke/MethodHandle" ∧ yX9_forkDigest.cls ≠ "java/lang/invoke/VarHandle" ∧ (parseMethodDescriptor yX9_forkDigest.desc).map (fun d => d.parameters.length) = some 4 := by decide +kernel
theorem hd_X9_baseOf : yX9_baseOf.cls ≠ "java/lang/invoke/MethodHandle" ∧ yX9_baseOf.cls ≠ "java/lang/invoke/VarHandle" ∧ (parseMethodDescriptor yX9_baseOf.desc).map (fun d => d.parameters.length) = some 1 := by decide +kernel
theorem hd_X9_sizeOf : yX9_sizeOf.cls ≠ "java/lang/invoke/MethodHandle" ∧ yX9_sizeOf.cls ≠ "java/lang/invoke/VarHandle" ∧ (parseMethodDescriptor yX9_sizeOf.desc).map (fun d => d.parameters.length) = some 1 := by decide +kernel
theorem hd_X9_find : yX9_find.cls ≠ "java/lang/invoke/MethodHandle" ∧ yX9_find.cls ≠ "java/lang/invoke/VarHandle" ∧ (parseMethodDescriptor yX9_find.desc).map (fun d => d.parameters.length) = some 1 := by decide +kernel
theorem hd_X9_put : yX9_put.cls ≠ "java/lang/invoke/MethodHandle" ∧ yX9_put.cls ≠ "java/lang/invoke/VarHandle" ∧ (parseMethodDescriptor yX9_put.desc).map (fun d => d.parameters.length) = some 2 := by decide +kernel
theorem hd_X9_remove : yX9_remove.cls ≠ "java/lang/invoke/MethodHandle" ∧ yX9_remove.cls ≠ "java/lang/invoke/VarHandle" ∧ (parseMethodDescriptor yX9_remove.desc).map (fun d => d.parameters.length) = some 1 := by decide +kernel
theorem hd_X9_keep : yX9_keep.cls ≠ "java/lang/invoke/MethodHandle" ∧ yX9_keep.cls ≠ "java/lang/invoke/VarHandle" ∧ (parseMethodDescriptor yX9_keep.desc).map (fun d => d.parameters.length) = some 0 := by decide +kernel
theorem hd_X9_digest : yX9_digest.cls ≠ "java/lang/invoke/MethodHandle" ∧ yX9_digest.cls ≠ "java/lang/invoke/VarHandle" ∧ (parseMethodDescriptor yX9_digest.desc).map (fun d => d.parameters.length) = some 2 := by decide +kernel
theorem hd_X9_root : yX9_root.cls ≠ "java/lang/invoke/MethodHandle" ∧ yX9_root.cls ≠ "java/lang/invoke/VarHandle" ∧ (parseMethodDescriptor yX9_root.desc).map (fun d => d.parameters.length) = some 1 := by decide +kernel
theorem hd_X9_leaves : yX9_leaves.cls ≠ "java/lang/invoke/MethodHandle" ∧ yX9_leaves.cls ≠ "java/lang/invoke/VarHandle" ∧ (parseMethodDescriptor yX9_leaves.desc).map (fun d => d.parameters.length) = some 1 := by decide +kernel
theorem hd_X9_want : yX9_want.cls ≠ "java/lang/invoke/MethodHandle" ∧ yX9_want.cls ≠ "java/lang/invoke/VarHandle" ∧ (parseMethodDescriptor yX9_want.desc).map (fun d => d.parameters.length) = some 2 := by decide +kernel
theorem hd_X9_forget : yX9_forget.cls ≠ "java/lang/invoke/MethodHandle" ∧ yX9_forget.cls ≠ "java/lang/invoke/VarHandle" ∧ (parseMethodDescriptor yX9_forget.desc).map (fun d => d.parameters.length) = some 0 := by decide +kernel
theorem hd_X9_isWanted : yX9_isWanted.cls ≠ "java/lang/invoke/MethodHandle" ∧ yX9_isWanted.cls ≠ "java/lang/invoke/VarHandle" ∧ (parseMethodDescriptor yX9_isWanted.desc).map (fun d => d.parameters.length) = some 2 := by decide +kernel
theorem hd_X9_lay : yX9_lay.cls ≠ "java/lang/invoke/MethodHandle" ∧ yX9_lay.cls ≠ "java/lang/invoke/VarHandle" ∧ (parseMethodDescriptor yX9_lay.desc).map (fun d => d.parameters.length) = some 2 := by decide +kernel
theorem hd_X9_laidOut : yX9_laidOut.cls ≠ "java/lang/invoke/MethodHandle" ∧ yX9_laidOut.cls ≠ "java/lang/invoke/VarHandle" ∧ (parseMethodDescriptor yX9_laidOut.desc).map (fun d => d.parameters.length) = some 0 := by decide +kernel
theorem hd_X9_rest : yX9_rest.cls ≠ "java/lang/invoke/MethodHandle" ∧ yX9_rest.cls ≠ "java/lang/invoke/VarHandle" ∧ (parseMethodDescriptor yX9_rest.desc).map (fun d => d.parameters.length) = some 4 := by decide +kernel
theorem hd_X9_show : yX9_show.cls ≠ "java/lang/invoke/MethodHandle" ∧ yX9_show.cls ≠ "java/lang/invoke/VarHandle" ∧ (parseMethodDescriptor yX9_show.desc).map (fun d => d.parameters.length) = some 1 := by decide +kernel
theorem hd_X9_feed : yX9_feed.cls ≠ "java/lang/invoke/MethodHandle" ∧ yX9_feed.cls ≠ "java/lang/invoke/VarHandle" ∧ (parseMethodDescriptor yX9_feed.desc).map (fun d => d.parameters.length) = some 2 := by decide +kernel
theorem hd_X9_cut : yX9_cut.cls ≠ "java/lang/invoke/MethodHandle" ∧ yX9_cut.cls ≠ "java/lang/invoke/VarHandle" ∧ (parseMethodDescriptor yX9_cut.desc).map (fun d => d.parameters.length) = some 1 := by decide +kernel
theorem hd_X9_spoil : yX9_spoil.cls ≠ "java/lang/invoke/MethodHandle" ∧ yX9_spoil.cls ≠ "java/lang/invoke/VarHandle" ∧ (parseMethodDescriptor yX9_spoil.desc).map (fun d => d.parameters.length) = some 2 := by decide +kernel
theorem hd_X9_octet : yX9_octet.cls ≠ "java/lang/invoke/MethodHandle" ∧ yX9_octet.cls ≠ "java/lang/invoke/VarHandle" ∧ (parseMethodDescriptor yX9_octet.desc).map (fun d => d.parameters.length) = some 1 := by decide +kernel
theorem hd_X9_numeral : yX9_numeral.cls ≠ "java/lang/invoke/MethodHandle" ∧ yX9_numeral.cls ≠ "java/lang/invoke/VarHandle" ∧ (parseMethodDescriptor yX9_numeral.desc).map (fun d => d.parameters.length) = some 1 := by decide +kernel
theorem hd_X9_sumUp : yX9_sumUp.cls ≠ "java/lang/invoke/MethodHandle" ∧ yX9_sumUp.cls ≠ "java/lang/invoke/VarHandle" ∧ (parseMethodDescriptor yX9_sumUp.desc).map (fun d => d.parameters.length) = some 1 := by decide +kernel
theorem hd_X9_taken : yX9_taken.cls ≠ "java/lang/invoke/MethodHandle" ∧ yX9_taken.cls ≠ "java/lang/invoke/VarHandle" ∧ (parseMethodDescriptor yX9_taken.desc).map (fun d => d.parameters.length) = some 4 := by decide +kernel
theorem hd_X9_take : yX9_take.cls ≠ "java/lang/invoke/MethodHandle" ∧ yX9_take.cls ≠ "java/lang/invoke/VarHandle" ∧ (parseMethodDescriptor yX9_take.desc).map (fun d => d.parameters.length) = some 1 := by decide +kernel
theorem hd_X9_place : yX9_place.cls ≠ "java/lang/invoke/MethodHandle" ∧ yX9_place.cls ≠ "java/lang/invoke/VarHandle" ∧ (parseMethodDescriptor yX9_place.desc).map (fun d => d.parameters.length) = some 0 := by decide +kernel
theorem hd_X9_takesIn : yX9_takesIn.cls ≠ "java/lang/invoke/MethodHandle" ∧ yX9_takesIn.cls ≠ "java/lang/invoke/VarHandle" ∧ (parseMethodDescriptor yX9_takesIn.desc).map (fun d => d.parameters.length) = some 3 := by decide +kernel
theorem hd_X9_way : yX9_way.cls ≠ "java/lang/invoke/MethodHandle" ∧ yX9_way.cls ≠ "java/lang/invoke/VarHandle" ∧ (parseMethodDescriptor yX9_way.desc).map (fun d => d.parameters.length) = some 1 := by decide +kernel
theorem hd_X9_isThere : yX9_isThere.cls ≠ "java/lang/invoke/MethodHandle" ∧ yX9_isThere.cls ≠ "java/lang/invoke/VarHandle" ∧ (parseMethodDescriptor yX9_isThere.desc).map (fun d => d.parameters.length) = some 1 := by decide +kernel
theorem hd_X9_get : yX9_get.cls ≠ "java/lang/invoke/MethodHandle" ∧ yX9_get.cls ≠ "java/lang/invoke/VarHandle" ∧ (parseMethodDescriptor yX9_get.desc).map (fun d => d.parameters.length) = some 1 := by decide +kernel
theorem hd_X9_value : yX9_value.cls ≠ "java/lang/invoke/MethodHandle" ∧ yX9_value.cls ≠ "java/lang/invoke/VarHandle" ∧ (parseMethodDescriptor yX9_value.desc).map (fun d => d.parameters.length) = some 0 := by decide +kernel
theorem hd_X9_fresh : yX9_fresh.cls ≠ "java/lang/invoke/MethodHandle" ∧ yX9_fresh.cls ≠ "java/lang/invoke/VarHandle" ∧ (parseMethodDescriptor yX9_fresh.desc).map (fun d => d.parameters.length) = some 0 := by decide +kernel
theorem hd_X9_stand : yX9_stand.cls ≠ "java/lang/invoke/MethodHandle" ∧ yX9_stand.cls ≠ "java/lang/invoke/VarHandle" ∧ (parseMethodDescriptor yX9_stand.desc).map (fun d => d.parameters.length) = some 3 := by decide +kernel
theorem hd_X9_write : yX9_write.cls ≠ "java/lang/invoke/MethodHandle" ∧ yX9_write.cls ≠ "java/lang/invoke/VarHandle" ∧ (parseMethodDescriptor yX9_write.desc).map (fun d => d.parameters.length) = some 2 := by decide +kernel
theorem hd_X9_erase : yX9_erase.cls ≠ "java/lang/invoke/MethodHandle" ∧ yX9_erase.cls ≠ "java/lang/invoke/VarHandle" ∧ (parseMethodDescriptor yX9_erase.desc).map (fun d => d.parameters.length) = some 1 := by decide +kernel
theorem hd_X9_view : yX9_view.cls ≠ "java/lang/invoke/MethodHandle" ∧ yX9_view.cls ≠ "java/lang/invoke/VarHandle" ∧ (parseMethodDescriptor yX9_view.desc).map (fun d => d.parameters.length) = some 0 := by decide +kernel
theorem hd_X9_goThrough : yX9_goThrough.cls ≠ "java/lang/invoke/MethodHandle" ∧ yX9_goThrough.cls ≠ "java/lang/invoke/VarHandle" ∧ (parseMethodDescriptor yX9_goThrough.desc).map (fun d => d.parameters.length) = some 2 := by decide +kernel
theorem hd_X9_count : yX9_count.cls ≠ "java/lang/invoke/MethodHandle" ∧ yX9_count.cls ≠ "java/lang/invoke/VarHandle" ∧ (parseMethodDescriptor yX9_count.desc).map (fun d => d.parameters.length) = some 2 := by decide +kernel
theorem hd_X9_next : yX9_next.cls ≠ "java/lang/invoke/MethodHandle" ∧ yX9_next.cls ≠ "java/lang/invoke/VarHandle" ∧ (parseMethodDescriptor yX9_next.desc).map (fun d => d.parameters.length) = some 1 := by decide +kernel
theorem hd_X9_pass : yX9_pass.cls ≠ "java/lang/invoke/MethodHandle" ∧ yX9_pass.cls ≠ "java/lang/invoke/VarHandle" ∧ (parseMethodDescriptor yX9_pass.desc).map (fun d => d.parameters.length) = some 0 := by decide +kernel
theorem hd_X9_told : yX9_told.cls ≠ "java/lang/invoke/MethodHandle" ∧ yX9_told.cls ≠ "java/lang/invoke/VarHandle" ∧ (parseMethodDescriptor yX9_told.desc).map (fun d => d.parameters.length) = some 1 := by decide +kernel
theorem hd_J9_max_7cf53 : yJ9_max_7cf53.cls ≠ "java/lang/invoke/MethodHandle" ∧ yJ9_max_7cf53.cls ≠ "java/lang/invoke/VarHandle" ∧ (parseMethodDescriptor yJ9_max_7cf53.desc).map (fun d => d.parameters.length) = some 2 := by decide +kernel
end
section
/-! the walk in blocks: an evaluator of straight stretches over named cells ('tags'), and its soundness -/
abbrev AS : Type := List (Nat × Value) × List Value × List va_E
abbrev Ent : Type := Nat × Instr × Value × Nat × Nat
abbrev e0 (q : Nat) (i : Instr) : Ent := (q, i, .null, 0, 0)
abbrev ec (q : Nat) (i : Instr) (w : Value) : Ent := (q, i, w, 0, 0)
abbrev ef (q : Nat) (i : Instr) (w : Value) (a b : Nat) : Ent := (q, i, w, a, b)
def nth {α : Type} : List α → Nat → Option α
  | [], _ => none
  | x :: _, 0 => some x
  | _ :: r, k + 1 => nth r k
theorem nth_eq {α : Type} (l : List α) : ∀ k : Nat, nth l k = l[k]? := by
  induction l with
  | nil => intro k; simp [nth]
  | cons x r ih =>
    intro k
    cases k with
    | zero => simp [nth]
    | succ k => simp [nth, ih k]
def setl {α : Type} : List α → Nat → α → Option (List α)
  | [], _, _ => none
  | _ :: r, 0, v => some (v :: r)
  | x :: r, k + 1, v => match setl r k v with
    | some r2 => some (x :: r2)
    | none => none
theorem setl_eq {α : Type} (v : α) : ∀ (l : List α) (k : Nat) (l2 : List α), setl l k v = some l2 → l2 = l.set k v ∧ k < l.length := by
  intro l
  induction l with
  | nil => intro k l2 h; cases h
  | cons x r ih =>
    intro k l2 h
    cases k with
    | zero => cases h; exact ⟨rfl, by simp⟩
    | succ k =>
      simp only [setl] at h
      split at h
      next r2 hr =>
        obtain ⟨h1, h2⟩ := ih k r2 hr
        cases h
        exact ⟨by rw [h1]; rfl, by simp; exact h2⟩
      next => cases h
def c2 : Value → Bool
  | .long _ => true
  | .double _ => true
  | _ => false
theorem c2_eq (v : Value) : c2 v = (v.category == 2) := by cases v <;> rfl
def fnd : List (Nat × Value) → Nat → Option Value
  | [], _ => none
  | q :: r, i => match Nat.beq q.1 i with
    | true => some q.2
    | false => fnd r i
theorem fnd_mem {v : Value} {i : Nat} : ∀ (l : List (Nat × Value)), fnd l i = some v → (i, v) ∈ l := by
  intro l
  induction l with
  | nil => intro h; cases h
  | cons q r ih =>
    intro h
    simp only [fnd] at h
    split at h
    next hb =>
      cases h
      have := Nat.eq_of_beq_eq_true hb
      subst this
      exact List.mem_cons_self
    next => exact List.mem_cons_of_mem _ (ih h)
def dl1 (i : Nat) : List (Nat × Value) → Option (List (Nat × Value))
  | [] => some []
  | q :: r => match dl1 i r with
    | none => none
    | some r2 => match (Nat.beq q.1 i || (Nat.beq (q.1 + 1) i && c2 q.2)) with
      | true => some r2
      | false => some (q :: r2)
def dl2 (i : Nat) : List (Nat × Value) → Option (List (Nat × Value))
  | [] => some []
  | q :: r => match dl2 i r with
    | none => none
    | some r2 => match (Nat.beq q.1 i || (Nat.beq q.1 (i + 1) || (Nat.beq (q.1 + 1) i && c2 q.2))) with
      | true => some r2
      | false => some (q :: r2)
def ins (i : Nat) (v : Value) : List (Nat × Value) → Option (List (Nat × Value))
  | [] => some [(i, v)]
  | q :: r => match Nat.blt i q.1 with
    | true => some ((i, v) :: q :: r)
    | false => match ins i v r with
      | some r2 => some (q :: r2)
      | none => none
theorem ins_mem {i : Nat} {v : Value} : ∀ (l l2 : List (Nat × Value)), ins i v l = some l2 → ∀ x ∈ l2, x = (i, v) ∨ x ∈ l := by
  intro l
  induction l with
  | nil => intro l2 h x hx; cases h; exact Or.inl (List.mem_singleton.mp hx)
  | cons q r ih =>
    intro l2 h x hx
    simp only [ins] at h
    split at h
    · cases h
      exact List.mem_cons.mp hx
    · split at h
      next r2 hr =>
        cases h
        rcases List.mem_cons.mp hx with rfl | hx
        · exact Or.inr List.mem_cons_self
        · rcases ih r2 hr x hx with h1 | h1
          · exact Or.inl h1
          · exact Or.inr (List.mem_cons_of_mem _ h1)
      next => cases h
theorem beqN (a b : Nat) : (a == b) = Nat.beq a b := by
  cases h : Nat.beq a b
  · have h1 : a ≠ b := Nat.ne_of_beq_eq_false h
    simp [h1]
  · have h1 := Nat.eq_of_beq_eq_true h
    simp [h1]
theorem dl1_mem {i : Nat} : ∀ (l l2 : List (Nat × Value)), dl1 i l = some l2 → ∀ x ∈ l2, x ∈ l.filter (fun q => !(q.1 == i) && !(q.1 + 1 == i && q.2.category == 2)) := by
  intro l
  induction l with
  | nil => intro l2 h x hx; cases h; cases hx
  | cons q r ih =>
    intro l2 h x hx
    simp only [dl1] at h
    split at h
    · cases h
    next r2 hr =>
      have ih2 := ih r2 hr
      split at h
      · cases h
        have := ih2 x hx
        rw [List.filter_cons]
        split
        · exact List.mem_cons_of_mem _ this
        · exact this
      next hb =>
        cases h
        have hq : (!(q.1 == i) && !(q.1 + 1 == i && q.2.category == 2)) = true := by
          rw [← c2_eq]
          rw [beqN, beqN]
          revert hb
          cases Nat.beq q.1 i <;> cases Nat.beq (q.1 + 1) i <;> cases c2 q.2 <;> simp
        rw [List.filter_cons, if_pos hq]
        rcases List.mem_cons.mp hx with rfl | hx
        · exact List.mem_cons_self
        · exact List.mem_cons_of_mem _ (ih2 x hx)
theorem dl2_mem {i : Nat} : ∀ (l l2 : List (Nat × Value)), dl2 i l = some l2 → ∀ x ∈ l2, x ∈ l.filter (fun q => !(q.1 == i) && (!(q.1 == i + 1) && !(q.1 + 1 == i && q.2.category == 2))) := by
  intro l
  induction l with
  | nil => intro l2 h x hx; cases h; cases hx
  | cons q r ih =>
    intro l2 h x hx
    simp only [dl2] at h
    split at h
    · cases h
    next r2 hr =>
      have ih2 := ih r2 hr
      split at h
      · cases h
        have := ih2 x hx
        rw [List.filter_cons]
        split
        · exact List.mem_cons_of_mem _ this
        · exact this
      next hb =>
        cases h
        have hq : (!(q.1 == i) && (!(q.1 == i + 1) && !(q.1 + 1 == i && q.2.category == 2))) = true := by
          rw [← c2_eq]
          rw [beqN, beqN, beqN]
          revert hb
          cases Nat.beq q.1 i <;> cases Nat.beq (q.1 + 1) i <;> cases Nat.beq q.1 (i + 1) <;> cases c2 q.2 <;> simp
        rw [List.filter_cons, if_pos hq]
        rcases List.mem_cons.mp hx with rfl | hx
        · exact List.mem_cons_self
        · exact List.mem_cons_of_mem _ (ih2 x hx)
def cv (ad : Nat → Nat) : Value → Value
  | .ref k => .ref (ad k)
  | .int x => .int x
  | .long x => .long x
  | .float x => .float x
  | .double x => .double x
  | .null => .null
  | .retAddr k => .retAddr k
theorem cv_cat (ad : Nat → Nat) (v : Value) : (cv ad v).category = v.category := by cases v <;> rfl
def ce (ad : Nat → Nat) (ca : Nat → ClassId) : va_E → va_E
  | .inl x => .inl (ca x.1, x.2)
  | .inr o => .inr (o.1, o.2.map (cv ad))
def cw (ad : Nat → Nat) (ca : Nat → ClassId) : Nat → List va_E → va_W
  | _, [] => []
  | k, e :: r => (ad k, ce ad ca e) :: cw ad ca (k + 1) r
def cl (ad : Nat → Nat) (lv : List (Nat × Value)) : List (Nat × Value) := lv.map (fun q => (q.1, cv ad q.2))
theorem cw_at (ad : Nat → Nat) (ca : Nat → ClassId) : ∀ (ws : List va_E) (j k : Nat), (cw ad ca j ws)[k]? = (ws[k]?).map (fun e => (ad (j + k), ce ad ca e)) := by
  intro ws
  induction ws with
  | nil => intro j k; simp [cw]
  | cons e r ih =>
    intro j k
    cases k with
    | zero => simp [cw]
    | succ k =>
      simp only [cw, List.getElem?_cons_succ, ih]
      rw [show j + 1 + k = j + (k + 1) by omega]
theorem cw_set (ad : Nat → Nat) (ca : Nat → ClassId) (e : va_E) : ∀ (ws : List va_E) (j k : Nat), cw ad ca j (ws.set k e) = (cw ad ca j ws).set k (ad (j + k), ce ad ca e) := by
  intro ws
  induction ws with
  | nil => intro j k; simp [cw]
  | cons x r ih =>
    intro j k
    cases k with
    | zero => simp [cw]
    | succ k =>
      simp only [cw, List.set_cons_succ, ih]
      rw [show j + 1 + k = j + (k + 1) by omega]
/-- the named cells are apart; a name from 100 on is an address itself -/
def AD (ad : Nat → Nat) (n : Nat) : Prop := (∀ i j : Nat, i < n → j < n → ad i = ad j → i = j) ∧ ∀ q : Nat, ad (q + 100) = q
theorem cw_some {ad : Nat → Nat} {ca : Nat → ClassId} {ws : List va_E} {k : Nat} {q : Nat × va_E} (h : (cw ad ca 0 ws)[k]? = some q) : ∃ e, ws[k]? = some e ∧ q = (ad k, ce ad ca e) ∧ k < ws.length := by
  rw [cw_at] at h
  cases hw : ws[k]? with
  | none => rw [hw] at h; cases h
  | some e =>
    rw [hw] at h
    cases h
    exact ⟨e, rfl, by rw [Nat.zero_add], (List.getElem?_eq_some_iff.mp hw).1⟩
theorem cw_D {ad : Nat → Nat} {ca : Nat → ClassId} {ws : List va_E} {A : Nat → Prop} {n : Nat} (hn : ws.length = n) (h : AD ad n) (hA : ∀ k, k < n → A (ad k)) : va_D A (cw ad ca 0 ws) := by
  subst hn
  refine ⟨fun i j x y hi hj hxy => ?_, fun k q hk => ?_⟩
  · obtain ⟨e1, -, rfl, l1⟩ := cw_some hi
    obtain ⟨e2, -, rfl, l2⟩ := cw_some hj
    exact h.1 i j l1 l2 hxy
  · obtain ⟨e, -, rfl, hl⟩ := cw_some hk
    exact hA k hl
theorem cl_fnd {ad : Nat → Nat} {lv : List (Nat × Value)} {i : Nat} {v : Value} {ls : Array Slot} {nL : Nat} (hl : lv_has ls nL (cl ad lv)) (h : fnd lv i = some v) : ls[i]? = some (.val (cv ad v)) :=
  hl.2.2 (i, cv ad v) (List.mem_map.mpr ⟨(i, v), fnd_mem lv h, rfl⟩)
theorem cl_filter1 (ad : Nat → Nat) (i : Nat) (lv : List (Nat × Value)) : (cl ad lv).filter (fun q => !(q.1 == i) && !(q.1 + 1 == i && q.2.category == 2)) = cl ad (lv.filter (fun q => !(q.1 == i) && !(q.1 + 1 == i && q.2.category == 2))) := by
  unfold cl
  rw [List.filter_map]
  congr 1
  apply List.filter_congr
  intro q _
  simp only [Function.comp, cv_cat]
theorem cl_filter2 (ad : Nat → Nat) (i : Nat) (lv : List (Nat × Value)) : (cl ad lv).filter (fun q => !(q.1 == i) && (!(q.1 == i + 1) && !(q.1 + 1 == i && q.2.category == 2))) = cl ad (lv.filter (fun q => !(q.1 == i) && (!(q.1 == i + 1) && !(q.1 + 1 == i && q.2.category == 2)))) := by
  unfold cl
  rw [List.filter_map]
  congr 1
  apply List.filter_congr
  intro q _
  simp only [Function.comp, cv_cat]
def so1 (i : Nat) (v : Value) (lv : List (Nat × Value)) : Option (List (Nat × Value)) := match dl1 i lv with
  | some l => ins i v l
  | none => none
def so2 (i : Nat) (v : Value) (lv : List (Nat × Value)) : Option (List (Nat × Value)) := match dl2 i lv with
  | some l => ins i v l
  | none => none
theorem so1_has {ad : Nat → Nat} {i : Nat} {v : Value} {lv lv2 : List (Nat × Value)} {ls : Array Slot} {nL : Nat} (h : so1 i v lv = some lv2) (hl : lv_has ls nL ((i, cv ad v) :: (cl ad lv).filter (fun q => !(q.1 == i) && !(q.1 + 1 == i && q.2.category == 2)))) : lv_has ls nL (cl ad lv2) := by
  refine ⟨hl.1, hl.2.1, fun x hx => hl.2.2 x ?_⟩
  unfold so1 at h
  split at h
  next l2 h2 =>
    obtain ⟨y, hy, rfl⟩ := List.mem_map.mp hx
    rcases ins_mem _ _ h y hy with rfl | h3
    · exact List.mem_cons_self
    · rw [cl_filter1]
      exact List.mem_cons_of_mem _ (List.mem_map.mpr ⟨y, dl1_mem _ _ h2 y h3, rfl⟩)
  next => cases h
theorem so2_has {ad : Nat → Nat} {i : Nat} {v : Value} {lv lv2 : List (Nat × Value)} {ls : Array Slot} {nL : Nat} (h : so2 i v lv = some lv2) (hl : lv_has ls nL ((i, cv ad v) :: (cl ad lv).filter (fun q => !(q.1 == i) && (!(q.1 == i + 1) && !(q.1 + 1 == i && q.2.category == 2))))) : lv_has ls nL (cl ad lv2) := by
  refine ⟨hl.1, hl.2.1, fun x hx => hl.2.2 x ?_⟩
  unfold so2 at h
  split at h
  next l2 h2 =>
    obtain ⟨y, hy, rfl⟩ := List.mem_map.mp hx
    rcases ins_mem _ _ h y hy with rfl | h3
    · exact List.mem_cons_self
    · rw [cl_filter2]
      exact List.mem_cons_of_mem _ (List.mem_map.mpr ⟨y, dl2_mem _ _ h2 y h3, rfl⟩)
  next => cases h
/-- one instruction that neither branches, calls, makes nor returns -/
def ev1 (nL : Nat) (i : Instr) (w : Value) (a b : Nat) (lv : List (Nat × Value)) (st : List Value) (ws : List va_E) (c : Prop) : Option (AS × Prop) :=
  match i with
  | .iconst _ => some ((lv, w :: st, ws), c)
  | .bipush _ => some ((lv, w :: st, ws), c)
  | .sipush _ => some ((lv, w :: st, ws), c)
  | .lconst _ => some ((lv, w :: st, ws), c)
  | .ldc _ => some ((lv, w :: st, ws), c)
  | .ldc2_w _ => some ((lv, w :: st, ws), c)
  | .aconst_null => some ((lv, .null :: st, ws), c)
  | .iload k => match fnd lv k with
    | some (.int x) => some ((lv, .int x :: st, ws), c)
    | _ => none
  | .iload_n k => match fnd lv k.val with
    | some (.int x) => some ((lv, .int x :: st, ws), c)
    | _ => none
  | .lload k => match fnd lv k with
    | some (.long x) => some ((lv, .long x :: st, ws), c)
    | _ => none
  | .lload_n k => match fnd lv k.val with
    | some (.long x) => some ((lv, .long x :: st, ws), c)
    | _ => none
  | .aload k => match fnd lv k with
    | some (.ref x) => some ((lv, .ref x :: st, ws), c)
    | some .null => some ((lv, .null :: st, ws), c)
    | _ => none
  | .aload_n k => match fnd lv k.val with
    | some (.ref x) => some ((lv, .ref x :: st, ws), c)
    | some .null => some ((lv, .null :: st, ws), c)
    | _ => none
  | .istore k => match st with
    | .int x :: r => match Nat.blt k nL with
      | true => match so1 k (.int x) lv with
        | some lv2 => some ((lv2, r, ws), c)
        | none => none
      | false => none
    | _ => none
  | .istore_n k => match st with
    | .int x :: r => match Nat.blt k.val nL with
      | true => match so1 k.val (.int x) lv with
        | some lv2 => some ((lv2, r, ws), c)
        | none => none
      | false => none
    | _ => none
  | .lstore k => match st with
    | .long x :: r => match Nat.blt (k + 1) nL with
      | true => match so2 k (.long x) lv with
        | some lv2 => some ((lv2, r, ws), c)
        | none => none
      | false => none
    | _ => none
  | .lstore_n k => match st with
    | .long x :: r => match Nat.blt (k.val + 1) nL with
      | true => match so2 k.val (.long x) lv with
        | some lv2 => some ((lv2, r, ws), c)
        | none => none
      | false => none
    | _ => none
  | .astore k => match st with
    | .ref x :: r => match Nat.blt k nL with
      | true => match so1 k (.ref x) lv with
        | some lv2 => some ((lv2, r, ws), c)
        | none => none
      | false => none
    | .null :: r => match Nat.blt k nL with
      | true => match so1 k .null lv with
        | some lv2 => some ((lv2, r, ws), c)
        | none => none
      | false => none
    | _ => none
  | .astore_n k => match st with
    | .ref x :: r => match Nat.blt k.val nL with
      | true => match so1 k.val (.ref x) lv with
        | some lv2 => some ((lv2, r, ws), c)
        | none => none
      | false => none
    | .null :: r => match Nat.blt k.val nL with
      | true => match so1 k.val .null lv with
        | some lv2 => some ((lv2, r, ws), c)
        | none => none
      | false => none
    | _ => none
  | .iinc k _ => match fnd lv k with
    | some (.int x) => match w with
      | .int d => match Nat.blt k nL with
        | true => match so1 k (.int (x + d)) lv with
          | some lv2 => some ((lv2, st, ws), c)
          | none => none
        | false => none
      | _ => none
    | _ => none
  | .iadd => match st with
    | .int y :: .int x :: r => some ((lv, .int (x + y) :: r, ws), c)
    | _ => none
  | .isub => match st with
    | .int y :: .int x :: r => some ((lv, .int (x - y) :: r, ws), c)
    | _ => none
  | .imul => match st with
    | .int y :: .int x :: r => some ((lv, .int (x * y) :: r, ws), c)
    | _ => none
  | .iand => match st with
    | .int y :: .int x :: r => some ((lv, .int (x &&& y) :: r, ws), c)
    | _ => none
  | .ixor => match st with
    | .int y :: .int x :: r => some ((lv, .int (x ^^^ y) :: r, ws), c)
    | _ => none
  | .ishl => match st with
    | .int y :: .int x :: r => some ((lv, .int (x <<< (y &&& 31)) :: r, ws), c)
    | _ => none
  | .ishr => match st with
    | .int y :: .int x :: r => some ((lv, .int (x >>> (y &&& 31)) :: r, ws), c)
    | _ => none
  | .iushr => match st with
    | .int y :: .int x :: r => some ((lv, .int ((x.toUInt32 >>> (y.toUInt32 &&& Int32.toUInt32 31)).toInt32) :: r, ws), c)
    | _ => none
  | .i2l => match st with
    | .int x :: r => some ((lv, .long x.toInt64 :: r, ws), c)
    | _ => none
  | .l2i => match st with
    | .long x :: r => some ((lv, .int x.toInt32 :: r, ws), c)
    | _ => none
  | .lmul => match st with
    | .long y :: .long x :: r => some ((lv, .long (x * y) :: r, ws), c)
    | _ => none
  | .land => match st with
    | .long y :: .long x :: r => some ((lv, .long (x &&& y) :: r, ws), c)
    | _ => none
  | .lor => match st with
    | .long y :: .long x :: r => some ((lv, .long (x ||| y) :: r, ws), c)
    | _ => none
  | .lxor => match st with
    | .long y :: .long x :: r => some ((lv, .long (x ^^^ y) :: r, ws), c)
    | _ => none
  | .lshl => match st with
    | .int y :: .long x :: r => some ((lv, .long (x <<< (y.toInt64 &&& 63)) :: r, ws), c)
    | _ => none
  | .lshr => match st with
    | .int y :: .long x :: r => some ((lv, .long (x >>> (y.toInt64 &&& 63)) :: r, ws), c)
    | _ => none
  | .lushr => match st with
    | .int y :: .long x :: r => some ((lv, .long ((x.toUInt64 >>> (y.toInt64.toUInt64 &&& Int64.toUInt64 63)).toInt64) :: r, ws), c)
    | _ => none
  | .lcmp => match st with
    | .long y :: .long x :: r => some ((lv, .int (lg_cmp x y) :: r, ws), c)
    | _ => none
  | .dup => match st with
    | .int x :: r => some ((lv, .int x :: .int x :: r, ws), c)
    | .ref x :: r => some ((lv, .ref x :: .ref x :: r, ws), c)
    | _ => none
  | .dup2 => match st with
    | .int x :: .ref y :: r => some ((lv, .int x :: .ref y :: .int x :: .ref y :: r, ws), c)
    | _ => none
  | .pop => match st with
    | .int _ :: r => some ((lv, r, ws), c)
    | .ref _ :: r => some ((lv, r, ws), c)
    | .null :: r => some ((lv, r, ws), c)
    | _ => none
  | .goto _ => some ((lv, st, ws), c)
  | .getfield _ => match st with
    | .ref t :: r => match nth ws t with
      | some (.inr o) => match Nat.beq o.1 a with
        | true => match nth o.2 b with
          | some v => some ((lv, v :: r, ws), c)
          | none => none
        | false => none
      | _ => none
    | _ => none
  | .putfield _ => match st with
    | v :: .ref t :: r => match nth ws t with
      | some (.inr o) => match Nat.beq o.1 a with
        | true => match (match w, v with
            | .int _, .int _ => true
            | .long _, .long _ => true
            | .null, .ref _ => true
            | .null, .null => true
            | _, _ => false) with
          | true => match setl o.2 b v with
            | some fs => match setl ws t (.inr (o.1, fs)) with
              | some ws2 => some ((lv, r, ws2), c)
              | none => none
            | none => none
          | false => none
        | false => none
      | _ => none
    | _ => none
  | .iaload => match st with
    | .int x :: .ref t :: r => match nth ws t with
      | some (.inl (0, n, .inl f)) => some ((lv, .int (f x.toNatClampNeg) :: r, ws), vp_in x n ∧ c)
      | _ => none
    | _ => none
  | .laload => match st with
    | .int x :: .ref t :: r => match nth ws t with
      | some (.inl (1, n, .inr (.inl f))) => some ((lv, .long (f x.toNatClampNeg) :: r, ws), vp_in x n ∧ c)
      | _ => none
    | _ => none
  | .iastore => match st with
    | .int z :: .int x :: .ref t :: r => match nth ws t with
      | some (.inl (0, n, .inl f)) => match setl ws t (.inl (0, n, .inl (upd f x.toNatClampNeg z))) with
        | some ws2 => some ((lv, r, ws2), vp_in x n ∧ c)
        | none => none
      | _ => none
    | _ => none
  | .lastore => match st with
    | .long z :: .int x :: .ref t :: r => match nth ws t with
      | some (.inl (1, n, .inr (.inl f))) => match setl ws t (.inl (1, n, .inr (.inl (vp_updL f x.toNatClampNeg z)))) with
        | some ws2 => some ((lv, r, ws2), vp_in x n ∧ c)
        | none => none
      | _ => none
    | _ => none
  | _ => none
def evB (nL : Nat) : List Ent → AS → Prop → Option (AS × Prop)
  | [], S, c => some (S, c)
  | x :: r, S, c => match ev1 nL x.2.1 x.2.2.1 x.2.2.2.1 x.2.2.2.2 S.1 S.2.1 S.2.2 c with
    | some (S', c') => evB nL r S' c'
    | none => none
def ilen : Instr → Nat
  | .bipush _ => 2
  | .sipush _ => 3
  | .ldc _ => 2
  | .ldc2_w _ => 3
  | .iload _ => 2
  | .lload _ => 2
  | .aload _ => 2
  | .istore _ => 2
  | .lstore _ => 2
  | .astore _ => 2
  | .iinc _ _ => 3
  | .goto _ => 3
  | .getfield _ => 3
  | .putfield _ => 3
  | _ => 1
def npc (q : Nat) : Instr → Nat
  | .goto off => ((q : Int) + off).toNat
  | i => q + ilen i
/-- what stands beside an instruction is right: constants, fields -/
def axo (ft : List (Nat × Nat × Nat)) (ct : List (Nat × Value)) (q : Nat) (i : Instr) (w : Value) (a b : Nat) : Bool :=
  match i with
  | .iconst n => w == .int (Int32.ofInt n)
  | .bipush n => w == .int (Int8.ofInt n).toInt32
  | .sipush n => w == .int (Int16.ofInt n).toInt32
  | .lconst n => w == .long (Int64.ofNat (n : Nat))
  | .ldc x => match w with
    | .int _ => ct.contains (x, w)
    | _ => false
  | .ldc2_w x => match w with
    | .long _ => ct.contains (x, w)
    | _ => false
  | .iinc _ n => w == .int (Int32.ofInt n)
  | .goto off => decide (0 ≤ (q : Int) + off)
  | .getfield x => ft.contains (x, a, b)
  | .putfield x => ft.contains (x, a, b) && (Nat.ble 4 a && (match vwCl[a]? with
    | some r => !(r.2.1 b).2.2.2 && (match parseFieldDescriptor (r.2.1 b).2.2.1, w with
      | some .int, .int _ => true
      | some .long, .long _ => true
      | some (.object _), .null => true
      | some (.array _), .null => true
      | _, _ => false)
    | none => false))
  | _ => true
def hdq (qe : Nat) : List Ent → Nat
  | [] => qe
  | x :: _ => x.1
def okB (ft : List (Nat × Nat × Nat)) (ct : List (Nat × Value)) (cc : ByteArray) (qe : Nat) : List Ent → Bool
  | [] => true
  | x :: r => decide (decode cc x.1 = .ok (x.2.1, ilen x.2.1)) && (axo ft ct x.1 x.2.1 x.2.2.1 x.2.2.2.1 x.2.2.2.2 && (Nat.beq (npc x.1 x.2.1) (hdq qe r) && okB ft ct cc qe r))
def FTo (own : String) (ft : List (Nat × Nat × Nat)) : Prop := ∀ x ∈ ft, ∃ r : vw_C, vwCl[x.2.1]? = some r ∧ x.2.2 < r.2.2 ∧ Cond.fieldLink own x.1 (r.2.1 x.2.2).1 (r.2.1 x.2.2).2.1 (r.2.1 x.2.2).2.2.1 ∈ tb
def CTo (own : String) (ct : List (Nat × Value)) : Prop := ∀ x ∈ ct, match x.2 with
  | .int v => Cond.constant own x.1 v ∈ tb
  | .long v => Cond.constantLong own x.1 v ∈ tb
  | _ => False
end
section
/-! what the tables say and nobody changes; the judgement over named cells; soundness of the evaluator -/
def nestL : List (String × Nat × MethodName) := [(RX8, 17, yX5_init), (RX0, 1, yX8_emptyDigest), (RX8, 35, yX7_init), (RX1, 33, yX8_stemOf), (RX1, 37, yX8_isHigh), (RX3, 1, yX8_leafDigest), (RX1, 9, yX8_forkDigest), (RX6, 72, yX8_stemOf)]
def castL : List (String × String) := [("PathProofs$Fork", "PathProofs$Fork"), ("PathProofs$Leaf", "PathProofs$Leaf"), ("PathProofs$Hidden", "PathProofs$Hidden"), ("PathProofs$Empty", "PathProofs$Node"), ("PathProofs$Fork", "PathProofs$Node"), ("PathProofs$Hidden", "PathProofs$Node"), ("PathProofs$Leaf", "PathProofs$Node")]
def notL : List (String × String) := [("PathProofs$Empty", "PathProofs$Fork"), ("PathProofs$Leaf", "PathProofs$Fork"), ("PathProofs$Hidden", "PathProofs$Fork"), ("PathProofs$Empty", "PathProofs$Leaf"), ("PathProofs$Fork", "PathProofs$Leaf"), ("PathProofs$Hidden", "PathProofs$Leaf"), ("PathProofs$Empty", "PathProofs$Hidden"), ("PathProofs$Leaf", "PathProofs$Hidden"), ("PathProofs$Fork", "PathProofs$Hidden")]
def KS (D : va_G) (ca : Nat → ClassId) (U : State) : Prop := va_K D vwCl [(ca 0, .int), (ca 1, .long), (ca 2, .object "PathProofs$Node")] U ∧ (∀ q ∈ nestL, va_Nw (.methodLinkNest q.1 q.2.1 q.2.2 "PathProofs") U) ∧ (∀ q ∈ castL, va_Nw (.castable q.1 q.2) U) ∧ (∀ q ∈ notL, va_Nc q.1 q.2 U) ∧ va_AO "PathProofs$Node" U
theorem KS.warm {D : va_G} {ca : Nat → ClassId} {s U : State} (hW : s.WarmedH U.vm) (h : KS D ca s) : KS D ca U :=
  ⟨va_K.moved hW.alike h.1, fun q hq => va_Nw.warmM hW (h.2.1 q hq), fun q hq => va_Nw.warmC hW (h.2.2.1 q hq), fun q hq => va_Nc.moved hW.alike (h.2.2.2.1 q hq), va_AO.moved hW.alike h.2.2.2.2⟩
theorem KS.call {D : va_G} {ca : Nat → ClassId} {U : State} {g : JFrame} {mk : MethodId} {a : Array Value} (h : KS D ca U) : KS D ca (U.calling g mk a) := KS.warm (s := U) (U := U.calling g mk a) (State.WarmedH.refl U) h
def nno : va_E → Bool
  | .inl x => Nat.ble x.1 2
  | .inr o => Nat.ble 4 o.1
/-- a picture of the heap that no write into a cell that is no node changes -/
def NSt (D : va_G) (ca : Nat → ClassId) (ad : Nat → Nat) (N : Heap → Prop) : Prop := ∀ (H H' : Heap) (t : Nat) (x : va_E), nno x = true → va_at D vwCl (ad t, ce ad ca x) H → H'.size = H.size → (∀ q : Nat, q ≠ ad t → H'[q]? = H[q]?) → N H → N H'
theorem NSt.tt {D : va_G} {ca : Nat → ClassId} {ad : Nat → Nat} : NSt D ca ad (fun _ => True) := fun _ _ _ _ _ _ _ _ _ => trivial
theorem clsOk : ∀ (ci : Nat) (r : vw_C), vwCl[ci]? = some r → (∀ w ∈ u_ws r.1 r.2.1 r.2.2, w ∈ tb) ∧ ∃ ty0 : Nat → FieldType, (∀ k, k < r.2.2 → parseFieldDescriptor (r.2.1 k).2.2.1 = some (ty0 k)) ∧ ∀ a, a < r.2.2 → ∀ b, b < r.2.2 → a ≠ b → (r.2.1 a).2.1 ≠ (r.2.1 b).2.1
  | 0, _, h => by cases h; exact ⟨iw_X0, tyX0, tyX0_ok, nmX0⟩
  | 1, _, h => by cases h; exact ⟨iw_X1, tyX1, tyX1_ok, nmX1⟩
  | 2, _, h => by cases h; exact ⟨iw_X2, tyX2, tyX2_ok, nmX2⟩
  | 3, _, h => by cases h; exact ⟨iw_X3, tyX3, tyX3_ok, nmX3⟩
  | 4, _, h => by cases h; exact ⟨iw_X5, tyX5, tyX5_ok, nmX5⟩
  | 5, _, h => by cases h; exact ⟨iw_X6, tyX6, tyX6_ok, nmX6⟩
  | 6, _, h => by cases h; exact ⟨iw_X7, tyX7, tyX7_ok, nmX7⟩
  | 7, _, h => by cases h; exact ⟨iw_X8, tyX8, tyX8_ok, nmX8⟩
  | 8, _, h => by cases h; exact ⟨iw_X9, tyX9, tyX9_ok, nmX9⟩
  | k + 9, _, h => by simp [vwCl] at h
section
variable {p : Program} {l : Launch} {e : Env} {R : Room} {s : State} {m : MethodId} {args : Array Value} {below : List Frame} {meth : Method} {c : Code} {H : Heap} {locs : List Loc} {cells slots : Nat} {Q : State → Prop}
variable {cc : ByteArray} {pc : Nat} {ls : Array Slot} {rest : List Value} {D : va_G} {A : Nat → Prop} {a : Nat} {tys : List (ClassId × FieldType)} {ws : va_W} {H0 : Heap}
/-- putfield: as the kit's, and what the heap is outside the cell -/
theorem xput (hexec : p.tables.exec = Jvm.exec) (hb : c.code = cc) {own : String} {r : vw_C} {ci index : Nat} (hts : ∀ w ∈ tb, w.before args s = true) (hown : s.vm.findClass own = some m.cls) (hK : va_K D vwCl tys s) (hP : va_P D vwCl ws H) (hD : va_D A ws) (hS0 : va_S A H0 H locs) (q0 : Nat) {fs : List Value} (he : ws[q0]? = some (a, .inr (ci, fs))) (hc : vwCl[ci]? = some r) (k : Nat) (hk : k < r.2.2) (hlink : Cond.fieldLink own index (r.2.1 k).1 (r.2.1 k).2.1 (r.2.1 k).2.2.1 ∈ tb) (hfin : (r.2.1 k).2.2.2 = false) {ty : FieldType} {v : Value} (hd : parseFieldDescriptor (r.2.1 k).2.2.1 = some ty) (hn : narrow ty v = v) (hfit : fits ty v = true) (hl : k < fs.length)
    (hdg : decode cc pc = .ok (.putfield index, 3)) (kk : ∀ (H1 : Heap) (locs1 : List Loc), va_P D vwCl (ws.set q0 (a, .inr (ci, fs.set k v))) H1 → H1.size = H.size → (∀ q : Nat, q ≠ a → H1[q]? = H[q]?) → va_S A H0 H1 locs1 → W p l e R s m args below meth c H1 locs1 cells slots Q (F0 m (pc + 3) ls rest)) : W p l e R s m args below meth c H locs cells slots Q (F0 m pc ls (v :: .ref a :: rest)) := by
  obtain ⟨hin, ty0, hty, hnm⟩ := clsOk ci r hc
  obtain ⟨C, T, N⟩ := r
  have hap := va_apart (own := own) hts hin ty0 hty hnm hK hc
  obtain ⟨r, h1, cell, q1, q2, q3, q4⟩ := hP q0 _ he
  have hr : r = (C, T, N) := Option.some.inj (h1.symm.trans hc)
  subst hr
  obtain ⟨hS, hfc, kC, hkC, hkind⟩ := hK.1 ci _ hc
  obtain ⟨cf, kf, fi, f, hi, hsl⟩ := hS k hk
  have hlay := hts _ (hin _ (u_in_lay hk))
  unfold u_lay at hlay
  rw [if_neg (by rw [hfin]; decide)] at hlay
  have hst := (u_facts hfc hkC (u_lays hts hin hk) hi).1
  have h6 := u_store hfc hkC hkind hlay hi hd hn hfit
  refine W.putK hexec hb (f := f) ⟨hown, hts _ hlink, ⟨_, _, _, hi⟩, hst⟩ (by rw [q2]; exact h6) q1 q3 (by rw [hsl]; exact k2_hasslot (q4 k hk)) rfl rfl hdg fun H' e1 e2 e3 => ?_
  rw [hsl] at e1 ⊢
  exact kk H' _ (hP.set hD he ⟨_, hc, t_OB.to (V := updV (vp_V fs) k v) ⟨_, e1, q2, q3, t_set q4 hap hk v⟩ (fun j _ => vp_updV_set hl v j)⟩ e3) e2 e3 (hS0.put e2 e3 (hD.2 q0 _ he))
theorem xiast (hexec : p.tables.exec = Jvm.exec) (hb : c.code = cc) (hK : va_K D vwCl tys s) (hP : va_P D vwCl ws H) (hD : va_D A ws) (hS : va_S A H0 H locs) (q0 t0 : Nat) {cA : ClassId} {n : Nat} {f : Nat → Int32} (ha : ws[q0]? = some (a, .inl (cA, n, .inl f))) (ht : tys[t0]? = some (cA, .int)) {i : Int32} {x : Int32} (hin : vp_in i n) (hdg : decode cc pc = .ok (.iastore, 1))
    (kk : ∀ (H1 : Heap) (locs1 : List Loc), va_P D vwCl (ws.set q0 (a, .inl (cA, n, .inl (upd f i.toNatClampNeg x)))) H1 → H1.size = H.size → (∀ q : Nat, q ≠ a → H1[q]? = H[q]?) → va_S A H0 H1 locs1 → W p l e R s m args below meth c H1 locs1 cells slots Q (F0 m (pc + 1) ls rest)) : W p l e R s m args below meth c H locs cells slots Q (F0 m pc ls (.int x :: .int i :: .ref a :: rest)) := by
  refine W.iast hexec hb (hP q0 _ ha) ((hK.2 t0 _ ht).1 n (fun j => .int (f j))) (fun q => by cases q) (by show ¬ (i < 0 ∨ (arrV _ _ _).slots.size ≤ _); rw [arrV_size]; exact hin) rfl rfl hdg fun H1 e1 z oq => ?_
  refine kk H1 _ (hP.set hD ha ?_ oq) z oq (hS.put z oq (hD.2 q0 _ ha))
  show H1[a]? = some (vp_cell _ _)
  rw [e1, vp_cell_i, vp_cell_i, arrV_store]
  congr 2
  funext q
  by_cases hq : q = i.toNatClampNeg
  · subst hq
    simp [updV, upd]
  · simp [updV, upd, hq]
theorem xlast (hexec : p.tables.exec = Jvm.exec) (hb : c.code = cc) (hK : va_K D vwCl tys s) (hP : va_P D vwCl ws H) (hD : va_D A ws) (hS : va_S A H0 H locs) (q0 t0 : Nat) {cA : ClassId} {n : Nat} {f : Nat → Int64} (ha : ws[q0]? = some (a, .inl (cA, n, .inr (.inl f)))) (ht : tys[t0]? = some (cA, .long)) {i : Int32} {x : Int64} (hin : vp_in i n) (hdg : decode cc pc = .ok (.lastore, 1))
    (kk : ∀ (H1 : Heap) (locs1 : List Loc), va_P D vwCl (ws.set q0 (a, .inl (cA, n, .inr (.inl (vp_updL f i.toNatClampNeg x))))) H1 → H1.size = H.size → (∀ q : Nat, q ≠ a → H1[q]? = H[q]?) → va_S A H0 H1 locs1 → W p l e R s m args below meth c H1 locs1 cells slots Q (F0 m (pc + 1) ls rest)) : W p l e R s m args below meth c H locs cells slots Q (F0 m pc ls (.long x :: .int i :: .ref a :: rest)) := by
  refine W.last hexec hb (hP q0 _ ha) ((hK.2 t0 _ ht).1 n (fun j => .long (f j))) (fun q => by cases q) (by show ¬ (i < 0 ∨ (arrV _ _ _).slots.size ≤ _); rw [arrV_size]; exact hin) rfl rfl hdg fun H1 e1 z oq => ?_
  refine kk H1 _ (hP.set hD ha ?_ oq) z oq (hS.put z oq (hD.2 q0 _ ha))
  show H1[a]? = some (vp_cell _ _)
  rw [e1, vp_cell_l, vp_cell_l, arrV_store]
  congr 2
  funext q
  by_cases hq : q = i.toNatClampNeg
  · subst hq
    simp [updV, vp_updL]
  · simp [updV, vp_updL, hq]
end
/-- the machine at pc, with locals, stack and cells as named -/
def Wa (p : Program) (l : Launch) (e : Env) (R : Room) (s : State) (m : MethodId) (args : Array Value) (below : List Frame) (meth : Method) (c : Code) (cells slots : Nat) (Q : State → Prop) (D : va_G) (ca : Nat → ClassId) (ad : Nat → Nat) (A : Nat → Prop) (nL : Nat) (N : Heap → Prop) (S : AS) (pc : Nat) : Prop :=
  ∀ (H : Heap) (locs : List Loc) (ls : Array Slot), lv_has ls nL (cl ad S.1) → va_P D vwCl (cw ad ca 0 S.2.2) H → va_S A s.heap H locs → N H → W p l e R s m args below meth c H locs cells slots Q (F0 m pc ls (S.2.1.map (cv ad)))
/-- what stays over a walk -/
def Cx (p : Program) (s : State) (m : MethodId) (args : Array Value) (c : Code) (cc : ByteArray) (nL : Nat) (own : String) (D : va_G) (ca : Nat → ClassId) (ad : Nat → Nat) (A : Nat → Prop) (N : Heap → Prop) (n : Nat) : Prop :=
  CallFix p m c cc nL s args tb own ∧ KS D ca s ∧ NSt D ca ad N ∧ AD ad n ∧ (∀ k, k < n → A (ad k)) ∧ ∀ q : Nat, s.heap.size ≤ q → A q
section
variable {p : Program} {l : Launch} {e : Env} {R : Room} {s : State} {m : MethodId} {args : Array Value} {below : List Frame} {meth : Method} {c : Code} {cells slots : Nat} {Q : State → Prop}
variable {cc : ByteArray} {nL n : Nat} {own : String} {D : va_G} {ca : Nat → ClassId} {ad : Nat → Nat} {A : Nat → Prop} {N : Heap → Prop} {ft : List (Nat × Nat × Nat)} {ct : List (Nat × Value)}
set_option maxHeartbeats 4000000 in
theorem ev1_sound (C : Cx p s m args c cc nL own D ca ad A N n) (hft : FTo own ft) (hct : CTo own ct) {q : Nat} {i : Instr} {w : Value} {a b : Nat} (hdec : decode cc q = .ok (i, ilen i)) (hax : axo ft ct q i w a b = true) {lv : List (Nat × Value)} {st : List Value} {ws : List va_E} {S' : AS} {cnd cnd' : Prop} (hev : ev1 nL i w a b lv st ws cnd = some (S', cnd')) (hn : ws.length = n) (hc : cnd')
    (k : Wa p l e R s m args below meth c cells slots Q D ca ad A nL N S' (npc q i)) : cnd ∧ S'.2.2.length = n ∧ Wa p l e R s m args below meth c cells slots Q D ca ad A nL N (lv, st, ws) q := by
  obtain ⟨⟨hx, hb, hml, hown, hts⟩, ⟨hK, -⟩, hNS, hAD, hAa, -⟩ := C
  have hDD : va_D A (cw ad ca 0 ws) := cw_D hn hAD hAa
  cases i
  case iconst z =>
    cases hev
    have hw : w = .int (Int32.ofInt z) := by simpa [axo] using hax
    exact ⟨hc, hn, fun H locs ls h1 h2 h3 h4 => lv_iconst hx hb hdec rfl (by have := k H locs ls h1 h2 h3 h4; rw [hw] at this; exact this)⟩
  case bipush z =>
    cases hev
    have hw : w = .int (Int8.ofInt z).toInt32 := by simpa [axo] using hax
    exact ⟨hc, hn, fun H locs ls h1 h2 h3 h4 => lv_bipush hx hb hdec rfl (by have := k H locs ls h1 h2 h3 h4; rw [hw] at this; exact this)⟩
  case sipush z =>
    cases hev
    have hw : w = .int (Int16.ofInt z).toInt32 := by simpa [axo] using hax
    exact ⟨hc, hn, fun H locs ls h1 h2 h3 h4 => lv_sipush hx hb hdec rfl (by have := k H locs ls h1 h2 h3 h4; rw [hw] at this; exact this)⟩
  case lconst z =>
    cases hev
    have hw : w = .long (Int64.ofNat (z : Nat)) := by simpa [axo] using hax
    exact ⟨hc, hn, fun H locs ls h1 h2 h3 h4 => lv_lconst hx hb hdec rfl (by have := k H locs ls h1 h2 h3 h4; rw [hw] at this; exact this)⟩
  case ldc z =>
    cases hev
    cases w with
    | int v =>
      have h1 : (z, Value.int v) ∈ ct := by simpa [axo] using hax
      have h2 : Cond.constant own z v ∈ tb := hct _ h1
      exact ⟨hc, hn, fun H locs ls h3 h4 h5 h6 => lv_ldc hx hb hown (hts _ h2) hdec (k H locs ls h3 h4 h5 h6)⟩
    | _ => simp [axo] at hax
  case ldc2_w z =>
    cases hev
    cases w with
    | long v =>
      have h1 : (z, Value.long v) ∈ ct := by simpa [axo] using hax
      have h2 : Cond.constantLong own z v ∈ tb := hct _ h1
      exact ⟨hc, hn, fun H locs ls h3 h4 h5 h6 => lv_ldc2 hx hb hown (hts _ h2) hdec (k H locs ls h3 h4 h5 h6)⟩
    | _ => simp [axo] at hax
  case aconst_null =>
    cases hev
    exact ⟨hc, hn, fun H locs ls h1 h2 h3 h4 => lv_null hx hb hdec (k H locs ls h1 h2 h3 h4)⟩
  case iload z =>
    simp only [ev1] at hev
    split at hev
    next x hf =>
      cases hev
      exact ⟨hc, hn, fun H locs ls h1 h2 h3 h4 => lv_iload hx hb hdec (cl_fnd h1 hf) (k H locs ls h1 h2 h3 h4)⟩
    next => cases hev
  case iload_n z =>
    simp only [ev1] at hev
    split at hev
    next x hf =>
      cases hev
      exact ⟨hc, hn, fun H locs ls h1 h2 h3 h4 => lv_iload_n hx hb hdec rfl (cl_fnd h1 hf) (k H locs ls h1 h2 h3 h4)⟩
    next => cases hev
  case lload z =>
    simp only [ev1] at hev
    split at hev
    next x hf =>
      cases hev
      exact ⟨hc, hn, fun H locs ls h1 h2 h3 h4 => lv_lload hx hb hdec (cl_fnd h1 hf) (k H locs ls h1 h2 h3 h4)⟩
    next => cases hev
  case lload_n z =>
    simp only [ev1] at hev
    split at hev
    next x hf =>
      cases hev
      exact ⟨hc, hn, fun H locs ls h1 h2 h3 h4 => lv_lload_n hx hb hdec rfl (cl_fnd h1 hf) (k H locs ls h1 h2 h3 h4)⟩
    next => cases hev
  case aload z =>
    simp only [ev1] at hev
    split at hev
    next x hf =>
      cases hev
      exact ⟨hc, hn, fun H locs ls h1 h2 h3 h4 => lv_aload hx hb hdec (cl_fnd h1 hf) (k H locs ls h1 h2 h3 h4)⟩
    next hf =>
      cases hev
      exact ⟨hc, hn, fun H locs ls h1 h2 h3 h4 => lv_aloadN hx hb hdec (cl_fnd h1 hf) (k H locs ls h1 h2 h3 h4)⟩
    next => cases hev
  case aload_n z =>
    simp only [ev1] at hev
    split at hev
    next x hf =>
      cases hev
      exact ⟨hc, hn, fun H locs ls h1 h2 h3 h4 => lv_aload_n hx hb hdec rfl (cl_fnd h1 hf) (k H locs ls h1 h2 h3 h4)⟩
    next hf =>
      cases hev
      exact ⟨hc, hn, fun H locs ls h1 h2 h3 h4 => lv_aload_nN hx hb hdec rfl (cl_fnd h1 hf) (k H locs ls h1 h2 h3 h4)⟩
    next => cases hev
  case istore z =>
    simp only [ev1] at hev
    split at hev
    next x r =>
      split at hev
      next hz =>
        split at hev
        next lv2 h9 =>
          cases hev
          exact ⟨hc, hn, fun H locs ls h1 h2 h3 h4 => lv_istore hx hb hdec h1 (Nat.blt_eq.mp hz) rfl (fun ls' h' => k H locs ls' (so1_has h9 h') h2 h3 h4)⟩
        next => cases hev
      next => cases hev
    next => cases hev
  case istore_n z =>
    simp only [ev1] at hev
    split at hev
    next x r =>
      split at hev
      next hz =>
        split at hev
        next lv2 h9 =>
          cases hev
          exact ⟨hc, hn, fun H locs ls h1 h2 h3 h4 => lv_istore_n hx hb hdec rfl h1 (Nat.blt_eq.mp hz) rfl (fun ls' h' => k H locs ls' (so1_has h9 h') h2 h3 h4)⟩
        next => cases hev
      next => cases hev
    next => cases hev
  case lstore z =>
    simp only [ev1] at hev
    split at hev
    next x r =>
      split at hev
      next hz =>
        split at hev
        next lv2 h9 =>
          cases hev
          exact ⟨hc, hn, fun H locs ls h1 h2 h3 h4 => lv_lstore hx hb hdec h1 (Nat.blt_eq.mp hz) rfl (fun ls' h' => k H locs ls' (so2_has h9 h') h2 h3 h4)⟩
        next => cases hev
      next => cases hev
    next => cases hev
  case lstore_n z =>
    simp only [ev1] at hev
    split at hev
    next x r =>
      split at hev
      next hz =>
        split at hev
        next lv2 h9 =>
          cases hev
          exact ⟨hc, hn, fun H locs ls h1 h2 h3 h4 => lv_lstore_n hx hb hdec rfl h1 (Nat.blt_eq.mp hz) rfl (fun ls' h' => k H locs ls' (so2_has h9 h') h2 h3 h4)⟩
        next => cases hev
      next => cases hev
    next => cases hev
  case astore z =>
    simp only [ev1] at hev
    split at hev
    next x r =>
      split at hev
      next hz =>
        split at hev
        next lv2 h9 =>
          cases hev
          exact ⟨hc, hn, fun H locs ls h1 h2 h3 h4 => lv_astore hx hb hdec h1 (Nat.blt_eq.mp hz) rfl (fun ls' h' => k H locs ls' (so1_has h9 h') h2 h3 h4)⟩
        next => cases hev
      next => cases hev
    next r =>
      split at hev
      next hz =>
        split at hev
        next lv2 h9 =>
          cases hev
          exact ⟨hc, hn, fun H locs ls h1 h2 h3 h4 => lv_astoreN hx hb hdec h1 (Nat.blt_eq.mp hz) rfl (fun ls' h' => k H locs ls' (so1_has h9 h') h2 h3 h4)⟩
        next => cases hev
      next => cases hev
    next => cases hev
  case astore_n z =>
    simp only [ev1] at hev
    split at hev
    next x r =>
      split at hev
      next hz =>
        split at hev
        next lv2 h9 =>
          cases hev
          exact ⟨hc, hn, fun H locs ls h1 h2 h3 h4 => lv_astore_n hx hb hdec rfl h1 (Nat.blt_eq.mp hz) rfl (fun ls' h' => k H locs ls' (so1_has h9 h') h2 h3 h4)⟩
        next => cases hev
      next => cases hev
    next r =>
      split at hev
      next hz =>
        split at hev
        next lv2 h9 =>
          cases hev
          exact ⟨hc, hn, fun H locs ls h1 h2 h3 h4 => lv_astore_nN hx hb hdec rfl h1 (Nat.blt_eq.mp hz) rfl (fun ls' h' => k H locs ls' (so1_has h9 h') h2 h3 h4)⟩
        next => cases hev
      next => cases hev
    next => cases hev
  case iinc z d =>
    simp only [ev1] at hev
    split at hev
    next x hf =>
      split at hev
      next w d2 =>
        split at hev
        next hz =>
          split at hev
          next lv2 h9 =>
            cases hev
            have hw : d2 = Int32.ofInt d := by simpa [axo] using hax
            obtain ⟨kk, hkk⟩ := List.getElem?_of_mem (fnd_mem lv hf)
            refine ⟨hc, hn, fun H locs ls h1 h2 h3 h4 => lv_iinc (k := kk) (x := x) (v := x + d2) hx hb hdec h1 ?_ (by rw [hw]) (Nat.blt_eq.mp hz) rfl (fun ls' h' => k H locs ls' (so1_has h9 h') h2 h3 h4)⟩
            simp [cl, hkk, cv]
          next => cases hev
        next => cases hev
      next => cases hev
    next => cases hev
  case iadd =>
    simp only [ev1] at hev
    split at hev
    next x y r => cases hev; exact ⟨hc, hn, fun H locs ls h1 h2 h3 h4 => lv_iadd hx hb hdec (k H locs ls h1 h2 h3 h4)⟩
    next => cases hev
  case isub =>
    simp only [ev1] at hev
    split at hev
    next x y r => cases hev; exact ⟨hc, hn, fun H locs ls h1 h2 h3 h4 => lv_isub hx hb hdec (k H locs ls h1 h2 h3 h4)⟩
    next => cases hev
  case imul =>
    simp only [ev1] at hev
    split at hev
    next x y r => cases hev; exact ⟨hc, hn, fun H locs ls h1 h2 h3 h4 => lv_imul hx hb hdec (k H locs ls h1 h2 h3 h4)⟩
    next => cases hev
  case iand =>
    simp only [ev1] at hev
    split at hev
    next x y r => cases hev; exact ⟨hc, hn, fun H locs ls h1 h2 h3 h4 => lv_iand hx hb hdec (k H locs ls h1 h2 h3 h4)⟩
    next => cases hev
  case ixor =>
    simp only [ev1] at hev
    split at hev
    next x y r => cases hev; exact ⟨hc, hn, fun H locs ls h1 h2 h3 h4 => lv_ixor hx hb hdec (k H locs ls h1 h2 h3 h4)⟩
    next => cases hev
  case ishl =>
    simp only [ev1] at hev
    split at hev
    next x y r => cases hev; exact ⟨hc, hn, fun H locs ls h1 h2 h3 h4 => lv_ishl hx hb hdec (k H locs ls h1 h2 h3 h4)⟩
    next => cases hev
  case ishr =>
    simp only [ev1] at hev
    split at hev
    next x y r => cases hev; exact ⟨hc, hn, fun H locs ls h1 h2 h3 h4 => lv_ishr hx hb hdec (k H locs ls h1 h2 h3 h4)⟩
    next => cases hev
  case iushr =>
    simp only [ev1] at hev
    split at hev
    next x y r => cases hev; exact ⟨hc, hn, fun H locs ls h1 h2 h3 h4 => lv_iushr hx hb hdec rfl (k H locs ls h1 h2 h3 h4)⟩
    next => cases hev
  case i2l =>
    simp only [ev1] at hev
    split at hev
    next x r => cases hev; exact ⟨hc, hn, fun H locs ls h1 h2 h3 h4 => lv_i2l hx hb hdec rfl (k H locs ls h1 h2 h3 h4)⟩
    next => cases hev
  case l2i =>
    simp only [ev1] at hev
    split at hev
    next x r => cases hev; exact ⟨hc, hn, fun H locs ls h1 h2 h3 h4 => lv_l2i hx hb hdec rfl (k H locs ls h1 h2 h3 h4)⟩
    next => cases hev
  case lmul =>
    simp only [ev1] at hev
    split at hev
    next x y r => cases hev; exact ⟨hc, hn, fun H locs ls h1 h2 h3 h4 => lv_lmul hx hb hdec (k H locs ls h1 h2 h3 h4)⟩
    next => cases hev
  case land =>
    simp only [ev1] at hev
    split at hev
    next x y r => cases hev; exact ⟨hc, hn, fun H locs ls h1 h2 h3 h4 => lv_land hx hb hdec (k H locs ls h1 h2 h3 h4)⟩
    next => cases hev
  case lor =>
    simp only [ev1] at hev
    split at hev
    next x y r => cases hev; exact ⟨hc, hn, fun H locs ls h1 h2 h3 h4 => lv_lor hx hb hdec (k H locs ls h1 h2 h3 h4)⟩
    next => cases hev
  case lxor =>
    simp only [ev1] at hev
    split at hev
    next x y r => cases hev; exact ⟨hc, hn, fun H locs ls h1 h2 h3 h4 => lv_lxor hx hb hdec (k H locs ls h1 h2 h3 h4)⟩
    next => cases hev
  case lshl =>
    simp only [ev1] at hev
    split at hev
    next x y r => cases hev; exact ⟨hc, hn, fun H locs ls h1 h2 h3 h4 => lv_lshl hx hb hdec rfl (k H locs ls h1 h2 h3 h4)⟩
    next => cases hev
  case lshr =>
    simp only [ev1] at hev
    split at hev
    next x y r => cases hev; exact ⟨hc, hn, fun H locs ls h1 h2 h3 h4 => lv_lshr hx hb hdec rfl (k H locs ls h1 h2 h3 h4)⟩
    next => cases hev
  case lushr =>
    simp only [ev1] at hev
    split at hev
    next x y r => cases hev; exact ⟨hc, hn, fun H locs ls h1 h2 h3 h4 => lv_lushr hx hb hdec rfl (k H locs ls h1 h2 h3 h4)⟩
    next => cases hev
  case lcmp =>
    simp only [ev1] at hev
    split at hev
    next x y r => cases hev; exact ⟨hc, hn, fun H locs ls h1 h2 h3 h4 => W.lcmp hx hb hdec (k H locs ls h1 h2 h3 h4)⟩
    next => cases hev
  case dup =>
    simp only [ev1] at hev
    split at hev
    next x r => cases hev; exact ⟨hc, hn, fun H locs ls h1 h2 h3 h4 => lv_dup hx hb hdec rfl (k H locs ls h1 h2 h3 h4)⟩
    next x r => cases hev; exact ⟨hc, hn, fun H locs ls h1 h2 h3 h4 => lv_dup hx hb hdec rfl (k H locs ls h1 h2 h3 h4)⟩
    next => cases hev
  case dup2 =>
    simp only [ev1] at hev
    split at hev
    next x y r => cases hev; exact ⟨hc, hn, fun H locs ls h1 h2 h3 h4 => lv_dup2_11 hx hb hdec rfl rfl (k H locs ls h1 h2 h3 h4)⟩
    next => cases hev
  case pop =>
    simp only [ev1] at hev
    split at hev
    next x r => cases hev; exact ⟨hc, hn, fun H locs ls h1 h2 h3 h4 => lv_pop hx hb hdec rfl (k H locs ls h1 h2 h3 h4)⟩
    next x r => cases hev; exact ⟨hc, hn, fun H locs ls h1 h2 h3 h4 => lv_pop hx hb hdec rfl (k H locs ls h1 h2 h3 h4)⟩
    next r => cases hev; exact ⟨hc, hn, fun H locs ls h1 h2 h3 h4 => lv_pop hx hb hdec rfl (k H locs ls h1 h2 h3 h4)⟩
    next => cases hev
  case goto off =>
    cases hev
    have h9 : 0 ≤ (q : Int) + off := by simpa [axo] using hax
    exact ⟨hc, hn, fun H locs ls h1 h2 h3 h4 => lv_goto (tgt := ((q : Int) + off).toNat) hx hb hdec (Int.toNat_of_nonneg h9).symm (k H locs ls h1 h2 h3 h4)⟩
  case getfield z =>
    simp only [ev1] at hev
    split at hev
    next t r =>
      split at hev
      next o ho =>
        split at hev
        next hb2 =>
          split at hev
          next v hv =>
            cases hev
            have e1 := Nat.eq_of_beq_eq_true hb2
            have h1 : (z, a, b) ∈ ft := by simpa [axo] using hax
            obtain ⟨rr, g1, g2, g3⟩ := hft _ h1
            obtain ⟨C9, T9, N9⟩ := rr
            rw [nth_eq] at ho hv
            refine ⟨hc, hn, fun H locs ls h1 h2 h3 h4 => va_get (D := D) (ci := a) (C := C9) (T := T9) (N := N9) (fs := o.2.map (cv ad)) (v := cv ad v) hx hb hts (clsOk a _ g1).1 hown hK h2 t ?_ g1 b g2 (hts _ g3) (fun _ h9 => h9) ?_ hdec (k H locs ls h1 h2 h3 h4)⟩
            · rw [cw_at, ho, ← e1]; simp [ce]
            · simp [hv]
          next => cases hev
        next => cases hev
      next => cases hev
    next => cases hev
  case putfield z =>
    simp only [ev1] at hev
    split at hev
    next v t r =>
      split at hev
      next o ho =>
        split at hev
        next hb2 =>
          split at hev
          next hk9 =>
            split at hev
            next fs hfs =>
              split at hev
              next ws2 hws =>
                cases hev
                have e1 := Nat.eq_of_beq_eq_true hb2
                simp only [axo, Bool.and_eq_true] at hax
                obtain ⟨hx1, hx2, hx3⟩ := hax
                have h1 : (z, a, b) ∈ ft := by simpa using hx1
                obtain ⟨rr, g1, g2, g3⟩ := hft _ h1
                rw [g1] at hx3
                simp only [Bool.and_eq_true, Bool.not_eq_true'] at hx3
                obtain ⟨hx3, hx4⟩ := hx3
                rw [nth_eq] at ho
                obtain ⟨f1, f2⟩ := setl_eq _ _ _ _ hfs
                obtain ⟨w1, w2⟩ := setl_eq _ _ _ _ hws
                have hty : ∃ ty, parseFieldDescriptor (rr.2.1 b).2.2.1 = some ty ∧ narrow ty (cv ad v) = cv ad v ∧ fits ty (cv ad v) = true := by
                  split at hx4
                  next hp => split at hk9 <;> first | (cases hk9; done) | (refine ⟨_, hp, rfl, rfl⟩) | (simp at *)
                  next hp => split at hk9 <;> first | (cases hk9; done) | (refine ⟨_, hp, rfl, rfl⟩) | (simp at *)
                  next hp => split at hk9 <;> first | (cases hk9; done) | (refine ⟨_, hp, rfl, rfl⟩) | (simp at *)
                  next hp => split at hk9 <;> first | (cases hk9; done) | (refine ⟨_, hp, rfl, rfl⟩) | (simp at *)
                  next => cases hx4
                obtain ⟨ty, t1, t2, t3⟩ := hty
                have hat : (cw ad ca 0 ws)[t]? = some (ad t, .inr (a, o.2.map (cv ad))) := by rw [cw_at, ho, ← e1]; simp [ce]
                refine ⟨hc, by rw [w1]; simpa using hn, fun H locs ls h1 h2 h3 h4 => xput (D := D) (ci := a) (r := rr) (fs := o.2.map (cv ad)) hx hb hts hown hK h2 hDD h3 t hat g1 b g2 g3 hx3 t1 t2 t3 (by simpa using f2) hdec (fun H1 locs1 j1 j2 j3 j4 => k H1 locs1 ls h1 ?_ j4 ?_)⟩
                · rw [w1, cw_set]
                  rw [Nat.zero_add, f1, e1]
                  simpa [ce, List.map_set] using j1
                · exact hNS H H1 t (.inr o) (by rw [nno, e1]; exact hx2) (by have := h2 t _ hat; simpa [ce, e1] using this) j2 j3 h4
              next => cases hev
            next => cases hev
          next => cases hev
        next => cases hev
      next => cases hev
    next => cases hev
  case iaload =>
    simp only [ev1] at hev
    split at hev
    next x t r =>
      split at hev
      next nn f ho =>
        cases hev
        rw [nth_eq] at ho
        exact ⟨hc.2, hn, fun H locs ls h1 h2 h3 h4 => va_iald (D := D) (cA := ca 0) (n := nn) (f := f) hx hb hK h2 t 0 (by rw [cw_at, ho]; simp [ce]) rfl hc.1 hdec (k H locs ls h1 h2 h3 h4)⟩
      next => cases hev
    next => cases hev
  case laload =>
    simp only [ev1] at hev
    split at hev
    next x t r =>
      split at hev
      next nn f ho =>
        cases hev
        rw [nth_eq] at ho
        exact ⟨hc.2, hn, fun H locs ls h1 h2 h3 h4 => va_lald (D := D) (cA := ca 1) (n := nn) (f := f) hx hb hK h2 t 1 (by rw [cw_at, ho]; simp [ce]) rfl hc.1 hdec (k H locs ls h1 h2 h3 h4)⟩
      next => cases hev
    next => cases hev
  case iastore =>
    simp only [ev1] at hev
    split at hev
    next z x t r =>
      split at hev
      next nn f ho =>
        split at hev
        next ws2 hws =>
          cases hev
          rw [nth_eq] at ho
          obtain ⟨w1, w2⟩ := setl_eq _ _ _ _ hws
          have hat : (cw ad ca 0 ws)[t]? = some (ad t, .inl (ca 0, nn, .inl f)) := by rw [cw_at, ho]; simp [ce]
          refine ⟨hc.2, by rw [w1]; simpa using hn, fun H locs ls h1 h2 h3 h4 => xiast (D := D) (cA := ca 0) (n := nn) (f := f) hx hb hK h2 hDD h3 t 0 hat rfl hc.1 hdec (fun H1 locs1 j1 j2 j3 j4 => k H1 locs1 ls h1 ?_ j4 ?_)⟩
          · rw [w1, cw_set, Nat.zero_add]
            exact j1
          · exact hNS H H1 t (.inl (0, nn, .inl f)) rfl (h2 t _ hat) j2 j3 h4
        next => cases hev
      next => cases hev
    next => cases hev
  case lastore =>
    simp only [ev1] at hev
    split at hev
    next z x t r =>
      split at hev
      next nn f ho =>
        split at hev
        next ws2 hws =>
          cases hev
          rw [nth_eq] at ho
          obtain ⟨w1, w2⟩ := setl_eq _ _ _ _ hws
          have hat : (cw ad ca 0 ws)[t]? = some (ad t, .inl (ca 1, nn, .inr (.inl f))) := by rw [cw_at, ho]; simp [ce]
          refine ⟨hc.2, by rw [w1]; simpa using hn, fun H locs ls h1 h2 h3 h4 => xlast (D := D) (cA := ca 1) (n := nn) (f := f) hx hb hK h2 hDD h3 t 1 hat rfl hc.1 hdec (fun H1 locs1 j1 j2 j3 j4 => k H1 locs1 ls h1 ?_ j4 ?_)⟩
          · rw [w1, cw_set, Nat.zero_add]
            exact j1
          · exact hNS H H1 t (.inl (1, nn, .inr (.inl f))) rfl (h2 t _ hat) j2 j3 h4
        next => cases hev
      next => cases hev
    next => cases hev
  all_goals (exact absurd hev (by simp [ev1]))
end
end
section
/-! blocks, branches, entries, returns, calls over named cells -/
def Fr (ad : Nat → Nat) (n sz : Nat) : Nat → Prop := fun q => (∃ k, k < n ∧ q = ad k) ∨ sz ≤ q
def CPre (D : va_G) (ca : Nat → ClassId) (ad : Nat → Nat) (ws : List va_E) (sz : Nat) (av : List Value) (N : Heap → Prop) : Array Value → State → Prop := va_Pc (av.map (cv ad)) (fun U => U.heap.size = sz ∧ va_P D vwCl (cw ad ca 0 ws) U.heap ∧ KS D ca U ∧ N U.heap)
def CQ (D : va_G) (ca : Nat → ClassId) (ad : Nat → Nat) (G : Option Value → List va_E → Heap → Prop) (A : Nat → Prop) : Array Value → State → Outcome → State → Prop := fun _ st oc t => (∃ (v : Option Value) (ws' : List va_E), oc = .returned (v.map (cv ad)) ∧ va_P D vwCl (cw ad ca 0 ws') t.heap ∧ G v ws' t.heap) ∧ va_F A st t
/-- a method's contract, over the cells ws, with the answer and the cells behind it as G says -/
def Ct (l : Launch) (y : MethodName) (bytes : ByteArray) (maxL : Nat) (ret : Option FieldType) (rm : Room) (D : va_G) (ca : Nat → ClassId) (ad : Nat → Nat) (ws : List va_E) (n : Nat) (av : List Value) (N : Heap → Prop) (G : Option Value → List va_E → Heap → Prop) : Prop :=
  ∀ sz : Nat, Met l y (Cond.code y bytes maxL ret :: tb) rm (CPre D ca ad ws sz av N) (CQ D ca ad G (Fr ad n sz)) rm.cells rm.slots (Fr ad n sz)
theorem lv_args_cl (ad : Nat → Nat) : ∀ (av : List Value) (i : Nat), lv_args i (av.map (cv ad)) = cl ad (lv_args i av) := by
  intro av
  induction av with
  | nil => intro i; rfl
  | cons v r ih =>
    intro i
    show (i, cv ad v) :: lv_args (if (cv ad v).category = 2 then i + 2 else i + 1) (r.map (cv ad)) = _
    rw [ih, cv_cat]
    rfl
theorem ev1_len {nL : Nat} {i : Instr} {w : Value} {a b : Nat} {lv : List (Nat × Value)} {st : List Value} {ws : List va_E} {cnd cnd' : Prop} {S' : AS} (h : ev1 nL i w a b lv st ws cnd = some (S', cnd')) : S'.2.2.length = ws.length := by
  cases i <;> simp only [ev1] at h <;> (repeat' split at h) <;> first | (cases h; done) | (cases h; rfl) | (cases h; rename_i hws; rw [(setl_eq _ _ _ _ hws).1]; simp)
section
variable {p : Program} {l : Launch} {e : Env} {R : Room} {s : State} {m : MethodId} {args : Array Value} {below : List Frame} {meth : Method} {c : Code} {cells slots : Nat} {Q : State → Prop}
variable {cc : ByteArray} {nL n : Nat} {own : String} {D : va_G} {ca : Nat → ClassId} {ad : Nat → Nat} {A : Nat → Prop} {N : Heap → Prop} {ft : List (Nat × Nat × Nat)} {ct : List (Nat × Value)}
theorem seg (C : Cx p s m args c cc nL own D ca ad A N n) (hft : FTo own ft) (hct : CTo own ct) (qe : Nat) : ∀ (blk : List Ent) (S S' : AS) (c0 c' : Prop), okB ft ct cc qe blk = true → evB nL blk S c0 = some (S', c') → S.2.2.length = n → c' → Wa p l e R s m args below meth c cells slots Q D ca ad A nL N S' qe → c0 ∧ Wa p l e R s m args below meth c cells slots Q D ca ad A nL N S (hdq qe blk) := by
  intro blk
  induction blk with
  | nil =>
    intro S S' c0 c' _ hev _ hc k
    cases hev
    exact ⟨hc, k⟩
  | cons x r ih =>
    intro S S' c0 c' hok hev hn hc k
    simp only [okB, Bool.and_eq_true, decide_eq_true_eq] at hok
    obtain ⟨h1, h2, h3, h4⟩ := hok
    simp only [evB] at hev
    split at hev
    next S1 c1 he =>
      obtain ⟨g1, g2⟩ := ih S1 S' c1 c' h4 hev ((ev1_len he).trans hn) hc k
      obtain ⟨lv, st, ws⟩ := S
      have h5 := Nat.eq_of_beq_eq_true h3
      obtain ⟨j1, -, j3⟩ := ev1_sound (l := l) (e := e) (R := R) (below := below) (meth := meth) (cells := cells) (slots := slots) (Q := Q) C hft hct h1 h2 he hn g1 (by rw [h5]; exact g2)
      exact ⟨j1, j3⟩
    next => cases hev
/-- a stretch -/
theorem sg (C : Cx p s m args c cc nL own D ca ad A N n) (hft : FTo own ft) (hct : CTo own ct) {qe q : Nat} {blk : List Ent} {S S' : AS} {c' : Prop} (hok : okB ft ct cc qe blk = true) (hq : hdq qe blk = q) (hev : evB nL blk S True = some (S', c')) (hn : S.2.2.length = n) (hc : c') (k : Wa p l e R s m args below meth c cells slots Q D ca ad A nL N S' qe) : Wa p l e R s m args below meth c cells slots Q D ca ad A nL N S q := hq ▸ (seg C hft hct qe blk S S' True c' hok hev hn hc k).2
/-- a stretch that reads and writes no array -/
theorem sg0 (C : Cx p s m args c cc nL own D ca ad A N n) (hft : FTo own ft) (hct : CTo own ct) {qe q : Nat} {blk : List Ent} {S S' : AS} (hok : okB ft ct cc qe blk = true) (hq : hdq qe blk = q) (hev : evB nL blk S True = some (S', True)) (hn : S.2.2.length = n) (k : Wa p l e R s m args below meth c cells slots Q D ca ad A nL N S' qe) : Wa p l e R s m args below meth c cells slots Q D ca ad A nL N S q := sg C hft hct hok hq hev hn trivial k
theorem Wa.ex {α : Type} {P : α → Heap → Prop} {S : AS} {pc : Nat} (h : ∀ x, Wa p l e R s m args below meth c cells slots Q D ca ad A nL (P x) S pc) : Wa p l e R s m args below meth c cells slots Q D ca ad A nL (fun H => ∃ x, P x H) S pc := fun H locs ls h1 h2 h3 ⟨x, h4⟩ => h x H locs ls h1 h2 h3 h4
theorem Wa.and {P : Prop} {S : AS} {pc : Nat} (h : P → Wa p l e R s m args below meth c cells slots Q D ca ad A nL N S pc) : Wa p l e R s m args below meth c cells slots Q D ca ad A nL (fun H => P ∧ N H) S pc := fun H locs ls h1 h2 h3 h4 => h h4.1 H locs ls h1 h2 h3 h4.2
theorem Wa.mono {N2 : Heap → Prop} {S : AS} {pc : Nat} (hN : ∀ H, N H → N2 H) (h : Wa p l e R s m args below meth c cells slots Q D ca ad A nL N2 S pc) : Wa p l e R s m args below meth c cells slots Q D ca ad A nL N S pc := fun H locs ls h1 h2 h3 h4 => h H locs ls h1 h2 h3 (hN H h4)
theorem Wa.wid {k1 k2 : Nat} {S : AS} {pc : Nat} (h1 : cells ≤ k1) (h2 : slots ≤ k2) (h : Wa p l e R s m args below meth c k1 k2 Q D ca ad A nL N S pc) : Wa p l e R s m args below meth c cells slots Q D ca ad A nL N S pc := fun H locs ls a1 a2 a3 a4 => W.widen h1 h2 (h H locs ls a1 a2 a3 a4)
/-- fewer locals -/
theorem Wa.lv {lv lv2 : List (Nat × Value)} {st : List Value} {ws : List va_E} {pc : Nat} (hs : ∀ x ∈ lv2, x ∈ lv) (h : Wa p l e R s m args below meth c cells slots Q D ca ad A nL N (lv2, st, ws) pc) : Wa p l e R s m args below meth c cells slots Q D ca ad A nL N (lv, st, ws) pc := fun H locs ls h1 h2 h3 h4 => h H locs ls ⟨h1.1, h1.2.1, fun x hx => by
  obtain ⟨y, hy, rfl⟩ := List.mem_map.mp hx
  exact h1.2.2 _ (List.mem_map.mpr ⟨y, hs y hy, rfl⟩)⟩ h2 h3 h4
theorem b1_eq (C : Cx p s m args c cc nL own D ca ad A N n) {x : Int32} {off : Int} {tgt pc : Nat} {lv : List (Nat × Value)} {st : List Value} {ws : List va_E} (hdg : decode cc pc = .ok (.ifCond .eq off, 3)) (ht : (pc : Int) + off = (tgt : Int)) (kt : x = 0 → Wa p l e R s m args below meth c cells slots Q D ca ad A nL N (lv, st, ws) tgt) (kf : ¬ x = 0 → Wa p l e R s m args below meth c cells slots Q D ca ad A nL N (lv, st, ws) (pc + 3)) : Wa p l e R s m args below meth c cells slots Q D ca ad A nL N (lv, .int x :: st, ws) pc :=
  fun H locs ls h1 h2 h3 h4 => lv_if_eq C.1.1 C.1.2.1 hdg ht (fun q => kt q H locs ls h1 h2 h3 h4) (fun q => kf q H locs ls h1 h2 h3 h4)
theorem b2_eq (C : Cx p s m args c cc nL own D ca ad A N n) {x y : Int32} {off : Int} {tgt pc : Nat} {lv : List (Nat × Value)} {st : List Value} {ws : List va_E} (hdg : decode cc pc = .ok (.if_icmp .eq off, 3)) (ht : (pc : Int) + off = (tgt : Int)) (kt : x = y → Wa p l e R s m args below meth c cells slots Q D ca ad A nL N (lv, st, ws) tgt) (kf : ¬ x = y → Wa p l e R s m args below meth c cells slots Q D ca ad A nL N (lv, st, ws) (pc + 3)) : Wa p l e R s m args below meth c cells slots Q D ca ad A nL N (lv, .int y :: .int x :: st, ws) pc :=
  fun H locs ls h1 h2 h3 h4 => lv_icmp_eq C.1.1 C.1.2.1 hdg ht (fun q => kt q H locs ls h1 h2 h3 h4) (fun q => kf q H locs ls h1 h2 h3 h4)
theorem b1_ne (C : Cx p s m args c cc nL own D ca ad A N n) {x : Int32} {off : Int} {tgt pc : Nat} {lv : List (Nat × Value)} {st : List Value} {ws : List va_E} (hdg : decode cc pc = .ok (.ifCond .ne off, 3)) (ht : (pc : Int) + off = (tgt : Int)) (kt : ¬ x = 0 → Wa p l e R s m args below meth c cells slots Q D ca ad A nL N (lv, st, ws) tgt) (kf : x = 0 → Wa p l e R s m args below meth c cells slots Q D ca ad A nL N (lv, st, ws) (pc + 3)) : Wa p l e R s m args below meth c cells slots Q D ca ad A nL N (lv, .int x :: st, ws) pc :=
  fun H locs ls h1 h2 h3 h4 => lv_if_ne C.1.1 C.1.2.1 hdg ht (fun q => kt q H locs ls h1 h2 h3 h4) (fun q => kf q H locs ls h1 h2 h3 h4)
theorem b2_ne (C : Cx p s m args c cc nL own D ca ad A N n) {x y : Int32} {off : Int} {tgt pc : Nat} {lv : List (Nat × Value)} {st : List Value} {ws : List va_E} (hdg : decode cc pc = .ok (.if_icmp .ne off, 3)) (ht : (pc : Int) + off = (tgt : Int)) (kt : ¬ x = y → Wa p l e R s m args below meth c cells slots Q D ca ad A nL N (lv, st, ws) tgt) (kf : x = y → Wa p l e R s m args below meth c cells slots Q D ca ad A nL N (lv, st, ws) (pc + 3)) : Wa p l e R s m args below meth c cells slots Q D ca ad A nL N (lv, .int y :: .int x :: st, ws) pc :=
  fun H locs ls h1 h2 h3 h4 => lv_icmp_ne C.1.1 C.1.2.1 hdg ht (fun q => kt q H locs ls h1 h2 h3 h4) (fun q => kf q H locs ls h1 h2 h3 h4)
theorem b1_lt (C : Cx p s m args c cc nL own D ca ad A N n) {x : Int32} {off : Int} {tgt pc : Nat} {lv : List (Nat × Value)} {st : List Value} {ws : List va_E} (hdg : decode cc pc = .ok (.ifCond .lt off, 3)) (ht : (pc : Int) + off = (tgt : Int)) (kt : x < 0 → Wa p l e R s m args below meth c cells slots Q D ca ad A nL N (lv, st, ws) tgt) (kf : ¬ x < 0 → Wa p l e R s m args below meth c cells slots Q D ca ad A nL N (lv, st, ws) (pc + 3)) : Wa p l e R s m args below meth c cells slots Q D ca ad A nL N (lv, .int x :: st, ws) pc :=
  fun H locs ls h1 h2 h3 h4 => lv_if_lt C.1.1 C.1.2.1 hdg ht (fun q => kt q H locs ls h1 h2 h3 h4) (fun q => kf q H locs ls h1 h2 h3 h4)
theorem b2_lt (C : Cx p s m args c cc nL own D ca ad A N n) {x y : Int32} {off : Int} {tgt pc : Nat} {lv : List (Nat × Value)} {st : List Value} {ws : List va_E} (hdg : decode cc pc = .ok (.if_icmp .lt off, 3)) (ht : (pc : Int) + off = (tgt : Int)) (kt : x < y → Wa p l e R s m args below meth c cells slots Q D ca ad A nL N (lv, st, ws) tgt) (kf : ¬ x < y → Wa p l e R s m args below meth c cells slots Q D ca ad A nL N (lv, st, ws) (pc + 3)) : Wa p l e R s m args below meth c cells slots Q D ca ad A nL N (lv, .int y :: .int x :: st, ws) pc :=
  fun H locs ls h1 h2 h3 h4 => lv_icmp_lt C.1.1 C.1.2.1 hdg ht (fun q => kt q H locs ls h1 h2 h3 h4) (fun q => kf q H locs ls h1 h2 h3 h4)
theorem b1_ge (C : Cx p s m args c cc nL own D ca ad A N n) {x : Int32} {off : Int} {tgt pc : Nat} {lv : List (Nat × Value)} {st : List Value} {ws : List va_E} (hdg : decode cc pc = .ok (.ifCond .ge off, 3)) (ht : (pc : Int) + off = (tgt : Int)) (kt : 0 ≤ x → Wa p l e R s m args below meth c cells slots Q D ca ad A nL N (lv, st, ws) tgt) (kf : ¬ 0 ≤ x → Wa p l e R s m args below meth c cells slots Q D ca ad A nL N (lv, st, ws) (pc + 3)) : Wa p l e R s m args below meth c cells slots Q D ca ad A nL N (lv, .int x :: st, ws) pc :=
  fun H locs ls h1 h2 h3 h4 => lv_if_ge C.1.1 C.1.2.1 hdg ht (fun q => kt q H locs ls h1 h2 h3 h4) (fun q => kf q H locs ls h1 h2 h3 h4)
theorem b2_ge (C : Cx p s m args c cc nL own D ca ad A N n) {x y : Int32} {off : Int} {tgt pc : Nat} {lv : List (Nat × Value)} {st : List Value} {ws : List va_E} (hdg : decode cc pc = .ok (.if_icmp .ge off, 3)) (ht : (pc : Int) + off = (tgt : Int)) (kt : y ≤ x → Wa p l e R s m args below meth c cells slots Q D ca ad A nL N (lv, st, ws) tgt) (kf : ¬ y ≤ x → Wa p l e R s m args below meth c cells slots Q D ca ad A nL N (lv, st, ws) (pc + 3)) : Wa p l e R s m args below meth c cells slots Q D ca ad A nL N (lv, .int y :: .int x :: st, ws) pc :=
  fun H locs ls h1 h2 h3 h4 => lv_icmp_ge C.1.1 C.1.2.1 hdg ht (fun q => kt q H locs ls h1 h2 h3 h4) (fun q => kf q H locs ls h1 h2 h3 h4)
theorem b1_gt (C : Cx p s m args c cc nL own D ca ad A N n) {x : Int32} {off : Int} {tgt pc : Nat} {lv : List (Nat × Value)} {st : List Value} {ws : List va_E} (hdg : decode cc pc = .ok (.ifCond .gt off, 3)) (ht : (pc : Int) + off = (tgt : Int)) (kt : 0 < x → Wa p l e R s m args below meth c cells slots Q D ca ad A nL N (lv, st, ws) tgt) (kf : ¬ 0 < x → Wa p l e R s m args below meth c cells slots Q D ca ad A nL N (lv, st, ws) (pc + 3)) : Wa p l e R s m args below meth c cells slots Q D ca ad A nL N (lv, .int x :: st, ws) pc :=
  fun H locs ls h1 h2 h3 h4 => lv_if_gt C.1.1 C.1.2.1 hdg ht (fun q => kt q H locs ls h1 h2 h3 h4) (fun q => kf q H locs ls h1 h2 h3 h4)
theorem b2_gt (C : Cx p s m args c cc nL own D ca ad A N n) {x y : Int32} {off : Int} {tgt pc : Nat} {lv : List (Nat × Value)} {st : List Value} {ws : List va_E} (hdg : decode cc pc = .ok (.if_icmp .gt off, 3)) (ht : (pc : Int) + off = (tgt : Int)) (kt : y < x → Wa p l e R s m args below meth c cells slots Q D ca ad A nL N (lv, st, ws) tgt) (kf : ¬ y < x → Wa p l e R s m args below meth c cells slots Q D ca ad A nL N (lv, st, ws) (pc + 3)) : Wa p l e R s m args below meth c cells slots Q D ca ad A nL N (lv, .int y :: .int x :: st, ws) pc :=
  fun H locs ls h1 h2 h3 h4 => lv_icmp_gt C.1.1 C.1.2.1 hdg ht (fun q => kt q H locs ls h1 h2 h3 h4) (fun q => kf q H locs ls h1 h2 h3 h4)
theorem b1_le (C : Cx p s m args c cc nL own D ca ad A N n) {x : Int32} {off : Int} {tgt pc : Nat} {lv : List (Nat × Value)} {st : List Value} {ws : List va_E} (hdg : decode cc pc = .ok (.ifCond .le off, 3)) (ht : (pc : Int) + off = (tgt : Int)) (kt : x ≤ 0 → Wa p l e R s m args below meth c cells slots Q D ca ad A nL N (lv, st, ws) tgt) (kf : ¬ x ≤ 0 → Wa p l e R s m args below meth c cells slots Q D ca ad A nL N (lv, st, ws) (pc + 3)) : Wa p l e R s m args below meth c cells slots Q D ca ad A nL N (lv, .int x :: st, ws) pc :=
  fun H locs ls h1 h2 h3 h4 => lv_if_le C.1.1 C.1.2.1 hdg ht (fun q => kt q H locs ls h1 h2 h3 h4) (fun q => kf q H locs ls h1 h2 h3 h4)
theorem b2_le (C : Cx p s m args c cc nL own D ca ad A N n) {x y : Int32} {off : Int} {tgt pc : Nat} {lv : List (Nat × Value)} {st : List Value} {ws : List va_E} (hdg : decode cc pc = .ok (.if_icmp .le off, 3)) (ht : (pc : Int) + off = (tgt : Int)) (kt : x ≤ y → Wa p l e R s m args below meth c cells slots Q D ca ad A nL N (lv, st, ws) tgt) (kf : ¬ x ≤ y → Wa p l e R s m args below meth c cells slots Q D ca ad A nL N (lv, st, ws) (pc + 3)) : Wa p l e R s m args below meth c cells slots Q D ca ad A nL N (lv, .int y :: .int x :: st, ws) pc :=
  fun H locs ls h1 h2 h3 h4 => lv_icmp_le C.1.1 C.1.2.1 hdg ht (fun q => kt q H locs ls h1 h2 h3 h4) (fun q => kf q H locs ls h1 h2 h3 h4)
theorem bn_r (C : Cx p s m args c cc nL own D ca ad A N n) {x : Nat} {off : Int} {pc : Nat} {lv : List (Nat × Value)} {st : List Value} {ws : List va_E} (hdg : decode cc pc = .ok (.ifnull off, 3)) (k : Wa p l e R s m args below meth c cells slots Q D ca ad A nL N (lv, st, ws) (pc + 3)) : Wa p l e R s m args below meth c cells slots Q D ca ad A nL N (lv, .ref x :: st, ws) pc := fun H locs ls h1 h2 h3 h4 => lv_ifnull C.1.1 C.1.2.1 hdg (k H locs ls h1 h2 h3 h4)
theorem bn_n (C : Cx p s m args c cc nL own D ca ad A N n) {off : Int} {pc tgt : Nat} {lv : List (Nat × Value)} {st : List Value} {ws : List va_E} (hdg : decode cc pc = .ok (.ifnull off, 3)) (ht : (pc : Int) + off = (tgt : Int)) (k : Wa p l e R s m args below meth c cells slots Q D ca ad A nL N (lv, st, ws) tgt) : Wa p l e R s m args below meth c cells slots Q D ca ad A nL N (lv, .null :: st, ws) pc := fun H locs ls h1 h2 h3 h4 => lv_ifnullN C.1.1 C.1.2.1 hdg ht (k H locs ls h1 h2 h3 h4)
theorem bnn_r (C : Cx p s m args c cc nL own D ca ad A N n) {x : Nat} {off : Int} {pc tgt : Nat} {lv : List (Nat × Value)} {st : List Value} {ws : List va_E} (hdg : decode cc pc = .ok (.ifnonnull off, 3)) (ht : (pc : Int) + off = (tgt : Int)) (k : Wa p l e R s m args below meth c cells slots Q D ca ad A nL N (lv, st, ws) tgt) : Wa p l e R s m args below meth c cells slots Q D ca ad A nL N (lv, .ref x :: st, ws) pc := fun H locs ls h1 h2 h3 h4 => lv_ifnonnull C.1.1 C.1.2.1 hdg ht (k H locs ls h1 h2 h3 h4)
theorem bnn_n (C : Cx p s m args c cc nL own D ca ad A N n) {off : Int} {pc : Nat} {lv : List (Nat × Value)} {st : List Value} {ws : List va_E} (hdg : decode cc pc = .ok (.ifnonnull off, 3)) (k : Wa p l e R s m args below meth c cells slots Q D ca ad A nL N (lv, st, ws) (pc + 3)) : Wa p l e R s m args below meth c cells slots Q D ca ad A nL N (lv, .null :: st, ws) pc := fun H locs ls h1 h2 h3 h4 => lv_ifnonnullN C.1.1 C.1.2.1 hdg (k H locs ls h1 h2 h3 h4)
theorem rt_i (C : Cx p s m args c cc nL own D ca ad A N n) {G : Option Value → List va_E → Heap → Prop} {v : Int32} {pc : Nat} {lv : List (Nat × Value)} {ws : List va_E} (hr : meth.sig.returnType = some .int) (hlocks : meth.locks = false) (hdg : decode cc pc = .ok (.ireturn, 1)) (hq : ∀ H, N H → G (some (.int v)) ws H) : Wa p l e R s m args below meth c cells slots (MQ below (CQ D ca ad G A) args s cells slots A) D ca ad A nL N (lv, [.int v], ws) pc := fun H locs ls _ h2 h3 h4 => W.iret C.1.1 C.1.2.1 hr (fun t ht _ => ⟨⟨some (.int v), ws, rfl, by rw [ht]; exact h2, by rw [ht]; exact hq H h4⟩, h3.F ht⟩) h3.2.2 hdg
theorem rt_z (C : Cx p s m args c cc nL own D ca ad A N n) {G : Option Value → List va_E → Heap → Prop} {v : Int32} {pc : Nat} {lv : List (Nat × Value)} {ws : List va_E} (hr : meth.sig.returnType = some .boolean) (hlocks : meth.locks = false) (hn : narrow .boolean (.int v) = .int v) (hdg : decode cc pc = .ok (.ireturn, 1)) (hq : ∀ H, N H → G (some (.int v)) ws H) : Wa p l e R s m args below meth c cells slots (MQ below (CQ D ca ad G A) args s cells slots A) D ca ad A nL N (lv, [.int v], ws) pc := fun H locs ls _ h2 h3 h4 => W.zret C.1.1 C.1.2.1 hr hn (fun t ht _ => ⟨⟨some (.int v), ws, rfl, by rw [ht]; exact h2, by rw [ht]; exact hq H h4⟩, h3.F ht⟩) h3.2.2 hdg
theorem rt_l (C : Cx p s m args c cc nL own D ca ad A N n) {G : Option Value → List va_E → Heap → Prop} {v : Int64} {pc : Nat} {lv : List (Nat × Value)} {ws : List va_E} (hr : meth.sig.returnType = some .long) (hlocks : meth.locks = false) (hdg : decode cc pc = .ok (.lreturn, 1)) (hq : ∀ H, N H → G (some (.long v)) ws H) : Wa p l e R s m args below meth c cells slots (MQ below (CQ D ca ad G A) args s cells slots A) D ca ad A nL N (lv, [.long v], ws) pc := fun H locs ls _ h2 h3 h4 => W.lret C.1.1 C.1.2.1 hr (fun t ht _ => ⟨⟨some (.long v), ws, rfl, by rw [ht]; exact h2, by rw [ht]; exact hq H h4⟩, h3.F ht⟩) h3.2.2 hdg
theorem rt_v (C : Cx p s m args c cc nL own D ca ad A N n) {G : Option Value → List va_E → Heap → Prop} {pc : Nat} {lv : List (Nat × Value)} {ws : List va_E} (hr : meth.sig.returnType = none) (hlocks : meth.locks = false) (hdg : decode cc pc = .ok (.return_, 1)) (hq : ∀ H, N H → G none ws H) : Wa p l e R s m args below meth c cells slots (MQ below (CQ D ca ad G A) args s cells slots A) D ca ad A nL N (lv, [], ws) pc := fun H locs ls _ h2 h3 h4 => W.vret C.1.1 C.1.2.1 hr (fun t ht _ => ⟨⟨none, ws, rfl, by rw [ht]; exact h2, by rw [ht]; exact hq H h4⟩, h3.F ht⟩) h3.2.2 hdg
theorem rt_a (C : Cx p s m args c cc nL own D ca ad A N n) {G : Option Value → List va_E → Heap → Prop} {rt : FieldType} {x : Nat} {pc : Nat} {lv : List (Nat × Value)} {ws : List va_E} (hr : meth.sig.returnType = some rt) (hrt : (∃ n, rt = .object n) ∨ ∃ t, rt = .array t) (hlocks : meth.locks = false) (hdg : decode cc pc = .ok (.areturn, 1)) (hq : ∀ H, N H → G (some (.ref x)) ws H) : Wa p l e R s m args below meth c cells slots (MQ below (CQ D ca ad G A) args s cells slots A) D ca ad A nL N (lv, [.ref x], ws) pc := fun H locs ls _ h2 h3 h4 => W.aret C.1.1 C.1.2.1 hr hrt (Or.inr ⟨_, rfl⟩) (fun t ht _ => ⟨⟨some (.ref x), ws, rfl, by rw [ht]; exact h2, by rw [ht]; exact hq H h4⟩, h3.F ht⟩) h3.2.2 hdg
theorem rt_n (C : Cx p s m args c cc nL own D ca ad A N n) {G : Option Value → List va_E → Heap → Prop} {rt : FieldType} {pc : Nat} {lv : List (Nat × Value)} {ws : List va_E} (hr : meth.sig.returnType = some rt) (hrt : (∃ n, rt = .object n) ∨ ∃ t, rt = .array t) (hlocks : meth.locks = false) (hdg : decode cc pc = .ok (.areturn, 1)) (hq : ∀ H, N H → G (some .null) ws H) : Wa p l e R s m args below meth c cells slots (MQ below (CQ D ca ad G A) args s cells slots A) D ca ad A nL N (lv, [.null], ws) pc := fun H locs ls _ h2 h3 h4 => W.aret C.1.1 C.1.2.1 hr hrt (Or.inl rfl) (fun t ht _ => ⟨⟨some .null, ws, rfl, by rw [ht]; exact h2, by rw [ht]; exact hq H h4⟩, h3.F ht⟩) h3.2.2 hdg
theorem Fr_le {sz sz2 q : Nat} (h : sz ≤ sz2) (hq : Fr ad n sz2 q) : Fr ad n sz q := hq.elim Or.inl (fun h2 => Or.inr (Nat.le_trans h h2))
theorem CPre_blind {ws : List va_E} {sz : Nat} {av : List Value} : FrameBlind (CPre D ca ad ws sz av N) := fun a U g mk h => ⟨h.1, h.2.1, h.2.2.1, h.2.2.2.1.call, h.2.2.2.2⟩
/-- behind a call -/
theorem gcall (C : Cx p s m args c cc nL own D ca ad A N n) {pc mc ms : Nat} {ls : Array Slot} {H : Heap} {locs : List Loc} {st0 rest : List Value} {a : Array Value} {G : Option Value → List va_E → Heap → Prop} {lv : List (Nat × Value)} (hr : va_Run p l e R s m args below meth c H locs cells slots mc ms (F0 m pc ls st0) (rest.map (cv ad)) (CQ D ca ad G (Fr ad n H.size) a) (Fr ad n H.size)) (hl : lv_has ls nL (cl ad lv)) (hS : va_S A s.heap H locs)
    (kk : ∀ (v : Option Value) (ws' : List va_E), Wa p l e R s m args below meth c (cells + mc) (slots + ms) Q D ca ad A nL (G v ws') (lv, v.toList ++ rest, ws') (pc + 3)) : W p l e R s m args below meth c H locs cells slots Q (F0 m pc ls st0) := by
  intro T hT X
  obtain ⟨v, st₀, t, T', L, h0, X', hL, e1, e2, ⟨⟨v2, ws2, hv, hp, hg⟩, hz, hk⟩, st⟩ := hr T hT X
  cases hv
  rw [h0] at hz hk
  have hA : ∀ q, Fr ad n H.size q → A q := fun q h => h.elim (fun ⟨k, h1, h2⟩ => by rw [h2]; exact C.2.2.2.2.1 k h1) (fun h => C.2.2.2.2.2 q (Nat.le_trans hS.1 h))
  have hS1 : va_S A s.heap T'.heap (locs ++ L) := ⟨Nat.le_trans hS.1 (by rw [e1]; exact hz), fun q h1 h2 => by rw [e1, hk q (Nat.lt_of_lt_of_le h1 hS.1) (fun z => h2 (hA q z))]; exact hS.2.1 q h1 h2, fun q hq => by
      rcases List.mem_append.mp hq with h | h
      · exact hS.2.2 q h
      · exact hA _ (hL q h)⟩
  obtain ⟨t2, a1, b1⟩ := kk v2 ws2 T'.heap (locs ++ L) ls hl (by rw [e1]; exact hp) hS1 (by rw [e1]; exact hg) T' rfl X'
  have hst : (v2.toList ++ rest).map (cv ad) = (v2.map (cv ad)).toList ++ rest.map (cv ad) := by cases v2 <;> simp
  rw [hst] at a1
  exact ⟨t2, st t2 a1, b1⟩
theorem rev_map (av rest : List Value) : (av.reverse ++ rest).map (cv ad) = (av.map (cv ad)).reverse ++ rest.map (cv ad) := by simp
theorem cat_map (rest : List Value) : ((rest.map (cv ad)).map fun v => v.category).sum = (rest.map fun v => v.category).sum := by
  rw [List.map_map]
  congr 1
  apply List.map_congr_left
  intro v _
  exact cv_cat ad v
/-- a static method of the own class -/
theorem cl_s (C : Cx p s m args c cc nL own D ca ad A N n) {y : MethodName} {bytes : ByteArray} {maxL k idx pc : Nat} {ret : Option FieldType} {rm : Room} {ws : List va_E} {av rest st : List Value} {lv : List (Nat × Value)} {G : Option Value → List va_E → Heap → Prop} (hM : Ct l y bytes maxL ret rm D ca ad ws n av N G) (hcd : Cond.code y bytes maxL ret ∈ tb) (hini : Cond.initialized y.cls ∈ tb) (hlk : Cond.methodLink own idx y ∈ tb) (hsm : Cond.static y ∈ tb)
    (hd : y.cls ≠ "java/lang/invoke/MethodHandle" ∧ y.cls ≠ "java/lang/invoke/VarHandle" ∧ (parseMethodDescriptor y.desc).map (fun d => d.parameters.length) = some k) (hk : av.length = k) (hst : av.reverse ++ rest = st) (hR : rm.frames + 1 ≤ R.frames ∧ 8 + (maxL + 11) + rm.locals ≤ R.locals) (hR2 : cells + rm.cells ≤ R.cells ∧ slots + rm.slots ≤ R.slots) (hcat : (rest.map fun v => v.category).sum ≤ 8) (hdg : decode cc pc = .ok (.invokestatic idx, 3))
    (kk : ∀ (v : Option Value) (ws' : List va_E), Wa p l e R s m args below meth c (cells + rm.cells) (slots + rm.slots) Q D ca ad A nL (G v ws') (lv, v.toList ++ rest, ws') (pc + 3)) : Wa p l e R s m args below meth c cells slots Q D ca ad A nL N (lv, st, ws) pc := by
  intro H locs ls h1 h2 h3 h4
  subst hst
  have hts := C.1.2.2.2.2
  refine gcall C (a := (av.map (cv ad)).toArray) (va_runS (As := av.map (cv ad)) (n := k) C.1 (hM H.size) ⟨callB_of k hts (tb_gi hcd) rfl rfl rfl (hts _ hini) (hts _ hlk) hd hR, hts _ hsm⟩ ⟨CPre_blind, fun U hU hW => ⟨rfl, by rw [hU], by rw [hU]; exact h2, C.2.1.warm hW, by rw [hU]; exact h4⟩⟩ rfl (by simpa using hk) h1.1 (rev_map av rest) (lv_room (by rw [cat_map]; exact hcat)) hdg hR2) h1 h3 kk
/-- a static method of the nest's host -/
theorem cl_sn (C : Cx p s m args c cc nL own D ca ad A N n) {y : MethodName} {bytes : ByteArray} {maxL k idx pc : Nat} {ret : Option FieldType} {rm : Room} {ws : List va_E} {av rest st : List Value} {lv : List (Nat × Value)} {G : Option Value → List va_E → Heap → Prop} (hM : Ct l y bytes maxL ret rm D ca ad ws n av N G) (hcd : Cond.code y bytes maxL ret ∈ tb) (hini : Cond.initialized y.cls ∈ tb) (hlk : (own, idx, y) ∈ nestL) (hsm : Cond.static y ∈ tb)
    (hd : y.cls ≠ "java/lang/invoke/MethodHandle" ∧ y.cls ≠ "java/lang/invoke/VarHandle" ∧ (parseMethodDescriptor y.desc).map (fun d => d.parameters.length) = some k) (hk : av.length = k) (hst : av.reverse ++ rest = st) (hR : rm.frames + 1 ≤ R.frames ∧ 8 + (maxL + 11) + rm.locals ≤ R.locals) (hR2 : cells + rm.cells ≤ R.cells ∧ slots + rm.slots ≤ R.slots) (hcat : (rest.map fun v => v.category).sum ≤ 8) (hdg : decode cc pc = .ok (.invokestatic idx, 3))
    (kk : ∀ (v : Option Value) (ws' : List va_E), Wa p l e R s m args below meth c (cells + rm.cells) (slots + rm.slots) Q D ca ad A nL (G v ws') (lv, v.toList ++ rest, ws') (pc + 3)) : Wa p l e R s m args below meth c cells slots Q D ca ad A nL N (lv, st, ws) pc := by
  intro H locs ls h1 h2 h3 h4
  subst hst
  have hts := C.1.2.2.2.2
  refine gcall C (a := (av.map (cv ad)).toArray) (va_runSN (As := av.map (cv ad)) (n := k) C.1 (hM H.size) ⟨va_cnB k hts (tb_gi hcd) rfl rfl rfl (C.2.1.2.1 _ hlk) (hts _ hini) hd hR, hts _ hsm, trivial⟩ ⟨CPre_blind, fun U hU hW => ⟨rfl, by rw [hU], by rw [hU]; exact h2, C.2.1.warm hW, by rw [hU]; exact h4⟩⟩ rfl (by simpa using hk) h1.1 (rev_map av rest) (lv_room (by rw [cat_map]; exact hcat)) hdg hR2) h1 h3 kk
/-- a method of an object -/
theorem cl_v (C : Cx p s m args c cc nL own D ca ad A N n) {y : MethodName} {bytes : ByteArray} {maxL k idx pc t : Nat} {ret : Option FieldType} {rm : Room} {ws : List va_E} {av rest st : List Value} {lv : List (Nat × Value)} {G : Option Value → List va_E → Heap → Prop} (hM : Ct l y bytes maxL ret rm D ca ad ws n (.ref t :: av) N G) (hrec : ∀ H, va_P D vwCl (cw ad ca 0 ws) H → N H → ∃ cell : Cell, H[ad t]? = some cell ∧ cell.vm.isStatics = false ∧ s.vm.findClass y.cls = some cell.cls) (hcd : Cond.code y bytes maxL ret ∈ tb) (hini : Cond.initialized y.cls ∈ tb) (hlk : Cond.methodLink own idx y ∈ tb) (him : Cond.instanceMethod y ∈ tb) (hse : Cond.selects y.cls y y ∈ tb)
    (hd : y.cls ≠ "java/lang/invoke/MethodHandle" ∧ y.cls ≠ "java/lang/invoke/VarHandle" ∧ (parseMethodDescriptor y.desc).map (fun d => d.parameters.length) = some k) (hk : av.length = k) (hst : av.reverse ++ .ref t :: rest = st) (hR : rm.frames + 1 ≤ R.frames ∧ 8 + (maxL + 11) + rm.locals ≤ R.locals) (hR2 : cells + rm.cells ≤ R.cells ∧ slots + rm.slots ≤ R.slots) (hcat : (rest.map fun v => v.category).sum ≤ 8) (hdg : decode cc pc = .ok (.invokevirtual idx, 3))
    (kk : ∀ (v : Option Value) (ws' : List va_E), Wa p l e R s m args below meth c (cells + rm.cells) (slots + rm.slots) Q D ca ad A nL (G v ws') (lv, v.toList ++ rest, ws') (pc + 3)) : Wa p l e R s m args below meth c cells slots Q D ca ad A nL N (lv, st, ws) pc := by
  intro H locs ls h1 h2 h3 h4
  subst hst
  have hts := C.1.2.2.2.2
  refine gcall C (a := (Value.ref (ad t) :: av.map (cv ad)).toArray) (va_runV (As := av.map (cv ad)) (b := ad t) (n := k) C.1 (hM H.size) ⟨callB_of k hts (tb_gi hcd) rfl rfl rfl (hts _ hini) (hts _ hlk) hd hR, hts _ him, hts _ hse⟩ ⟨CPre_blind, hrec H h2 h4, fun U hU hW => ⟨rfl, by rw [hU], by rw [hU]; exact h2, C.2.1.warm hW, by rw [hU]; exact h4⟩⟩ rfl (by simpa using hk) h1.1 (by rw [show (.ref (ad t) : Value) = cv ad (.ref t) from rfl]; simp) (lv_room (by rw [cat_map]; exact hcat)) hdg hR2) h1 h3 kk
/-- the receiver is a named cell -/
theorem rcv (hK : KS D ca s) {ws : List va_E} {t ci : Nat} {fs : List Value} {r : vw_C} (hc : vwCl[ci]? = some r) (ht : nth ws t = some (.inr (ci, fs))) : ∀ H, va_P D vwCl (cw ad ca 0 ws) H → N H → ∃ cell : Cell, H[ad t]? = some cell ∧ cell.vm.isStatics = false ∧ s.vm.findClass r.1 = some cell.cls := fun H h2 _ => va_recv hK.1 h2 hc (q0 := t) (fs := fs.map (cv ad)) (by rw [nth_eq] at ht; rw [cw_at, ht]; simp [ce])
end
/-- into a method -/
theorem enter {l : Launch} {y : MethodName} {cc : ByteArray} {maxL n : Nat} {ret : Option FieldType} {rm : Room} {D : va_G} {ca : Nat → ClassId} {ad : Nat → Nat} {ws : List va_E} {av : List Value} {N : Heap → Prop} {G : Option Value → List va_E → Heap → Prop} {lv : List (Nat × Value)} (hy : plainName y.cls = true) (hlen : (lg_sl (av.map (cv ad))).length ≤ maxL) (hlv : lv_args 0 av = lv) (hAD : AD ad n) (hNS : ∀ U, KS D ca U → NSt D ca ad N)
    (body : ∀ (p : Program) (e : Env) (s : State) (m : MethodId) (below : List Frame) (meth : Method) (c : Code) (A : Nat → Prop) (args : Array Value), A = Fr ad n s.heap.size → Cx p s m args c cc maxL y.cls D ca ad A N n → meth.sig.returnType = ret → meth.locks = false → meth.name = y.name → Wa p l e rm s m args below meth c 0 0 (MQ below (CQ D ca ad G A) args s rm.cells rm.slots A) D ca ad A maxL N (lv, [], ws) 0) : Ct l y cc maxL ret rm D ca ad ws n av N G := by
  intro sz
  refine Met.ofW (cc := cc) (maxL := maxL) (ret := ret) hy rfl ?_
  intro p e s m args below meth c s₁ B hml hv
  obtain ⟨rfl, hsz, hP, hK, hN⟩ := hv
  have hts := atoms_spec (ws := Cond.code y cc maxL ret :: tb) B.pre
  have hown : s.vm.findClass y.cls = some m.cls := findClass_of_methodNamed B.named
  subst hsz
  have hl := lv_entry (av.map (cv ad)) (n := maxL) hlen
  rw [lg_entry_eq]
  generalize (lg_sl (av.map (cv ad)) ++ List.replicate (maxL - (lg_sl (av.map (cv ad))).length) Slot.unset).toArray = ls at hl ⊢
  rw [lv_args_cl, hlv] at hl
  exact body p e s m below meth c (Fr ad n s.heap.size) _ rfl ⟨⟨B.exec, B.bytes, hml, hown, fun w hw => hts w (List.mem_cons_of_mem _ hw)⟩, hK, hNS s hK, hAD, fun k hk => Or.inl ⟨k, hk, rfl⟩, fun q hq => Or.inr hq⟩ B.returns B.notSynchronized (name_of_methodNamed B.named B.method).1 s.heap [] ls hl hP va_S.rf hN
end
