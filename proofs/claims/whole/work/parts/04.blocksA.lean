def ftX0 : List (Nat × Nat × Nat) := []
theorem foX0 : FTo RX0 ftX0 := fun _ h => absurd h List.not_mem_nil
def ctX0 : List (Nat × Value) := []
theorem coX0 : CTo RX0 ctX0 := fun _ h => absurd h List.not_mem_nil
def ftX1 : List (Nat × Nat × Nat) := []
theorem foX1 : FTo RX1 ftX1 := fun _ h => absurd h List.not_mem_nil
def ctX1 : List (Nat × Value) := []
theorem coX1 : CTo RX1 ctX1 := fun _ h => absurd h List.not_mem_nil
def ftX2 : List (Nat × Nat × Nat) := []
theorem foX2 : FTo RX2 ftX2 := fun _ h => absurd h List.not_mem_nil
def ctX2 : List (Nat × Value) := []
theorem coX2 : CTo RX2 ctX2 := fun _ h => absurd h List.not_mem_nil
def ftX3 : List (Nat × Nat × Nat) := []
theorem foX3 : FTo RX3 ftX3 := fun _ h => absurd h List.not_mem_nil
def ctX3 : List (Nat × Value) := []
theorem coX3 : CTo RX3 ctX3 := fun _ h => absurd h List.not_mem_nil
def ftX4 : List (Nat × Nat × Nat) := []
theorem foX4 : FTo RX4 ftX4 := fun _ h => absurd h List.not_mem_nil
def ctX4 : List (Nat × Value) := []
theorem coX4 : CTo RX4 ctX4 := fun _ h => absurd h List.not_mem_nil
def ftX5 : List (Nat × Nat × Nat) := [(9, 4, 0), (15, 4, 1), (18, 4, 2)]
theorem foX5 : FTo RX5 ftX5 := List.forall_mem_cons.mpr ⟨⟨(RX5, TX5, 3), rfl, by decide, fl_X5_9⟩, List.forall_mem_cons.mpr ⟨⟨(RX5, TX5, 3), rfl, by decide, fl_X5_15⟩, List.forall_mem_cons.mpr ⟨⟨(RX5, TX5, 3), rfl, by decide, fl_X5_18⟩, fun _ h => absurd h List.not_mem_nil⟩⟩⟩
def ctX5 : List (Nat × Value) := []
theorem coX5 : CTo RX5 ctX5 := fun _ h => absurd h List.not_mem_nil
def ftX6 : List (Nat × Nat × Nat) := [(84, 6, 0), (30, 6, 1), (21, 5, 0), (9, 5, 1), (15, 5, 2), (18, 5, 3)]
theorem foX6 : FTo RX6 ftX6 := List.forall_mem_cons.mpr ⟨⟨(RX7, TX7, 2), rfl, by decide, fl_X6_84⟩, List.forall_mem_cons.mpr ⟨⟨(RX7, TX7, 2), rfl, by decide, fl_X6_30⟩, List.forall_mem_cons.mpr ⟨⟨(RX6, TX6, 4), rfl, by decide, fl_X6_21⟩, List.forall_mem_cons.mpr ⟨⟨(RX6, TX6, 4), rfl, by decide, fl_X6_9⟩, List.forall_mem_cons.mpr ⟨⟨(RX6, TX6, 4), rfl, by decide, fl_X6_15⟩, List.forall_mem_cons.mpr ⟨⟨(RX6, TX6, 4), rfl, by decide, fl_X6_18⟩, fun _ h => absurd h List.not_mem_nil⟩⟩⟩⟩⟩⟩
def ctX6 : List (Nat × Value) := [(25, .int 65535)]
theorem coX6 : CTo RX6 ctX6 := List.forall_mem_cons.mpr ⟨co_X6_25, fun _ h => absurd h List.not_mem_nil⟩
def ftX7 : List (Nat × Nat × Nat) := [(9, 6, 0), (15, 6, 1)]
theorem foX7 : FTo RX7 ftX7 := List.forall_mem_cons.mpr ⟨⟨(RX7, TX7, 2), rfl, by decide, fl_X7_9⟩, List.forall_mem_cons.mpr ⟨⟨(RX7, TX7, 2), rfl, by decide, fl_X7_15⟩, fun _ h => absurd h List.not_mem_nil⟩⟩
def ctX7 : List (Nat × Value) := []
theorem coX7 : CTo RX7 ctX7 := fun _ h => absurd h List.not_mem_nil
def ftX8 : List (Nat × Nat × Nat) := [(97, 4, 2), (113, 6, 0), (104, 6, 1), (11, 7, 0), (18, 7, 1), (25, 7, 2), (29, 7, 3), (36, 7, 4), (40, 7, 5), (43, 7, 6), (46, 7, 7), (49, 7, 8), (127, 5, 2), (126, 5, 3)]
theorem foX8 : FTo RX8 ftX8 := List.forall_mem_cons.mpr ⟨⟨(RX5, TX5, 3), rfl, by decide, fl_X8_97⟩, List.forall_mem_cons.mpr ⟨⟨(RX7, TX7, 2), rfl, by decide, fl_X8_113⟩, List.forall_mem_cons.mpr ⟨⟨(RX7, TX7, 2), rfl, by decide, fl_X8_104⟩, List.forall_mem_cons.mpr ⟨⟨(RX8, TX8, 9), rfl, by decide, fl_X8_11⟩, List.forall_mem_cons.mpr ⟨⟨(RX8, TX8, 9), rfl, by decide, fl_X8_18⟩, List.forall_mem_cons.mpr ⟨⟨(RX8, TX8, 9), rfl, by decide, fl_X8_25⟩, List.forall_mem_cons.mpr ⟨⟨(RX8, TX8, 9), rfl, by decide, fl_X8_29⟩, List.forall_mem_cons.mpr ⟨⟨(RX8, TX8, 9), rfl, by decide, fl_X8_36⟩, List.forall_mem_cons.mpr ⟨⟨(RX8, TX8, 9), rfl, by decide, fl_X8_40⟩, List.forall_mem_cons.mpr ⟨⟨(RX8, TX8, 9), rfl, by decide, fl_X8_43⟩, List.forall_mem_cons.mpr ⟨⟨(RX8, TX8, 9), rfl, by decide, fl_X8_46⟩, List.forall_mem_cons.mpr ⟨⟨(RX8, TX8, 9), rfl, by decide, fl_X8_49⟩, List.forall_mem_cons.mpr ⟨⟨(RX6, TX6, 4), rfl, by decide, fl_X8_127⟩, List.forall_mem_cons.mpr ⟨⟨(RX6, TX6, 4), rfl, by decide, fl_X8_126⟩, fun _ h => absurd h List.not_mem_nil⟩⟩⟩⟩⟩⟩⟩⟩⟩⟩⟩⟩⟩⟩
def ctX8 : List (Nat × Value) := [(159, .long (3)), (155, .long (-7046029254386353131)), (157, .long (-4658895280553007687)), (74, .int 65535), (165, .long (2))]
theorem coX8 : CTo RX8 ctX8 := List.forall_mem_cons.mpr ⟨co_X8_159, List.forall_mem_cons.mpr ⟨co_X8_155, List.forall_mem_cons.mpr ⟨co_X8_157, List.forall_mem_cons.mpr ⟨co_X8_74, List.forall_mem_cons.mpr ⟨co_X8_165, fun _ h => absurd h List.not_mem_nil⟩⟩⟩⟩⟩
def bX0_init_0 : List Ent := [e0 0 (.aload_n 0)]
theorem oX0_init_0 : okB ftX0 ctX0 cX0_init 1 bX0_init_0 = true := by decide +kernel
theorem jX0_init_1 : decode cX0_init 1 = .ok (.invokestatic 1, 3) := by decide +kernel
theorem jX0_init_4 : decode cX0_init 4 = .ok (.invokespecial 7, 3) := by decide +kernel
theorem jX0_init_7 : decode cX0_init 7 = .ok (.return_, 1) := by decide +kernel
def bX1_init_0 : List Ent := [e0 0 (.aload_n 0), e0 1 (.iload_n 1), e0 2 (.iload_n 2), e0 3 (.aload_n 3)]
theorem oX1_init_0 : okB ftX1 ctX1 cX1_init 4 bX1_init_0 = true := by decide +kernel
def bX1_init_7 : List Ent := [e0 7 (.aload 4)]
theorem oX1_init_7 : okB ftX1 ctX1 cX1_init 9 bX1_init_7 = true := by decide +kernel
def bX1_init_18 : List Ent := [e0 18 (.aload_n 0), e0 19 (.iload_n 1)]
theorem oX1_init_18 : okB ftX1 ctX1 cX1_init 20 bX1_init_18 = true := by decide +kernel
def bX1_init_23 : List Ent := [e0 23 (.aload_n 0), e0 24 (.iload_n 2)]
theorem oX1_init_23 : okB ftX1 ctX1 cX1_init 25 bX1_init_23 = true := by decide +kernel
def bX1_init_28 : List Ent := [e0 28 (.aload_n 0), e0 29 (.aload_n 3)]
theorem oX1_init_28 : okB ftX1 ctX1 cX1_init 30 bX1_init_28 = true := by decide +kernel
def bX1_init_33 : List Ent := [e0 33 (.aload_n 0), e0 34 (.aload 4)]
theorem oX1_init_33 : okB ftX1 ctX1 cX1_init 36 bX1_init_33 = true := by decide +kernel
theorem jX1_init_4 : decode cX1_init 4 = .ok (.getfield 3, 3) := by decide +kernel
theorem jX1_init_9 : decode cX1_init 9 = .ok (.getfield 3, 3) := by decide +kernel
theorem jX1_init_12 : decode cX1_init 12 = .ok (.invokestatic 9, 3) := by decide +kernel
theorem jX1_init_15 : decode cX1_init 15 = .ok (.invokespecial 13, 3) := by decide +kernel
theorem jX1_init_20 : decode cX1_init 20 = .ok (.putfield 17, 3) := by decide +kernel
theorem jX1_init_25 : decode cX1_init 25 = .ok (.putfield 23, 3) := by decide +kernel
theorem jX1_init_30 : decode cX1_init 30 = .ok (.putfield 26, 3) := by decide +kernel
theorem jX1_init_36 : decode cX1_init 36 = .ok (.putfield 30, 3) := by decide +kernel
theorem jX1_init_39 : decode cX1_init 39 = .ok (.return_, 1) := by decide +kernel
def bX1_takesIn_0 : List Ent := [e0 0 (.iload_n 1), e0 1 (.aload_n 0)]
theorem oX1_takesIn_0 : okB ftX1 ctX1 cX1_takesIn 2 bX1_takesIn_0 = true := by decide +kernel
def bX1_takesIn_8 : List Ent := [e0 8 (.aload_n 0)]
theorem oX1_takesIn_8 : okB ftX1 ctX1 cX1_takesIn 9 bX1_takesIn_8 = true := by decide +kernel
def bX1_takesIn_15 : List Ent := [ec 15 (.iconst 1) (.int 1), e0 16 (.goto 4)]
theorem oX1_takesIn_15 : okB ftX1 ctX1 cX1_takesIn 20 bX1_takesIn_15 = true := by decide +kernel
def bX1_takesIn_19 : List Ent := [ec 19 (.iconst 0) (.int 0)]
theorem oX1_takesIn_19 : okB ftX1 ctX1 cX1_takesIn 20 bX1_takesIn_19 = true := by decide +kernel
theorem jX1_takesIn_2 : decode cX1_takesIn 2 = .ok (.getfield 17, 3) := by decide +kernel
theorem jX1_takesIn_5 : decode cX1_takesIn 5 = .ok (.invokestatic 33, 3) := by decide +kernel
theorem jX1_takesIn_9 : decode cX1_takesIn 9 = .ok (.getfield 23, 3) := by decide +kernel
theorem jX1_takesIn_12 : decode cX1_takesIn 12 = .ok (.if_icmp .ne 7, 3) := by decide +kernel
theorem jX1_takesIn_20 : decode cX1_takesIn 20 = .ok (.ireturn, 1) := by decide +kernel
def bX1_middle_0 : List Ent := [e0 0 (.aload_n 0)]
theorem oX1_middle_0 : okB ftX1 ctX1 cX1_middle 1 bX1_middle_0 = true := by decide +kernel
def bX1_middle_4 : List Ent := [ec 4 (.iconst 1) (.int 1), ec 5 (.bipush 15) (.int 15), e0 7 (.aload_n 0)]
theorem oX1_middle_4 : okB ftX1 ctX1 cX1_middle 8 bX1_middle_4 = true := by decide +kernel
def bX1_middle_11 : List Ent := [e0 11 .isub, e0 12 .ishl, e0 13 .iadd]
theorem oX1_middle_11 : okB ftX1 ctX1 cX1_middle 14 bX1_middle_11 = true := by decide +kernel
theorem jX1_middle_1 : decode cX1_middle 1 = .ok (.getfield 23, 3) := by decide +kernel
theorem jX1_middle_8 : decode cX1_middle 8 = .ok (.getfield 17, 3) := by decide +kernel
theorem jX1_middle_14 : decode cX1_middle 14 = .ok (.ireturn, 1) := by decide +kernel
def bX1_last_0 : List Ent := [e0 0 (.aload_n 0)]
theorem oX1_last_0 : okB ftX1 ctX1 cX1_last 1 bX1_last_0 = true := by decide +kernel
def bX1_last_4 : List Ent := [ec 4 (.iconst 1) (.int 1), ec 5 (.bipush 16) (.int 16), e0 7 (.aload_n 0)]
theorem oX1_last_4 : okB ftX1 ctX1 cX1_last 8 bX1_last_4 = true := by decide +kernel
def bX1_last_11 : List Ent := [e0 11 .isub, e0 12 .ishl, e0 13 .iadd, ec 14 (.iconst 1) (.int 1), e0 15 .isub]
theorem oX1_last_11 : okB ftX1 ctX1 cX1_last 16 bX1_last_11 = true := by decide +kernel
theorem jX1_last_1 : decode cX1_last 1 = .ok (.getfield 23, 3) := by decide +kernel
theorem jX1_last_8 : decode cX1_last 8 = .ok (.getfield 17, 3) := by decide +kernel
theorem jX1_last_16 : decode cX1_last 16 = .ok (.ireturn, 1) := by decide +kernel
def bX1_toward_0 : List Ent := [e0 0 (.iload_n 1), e0 1 (.aload_n 0)]
theorem oX1_toward_0 : okB ftX1 ctX1 cX1_toward 2 bX1_toward_0 = true := by decide +kernel
def bX1_toward_11 : List Ent := [e0 11 (.aload_n 0)]
theorem oX1_toward_11 : okB ftX1 ctX1 cX1_toward 12 bX1_toward_11 = true := by decide +kernel
def bX1_toward_15 : List Ent := [e0 15 (.goto 7)]
theorem oX1_toward_15 : okB ftX1 ctX1 cX1_toward 22 bX1_toward_15 = true := by decide +kernel
def bX1_toward_18 : List Ent := [e0 18 (.aload_n 0)]
theorem oX1_toward_18 : okB ftX1 ctX1 cX1_toward 19 bX1_toward_18 = true := by decide +kernel
theorem jX1_toward_2 : decode cX1_toward 2 = .ok (.getfield 17, 3) := by decide +kernel
theorem jX1_toward_5 : decode cX1_toward 5 = .ok (.invokestatic 37, 3) := by decide +kernel
theorem jX1_toward_8 : decode cX1_toward 8 = .ok (.ifCond .eq 10, 3) := by decide +kernel
theorem jX1_toward_12 : decode cX1_toward 12 = .ok (.getfield 30, 3) := by decide +kernel
theorem jX1_toward_19 : decode cX1_toward 19 = .ok (.getfield 26, 3) := by decide +kernel
theorem jX1_toward_22 : decode cX1_toward 22 = .ok (.areturn, 1) := by decide +kernel
def bX1_besides_0 : List Ent := [e0 0 (.iload_n 1), e0 1 (.aload_n 0)]
theorem oX1_besides_0 : okB ftX1 ctX1 cX1_besides 2 bX1_besides_0 = true := by decide +kernel
def bX1_besides_11 : List Ent := [e0 11 (.aload_n 0)]
theorem oX1_besides_11 : okB ftX1 ctX1 cX1_besides 12 bX1_besides_11 = true := by decide +kernel
def bX1_besides_15 : List Ent := [e0 15 (.goto 7)]
theorem oX1_besides_15 : okB ftX1 ctX1 cX1_besides 22 bX1_besides_15 = true := by decide +kernel
def bX1_besides_18 : List Ent := [e0 18 (.aload_n 0)]
theorem oX1_besides_18 : okB ftX1 ctX1 cX1_besides 19 bX1_besides_18 = true := by decide +kernel
theorem jX1_besides_2 : decode cX1_besides 2 = .ok (.getfield 17, 3) := by decide +kernel
theorem jX1_besides_5 : decode cX1_besides 5 = .ok (.invokestatic 37, 3) := by decide +kernel
theorem jX1_besides_8 : decode cX1_besides 8 = .ok (.ifCond .eq 10, 3) := by decide +kernel
theorem jX1_besides_12 : decode cX1_besides 12 = .ok (.getfield 26, 3) := by decide +kernel
theorem jX1_besides_19 : decode cX1_besides 19 = .ok (.getfield 30, 3) := by decide +kernel
theorem jX1_besides_22 : decode cX1_besides 22 = .ok (.areturn, 1) := by decide +kernel
def bX1_with_0 : List Ent := [e0 0 (.iload_n 1), e0 1 (.aload_n 0)]
theorem oX1_with_0 : okB ftX1 ctX1 cX1_with 2 bX1_with_0 = true := by decide +kernel
def bX1_with_14 : List Ent := [e0 14 .dup, e0 15 (.aload_n 0)]
theorem oX1_with_14 : okB ftX1 ctX1 cX1_with 16 bX1_with_14 = true := by decide +kernel
def bX1_with_19 : List Ent := [e0 19 (.aload_n 0)]
theorem oX1_with_19 : okB ftX1 ctX1 cX1_with 20 bX1_with_19 = true := by decide +kernel
def bX1_with_23 : List Ent := [e0 23 (.aload_n 0)]
theorem oX1_with_23 : okB ftX1 ctX1 cX1_with 24 bX1_with_23 = true := by decide +kernel
def bX1_with_27 : List Ent := [e0 27 (.aload_n 2)]
theorem oX1_with_27 : okB ftX1 ctX1 cX1_with 28 bX1_with_27 = true := by decide +kernel
def bX1_with_35 : List Ent := [e0 35 .dup, e0 36 (.aload_n 0)]
theorem oX1_with_35 : okB ftX1 ctX1 cX1_with 37 bX1_with_35 = true := by decide +kernel
def bX1_with_40 : List Ent := [e0 40 (.aload_n 0)]
theorem oX1_with_40 : okB ftX1 ctX1 cX1_with 41 bX1_with_40 = true := by decide +kernel
def bX1_with_44 : List Ent := [e0 44 (.aload_n 2), e0 45 (.aload_n 0)]
theorem oX1_with_44 : okB ftX1 ctX1 cX1_with 46 bX1_with_44 = true := by decide +kernel
theorem jX1_with_2 : decode cX1_with 2 = .ok (.getfield 17, 3) := by decide +kernel
theorem jX1_with_5 : decode cX1_with 5 = .ok (.invokestatic 37, 3) := by decide +kernel
theorem jX1_with_8 : decode cX1_with 8 = .ok (.ifCond .eq 24, 3) := by decide +kernel
theorem jX1_with_11 : decode cX1_with 11 = .ok (.new 18, 3) := by decide +kernel
theorem jX1_with_16 : decode cX1_with 16 = .ok (.getfield 17, 3) := by decide +kernel
theorem jX1_with_20 : decode cX1_with 20 = .ok (.getfield 23, 3) := by decide +kernel
theorem jX1_with_24 : decode cX1_with 24 = .ok (.getfield 26, 3) := by decide +kernel
theorem jX1_with_28 : decode cX1_with 28 = .ok (.invokespecial 41, 3) := by decide +kernel
theorem jX1_with_31 : decode cX1_with 31 = .ok (.areturn, 1) := by decide +kernel
theorem jX1_with_32 : decode cX1_with 32 = .ok (.new 18, 3) := by decide +kernel
theorem jX1_with_37 : decode cX1_with 37 = .ok (.getfield 17, 3) := by decide +kernel
theorem jX1_with_41 : decode cX1_with 41 = .ok (.getfield 23, 3) := by decide +kernel
theorem jX1_with_46 : decode cX1_with 46 = .ok (.getfield 30, 3) := by decide +kernel
theorem jX1_with_49 : decode cX1_with 49 = .ok (.invokespecial 41, 3) := by decide +kernel
theorem jX1_with_52 : decode cX1_with 52 = .ok (.areturn, 1) := by decide +kernel
def bX2_init_0 : List Ent := [e0 0 (.aload_n 0), e0 1 (.lload_n 1)]
theorem oX2_init_0 : okB ftX2 ctX2 cX2_init 2 bX2_init_0 = true := by decide +kernel
theorem jX2_init_2 : decode cX2_init 2 = .ok (.invokespecial 1, 3) := by decide +kernel
theorem jX2_init_5 : decode cX2_init 5 = .ok (.return_, 1) := by decide +kernel
def bX3_init_0 : List Ent := [e0 0 (.aload_n 0), e0 1 (.iload_n 1), e0 2 (.lload_n 2)]
theorem oX3_init_0 : okB ftX3 ctX3 cX3_init 3 bX3_init_0 = true := by decide +kernel
def bX3_init_9 : List Ent := [e0 9 (.aload_n 0), e0 10 (.iload_n 1)]
theorem oX3_init_9 : okB ftX3 ctX3 cX3_init 11 bX3_init_9 = true := by decide +kernel
def bX3_init_14 : List Ent := [e0 14 (.aload_n 0), e0 15 (.lload_n 2)]
theorem oX3_init_14 : okB ftX3 ctX3 cX3_init 16 bX3_init_14 = true := by decide +kernel
theorem jX3_init_3 : decode cX3_init 3 = .ok (.invokestatic 1, 3) := by decide +kernel
theorem jX3_init_6 : decode cX3_init 6 = .ok (.invokespecial 7, 3) := by decide +kernel
theorem jX3_init_11 : decode cX3_init 11 = .ok (.putfield 13, 3) := by decide +kernel
theorem jX3_init_16 : decode cX3_init 16 = .ok (.putfield 19, 3) := by decide +kernel
theorem jX3_init_19 : decode cX3_init 19 = .ok (.return_, 1) := by decide +kernel
def bX4_init_0 : List Ent := [e0 0 (.aload_n 0)]
theorem oX4_init_0 : okB ftX4 ctX4 cX4_init 1 bX4_init_0 = true := by decide +kernel
def bX4_init_4 : List Ent := [e0 4 (.aload_n 0), e0 5 (.lload_n 1)]
theorem oX4_init_4 : okB ftX4 ctX4 cX4_init 6 bX4_init_4 = true := by decide +kernel
theorem jX4_init_1 : decode cX4_init 1 = .ok (.invokespecial 1, 3) := by decide +kernel
theorem jX4_init_6 : decode cX4_init 6 = .ok (.putfield 7, 3) := by decide +kernel
theorem jX4_init_9 : decode cX4_init 9 = .ok (.return_, 1) := by decide +kernel
def bX5_init_0 : List Ent := [e0 0 (.aload_n 0)]
theorem oX5_init_0 : okB ftX5 ctX5 cX5_init 1 bX5_init_0 = true := by decide +kernel
def bX5_init_4 : List Ent := [e0 4 (.aload_n 0), ec 5 (.bipush 20) (.int 20)]
theorem oX5_init_4 : okB ftX5 ctX5 cX5_init 7 bX5_init_4 = true := by decide +kernel
def bX5_init_12 : List Ent := [e0 12 (.aload_n 0), ec 13 (.bipush 20) (.int 20)]
theorem oX5_init_12 : okB ftX5 ctX5 cX5_init 15 bX5_init_12 = true := by decide +kernel
def bX5_init_20 : List Ent := [e0 20 (.aload_n 0), ec 21 (.iconst 0) (.int 0), ef 22 (.putfield 18) (.int 0) 4 2]
theorem oX5_init_20 : okB ftX5 ctX5 cX5_init 25 bX5_init_20 = true := by decide +kernel
theorem jX5_init_1 : decode cX5_init 1 = .ok (.invokespecial 3, 3) := by decide +kernel
theorem jX5_init_7 : decode cX5_init 7 = .ok (.newarray .int, 2) := by decide +kernel
theorem jX5_init_9 : decode cX5_init 9 = .ok (.putfield 9, 3) := by decide +kernel
theorem jX5_init_15 : decode cX5_init 15 = .ok (.newarray .int, 2) := by decide +kernel
theorem jX5_init_17 : decode cX5_init 17 = .ok (.putfield 15, 3) := by decide +kernel
theorem jX5_init_25 : decode cX5_init 25 = .ok (.return_, 1) := by decide +kernel
def bX5_add_0 : List Ent := [e0 0 (.aload_n 0), ef 1 (.getfield 18) .null 4 2, ec 4 (.bipush 20) (.int 20)]
theorem oX5_add_0 : okB ftX5 ctX5 cX5_add 6 bX5_add_0 = true := by decide +kernel
def bX5_add_9 : List Ent := [ec 9 (.iconst 0) (.int 0)]
theorem oX5_add_9 : okB ftX5 ctX5 cX5_add 10 bX5_add_9 = true := by decide +kernel
def bX5_add_11 : List Ent := [e0 11 (.aload_n 0), ef 12 (.getfield 9) .null 4 0, e0 15 (.aload_n 0), ef 16 (.getfield 18) .null 4 2, e0 19 (.iload_n 1), e0 20 .iastore, e0 21 (.aload_n 0), ef 22 (.getfield 15) .null 4 1, e0 25 (.aload_n 0), ef 26 (.getfield 18) .null 4 2, e0 29 (.iload_n 2), e0 30 .iastore, e0 31 (.aload_n 0), e0 32 .dup, ef 33 (.getfield 18) .null 4 2, ec 36 (.iconst 1) (.int 1), e0 37 .iadd, ef 38 (.putfield 18) (.int 0) 4 2, ec 41 (.iconst 1) (.int 1)]
theorem oX5_add_11 : okB ftX5 ctX5 cX5_add 42 bX5_add_11 = true := by decide +kernel
theorem jX5_add_6 : decode cX5_add 6 = .ok (.if_icmp .lt 5, 3) := by decide +kernel
theorem jX5_add_10 : decode cX5_add 10 = .ok (.ireturn, 1) := by decide +kernel
theorem jX5_add_42 : decode cX5_add 42 = .ok (.ireturn, 1) := by decide +kernel
def bX5_meet_0 : List Ent := [ec 0 (.iconst 0) (.int 0), e0 1 (.istore_n 3)]
theorem oX5_meet_0 : okB ftX5 ctX5 cX5_meet 2 bX5_meet_0 = true := by decide +kernel
def bX5_meet_2 : List Ent := [e0 2 (.iload_n 3), e0 3 (.aload_n 0), ef 4 (.getfield 18) .null 4 2]
theorem oX5_meet_2 : okB ftX5 ctX5 cX5_meet 7 bX5_meet_2 = true := by decide +kernel
def bX5_meet_10 : List Ent := [e0 10 (.aload_n 0), ef 11 (.getfield 9) .null 4 0, e0 14 (.iload_n 3), e0 15 .iaload, e0 16 (.iload_n 2)]
theorem oX5_meet_10 : okB ftX5 ctX5 cX5_meet 17 bX5_meet_10 = true := by decide +kernel
def bX5_meet_20 : List Ent := [e0 20 (.iload_n 1), e0 21 (.aload_n 0), ef 22 (.getfield 15) .null 4 1, e0 25 (.iload_n 3), e0 26 .iaload]
theorem oX5_meet_20 : okB ftX5 ctX5 cX5_meet 27 bX5_meet_20 = true := by decide +kernel
def bX5_meet_30 : List Ent := [ec 30 (.iconst 1) (.int 1)]
theorem oX5_meet_30 : okB ftX5 ctX5 cX5_meet 31 bX5_meet_30 = true := by decide +kernel
def bX5_meet_32 : List Ent := [ec 32 (.iinc 3 1) (.int 1), e0 35 (.goto (-33))]
theorem oX5_meet_32 : okB ftX5 ctX5 cX5_meet 2 bX5_meet_32 = true := by decide +kernel
def bX5_meet_38 : List Ent := [ec 38 (.iconst 0) (.int 0)]
theorem oX5_meet_38 : okB ftX5 ctX5 cX5_meet 39 bX5_meet_38 = true := by decide +kernel
theorem jX5_meet_7 : decode cX5_meet 7 = .ok (.if_icmp .ge 31, 3) := by decide +kernel
theorem jX5_meet_17 : decode cX5_meet 17 = .ok (.if_icmp .gt 15, 3) := by decide +kernel
theorem jX5_meet_27 : decode cX5_meet 27 = .ok (.if_icmp .gt 5, 3) := by decide +kernel
theorem jX5_meet_31 : decode cX5_meet 31 = .ok (.ireturn, 1) := by decide +kernel
theorem jX5_meet_39 : decode cX5_meet 39 = .ok (.ireturn, 1) := by decide +kernel
def bX6_init_0 : List Ent := [e0 0 (.aload_n 0)]
theorem oX6_init_0 : okB ftX6 ctX6 cX6_init 1 bX6_init_0 = true := by decide +kernel
def bX6_init_4 : List Ent := [e0 4 (.aload_n 0), ec 5 (.iconst 0) (.int 0), ef 6 (.putfield 9) (.int 0) 5 1, e0 9 (.aload_n 0), ec 10 (.iconst 0) (.int 0), ef 11 (.putfield 15) (.int 0) 5 2, e0 14 (.aload_n 0), ec 15 (.bipush (-2)) (.int (-2)), ef 17 (.putfield 18) (.int 0) 5 3, e0 20 (.aload_n 0), e0 21 (.aload_n 1)]
theorem oX6_init_4 : okB ftX6 ctX6 cX6_init 22 bX6_init_4 = true := by decide +kernel
theorem jX6_init_1 : decode cX6_init 1 = .ok (.invokespecial 3, 3) := by decide +kernel
theorem jX6_init_22 : decode cX6_init 22 = .ok (.putfield 21, 3) := by decide +kernel
theorem jX6_init_25 : decode cX6_init 25 = .ok (.return_, 1) := by decide +kernel
def bX6_wholeWith_0 : List Ent := [e0 0 (.aload_n 0), ec 1 (.iconst 0) (.int 0), ec 2 (.ldc 25) (.int 65535), ec 4 (.iconst 0) (.int 0)]
theorem oX6_wholeWith_0 : okB ftX6 ctX6 cX6_wholeWith 5 bX6_wholeWith_0 = true := by decide +kernel
def bX6_wholeWith_8 : List Ent := [e0 8 (.astore_n 3), e0 9 (.aload_n 3)]
theorem oX6_wholeWith_8 : okB ftX6 ctX6 cX6_wholeWith 10 bX6_wholeWith_8 = true := by decide +kernel
def bX6_wholeWith_13 : List Ent := [e0 13 .aconst_null]
theorem oX6_wholeWith_13 : okB ftX6 ctX6 cX6_wholeWith 14 bX6_wholeWith_13 = true := by decide +kernel
def bX6_wholeWith_15 : List Ent := [e0 15 (.aload_n 0), ef 16 (.getfield 9) .null 5 1, e0 19 (.aload_n 0), ef 20 (.getfield 21) .null 5 0, ef 23 (.getfield 30) .null 6 1]
theorem oX6_wholeWith_15 : okB ftX6 ctX6 cX6_wholeWith 26 bX6_wholeWith_15 = true := by decide +kernel
def bX6_wholeWith_29 : List Ent := [e0 29 (.aload_n 0), ec 30 (.bipush 6) (.int 6), e0 32 (.aload_n 0), ef 33 (.getfield 9) .null 5 1]
theorem oX6_wholeWith_29 : okB ftX6 ctX6 cX6_wholeWith 36 bX6_wholeWith_29 = true := by decide +kernel
def bX6_wholeWith_40 : List Ent := [e0 40 (.aload_n 3)]
theorem oX6_wholeWith_40 : okB ftX6 ctX6 cX6_wholeWith 41 bX6_wholeWith_40 = true := by decide +kernel
def bX6_wholeWith_44 : List Ent := [e0 44 (.lload_n 1), e0 45 .lcmp]
theorem oX6_wholeWith_44 : okB ftX6 ctX6 cX6_wholeWith 46 bX6_wholeWith_44 = true := by decide +kernel
def bX6_wholeWith_49 : List Ent := [e0 49 (.aload_n 3), e0 50 (.goto 10)]
theorem oX6_wholeWith_49 : okB ftX6 ctX6 cX6_wholeWith 60 bX6_wholeWith_49 = true := by decide +kernel
def bX6_wholeWith_53 : List Ent := [e0 53 (.aload_n 0), ec 54 (.bipush 7) (.int 7), ec 56 (.iconst 0) (.int 0)]
theorem oX6_wholeWith_53 : okB ftX6 ctX6 cX6_wholeWith 57 bX6_wholeWith_53 = true := by decide +kernel
theorem jX6_wholeWith_5 : decode cX6_wholeWith 5 = .ok (.invokevirtual 26, 3) := by decide +kernel
theorem jX6_wholeWith_10 : decode cX6_wholeWith 10 = .ok (.ifnonnull 5, 3) := by decide +kernel
theorem jX6_wholeWith_14 : decode cX6_wholeWith 14 = .ok (.areturn, 1) := by decide +kernel
theorem jX6_wholeWith_26 : decode cX6_wholeWith 26 = .ok (.if_icmp .ge 14, 3) := by decide +kernel
theorem jX6_wholeWith_36 : decode cX6_wholeWith 36 = .ok (.invokevirtual 35, 3) := by decide +kernel
theorem jX6_wholeWith_39 : decode cX6_wholeWith 39 = .ok (.areturn, 1) := by decide +kernel
theorem jX6_wholeWith_41 : decode cX6_wholeWith 41 = .ok (.getfield 39, 3) := by decide +kernel
theorem jX6_wholeWith_46 : decode cX6_wholeWith 46 = .ok (.ifCond .ne 7, 3) := by decide +kernel
theorem jX6_wholeWith_57 : decode cX6_wholeWith 57 = .ok (.invokevirtual 35, 3) := by decide +kernel
theorem jX6_wholeWith_60 : decode cX6_wholeWith 60 = .ok (.areturn, 1) := by decide +kernel
def bX6_readNode_0 : List Ent := [e0 0 (.aload_n 0), ec 1 (.iconst 1) (.int 1)]
theorem oX6_readNode_0 : okB ftX6 ctX6 cX6_readNode 2 bX6_readNode_0 = true := by decide +kernel
def bX6_readNode_8 : List Ent := [e0 8 .aconst_null]
theorem oX6_readNode_8 : okB ftX6 ctX6 cX6_readNode 9 bX6_readNode_8 = true := by decide +kernel
def bX6_readNode_10 : List Ent := [e0 10 (.aload_n 0), ec 11 (.iconst 1) (.int 1)]
theorem oX6_readNode_10 : okB ftX6 ctX6 cX6_readNode 12 bX6_readNode_10 = true := by decide +kernel
def bX6_readNode_15 : List Ent := [e0 15 .l2i]
theorem oX6_readNode_15 : okB ftX6 ctX6 cX6_readNode 16 bX6_readNode_15 = true := by decide +kernel
def bX6_readNode_48 : List Ent := [e0 48 (.aload_n 0), ec 49 (.bipush 8) (.int 8)]
theorem oX6_readNode_48 : okB ftX6 ctX6 cX6_readNode 51 bX6_readNode_48 = true := by decide +kernel
def bX6_readNode_57 : List Ent := [e0 57 .aconst_null, e0 58 (.goto 16)]
theorem oX6_readNode_57 : okB ftX6 ctX6 cX6_readNode 74 bX6_readNode_57 = true := by decide +kernel
def bX6_readNode_64 : List Ent := [e0 64 .dup, e0 65 (.aload_n 0), ec 66 (.bipush 8) (.int 8)]
theorem oX6_readNode_64 : okB ftX6 ctX6 cX6_readNode 68 bX6_readNode_64 = true := by decide +kernel
def bX6_readNode_75 : List Ent := [e0 75 (.aload_n 0), e0 76 (.iload_n 1), e0 77 (.iload_n 2), e0 78 (.iload_n 3)]
theorem oX6_readNode_75 : okB ftX6 ctX6 cX6_readNode 79 bX6_readNode_75 = true := by decide +kernel
def bX6_readNode_83 : List Ent := [e0 83 (.aload_n 0), e0 84 (.iload_n 1), e0 85 (.iload_n 2)]
theorem oX6_readNode_83 : okB ftX6 ctX6 cX6_readNode 86 bX6_readNode_83 = true := by decide +kernel
def bX6_readNode_90 : List Ent := [e0 90 (.iload_n 3)]
theorem oX6_readNode_90 : okB ftX6 ctX6 cX6_readNode 91 bX6_readNode_90 = true := by decide +kernel
def bX6_readNode_97 : List Ent := [e0 97 .dup]
theorem oX6_readNode_97 : okB ftX6 ctX6 cX6_readNode 98 bX6_readNode_97 = true := by decide +kernel
def bX6_readNode_101 : List Ent := [e0 101 (.goto 14)]
theorem oX6_readNode_101 : okB ftX6 ctX6 cX6_readNode 115 bX6_readNode_101 = true := by decide +kernel
def bX6_readNode_104 : List Ent := [e0 104 (.aload_n 0), ec 105 (.iconst 2) (.int 2), e0 106 (.aload_n 0), ef 107 (.getfield 9) .null 5 1, ec 110 (.iconst 1) (.int 1), e0 111 .isub]
theorem oX6_readNode_104 : okB ftX6 ctX6 cX6_readNode 112 bX6_readNode_104 = true := by decide +kernel
def bX6_readNode_116 : List Ent := [e0 116 (.aload_n 0), ec 117 (.iconst 2) (.int 2), e0 118 (.aload_n 0), ef 119 (.getfield 9) .null 5 1, ec 122 (.iconst 1) (.int 1), e0 123 .isub]
theorem oX6_readNode_116 : okB ftX6 ctX6 cX6_readNode 124 bX6_readNode_116 = true := by decide +kernel
theorem jX6_readNode_2 : decode cX6_readNode 2 = .ok (.invokevirtual 45, 3) := by decide +kernel
theorem jX6_readNode_5 : decode cX6_readNode 5 = .ok (.ifCond .eq 5, 3) := by decide +kernel
theorem jX6_readNode_9 : decode cX6_readNode 9 = .ok (.areturn, 1) := by decide +kernel
theorem jX6_readNode_12 : decode cX6_readNode 12 = .ok (.invokevirtual 49, 3) := by decide +kernel
theorem jX6_readNode_16 : decode cX6_readNode 16 = .ok (.tableswitch 100 0 3 #[32, 59, 67, 74], 32) := by decide +kernel
theorem jX6_readNode_51 : decode cX6_readNode 51 = .ok (.invokevirtual 45, 3) := by decide +kernel
theorem jX6_readNode_54 : decode cX6_readNode 54 = .ok (.ifCond .eq 7, 3) := by decide +kernel
theorem jX6_readNode_61 : decode cX6_readNode 61 = .ok (.new 53, 3) := by decide +kernel
theorem jX6_readNode_68 : decode cX6_readNode 68 = .ok (.invokevirtual 49, 3) := by decide +kernel
theorem jX6_readNode_71 : decode cX6_readNode 71 = .ok (.invokespecial 55, 3) := by decide +kernel
theorem jX6_readNode_74 : decode cX6_readNode 74 = .ok (.areturn, 1) := by decide +kernel
theorem jX6_readNode_79 : decode cX6_readNode 79 = .ok (.invokevirtual 58, 3) := by decide +kernel
theorem jX6_readNode_82 : decode cX6_readNode 82 = .ok (.areturn, 1) := by decide +kernel
theorem jX6_readNode_86 : decode cX6_readNode 86 = .ok (.invokevirtual 61, 3) := by decide +kernel
theorem jX6_readNode_89 : decode cX6_readNode 89 = .ok (.areturn, 1) := by decide +kernel
theorem jX6_readNode_91 : decode cX6_readNode 91 = .ok (.ifCond .ne 13, 3) := by decide +kernel
theorem jX6_readNode_94 : decode cX6_readNode 94 = .ok (.new 64, 3) := by decide +kernel
theorem jX6_readNode_98 : decode cX6_readNode 98 = .ok (.invokespecial 66, 3) := by decide +kernel
theorem jX6_readNode_112 : decode cX6_readNode 112 = .ok (.invokevirtual 35, 3) := by decide +kernel
theorem jX6_readNode_115 : decode cX6_readNode 115 = .ok (.areturn, 1) := by decide +kernel
theorem jX6_readNode_124 : decode cX6_readNode 124 = .ok (.invokevirtual 35, 3) := by decide +kernel
theorem jX6_readNode_127 : decode cX6_readNode 127 = .ok (.areturn, 1) := by decide +kernel
def bX6_readLeaf_0 : List Ent := [e0 0 (.aload_n 0), ec 1 (.iconst 2) (.int 2)]
theorem oX6_readLeaf_0 : okB ftX6 ctX6 cX6_readLeaf 2 bX6_readLeaf_0 = true := by decide +kernel
def bX6_readLeaf_8 : List Ent := [e0 8 .aconst_null]
theorem oX6_readLeaf_8 : okB ftX6 ctX6 cX6_readLeaf 9 bX6_readLeaf_8 = true := by decide +kernel
def bX6_readLeaf_10 : List Ent := [e0 10 (.aload_n 0), ec 11 (.iconst 2) (.int 2)]
theorem oX6_readLeaf_10 : okB ftX6 ctX6 cX6_readLeaf 12 bX6_readLeaf_10 = true := by decide +kernel
def bX6_readLeaf_15 : List Ent := [e0 15 .l2i, e0 16 (.istore_n 3), e0 17 (.iload_n 3), e0 18 (.iload_n 1)]
theorem oX6_readLeaf_15 : okB ftX6 ctX6 cX6_readLeaf 19 bX6_readLeaf_15 = true := by decide +kernel
def bX6_readLeaf_22 : List Ent := [e0 22 (.iload_n 3), e0 23 (.iload_n 2)]
theorem oX6_readLeaf_22 : okB ftX6 ctX6 cX6_readLeaf 24 bX6_readLeaf_22 = true := by decide +kernel
def bX6_readLeaf_27 : List Ent := [e0 27 (.aload_n 0), ec 28 (.iconst 5) (.int 5), e0 29 (.aload_n 0), ef 30 (.getfield 9) .null 5 1, ec 33 (.iconst 2) (.int 2), e0 34 .isub]
theorem oX6_readLeaf_27 : okB ftX6 ctX6 cX6_readLeaf 35 bX6_readLeaf_27 = true := by decide +kernel
def bX6_readLeaf_39 : List Ent := [e0 39 (.aload_n 0), ec 40 (.bipush 8) (.int 8)]
theorem oX6_readLeaf_39 : okB ftX6 ctX6 cX6_readLeaf 42 bX6_readLeaf_39 = true := by decide +kernel
def bX6_readLeaf_48 : List Ent := [e0 48 .aconst_null, e0 49 (.goto 17)]
theorem oX6_readLeaf_48 : okB ftX6 ctX6 cX6_readLeaf 66 bX6_readLeaf_48 = true := by decide +kernel
def bX6_readLeaf_55 : List Ent := [e0 55 .dup, e0 56 (.iload_n 3), e0 57 (.aload_n 0), ec 58 (.bipush 8) (.int 8)]
theorem oX6_readLeaf_55 : okB ftX6 ctX6 cX6_readLeaf 60 bX6_readLeaf_55 = true := by decide +kernel
theorem jX6_readLeaf_2 : decode cX6_readLeaf 2 = .ok (.invokevirtual 45, 3) := by decide +kernel
theorem jX6_readLeaf_5 : decode cX6_readLeaf 5 = .ok (.ifCond .eq 5, 3) := by decide +kernel
theorem jX6_readLeaf_9 : decode cX6_readLeaf 9 = .ok (.areturn, 1) := by decide +kernel
theorem jX6_readLeaf_12 : decode cX6_readLeaf 12 = .ok (.invokevirtual 49, 3) := by decide +kernel
theorem jX6_readLeaf_19 : decode cX6_readLeaf 19 = .ok (.if_icmp .lt 8, 3) := by decide +kernel
theorem jX6_readLeaf_24 : decode cX6_readLeaf 24 = .ok (.if_icmp .le 15, 3) := by decide +kernel
theorem jX6_readLeaf_35 : decode cX6_readLeaf 35 = .ok (.invokevirtual 35, 3) := by decide +kernel
theorem jX6_readLeaf_38 : decode cX6_readLeaf 38 = .ok (.areturn, 1) := by decide +kernel
theorem jX6_readLeaf_42 : decode cX6_readLeaf 42 = .ok (.invokevirtual 45, 3) := by decide +kernel
theorem jX6_readLeaf_45 : decode cX6_readLeaf 45 = .ok (.ifCond .eq 7, 3) := by decide +kernel
theorem jX6_readLeaf_52 : decode cX6_readLeaf 52 = .ok (.new 67, 3) := by decide +kernel
theorem jX6_readLeaf_60 : decode cX6_readLeaf 60 = .ok (.invokevirtual 49, 3) := by decide +kernel
theorem jX6_readLeaf_63 : decode cX6_readLeaf 63 = .ok (.invokespecial 69, 3) := by decide +kernel
theorem jX6_readLeaf_66 : decode cX6_readLeaf 66 = .ok (.areturn, 1) := by decide +kernel
def bX6_readFork_0 : List Ent := [e0 0 (.aload_n 0), ec 1 (.iconst 1) (.int 1)]
theorem oX6_readFork_0 : okB ftX6 ctX6 cX6_readFork 2 bX6_readFork_0 = true := by decide +kernel
def bX6_readFork_8 : List Ent := [e0 8 .aconst_null]
theorem oX6_readFork_8 : okB ftX6 ctX6 cX6_readFork 9 bX6_readFork_8 = true := by decide +kernel
def bX6_readFork_10 : List Ent := [e0 10 (.aload_n 0), ec 11 (.iconst 1) (.int 1)]
theorem oX6_readFork_10 : okB ftX6 ctX6 cX6_readFork 12 bX6_readFork_10 = true := by decide +kernel
def bX6_readFork_15 : List Ent := [e0 15 .l2i, e0 16 (.istore 4), e0 18 (.iload 4), ec 20 (.bipush 16) (.int 16)]
theorem oX6_readFork_15 : okB ftX6 ctX6 cX6_readFork 22 bX6_readFork_15 = true := by decide +kernel
def bX6_readFork_25 : List Ent := [e0 25 (.aload_n 0), ec 26 (.iconst 3) (.int 3), e0 27 (.aload_n 0), ef 28 (.getfield 9) .null 5 1, ec 31 (.iconst 1) (.int 1), e0 32 .isub]
theorem oX6_readFork_25 : okB ftX6 ctX6 cX6_readFork 33 bX6_readFork_25 = true := by decide +kernel
def bX6_readFork_37 : List Ent := [e0 37 (.aload_n 0), ec 38 (.iconst 2) (.int 2)]
theorem oX6_readFork_37 : okB ftX6 ctX6 cX6_readFork 39 bX6_readFork_37 = true := by decide +kernel
def bX6_readFork_45 : List Ent := [e0 45 .aconst_null]
theorem oX6_readFork_45 : okB ftX6 ctX6 cX6_readFork 46 bX6_readFork_45 = true := by decide +kernel
def bX6_readFork_47 : List Ent := [e0 47 (.aload_n 0), ec 48 (.iconst 2) (.int 2)]
theorem oX6_readFork_47 : okB ftX6 ctX6 cX6_readFork 49 bX6_readFork_47 = true := by decide +kernel
def bX6_readFork_52 : List Ent := [e0 52 .l2i, e0 53 (.istore 5), ec 55 (.iconst 1) (.int 1), ec 56 (.bipush 15) (.int 15), e0 58 (.iload 4), e0 60 .isub, e0 61 .ishl, e0 62 (.istore 6), e0 64 (.iload 5), e0 66 (.iload 5), e0 68 (.iload 4)]
theorem oX6_readFork_52 : okB ftX6 ctX6 cX6_readFork 70 bX6_readFork_52 = true := by decide +kernel
def bX6_readFork_76 : List Ent := [e0 76 (.iload 5), e0 78 (.iload_n 1)]
theorem oX6_readFork_76 : okB ftX6 ctX6 cX6_readFork 79 bX6_readFork_76 = true := by decide +kernel
def bX6_readFork_82 : List Ent := [e0 82 (.iload 5), ec 84 (.iconst 2) (.int 2), e0 85 (.iload 6), e0 87 .imul, e0 88 .iadd, ec 89 (.iconst 1) (.int 1), e0 90 .isub, e0 91 (.iload_n 2)]
theorem oX6_readFork_82 : okB ftX6 ctX6 cX6_readFork 92 bX6_readFork_82 = true := by decide +kernel
def bX6_readFork_95 : List Ent := [e0 95 (.iload_n 3), ec 96 (.bipush 16) (.int 16)]
theorem oX6_readFork_95 : okB ftX6 ctX6 cX6_readFork 98 bX6_readFork_95 = true := by decide +kernel
def bX6_readFork_101 : List Ent := [e0 101 (.aload_n 0), ec 102 (.iconst 4) (.int 4), e0 103 (.aload_n 0), ef 104 (.getfield 9) .null 5 1, ec 107 (.iconst 2) (.int 2), e0 108 .isub]
theorem oX6_readFork_101 : okB ftX6 ctX6 cX6_readFork 109 bX6_readFork_101 = true := by decide +kernel
def bX6_readFork_113 : List Ent := [e0 113 (.aload_n 0), e0 114 (.iload 5), e0 116 (.iload 5), e0 118 (.iload 6), e0 120 .iadd, ec 121 (.iconst 1) (.int 1), e0 122 .isub, e0 123 (.iload_n 3), ec 124 (.iconst 1) (.int 1), e0 125 .iadd]
theorem oX6_readFork_113 : okB ftX6 ctX6 cX6_readFork 126 bX6_readFork_113 = true := by decide +kernel
def bX6_readFork_129 : List Ent := [e0 129 (.astore 7), e0 131 (.aload 7)]
theorem oX6_readFork_129 : okB ftX6 ctX6 cX6_readFork 133 bX6_readFork_129 = true := by decide +kernel
def bX6_readFork_136 : List Ent := [e0 136 .aconst_null]
theorem oX6_readFork_136 : okB ftX6 ctX6 cX6_readFork 137 bX6_readFork_136 = true := by decide +kernel
def bX6_readFork_138 : List Ent := [e0 138 (.aload_n 0), e0 139 (.iload 5), e0 141 (.iload 6), e0 143 .iadd, e0 144 (.iload 5), ec 146 (.iconst 2) (.int 2), e0 147 (.iload 6), e0 149 .imul, e0 150 .iadd, ec 151 (.iconst 1) (.int 1), e0 152 .isub, e0 153 (.iload_n 3), ec 154 (.iconst 1) (.int 1), e0 155 .iadd]
theorem oX6_readFork_138 : okB ftX6 ctX6 cX6_readFork 156 bX6_readFork_138 = true := by decide +kernel
def bX6_readFork_159 : List Ent := [e0 159 (.astore 8), e0 161 (.aload 8)]
theorem oX6_readFork_159 : okB ftX6 ctX6 cX6_readFork 163 bX6_readFork_159 = true := by decide +kernel
def bX6_readFork_166 : List Ent := [e0 166 .aconst_null, e0 167 (.goto 18)]
theorem oX6_readFork_166 : okB ftX6 ctX6 cX6_readFork 185 bX6_readFork_166 = true := by decide +kernel
def bX6_readFork_173 : List Ent := [e0 173 .dup, e0 174 (.iload 4), e0 176 (.iload 5), e0 178 (.aload 7), e0 180 (.aload 8)]
theorem oX6_readFork_173 : okB ftX6 ctX6 cX6_readFork 182 bX6_readFork_173 = true := by decide +kernel
theorem jX6_readFork_2 : decode cX6_readFork 2 = .ok (.invokevirtual 45, 3) := by decide +kernel
theorem jX6_readFork_5 : decode cX6_readFork 5 = .ok (.ifCond .eq 5, 3) := by decide +kernel
theorem jX6_readFork_9 : decode cX6_readFork 9 = .ok (.areturn, 1) := by decide +kernel
theorem jX6_readFork_12 : decode cX6_readFork 12 = .ok (.invokevirtual 49, 3) := by decide +kernel
theorem jX6_readFork_22 : decode cX6_readFork 22 = .ok (.if_icmp .lt 15, 3) := by decide +kernel
theorem jX6_readFork_33 : decode cX6_readFork 33 = .ok (.invokevirtual 35, 3) := by decide +kernel
theorem jX6_readFork_36 : decode cX6_readFork 36 = .ok (.areturn, 1) := by decide +kernel
theorem jX6_readFork_39 : decode cX6_readFork 39 = .ok (.invokevirtual 45, 3) := by decide +kernel
theorem jX6_readFork_42 : decode cX6_readFork 42 = .ok (.ifCond .eq 5, 3) := by decide +kernel
theorem jX6_readFork_46 : decode cX6_readFork 46 = .ok (.areturn, 1) := by decide +kernel
theorem jX6_readFork_49 : decode cX6_readFork 49 = .ok (.invokevirtual 49, 3) := by decide +kernel
theorem jX6_readFork_70 : decode cX6_readFork 70 = .ok (.invokestatic 72, 3) := by decide +kernel
theorem jX6_readFork_73 : decode cX6_readFork 73 = .ok (.if_icmp .ne 28, 3) := by decide +kernel
theorem jX6_readFork_79 : decode cX6_readFork 79 = .ok (.if_icmp .lt 22, 3) := by decide +kernel
theorem jX6_readFork_92 : decode cX6_readFork 92 = .ok (.if_icmp .gt 9, 3) := by decide +kernel
theorem jX6_readFork_98 : decode cX6_readFork 98 = .ok (.if_icmp .lt 15, 3) := by decide +kernel
theorem jX6_readFork_109 : decode cX6_readFork 109 = .ok (.invokevirtual 35, 3) := by decide +kernel
theorem jX6_readFork_112 : decode cX6_readFork 112 = .ok (.areturn, 1) := by decide +kernel
theorem jX6_readFork_126 : decode cX6_readFork 126 = .ok (.invokevirtual 26, 3) := by decide +kernel
theorem jX6_readFork_133 : decode cX6_readFork 133 = .ok (.ifnonnull 5, 3) := by decide +kernel
theorem jX6_readFork_137 : decode cX6_readFork 137 = .ok (.areturn, 1) := by decide +kernel
theorem jX6_readFork_156 : decode cX6_readFork 156 = .ok (.invokevirtual 26, 3) := by decide +kernel
theorem jX6_readFork_163 : decode cX6_readFork 163 = .ok (.ifnonnull 7, 3) := by decide +kernel
theorem jX6_readFork_170 : decode cX6_readFork 170 = .ok (.new 76, 3) := by decide +kernel
theorem jX6_readFork_182 : decode cX6_readFork 182 = .ok (.invokespecial 78, 3) := by decide +kernel
theorem jX6_readFork_185 : decode cX6_readFork 185 = .ok (.areturn, 1) := by decide +kernel
def bX6_lacks_0 : List Ent := [e0 0 (.aload_n 0), ef 1 (.getfield 21) .null 5 0, ef 4 (.getfield 30) .null 6 1, e0 7 (.aload_n 0), ef 8 (.getfield 9) .null 5 1, e0 11 .isub, e0 12 (.iload_n 1)]
theorem oX6_lacks_0 : okB ftX6 ctX6 cX6_lacks 13 bX6_lacks_0 = true := by decide +kernel
def bX6_lacks_16 : List Ent := [ec 16 (.iconst 0) (.int 0)]
theorem oX6_lacks_16 : okB ftX6 ctX6 cX6_lacks 17 bX6_lacks_16 = true := by decide +kernel
def bX6_lacks_18 : List Ent := [e0 18 (.aload_n 0), ec 19 (.iconst 1) (.int 1), e0 20 (.aload_n 0), ef 21 (.getfield 21) .null 5 0, ef 24 (.getfield 30) .null 6 1]
theorem oX6_lacks_18 : okB ftX6 ctX6 cX6_lacks 27 bX6_lacks_18 = true := by decide +kernel
def bX6_lacks_30 : List Ent := [e0 30 .pop, ec 31 (.iconst 1) (.int 1)]
theorem oX6_lacks_30 : okB ftX6 ctX6 cX6_lacks 32 bX6_lacks_30 = true := by decide +kernel
theorem jX6_lacks_13 : decode cX6_lacks 13 = .ok (.if_icmp .lt 5, 3) := by decide +kernel
theorem jX6_lacks_17 : decode cX6_lacks 17 = .ok (.ireturn, 1) := by decide +kernel
theorem jX6_lacks_27 : decode cX6_lacks 27 = .ok (.invokevirtual 35, 3) := by decide +kernel
theorem jX6_lacks_32 : decode cX6_lacks 32 = .ok (.ireturn, 1) := by decide +kernel
def bX6_number_0 : List Ent := [ec 0 (.lconst 0) (.long 0), e0 1 (.lstore_n 2), ec 2 (.iconst 0) (.int 0), e0 3 (.istore 4)]
theorem oX6_number_0 : okB ftX6 ctX6 cX6_number 5 bX6_number_0 = true := by decide +kernel
def bX6_number_5 : List Ent := [e0 5 (.iload 4), e0 7 (.iload_n 1)]
theorem oX6_number_5 : okB ftX6 ctX6 cX6_number 8 bX6_number_5 = true := by decide +kernel
def bX6_number_11 : List Ent := [e0 11 (.aload_n 0), ef 12 (.getfield 21) .null 5 0, e0 15 (.aload_n 0), ef 16 (.getfield 9) .null 5 1]
theorem oX6_number_11 : okB ftX6 ctX6 cX6_number 19 bX6_number_11 = true := by decide +kernel
def bX6_number_25 : List Ent := [e0 25 (.lload_n 2), ec 26 (.bipush 8) (.int 8), e0 28 .lshl, e0 29 (.aload_n 0), ef 30 (.getfield 21) .null 5 0, ef 33 (.getfield 84) .null 6 0, e0 36 (.aload_n 0), ef 37 (.getfield 9) .null 5 1, e0 40 .iaload, e0 41 .i2l, e0 42 .lor, e0 43 (.lstore_n 2), e0 44 (.aload_n 0), e0 45 .dup, ef 46 (.getfield 9) .null 5 1, ec 49 (.iconst 1) (.int 1), e0 50 .iadd, ef 51 (.putfield 9) (.int 0) 5 1, ec 54 (.iinc 4 1) (.int 1), e0 57 (.goto (-52))]
theorem oX6_number_25 : okB ftX6 ctX6 cX6_number 5 bX6_number_25 = true := by decide +kernel
def bX6_number_60 : List Ent := [e0 60 (.lload_n 2)]
theorem oX6_number_60 : okB ftX6 ctX6 cX6_number 61 bX6_number_60 = true := by decide +kernel
theorem jX6_number_8 : decode cX6_number 8 = .ok (.if_icmp .ge 52, 3) := by decide +kernel
theorem jX6_number_19 : decode cX6_number 19 = .ok (.invokevirtual 81, 3) := by decide +kernel
theorem jX6_number_22 : decode cX6_number 22 = .ok (.ifCond .eq 38, 3) := by decide +kernel
theorem jX6_number_61 : decode cX6_number 61 = .ok (.lreturn, 1) := by decide +kernel
def bX6_refuse_0 : List Ent := [e0 0 (.aload_n 0), e0 1 (.iload_n 1), ef 2 (.putfield 15) (.int 0) 5 2, e0 5 (.aload_n 0), e0 6 (.iload_n 2), ef 7 (.putfield 18) (.int 0) 5 3, e0 10 .aconst_null]
theorem oX6_refuse_0 : okB ftX6 ctX6 cX6_refuse 11 bX6_refuse_0 = true := by decide +kernel
theorem jX6_refuse_11 : decode cX6_refuse 11 = .ok (.areturn, 1) := by decide +kernel
def bX7_init_0 : List Ent := [e0 0 (.aload_n 0)]
theorem oX7_init_0 : okB ftX7 ctX7 cX7_init 1 bX7_init_0 = true := by decide +kernel
def bX7_init_4 : List Ent := [e0 4 (.aload_n 0), ec 5 (.sipush 4000) (.int 4000)]
theorem oX7_init_4 : okB ftX7 ctX7 cX7_init 8 bX7_init_4 = true := by decide +kernel
def bX7_init_13 : List Ent := [e0 13 (.aload_n 0), ec 14 (.iconst 0) (.int 0), ef 15 (.putfield 15) (.int 0) 6 1]
theorem oX7_init_13 : okB ftX7 ctX7 cX7_init 18 bX7_init_13 = true := by decide +kernel
theorem jX7_init_1 : decode cX7_init 1 = .ok (.invokespecial 3, 3) := by decide +kernel
theorem jX7_init_8 : decode cX7_init 8 = .ok (.newarray .int, 2) := by decide +kernel
theorem jX7_init_10 : decode cX7_init 10 = .ok (.putfield 9, 3) := by decide +kernel
theorem jX7_init_18 : decode cX7_init 18 = .ok (.return_, 1) := by decide +kernel
def bX7_has_0 : List Ent := [e0 0 (.iload_n 1)]
theorem oX7_has_0 : okB ftX7 ctX7 cX7_has 1 bX7_has_0 = true := by decide +kernel
def bX7_has_4 : List Ent := [e0 4 (.iload_n 1), e0 5 (.aload_n 0), ef 6 (.getfield 15) .null 6 1]
theorem oX7_has_4 : okB ftX7 ctX7 cX7_has 9 bX7_has_4 = true := by decide +kernel
def bX7_has_12 : List Ent := [e0 12 (.iload_n 1), ec 13 (.sipush 4000) (.int 4000)]
theorem oX7_has_12 : okB ftX7 ctX7 cX7_has 16 bX7_has_12 = true := by decide +kernel
def bX7_has_19 : List Ent := [ec 19 (.iconst 1) (.int 1), e0 20 (.goto 4)]
theorem oX7_has_19 : okB ftX7 ctX7 cX7_has 24 bX7_has_19 = true := by decide +kernel
def bX7_has_23 : List Ent := [ec 23 (.iconst 0) (.int 0)]
theorem oX7_has_23 : okB ftX7 ctX7 cX7_has 24 bX7_has_23 = true := by decide +kernel
theorem jX7_has_1 : decode cX7_has 1 = .ok (.ifCond .lt 22, 3) := by decide +kernel
theorem jX7_has_9 : decode cX7_has 9 = .ok (.if_icmp .ge 14, 3) := by decide +kernel
theorem jX7_has_16 : decode cX7_has 16 = .ok (.if_icmp .ge 7, 3) := by decide +kernel
theorem jX7_has_24 : decode cX7_has 24 = .ok (.ireturn, 1) := by decide +kernel
def bX7_append_0 : List Ent := [e0 0 (.iload_n 1), ec 1 (.iconst 1) (.int 1), e0 2 .isub, e0 3 (.istore 4)]
theorem oX7_append_0 : okB ftX7 ctX7 cX7_append 5 bX7_append_0 = true := by decide +kernel
def bX7_append_5 : List Ent := [e0 5 (.iload 4)]
theorem oX7_append_5 : okB ftX7 ctX7 cX7_append 7 bX7_append_5 = true := by decide +kernel
def bX7_append_10 : List Ent := [e0 10 (.aload_n 0), ef 11 (.getfield 15) .null 6 1, ec 14 (.sipush 4000) (.int 4000)]
theorem oX7_append_10 : okB ftX7 ctX7 cX7_append 17 bX7_append_10 = true := by decide +kernel
def bX7_append_20 : List Ent := [e0 20 (.aload_n 0), ef 21 (.getfield 9) .null 6 0, e0 24 (.aload_n 0), ef 25 (.getfield 15) .null 6 1, e0 28 (.lload_n 2), ec 29 (.bipush 8) (.int 8), e0 31 (.iload 4), e0 33 .imul, e0 34 .lushr, e0 35 .l2i, ec 36 (.sipush 255) (.int 255), e0 39 .iand, e0 40 .iastore]
theorem oX7_append_20 : okB ftX7 ctX7 cX7_append 41 bX7_append_20 = true := by decide +kernel
def bX7_append_41 : List Ent := [e0 41 (.aload_n 0), e0 42 .dup, ef 43 (.getfield 15) .null 6 1, ec 46 (.iconst 1) (.int 1), e0 47 .iadd, ef 48 (.putfield 15) (.int 0) 6 1, ec 51 (.iinc 4 (-1)) (.int (-1)), e0 54 (.goto (-49))]
theorem oX7_append_41 : okB ftX7 ctX7 cX7_append 5 bX7_append_41 = true := by decide +kernel
theorem jX7_append_7 : decode cX7_append 7 = .ok (.ifCond .lt 50, 3) := by decide +kernel
theorem jX7_append_17 : decode cX7_append 17 = .ok (.if_icmp .ge 24, 3) := by decide +kernel
theorem jX7_append_57 : decode cX7_append 57 = .ok (.return_, 1) := by decide +kernel
def bX8_init_0 : List Ent := [e0 0 (.aload_n 0)]
theorem oX8_init_0 : okB ftX8 ctX8 cX8_init 1 bX8_init_0 = true := by decide +kernel
def bX8_init_4 : List Ent := [e0 4 (.aload_n 0), ec 5 (.bipush 8) (.int 8)]
theorem oX8_init_4 : okB ftX8 ctX8 cX8_init 7 bX8_init_4 = true := by decide +kernel
def bX8_init_13 : List Ent := [e0 13 (.aload_n 0)]
theorem oX8_init_13 : okB ftX8 ctX8 cX8_init 14 bX8_init_13 = true := by decide +kernel
def bX8_init_17 : List Ent := [e0 17 .dup]
theorem oX8_init_17 : okB ftX8 ctX8 cX8_init 18 bX8_init_17 = true := by decide +kernel
def bX8_init_24 : List Ent := [e0 24 (.aload_n 0)]
theorem oX8_init_24 : okB ftX8 ctX8 cX8_init 25 bX8_init_24 = true := by decide +kernel
def bX8_init_28 : List Ent := [e0 28 .dup]
theorem oX8_init_28 : okB ftX8 ctX8 cX8_init 29 bX8_init_28 = true := by decide +kernel
def bX8_init_32 : List Ent := [ef 32 (.putfield 25) .null 7 2, e0 35 (.aload_n 0), ec 36 (.iconst 0) (.int 0), ef 37 (.putfield 29) (.int 0) 7 3, e0 40 (.aload_n 0)]
theorem oX8_init_32 : okB ftX8 ctX8 cX8_init 41 bX8_init_32 = true := by decide +kernel
def bX8_init_44 : List Ent := [e0 44 .dup]
theorem oX8_init_44 : okB ftX8 ctX8 cX8_init 45 bX8_init_44 = true := by decide +kernel
def bX8_init_48 : List Ent := [ef 48 (.putfield 36) .null 7 4, e0 51 (.aload_n 0)]
theorem oX8_init_48 : okB ftX8 ctX8 cX8_init 52 bX8_init_48 = true := by decide +kernel
def bX8_init_55 : List Ent := [e0 55 .dup]
theorem oX8_init_55 : okB ftX8 ctX8 cX8_init 56 bX8_init_55 = true := by decide +kernel
def bX8_init_59 : List Ent := [ef 59 (.putfield 40) .null 7 5, e0 62 (.aload_n 0), e0 63 .aconst_null, ef 64 (.putfield 43) .null 7 6, e0 67 (.aload_n 0), ec 68 (.bipush (-2)) (.int (-2)), ef 70 (.putfield 46) (.int 0) 7 7, e0 73 (.aload_n 0), ec 74 (.lconst 0) (.long 0), ef 75 (.putfield 49) (.long 0) 7 8]
theorem oX8_init_59 : okB ftX8 ctX8 cX8_init 78 bX8_init_59 = true := by decide +kernel
theorem jX8_init_1 : decode cX8_init 1 = .ok (.invokespecial 1, 3) := by decide +kernel
theorem jX8_init_7 : decode cX8_init 7 = .ok (.anewarray 9, 3) := by decide +kernel
theorem jX8_init_10 : decode cX8_init 10 = .ok (.putfield 11, 3) := by decide +kernel
theorem jX8_init_14 : decode cX8_init 14 = .ok (.new 15, 3) := by decide +kernel
theorem jX8_init_18 : decode cX8_init 18 = .ok (.invokespecial 17, 3) := by decide +kernel
theorem jX8_init_21 : decode cX8_init 21 = .ok (.putfield 18, 3) := by decide +kernel
theorem jX8_init_25 : decode cX8_init 25 = .ok (.new 22, 3) := by decide +kernel
theorem jX8_init_29 : decode cX8_init 29 = .ok (.invokespecial 24, 3) := by decide +kernel
theorem jX8_init_41 : decode cX8_init 41 = .ok (.new 33, 3) := by decide +kernel
theorem jX8_init_45 : decode cX8_init 45 = .ok (.invokespecial 35, 3) := by decide +kernel
theorem jX8_init_52 : decode cX8_init 52 = .ok (.new 33, 3) := by decide +kernel
theorem jX8_init_56 : decode cX8_init 56 = .ok (.invokespecial 35, 3) := by decide +kernel
theorem jX8_init_78 : decode cX8_init 78 = .ok (.return_, 1) := by decide +kernel
def bX8_put_0 : List Ent := [e0 0 (.iload_n 1)]
theorem oX8_put_0 : okB ftX8 ctX8 cX8_put 1 bX8_put_0 = true := by decide +kernel
def bX8_put_7 : List Ent := [ec 7 (.iconst (-1)) (.int (-1))]
theorem oX8_put_7 : okB ftX8 ctX8 cX8_put 8 bX8_put_7 = true := by decide +kernel
def bX8_put_9 : List Ent := [e0 9 (.aload_n 0), ef 10 (.getfield 25) .null 7 2, e0 13 (.iload_n 1)]
theorem oX8_put_9 : okB ftX8 ctX8 cX8_put 14 bX8_put_9 = true := by decide +kernel
def bX8_put_17 : List Ent := [e0 17 (.iload_n 1)]
theorem oX8_put_17 : okB ftX8 ctX8 cX8_put 18 bX8_put_17 = true := by decide +kernel
def bX8_put_21 : List Ent := [e0 21 (.istore 4), e0 23 (.aload_n 0), ef 24 (.getfield 25) .null 7 2]
theorem oX8_put_21 : okB ftX8 ctX8 cX8_put 27 bX8_put_21 = true := by decide +kernel
def bX8_put_30 : List Ent := [e0 30 .dup, e0 31 (.iload_n 1), e0 32 (.lload_n 2)]
theorem oX8_put_30 : okB ftX8 ctX8 cX8_put 33 bX8_put_30 = true := by decide +kernel
def bX8_put_36 : List Ent := [ec 36 (.iconst 0) (.int 0)]
theorem oX8_put_36 : okB ftX8 ctX8 cX8_put 37 bX8_put_36 = true := by decide +kernel
def bX8_put_40 : List Ent := [e0 40 (.astore 5), e0 42 (.aload 5), ec 44 (.iconst 0) (.int 0), ec 45 (.ldc 74) (.int 65535), ec 47 (.iconst 0) (.int 0)]
theorem oX8_put_40 : okB ftX8 ctX8 cX8_put 48 bX8_put_40 = true := by decide +kernel
def bX8_put_51 : List Ent := [ec 51 (.sipush 300) (.int 300)]
theorem oX8_put_51 : okB ftX8 ctX8 cX8_put 54 bX8_put_51 = true := by decide +kernel
def bX8_put_57 : List Ent := [ec 57 (.bipush (-3)) (.int (-3))]
theorem oX8_put_57 : okB ftX8 ctX8 cX8_put 59 bX8_put_57 = true := by decide +kernel
def bX8_put_60 : List Ent := [e0 60 (.aload_n 0), e0 61 (.aload 5), ef 63 (.putfield 25) .null 7 2, e0 66 (.iload 4)]
theorem oX8_put_60 : okB ftX8 ctX8 cX8_put 68 bX8_put_60 = true := by decide +kernel
def bX8_put_71 : List Ent := [ec 71 (.iconst 0) (.int 0), e0 72 (.goto 4)]
theorem oX8_put_71 : okB ftX8 ctX8 cX8_put 76 bX8_put_71 = true := by decide +kernel
def bX8_put_75 : List Ent := [ec 75 (.iconst 1) (.int 1)]
theorem oX8_put_75 : okB ftX8 ctX8 cX8_put 76 bX8_put_75 = true := by decide +kernel
theorem jX8_put_1 : decode cX8_put 1 = .ok (.invokestatic 53, 3) := by decide +kernel
theorem jX8_put_4 : decode cX8_put 4 = .ok (.ifCond .ne 5, 3) := by decide +kernel
theorem jX8_put_8 : decode cX8_put 8 = .ok (.ireturn, 1) := by decide +kernel
theorem jX8_put_14 : decode cX8_put 14 = .ok (.invokestatic 57, 3) := by decide +kernel
theorem jX8_put_18 : decode cX8_put 18 = .ok (.invokestatic 61, 3) := by decide +kernel
theorem jX8_put_27 : decode cX8_put 27 = .ok (.new 65, 3) := by decide +kernel
theorem jX8_put_33 : decode cX8_put 33 = .ok (.invokespecial 67, 3) := by decide +kernel
theorem jX8_put_37 : decode cX8_put 37 = .ok (.invokestatic 70, 3) := by decide +kernel
theorem jX8_put_48 : decode cX8_put 48 = .ok (.invokestatic 75, 3) := by decide +kernel
theorem jX8_put_54 : decode cX8_put 54 = .ok (.if_icmp .le 6, 3) := by decide +kernel
theorem jX8_put_59 : decode cX8_put 59 = .ok (.ireturn, 1) := by decide +kernel
theorem jX8_put_68 : decode cX8_put 68 = .ok (.ifCond .eq 7, 3) := by decide +kernel
theorem jX8_put_76 : decode cX8_put 76 = .ok (.ireturn, 1) := by decide +kernel
def bX8_remove_0 : List Ent := [e0 0 (.iload_n 1)]
theorem oX8_remove_0 : okB ftX8 ctX8 cX8_remove 1 bX8_remove_0 = true := by decide +kernel
def bX8_remove_7 : List Ent := [ec 7 (.iconst (-1)) (.int (-1))]
theorem oX8_remove_7 : okB ftX8 ctX8 cX8_remove 8 bX8_remove_7 = true := by decide +kernel
def bX8_remove_9 : List Ent := [e0 9 (.aload_n 0), ef 10 (.getfield 25) .null 7 2, e0 13 (.iload_n 1)]
theorem oX8_remove_9 : okB ftX8 ctX8 cX8_remove 14 bX8_remove_9 = true := by decide +kernel
def bX8_remove_17 : List Ent := [e0 17 (.iload_n 1)]
theorem oX8_remove_17 : okB ftX8 ctX8 cX8_remove 18 bX8_remove_17 = true := by decide +kernel
def bX8_remove_24 : List Ent := [ec 24 (.iconst 0) (.int 0)]
theorem oX8_remove_24 : okB ftX8 ctX8 cX8_remove 25 bX8_remove_24 = true := by decide +kernel
def bX8_remove_26 : List Ent := [e0 26 (.aload_n 0), e0 27 (.aload_n 0), ef 28 (.getfield 25) .null 7 2, e0 31 (.iload_n 1), ec 32 (.iconst 0) (.int 0)]
theorem oX8_remove_26 : okB ftX8 ctX8 cX8_remove 33 bX8_remove_26 = true := by decide +kernel
def bX8_remove_36 : List Ent := [ef 36 (.putfield 25) .null 7 2, ec 39 (.iconst 1) (.int 1)]
theorem oX8_remove_36 : okB ftX8 ctX8 cX8_remove 40 bX8_remove_36 = true := by decide +kernel
theorem jX8_remove_1 : decode cX8_remove 1 = .ok (.invokestatic 53, 3) := by decide +kernel
theorem jX8_remove_4 : decode cX8_remove 4 = .ok (.ifCond .ne 5, 3) := by decide +kernel
theorem jX8_remove_8 : decode cX8_remove 8 = .ok (.ireturn, 1) := by decide +kernel
theorem jX8_remove_14 : decode cX8_remove 14 = .ok (.invokestatic 57, 3) := by decide +kernel
theorem jX8_remove_18 : decode cX8_remove 18 = .ok (.invokestatic 61, 3) := by decide +kernel
theorem jX8_remove_21 : decode cX8_remove 21 = .ok (.ifCond .ne 5, 3) := by decide +kernel
theorem jX8_remove_25 : decode cX8_remove 25 = .ok (.ireturn, 1) := by decide +kernel
theorem jX8_remove_33 : decode cX8_remove 33 = .ok (.invokestatic 79, 3) := by decide +kernel
theorem jX8_remove_40 : decode cX8_remove 40 = .ok (.ireturn, 1) := by decide +kernel
def bX8_keep_0 : List Ent := [e0 0 (.aload_n 0), ef 1 (.getfield 29) .null 7 3, ec 4 (.bipush 8) (.int 8)]
theorem oX8_keep_0 : okB ftX8 ctX8 cX8_keep 6 bX8_keep_0 = true := by decide +kernel
def bX8_keep_9 : List Ent := [ec 9 (.bipush (-3)) (.int (-3))]
theorem oX8_keep_9 : okB ftX8 ctX8 cX8_keep 11 bX8_keep_9 = true := by decide +kernel
def bX8_keep_12 : List Ent := [e0 12 (.aload_n 0), ef 13 (.getfield 11) .null 7 0, e0 16 (.aload_n 0), ef 17 (.getfield 29) .null 7 3, e0 20 (.aload_n 0), ef 21 (.getfield 25) .null 7 2]
theorem oX8_keep_12 : okB ftX8 ctX8 cX8_keep 24 bX8_keep_12 = true := by decide +kernel
def bX8_keep_25 : List Ent := [e0 25 (.aload_n 0), e0 26 .dup, ef 27 (.getfield 29) .null 7 3, ec 30 (.iconst 1) (.int 1), e0 31 .iadd, ef 32 (.putfield 29) (.int 0) 7 3, e0 35 (.aload_n 0), ef 36 (.getfield 29) .null 7 3, ec 39 (.iconst 1) (.int 1), e0 40 .isub]
theorem oX8_keep_25 : okB ftX8 ctX8 cX8_keep 41 bX8_keep_25 = true := by decide +kernel
theorem jX8_keep_6 : decode cX8_keep 6 = .ok (.if_icmp .lt 6, 3) := by decide +kernel
theorem jX8_keep_11 : decode cX8_keep 11 = .ok (.ireturn, 1) := by decide +kernel
theorem jX8_keep_24 : decode cX8_keep 24 = .ok (.aastore, 1) := by decide +kernel
theorem jX8_keep_41 : decode cX8_keep 41 = .ok (.ireturn, 1) := by decide +kernel
def bX8_root_0 : List Ent := [e0 0 (.aload_n 0), e0 1 (.iload_n 1)]
theorem oX8_root_0 : okB ftX8 ctX8 cX8_root 2 bX8_root_0 = true := by decide +kernel
def bX8_root_5 : List Ent := [e0 5 (.astore_n 2), e0 6 (.aload_n 2)]
theorem oX8_root_5 : okB ftX8 ctX8 cX8_root 7 bX8_root_5 = true := by decide +kernel
def bX8_root_10 : List Ent := [ec 10 (.lconst 0) (.long 0), e0 11 (.goto 7)]
theorem oX8_root_10 : okB ftX8 ctX8 cX8_root 18 bX8_root_10 = true := by decide +kernel
def bX8_root_14 : List Ent := [e0 14 (.aload_n 2)]
theorem oX8_root_14 : okB ftX8 ctX8 cX8_root 15 bX8_root_14 = true := by decide +kernel
theorem jX8_root_2 : decode cX8_root 2 = .ok (.invokevirtual 83, 3) := by decide +kernel
theorem jX8_root_7 : decode cX8_root 7 = .ok (.ifnonnull 7, 3) := by decide +kernel
theorem jX8_root_15 : decode cX8_root 15 = .ok (.getfield 87, 3) := by decide +kernel
theorem jX8_root_18 : decode cX8_root 18 = .ok (.lreturn, 1) := by decide +kernel
def bX8_leaves_0 : List Ent := [e0 0 (.aload_n 0), e0 1 (.iload_n 1)]
theorem oX8_leaves_0 : okB ftX8 ctX8 cX8_leaves 2 bX8_leaves_0 = true := by decide +kernel
def bX8_leaves_5 : List Ent := [e0 5 (.astore_n 2), e0 6 (.aload_n 2)]
theorem oX8_leaves_5 : okB ftX8 ctX8 cX8_leaves 7 bX8_leaves_5 = true := by decide +kernel
def bX8_leaves_10 : List Ent := [ec 10 (.iconst (-1)) (.int (-1)), e0 11 (.goto 11)]
theorem oX8_leaves_10 : okB ftX8 ctX8 cX8_leaves 22 bX8_leaves_10 = true := by decide +kernel
def bX8_leaves_14 : List Ent := [e0 14 (.aload_n 2), ec 15 (.iconst 0) (.int 0), ec 16 (.ldc 74) (.int 65535), ec 18 (.iconst 0) (.int 0)]
theorem oX8_leaves_14 : okB ftX8 ctX8 cX8_leaves 19 bX8_leaves_14 = true := by decide +kernel
theorem jX8_leaves_2 : decode cX8_leaves 2 = .ok (.invokevirtual 83, 3) := by decide +kernel
theorem jX8_leaves_7 : decode cX8_leaves 7 = .ok (.ifnonnull 7, 3) := by decide +kernel
theorem jX8_leaves_19 : decode cX8_leaves 19 = .ok (.invokestatic 75, 3) := by decide +kernel
theorem jX8_leaves_22 : decode cX8_leaves 22 = .ok (.ireturn, 1) := by decide +kernel
def bX8_want_0 : List Ent := [e0 0 (.iload_n 1), e0 1 (.iload_n 2)]
theorem oX8_want_0 : okB ftX8 ctX8 cX8_want 2 bX8_want_0 = true := by decide +kernel
def bX8_want_8 : List Ent := [ec 8 (.iconst (-1)) (.int (-1))]
theorem oX8_want_8 : okB ftX8 ctX8 cX8_want 9 bX8_want_8 = true := by decide +kernel
def bX8_want_10 : List Ent := [e0 10 (.aload_n 0), ef 11 (.getfield 18) .null 7 1, e0 14 (.iload_n 1), e0 15 (.iload_n 2)]
theorem oX8_want_10 : okB ftX8 ctX8 cX8_want 16 bX8_want_10 = true := by decide +kernel
def bX8_want_22 : List Ent := [e0 22 (.aload_n 0), ef 23 (.getfield 18) .null 7 1, ef 26 (.getfield 97) .null 4 2, e0 29 (.goto 5)]
theorem oX8_want_22 : okB ftX8 ctX8 cX8_want 34 bX8_want_22 = true := by decide +kernel
def bX8_want_32 : List Ent := [ec 32 (.bipush (-3)) (.int (-3))]
theorem oX8_want_32 : okB ftX8 ctX8 cX8_want 34 bX8_want_32 = true := by decide +kernel
theorem jX8_want_2 : decode cX8_want 2 = .ok (.invokestatic 90, 3) := by decide +kernel
theorem jX8_want_5 : decode cX8_want 5 = .ok (.ifCond .ne 5, 3) := by decide +kernel
theorem jX8_want_9 : decode cX8_want 9 = .ok (.ireturn, 1) := by decide +kernel
theorem jX8_want_16 : decode cX8_want 16 = .ok (.invokevirtual 94, 3) := by decide +kernel
theorem jX8_want_19 : decode cX8_want 19 = .ok (.ifCond .eq 13, 3) := by decide +kernel
theorem jX8_want_34 : decode cX8_want 34 = .ok (.ireturn, 1) := by decide +kernel
def bX8_forget_0 : List Ent := [e0 0 (.aload_n 0), ef 1 (.getfield 18) .null 7 1, ef 4 (.getfield 97) .null 4 2, e0 7 (.istore_n 1), e0 8 (.aload_n 0), ef 9 (.getfield 18) .null 7 1, ec 12 (.iconst 0) (.int 0), ef 13 (.putfield 97) (.int 0) 4 2, e0 16 (.iload_n 1)]
theorem oX8_forget_0 : okB ftX8 ctX8 cX8_forget 17 bX8_forget_0 = true := by decide +kernel
theorem jX8_forget_17 : decode cX8_forget 17 = .ok (.ireturn, 1) := by decide +kernel
def bX8_show_0 : List Ent := [e0 0 (.aload_n 0), e0 1 (.iload_n 1)]
theorem oX8_show_0 : okB ftX8 ctX8 cX8_show 2 bX8_show_0 = true := by decide +kernel
def bX8_show_5 : List Ent := [e0 5 (.astore_n 2), e0 6 (.aload_n 2)]
theorem oX8_show_5 : okB ftX8 ctX8 cX8_show 7 bX8_show_5 = true := by decide +kernel
def bX8_show_10 : List Ent := [ec 10 (.iconst (-1)) (.int (-1)), e0 11 (.goto 8)]
theorem oX8_show_10 : okB ftX8 ctX8 cX8_show 19 bX8_show_10 = true := by decide +kernel
def bX8_show_14 : List Ent := [e0 14 (.aload_n 0), e0 15 (.aload_n 2)]
theorem oX8_show_14 : okB ftX8 ctX8 cX8_show 16 bX8_show_14 = true := by decide +kernel
theorem jX8_show_2 : decode cX8_show 2 = .ok (.invokevirtual 83, 3) := by decide +kernel
theorem jX8_show_7 : decode cX8_show 7 = .ok (.ifnonnull 7, 3) := by decide +kernel
theorem jX8_show_16 : decode cX8_show 16 = .ok (.invokevirtual 100, 3) := by decide +kernel
theorem jX8_show_19 : decode cX8_show 19 = .ok (.ireturn, 1) := by decide +kernel
def bX8_pass_0 : List Ent := [e0 0 (.aload_n 0), ef 1 (.getfield 43) .null 7 6]
theorem oX8_pass_0 : okB ftX8 ctX8 cX8_pass 4 bX8_pass_0 = true := by decide +kernel
def bX8_pass_7 : List Ent := [ec 7 (.bipush (-2)) (.int (-2)), e0 9 (.goto 11)]
theorem oX8_pass_7 : okB ftX8 ctX8 cX8_pass 20 bX8_pass_7 = true := by decide +kernel
def bX8_pass_12 : List Ent := [e0 12 (.aload_n 0), e0 13 (.aload_n 0), ef 14 (.getfield 43) .null 7 6]
theorem oX8_pass_12 : okB ftX8 ctX8 cX8_pass 17 bX8_pass_12 = true := by decide +kernel
theorem jX8_pass_4 : decode cX8_pass 4 = .ok (.ifnonnull 8, 3) := by decide +kernel
theorem jX8_pass_17 : decode cX8_pass 17 = .ok (.invokevirtual 100, 3) := by decide +kernel
theorem jX8_pass_20 : decode cX8_pass 20 = .ok (.ireturn, 1) := by decide +kernel
def bX8_feed_0 : List Ent := [e0 0 (.iload_n 1), ec 1 (.iconst 1) (.int 1)]
theorem oX8_feed_0 : okB ftX8 ctX8 cX8_feed 2 bX8_feed_0 = true := by decide +kernel
def bX8_feed_5 : List Ent := [e0 5 (.iload_n 1), ec 6 (.bipush 8) (.int 8)]
theorem oX8_feed_5 : okB ftX8 ctX8 cX8_feed 8 bX8_feed_5 = true := by decide +kernel
def bX8_feed_11 : List Ent := [ec 11 (.iconst (-1)) (.int (-1))]
theorem oX8_feed_11 : okB ftX8 ctX8 cX8_feed 12 bX8_feed_11 = true := by decide +kernel
def bX8_feed_13 : List Ent := [e0 13 (.aload_n 0), ef 14 (.getfield 36) .null 7 4, ef 17 (.getfield 104) .null 6 1, e0 20 (.iload_n 1), e0 21 .iadd, ec 22 (.sipush 4000) (.int 4000)]
theorem oX8_feed_13 : okB ftX8 ctX8 cX8_feed 25 bX8_feed_13 = true := by decide +kernel
def bX8_feed_28 : List Ent := [ec 28 (.bipush (-3)) (.int (-3))]
theorem oX8_feed_28 : okB ftX8 ctX8 cX8_feed 30 bX8_feed_28 = true := by decide +kernel
def bX8_feed_31 : List Ent := [e0 31 (.aload_n 0), ef 32 (.getfield 36) .null 7 4, e0 35 (.iload_n 1), e0 36 (.lload_n 2)]
theorem oX8_feed_31 : okB ftX8 ctX8 cX8_feed 37 bX8_feed_31 = true := by decide +kernel
def bX8_feed_40 : List Ent := [e0 40 (.aload_n 0), ef 41 (.getfield 36) .null 7 4, ef 44 (.getfield 104) .null 6 1]
theorem oX8_feed_40 : okB ftX8 ctX8 cX8_feed 47 bX8_feed_40 = true := by decide +kernel
theorem jX8_feed_2 : decode cX8_feed 2 = .ok (.if_icmp .lt 9, 3) := by decide +kernel
theorem jX8_feed_8 : decode cX8_feed 8 = .ok (.if_icmp .le 5, 3) := by decide +kernel
theorem jX8_feed_12 : decode cX8_feed 12 = .ok (.ireturn, 1) := by decide +kernel
theorem jX8_feed_25 : decode cX8_feed 25 = .ok (.if_icmp .le 6, 3) := by decide +kernel
theorem jX8_feed_30 : decode cX8_feed 30 = .ok (.ireturn, 1) := by decide +kernel
theorem jX8_feed_37 : decode cX8_feed 37 = .ok (.invokevirtual 107, 3) := by decide +kernel
theorem jX8_feed_47 : decode cX8_feed 47 = .ok (.ireturn, 1) := by decide +kernel
def bX8_cut_0 : List Ent := [e0 0 (.iload_n 1)]
theorem oX8_cut_0 : okB ftX8 ctX8 cX8_cut 1 bX8_cut_0 = true := by decide +kernel
def bX8_cut_4 : List Ent := [e0 4 (.iload_n 1), e0 5 (.aload_n 0), ef 6 (.getfield 36) .null 7 4, ef 9 (.getfield 104) .null 6 1]
theorem oX8_cut_4 : okB ftX8 ctX8 cX8_cut 12 bX8_cut_4 = true := by decide +kernel
def bX8_cut_15 : List Ent := [ec 15 (.iconst (-1)) (.int (-1))]
theorem oX8_cut_15 : okB ftX8 ctX8 cX8_cut 16 bX8_cut_15 = true := by decide +kernel
def bX8_cut_17 : List Ent := [e0 17 (.aload_n 0), ef 18 (.getfield 36) .null 7 4, ef 21 (.getfield 104) .null 6 1, e0 24 (.iload_n 1), e0 25 .isub, e0 26 (.istore_n 2), e0 27 (.aload_n 0), ef 28 (.getfield 36) .null 7 4, e0 31 (.iload_n 1), ef 32 (.putfield 104) (.int 0) 6 1, e0 35 (.iload_n 2)]
theorem oX8_cut_17 : okB ftX8 ctX8 cX8_cut 36 bX8_cut_17 = true := by decide +kernel
theorem jX8_cut_1 : decode cX8_cut 1 = .ok (.ifCond .lt 14, 3) := by decide +kernel
theorem jX8_cut_12 : decode cX8_cut 12 = .ok (.if_icmp .le 5, 3) := by decide +kernel
theorem jX8_cut_16 : decode cX8_cut 16 = .ok (.ireturn, 1) := by decide +kernel
theorem jX8_cut_36 : decode cX8_cut 36 = .ok (.ireturn, 1) := by decide +kernel
def bX8_spoil_0 : List Ent := [e0 0 (.aload_n 0), ef 1 (.getfield 36) .null 7 4, e0 4 (.iload_n 1)]
theorem oX8_spoil_0 : okB ftX8 ctX8 cX8_spoil 5 bX8_spoil_0 = true := by decide +kernel
def bX8_spoil_11 : List Ent := [e0 11 (.iload_n 2)]
theorem oX8_spoil_11 : okB ftX8 ctX8 cX8_spoil 12 bX8_spoil_11 = true := by decide +kernel
def bX8_spoil_15 : List Ent := [e0 15 (.iload_n 2), ec 16 (.sipush 255) (.int 255)]
theorem oX8_spoil_15 : okB ftX8 ctX8 cX8_spoil 19 bX8_spoil_15 = true := by decide +kernel
def bX8_spoil_22 : List Ent := [ec 22 (.iconst (-1)) (.int (-1))]
theorem oX8_spoil_22 : okB ftX8 ctX8 cX8_spoil 23 bX8_spoil_22 = true := by decide +kernel
def bX8_spoil_24 : List Ent := [e0 24 (.aload_n 0), ef 25 (.getfield 36) .null 7 4, ef 28 (.getfield 113) .null 6 0, e0 31 (.iload_n 1), e0 32 .dup2, e0 33 .iaload, e0 34 (.iload_n 2), e0 35 .ixor, e0 36 .iastore, e0 37 (.aload_n 0), ef 38 (.getfield 36) .null 7 4, ef 41 (.getfield 113) .null 6 0, e0 44 (.iload_n 1), e0 45 .iaload]
theorem oX8_spoil_24 : okB ftX8 ctX8 cX8_spoil 46 bX8_spoil_24 = true := by decide +kernel
theorem jX8_spoil_5 : decode cX8_spoil 5 = .ok (.invokevirtual 110, 3) := by decide +kernel
theorem jX8_spoil_8 : decode cX8_spoil 8 = .ok (.ifCond .eq 14, 3) := by decide +kernel
theorem jX8_spoil_12 : decode cX8_spoil 12 = .ok (.ifCond .lt 10, 3) := by decide +kernel
theorem jX8_spoil_19 : decode cX8_spoil 19 = .ok (.if_icmp .le 5, 3) := by decide +kernel
theorem jX8_spoil_23 : decode cX8_spoil 23 = .ok (.ireturn, 1) := by decide +kernel
theorem jX8_spoil_46 : decode cX8_spoil 46 = .ok (.ireturn, 1) := by decide +kernel
def bX8_take_3 : List Ent := [e0 3 .dup, e0 4 (.aload_n 0), ef 5 (.getfield 36) .null 7 4]
theorem oX8_take_3 : okB ftX8 ctX8 cX8_take 8 bX8_take_3 = true := by decide +kernel
def bX8_take_11 : List Ent := [e0 11 (.astore_n 3), e0 12 (.aload_n 3), e0 13 (.lload_n 1)]
theorem oX8_take_11 : okB ftX8 ctX8 cX8_take 14 bX8_take_11 = true := by decide +kernel
def bX8_take_17 : List Ent := [e0 17 (.astore 4), e0 19 (.aload_n 0), e0 20 (.aload_n 3), ef 21 (.getfield 126) .null 5 3, ef 24 (.putfield 46) (.int 0) 7 7, e0 27 (.aload 4)]
theorem oX8_take_17 : okB ftX8 ctX8 cX8_take 29 bX8_take_17 = true := by decide +kernel
def bX8_take_32 : List Ent := [ec 32 (.bipush (-10)) (.int (-10)), e0 34 (.aload_n 3), ef 35 (.getfield 127) .null 5 2, e0 38 .isub]
theorem oX8_take_32 : okB ftX8 ctX8 cX8_take 39 bX8_take_32 = true := by decide +kernel
def bX8_take_40 : List Ent := [e0 40 (.aload_n 0), e0 41 (.aload 4), ef 43 (.putfield 43) .null 7 6, e0 46 (.aload 4), ec 48 (.iconst 0) (.int 0)]
theorem oX8_take_40 : okB ftX8 ctX8 cX8_take 49 bX8_take_40 = true := by decide +kernel
theorem jX8_take_0 : decode cX8_take 0 = .ok (.new 117, 3) := by decide +kernel
theorem jX8_take_8 : decode cX8_take 8 = .ok (.invokespecial 119, 3) := by decide +kernel
theorem jX8_take_14 : decode cX8_take 14 = .ok (.invokevirtual 122, 3) := by decide +kernel
theorem jX8_take_29 : decode cX8_take 29 = .ok (.ifnonnull 11, 3) := by decide +kernel
theorem jX8_take_39 : decode cX8_take 39 = .ok (.ireturn, 1) := by decide +kernel
theorem jX8_take_49 : decode cX8_take 49 = .ok (.invokestatic 130, 3) := by decide +kernel
theorem jX8_take_52 : decode cX8_take 52 = .ok (.ireturn, 1) := by decide +kernel
def bX8_place_0 : List Ent := [e0 0 (.aload_n 0), ef 1 (.getfield 46) .null 7 7]
theorem oX8_place_0 : okB ftX8 ctX8 cX8_place 4 bX8_place_0 = true := by decide +kernel
theorem jX8_place_4 : decode cX8_place 4 = .ok (.ireturn, 1) := by decide +kernel
def bX8_get_0 : List Ent := [e0 0 (.aload_n 0), ec 1 (.lconst 0) (.long 0), ef 2 (.putfield 49) (.long 0) 7 8, e0 5 (.iload_n 1)]
theorem oX8_get_0 : okB ftX8 ctX8 cX8_get 6 bX8_get_0 = true := by decide +kernel
def bX8_get_12 : List Ent := [ec 12 (.iconst (-1)) (.int (-1))]
theorem oX8_get_12 : okB ftX8 ctX8 cX8_get 13 bX8_get_12 = true := by decide +kernel
def bX8_get_14 : List Ent := [e0 14 (.aload_n 0), ef 15 (.getfield 43) .null 7 6]
theorem oX8_get_14 : okB ftX8 ctX8 cX8_get 18 bX8_get_14 = true := by decide +kernel
def bX8_get_21 : List Ent := [ec 21 (.bipush (-2)) (.int (-2))]
theorem oX8_get_21 : okB ftX8 ctX8 cX8_get 23 bX8_get_21 = true := by decide +kernel
def bX8_get_24 : List Ent := [e0 24 (.aload_n 0), ef 25 (.getfield 43) .null 7 6, e0 28 (.iload_n 1)]
theorem oX8_get_24 : okB ftX8 ctX8 cX8_get 29 bX8_get_24 = true := by decide +kernel
def bX8_get_32 : List Ent := [e0 32 (.astore_n 2), e0 33 (.aload_n 2)]
theorem oX8_get_32 : okB ftX8 ctX8 cX8_get 34 bX8_get_32 = true := by decide +kernel
def bX8_get_40 : List Ent := [ec 40 (.bipush (-4)) (.int (-4))]
theorem oX8_get_40 : okB ftX8 ctX8 cX8_get 42 bX8_get_40 = true := by decide +kernel
def bX8_get_43 : List Ent := [e0 43 (.aload_n 2)]
theorem oX8_get_43 : okB ftX8 ctX8 cX8_get 44 bX8_get_43 = true := by decide +kernel
def bX8_get_50 : List Ent := [e0 50 (.aload_n 2)]
theorem oX8_get_50 : okB ftX8 ctX8 cX8_get 51 bX8_get_50 = true := by decide +kernel
def bX8_get_54 : List Ent := [e0 54 (.astore_n 3), e0 55 (.aload_n 3)]
theorem oX8_get_54 : okB ftX8 ctX8 cX8_get 56 bX8_get_54 = true := by decide +kernel
def bX8_get_59 : List Ent := [e0 59 (.iload_n 1)]
theorem oX8_get_59 : okB ftX8 ctX8 cX8_get 60 bX8_get_59 = true := by decide +kernel
def bX8_get_63 : List Ent := [e0 63 (.aload_n 0), e0 64 (.aload_n 3)]
theorem oX8_get_63 : okB ftX8 ctX8 cX8_get 65 bX8_get_63 = true := by decide +kernel
def bX8_get_68 : List Ent := [ef 68 (.putfield 49) (.long 0) 7 8, ec 71 (.iconst 1) (.int 1)]
theorem oX8_get_68 : okB ftX8 ctX8 cX8_get 72 bX8_get_68 = true := by decide +kernel
def bX8_get_73 : List Ent := [ec 73 (.iconst 0) (.int 0)]
theorem oX8_get_73 : okB ftX8 ctX8 cX8_get 74 bX8_get_73 = true := by decide +kernel
theorem jX8_get_6 : decode cX8_get 6 = .ok (.invokestatic 53, 3) := by decide +kernel
theorem jX8_get_9 : decode cX8_get 9 = .ok (.ifCond .ne 5, 3) := by decide +kernel
theorem jX8_get_13 : decode cX8_get 13 = .ok (.ireturn, 1) := by decide +kernel
theorem jX8_get_18 : decode cX8_get 18 = .ok (.ifnonnull 6, 3) := by decide +kernel
theorem jX8_get_23 : decode cX8_get 23 = .ok (.ireturn, 1) := by decide +kernel
theorem jX8_get_29 : decode cX8_get 29 = .ok (.invokestatic 57, 3) := by decide +kernel
theorem jX8_get_34 : decode cX8_get 34 = .ok (.instanceof 134, 3) := by decide +kernel
theorem jX8_get_37 : decode cX8_get 37 = .ok (.ifCond .eq 6, 3) := by decide +kernel
theorem jX8_get_42 : decode cX8_get 42 = .ok (.ireturn, 1) := by decide +kernel
theorem jX8_get_44 : decode cX8_get 44 = .ok (.instanceof 65, 3) := by decide +kernel
theorem jX8_get_47 : decode cX8_get 47 = .ok (.ifCond .eq 26, 3) := by decide +kernel
theorem jX8_get_51 : decode cX8_get 51 = .ok (.checkcast 65, 3) := by decide +kernel
theorem jX8_get_56 : decode cX8_get 56 = .ok (.getfield 136, 3) := by decide +kernel
theorem jX8_get_60 : decode cX8_get 60 = .ok (.if_icmp .ne 13, 3) := by decide +kernel
theorem jX8_get_65 : decode cX8_get 65 = .ok (.getfield 139, 3) := by decide +kernel
theorem jX8_get_72 : decode cX8_get 72 = .ok (.ireturn, 1) := by decide +kernel
theorem jX8_get_74 : decode cX8_get 74 = .ok (.ireturn, 1) := by decide +kernel
def bX8_value_0 : List Ent := [e0 0 (.aload_n 0), ef 1 (.getfield 49) .null 7 8]
theorem oX8_value_0 : okB ftX8 ctX8 cX8_value 4 bX8_value_0 = true := by decide +kernel
theorem jX8_value_4 : decode cX8_value 4 = .ok (.lreturn, 1) := by decide +kernel
def bX8_write_0 : List Ent := [e0 0 (.iload_n 1)]
theorem oX8_write_0 : okB ftX8 ctX8 cX8_write 1 bX8_write_0 = true := by decide +kernel
def bX8_write_7 : List Ent := [ec 7 (.iconst (-1)) (.int (-1))]
theorem oX8_write_7 : okB ftX8 ctX8 cX8_write 8 bX8_write_7 = true := by decide +kernel
def bX8_write_9 : List Ent := [e0 9 (.aload_n 0), ef 10 (.getfield 43) .null 7 6]
theorem oX8_write_9 : okB ftX8 ctX8 cX8_write 13 bX8_write_9 = true := by decide +kernel
def bX8_write_16 : List Ent := [ec 16 (.bipush (-2)) (.int (-2))]
theorem oX8_write_16 : okB ftX8 ctX8 cX8_write 18 bX8_write_16 = true := by decide +kernel
def bX8_write_19 : List Ent := [e0 19 (.aload_n 0), ef 20 (.getfield 43) .null 7 6, e0 23 (.iload_n 1)]
theorem oX8_write_19 : okB ftX8 ctX8 cX8_write 24 bX8_write_19 = true := by decide +kernel
def bX8_write_27 : List Ent := [e0 27 (.astore 4), e0 29 (.aload 4)]
theorem oX8_write_27 : okB ftX8 ctX8 cX8_write 31 bX8_write_27 = true := by decide +kernel
def bX8_write_37 : List Ent := [ec 37 (.bipush (-4)) (.int (-4))]
theorem oX8_write_37 : okB ftX8 ctX8 cX8_write 39 bX8_write_37 = true := by decide +kernel
def bX8_write_40 : List Ent := [e0 40 (.aload_n 0), ef 41 (.getfield 43) .null 7 6]
theorem oX8_write_40 : okB ftX8 ctX8 cX8_write 44 bX8_write_40 = true := by decide +kernel
def bX8_write_47 : List Ent := [e0 47 .dup, e0 48 (.iload_n 1), e0 49 (.lload_n 2)]
theorem oX8_write_47 : okB ftX8 ctX8 cX8_write 50 bX8_write_47 = true := by decide +kernel
def bX8_write_53 : List Ent := [ec 53 (.iconst 0) (.int 0)]
theorem oX8_write_53 : okB ftX8 ctX8 cX8_write 54 bX8_write_53 = true := by decide +kernel
def bX8_write_57 : List Ent := [e0 57 (.astore 5), e0 59 (.aload 5), ec 61 (.iconst 0) (.int 0)]
theorem oX8_write_57 : okB ftX8 ctX8 cX8_write 62 bX8_write_57 = true := by decide +kernel
def bX8_write_65 : List Ent := [ec 65 (.sipush 700) (.int 700)]
theorem oX8_write_65 : okB ftX8 ctX8 cX8_write 68 bX8_write_65 = true := by decide +kernel
def bX8_write_71 : List Ent := [ec 71 (.bipush (-3)) (.int (-3))]
theorem oX8_write_71 : okB ftX8 ctX8 cX8_write 73 bX8_write_71 = true := by decide +kernel
def bX8_write_74 : List Ent := [e0 74 (.aload_n 0), e0 75 (.aload 5), ef 77 (.putfield 43) .null 7 6, e0 80 (.aload 4), e0 82 (.iload_n 1)]
theorem oX8_write_74 : okB ftX8 ctX8 cX8_write 83 bX8_write_74 = true := by decide +kernel
def bX8_write_89 : List Ent := [ec 89 (.iconst 0) (.int 0), e0 90 (.goto 4)]
theorem oX8_write_89 : okB ftX8 ctX8 cX8_write 94 bX8_write_89 = true := by decide +kernel
def bX8_write_93 : List Ent := [ec 93 (.iconst 1) (.int 1)]
theorem oX8_write_93 : okB ftX8 ctX8 cX8_write 94 bX8_write_93 = true := by decide +kernel
theorem jX8_write_1 : decode cX8_write 1 = .ok (.invokestatic 53, 3) := by decide +kernel
theorem jX8_write_4 : decode cX8_write 4 = .ok (.ifCond .ne 5, 3) := by decide +kernel
theorem jX8_write_8 : decode cX8_write 8 = .ok (.ireturn, 1) := by decide +kernel
theorem jX8_write_13 : decode cX8_write 13 = .ok (.ifnonnull 6, 3) := by decide +kernel
theorem jX8_write_18 : decode cX8_write 18 = .ok (.ireturn, 1) := by decide +kernel
theorem jX8_write_24 : decode cX8_write 24 = .ok (.invokestatic 57, 3) := by decide +kernel
theorem jX8_write_31 : decode cX8_write 31 = .ok (.instanceof 134, 3) := by decide +kernel
theorem jX8_write_34 : decode cX8_write 34 = .ok (.ifCond .eq 6, 3) := by decide +kernel
theorem jX8_write_39 : decode cX8_write 39 = .ok (.ireturn, 1) := by decide +kernel
theorem jX8_write_44 : decode cX8_write 44 = .ok (.new 65, 3) := by decide +kernel
theorem jX8_write_50 : decode cX8_write 50 = .ok (.invokespecial 67, 3) := by decide +kernel
theorem jX8_write_54 : decode cX8_write 54 = .ok (.invokestatic 70, 3) := by decide +kernel
theorem jX8_write_62 : decode cX8_write 62 = .ok (.invokestatic 130, 3) := by decide +kernel
theorem jX8_write_68 : decode cX8_write 68 = .ok (.if_icmp .le 6, 3) := by decide +kernel
theorem jX8_write_73 : decode cX8_write 73 = .ok (.ireturn, 1) := by decide +kernel
theorem jX8_write_83 : decode cX8_write 83 = .ok (.invokestatic 61, 3) := by decide +kernel
theorem jX8_write_86 : decode cX8_write 86 = .ok (.ifCond .eq 7, 3) := by decide +kernel
theorem jX8_write_94 : decode cX8_write 94 = .ok (.ireturn, 1) := by decide +kernel
def bX8_erase_0 : List Ent := [e0 0 (.iload_n 1)]
theorem oX8_erase_0 : okB ftX8 ctX8 cX8_erase 1 bX8_erase_0 = true := by decide +kernel
def bX8_erase_7 : List Ent := [ec 7 (.iconst (-1)) (.int (-1))]
theorem oX8_erase_7 : okB ftX8 ctX8 cX8_erase 8 bX8_erase_7 = true := by decide +kernel
def bX8_erase_9 : List Ent := [e0 9 (.aload_n 0), ef 10 (.getfield 43) .null 7 6]
theorem oX8_erase_9 : okB ftX8 ctX8 cX8_erase 13 bX8_erase_9 = true := by decide +kernel
def bX8_erase_16 : List Ent := [ec 16 (.bipush (-2)) (.int (-2))]
theorem oX8_erase_16 : okB ftX8 ctX8 cX8_erase 18 bX8_erase_16 = true := by decide +kernel
def bX8_erase_19 : List Ent := [e0 19 (.aload_n 0), ef 20 (.getfield 43) .null 7 6, e0 23 (.iload_n 1)]
theorem oX8_erase_19 : okB ftX8 ctX8 cX8_erase 24 bX8_erase_19 = true := by decide +kernel
def bX8_erase_27 : List Ent := [e0 27 (.astore_n 2), e0 28 (.aload_n 2)]
theorem oX8_erase_27 : okB ftX8 ctX8 cX8_erase 29 bX8_erase_27 = true := by decide +kernel
def bX8_erase_35 : List Ent := [ec 35 (.bipush (-4)) (.int (-4))]
theorem oX8_erase_35 : okB ftX8 ctX8 cX8_erase 37 bX8_erase_35 = true := by decide +kernel
def bX8_erase_38 : List Ent := [e0 38 (.aload_n 2), e0 39 (.iload_n 1)]
theorem oX8_erase_38 : okB ftX8 ctX8 cX8_erase 40 bX8_erase_38 = true := by decide +kernel
def bX8_erase_46 : List Ent := [ec 46 (.iconst 0) (.int 0)]
theorem oX8_erase_46 : okB ftX8 ctX8 cX8_erase 47 bX8_erase_46 = true := by decide +kernel
def bX8_erase_48 : List Ent := [e0 48 (.aload_n 0), e0 49 (.aload_n 0), ef 50 (.getfield 43) .null 7 6, e0 53 (.iload_n 1), ec 54 (.iconst 0) (.int 0)]
theorem oX8_erase_48 : okB ftX8 ctX8 cX8_erase 55 bX8_erase_48 = true := by decide +kernel
def bX8_erase_58 : List Ent := [ef 58 (.putfield 43) .null 7 6, ec 61 (.iconst 1) (.int 1)]
theorem oX8_erase_58 : okB ftX8 ctX8 cX8_erase 62 bX8_erase_58 = true := by decide +kernel
theorem jX8_erase_1 : decode cX8_erase 1 = .ok (.invokestatic 53, 3) := by decide +kernel
theorem jX8_erase_4 : decode cX8_erase 4 = .ok (.ifCond .ne 5, 3) := by decide +kernel
theorem jX8_erase_8 : decode cX8_erase 8 = .ok (.ireturn, 1) := by decide +kernel
theorem jX8_erase_13 : decode cX8_erase 13 = .ok (.ifnonnull 6, 3) := by decide +kernel
theorem jX8_erase_18 : decode cX8_erase 18 = .ok (.ireturn, 1) := by decide +kernel
theorem jX8_erase_24 : decode cX8_erase 24 = .ok (.invokestatic 57, 3) := by decide +kernel
theorem jX8_erase_29 : decode cX8_erase 29 = .ok (.instanceof 134, 3) := by decide +kernel
theorem jX8_erase_32 : decode cX8_erase 32 = .ok (.ifCond .eq 6, 3) := by decide +kernel
theorem jX8_erase_37 : decode cX8_erase 37 = .ok (.ireturn, 1) := by decide +kernel
theorem jX8_erase_40 : decode cX8_erase 40 = .ok (.invokestatic 61, 3) := by decide +kernel
theorem jX8_erase_43 : decode cX8_erase 43 = .ok (.ifCond .ne 5, 3) := by decide +kernel
theorem jX8_erase_47 : decode cX8_erase 47 = .ok (.ireturn, 1) := by decide +kernel
theorem jX8_erase_55 : decode cX8_erase 55 = .ok (.invokestatic 79, 3) := by decide +kernel
theorem jX8_erase_62 : decode cX8_erase 62 = .ok (.ireturn, 1) := by decide +kernel
def bX8_view_0 : List Ent := [e0 0 (.aload_n 0), ef 1 (.getfield 43) .null 7 6]
theorem oX8_view_0 : okB ftX8 ctX8 cX8_view 4 bX8_view_0 = true := by decide +kernel
def bX8_view_7 : List Ent := [ec 7 (.lconst 0) (.long 0), e0 8 (.goto 10)]
theorem oX8_view_7 : okB ftX8 ctX8 cX8_view 18 bX8_view_7 = true := by decide +kernel
def bX8_view_11 : List Ent := [e0 11 (.aload_n 0), ef 12 (.getfield 43) .null 7 6]
theorem oX8_view_11 : okB ftX8 ctX8 cX8_view 15 bX8_view_11 = true := by decide +kernel
theorem jX8_view_4 : decode cX8_view 4 = .ok (.ifnonnull 7, 3) := by decide +kernel
theorem jX8_view_15 : decode cX8_view 15 = .ok (.getfield 87, 3) := by decide +kernel
theorem jX8_view_18 : decode cX8_view 18 = .ok (.lreturn, 1) := by decide +kernel
def bX8_count_0 : List Ent := [e0 0 (.iload_n 1), e0 1 (.iload_n 2)]
theorem oX8_count_0 : okB ftX8 ctX8 cX8_count 2 bX8_count_0 = true := by decide +kernel
def bX8_count_8 : List Ent := [ec 8 (.iconst (-1)) (.int (-1))]
theorem oX8_count_8 : okB ftX8 ctX8 cX8_count 9 bX8_count_8 = true := by decide +kernel
def bX8_count_10 : List Ent := [e0 10 (.aload_n 0), ef 11 (.getfield 43) .null 7 6]
theorem oX8_count_10 : okB ftX8 ctX8 cX8_count 14 bX8_count_10 = true := by decide +kernel
def bX8_count_17 : List Ent := [ec 17 (.bipush (-2)) (.int (-2))]
theorem oX8_count_17 : okB ftX8 ctX8 cX8_count 19 bX8_count_17 = true := by decide +kernel
def bX8_count_20 : List Ent := [e0 20 (.aload_n 0), ef 21 (.getfield 43) .null 7 6, ec 24 (.iconst 0) (.int 0), ec 25 (.ldc 74) (.int 65535), e0 27 (.iload_n 1), e0 28 (.iload_n 2), ec 29 (.iconst 0) (.int 0)]
theorem oX8_count_20 : okB ftX8 ctX8 cX8_count 30 bX8_count_20 = true := by decide +kernel
def bX8_count_36 : List Ent := [ec 36 (.bipush (-4)) (.int (-4))]
theorem oX8_count_36 : okB ftX8 ctX8 cX8_count 38 bX8_count_36 = true := by decide +kernel
def bX8_count_39 : List Ent := [e0 39 (.aload_n 0), ef 40 (.getfield 43) .null 7 6, e0 43 (.iload_n 1), e0 44 (.iload_n 2), ec 45 (.iconst 0) (.int 0)]
theorem oX8_count_39 : okB ftX8 ctX8 cX8_count 46 bX8_count_39 = true := by decide +kernel
theorem jX8_count_2 : decode cX8_count 2 = .ok (.invokestatic 90, 3) := by decide +kernel
theorem jX8_count_5 : decode cX8_count 5 = .ok (.ifCond .ne 5, 3) := by decide +kernel
theorem jX8_count_9 : decode cX8_count 9 = .ok (.ireturn, 1) := by decide +kernel
theorem jX8_count_14 : decode cX8_count 14 = .ok (.ifnonnull 6, 3) := by decide +kernel
theorem jX8_count_19 : decode cX8_count 19 = .ok (.ireturn, 1) := by decide +kernel
theorem jX8_count_30 : decode cX8_count 30 = .ok (.invokestatic 142, 3) := by decide +kernel
theorem jX8_count_33 : decode cX8_count 33 = .ok (.ifCond .le 6, 3) := by decide +kernel
theorem jX8_count_38 : decode cX8_count 38 = .ok (.ireturn, 1) := by decide +kernel
theorem jX8_count_46 : decode cX8_count 46 = .ok (.invokestatic 75, 3) := by decide +kernel
theorem jX8_count_49 : decode cX8_count 49 = .ok (.ireturn, 1) := by decide +kernel
def bX8_next_0 : List Ent := [e0 0 (.iload_n 1)]
theorem oX8_next_0 : okB ftX8 ctX8 cX8_next 1 bX8_next_0 = true := by decide +kernel
def bX8_next_7 : List Ent := [ec 7 (.iconst (-1)) (.int (-1))]
theorem oX8_next_7 : okB ftX8 ctX8 cX8_next 8 bX8_next_7 = true := by decide +kernel
def bX8_next_9 : List Ent := [e0 9 (.aload_n 0), ef 10 (.getfield 43) .null 7 6]
theorem oX8_next_9 : okB ftX8 ctX8 cX8_next 13 bX8_next_9 = true := by decide +kernel
def bX8_next_16 : List Ent := [ec 16 (.bipush (-2)) (.int (-2)), e0 18 (.goto 14)]
theorem oX8_next_16 : okB ftX8 ctX8 cX8_next 32 bX8_next_16 = true := by decide +kernel
def bX8_next_21 : List Ent := [e0 21 (.aload_n 0), ef 22 (.getfield 43) .null 7 6, ec 25 (.ldc 74) (.int 65535), e0 27 (.iload_n 1), ec 28 (.iconst 0) (.int 0)]
theorem oX8_next_21 : okB ftX8 ctX8 cX8_next 29 bX8_next_21 = true := by decide +kernel
theorem jX8_next_1 : decode cX8_next 1 = .ok (.invokestatic 53, 3) := by decide +kernel
theorem jX8_next_4 : decode cX8_next 4 = .ok (.ifCond .ne 5, 3) := by decide +kernel
theorem jX8_next_8 : decode cX8_next 8 = .ok (.ireturn, 1) := by decide +kernel
theorem jX8_next_13 : decode cX8_next 13 = .ok (.ifnonnull 8, 3) := by decide +kernel
theorem jX8_next_29 : decode cX8_next 29 = .ok (.invokestatic 146, 3) := by decide +kernel
theorem jX8_next_32 : decode cX8_next 32 = .ok (.ireturn, 1) := by decide +kernel
def bX8_told_0 : List Ent := [e0 0 (.iload_n 1)]
theorem oX8_told_0 : okB ftX8 ctX8 cX8_told 1 bX8_told_0 = true := by decide +kernel
def bX8_told_40 : List Ent := [e0 40 (.aload_n 0), ef 41 (.getfield 36) .null 7 4, ef 44 (.getfield 104) .null 6 1]
theorem oX8_told_40 : okB ftX8 ctX8 cX8_told 47 bX8_told_40 = true := by decide +kernel
def bX8_told_48 : List Ent := [e0 48 (.aload_n 0), ef 49 (.getfield 18) .null 7 1, ef 52 (.getfield 97) .null 4 2]
theorem oX8_told_48 : okB ftX8 ctX8 cX8_told 55 bX8_told_48 = true := by decide +kernel
def bX8_told_56 : List Ent := [e0 56 (.aload_n 0), ef 57 (.getfield 29) .null 7 3]
theorem oX8_told_56 : okB ftX8 ctX8 cX8_told 60 bX8_told_56 = true := by decide +kernel
def bX8_told_61 : List Ent := [e0 61 (.aload_n 0), ef 62 (.getfield 43) .null 7 6, ec 65 (.iconst 0) (.int 0)]
theorem oX8_told_61 : okB ftX8 ctX8 cX8_told 66 bX8_told_61 = true := by decide +kernel
def bX8_told_70 : List Ent := [e0 70 (.aload_n 0), ef 71 (.getfield 43) .null 7 6, ec 74 (.iconst 0) (.int 0), ec 75 (.ldc 74) (.int 65535), ec 77 (.iconst 0) (.int 0), ec 78 (.ldc 74) (.int 65535), ec 80 (.iconst 0) (.int 0)]
theorem oX8_told_70 : okB ftX8 ctX8 cX8_told 81 bX8_told_70 = true := by decide +kernel
def bX8_told_85 : List Ent := [e0 85 (.aload_n 0), ef 86 (.getfield 25) .null 7 2, ec 89 (.iconst 0) (.int 0)]
theorem oX8_told_85 : okB ftX8 ctX8 cX8_told 90 bX8_told_85 = true := by decide +kernel
def bX8_told_94 : List Ent := [ec 94 (.iconst (-1)) (.int (-1))]
theorem oX8_told_94 : okB ftX8 ctX8 cX8_told 95 bX8_told_94 = true := by decide +kernel
theorem jX8_told_1 : decode cX8_told 1 = .ok (.tableswitch 93 0 5 #[39, 47, 55, 60, 69, 84], 39) := by decide +kernel
theorem jX8_told_47 : decode cX8_told 47 = .ok (.ireturn, 1) := by decide +kernel
theorem jX8_told_55 : decode cX8_told 55 = .ok (.ireturn, 1) := by decide +kernel
theorem jX8_told_60 : decode cX8_told 60 = .ok (.ireturn, 1) := by decide +kernel
theorem jX8_told_66 : decode cX8_told 66 = .ok (.invokestatic 130, 3) := by decide +kernel
theorem jX8_told_69 : decode cX8_told 69 = .ok (.ireturn, 1) := by decide +kernel
theorem jX8_told_81 : decode cX8_told 81 = .ok (.invokestatic 142, 3) := by decide +kernel
theorem jX8_told_84 : decode cX8_told 84 = .ok (.ireturn, 1) := by decide +kernel
theorem jX8_told_90 : decode cX8_told 90 = .ok (.invokestatic 149, 3) := by decide +kernel
theorem jX8_told_93 : decode cX8_told 93 = .ok (.ireturn, 1) := by decide +kernel
theorem jX8_told_95 : decode cX8_told 95 = .ok (.ireturn, 1) := by decide +kernel
def bX8_octet_0 : List Ent := [e0 0 (.aload_n 0), ef 1 (.getfield 36) .null 7 4, e0 4 (.iload_n 1)]
theorem oX8_octet_0 : okB ftX8 ctX8 cX8_octet 5 bX8_octet_0 = true := by decide +kernel
def bX8_octet_11 : List Ent := [e0 11 (.aload_n 0), ef 12 (.getfield 36) .null 7 4, ef 15 (.getfield 113) .null 6 0, e0 18 (.iload_n 1), e0 19 .iaload, e0 20 (.goto 4)]
theorem oX8_octet_11 : okB ftX8 ctX8 cX8_octet 24 bX8_octet_11 = true := by decide +kernel
def bX8_octet_23 : List Ent := [ec 23 (.iconst (-1)) (.int (-1))]
theorem oX8_octet_23 : okB ftX8 ctX8 cX8_octet 24 bX8_octet_23 = true := by decide +kernel
theorem jX8_octet_5 : decode cX8_octet 5 = .ok (.invokevirtual 110, 3) := by decide +kernel
theorem jX8_octet_8 : decode cX8_octet 8 = .ok (.ifCond .eq 15, 3) := by decide +kernel
theorem jX8_octet_24 : decode cX8_octet 24 = .ok (.ireturn, 1) := by decide +kernel
def bX8_isPath_0 : List Ent := [e0 0 (.iload_n 0)]
theorem oX8_isPath_0 : okB ftX8 ctX8 cX8_isPath 1 bX8_isPath_0 = true := by decide +kernel
def bX8_isPath_4 : List Ent := [e0 4 (.iload_n 0), ec 5 (.ldc 74) (.int 65535)]
theorem oX8_isPath_4 : okB ftX8 ctX8 cX8_isPath 7 bX8_isPath_4 = true := by decide +kernel
def bX8_isPath_10 : List Ent := [ec 10 (.iconst 1) (.int 1), e0 11 (.goto 4)]
theorem oX8_isPath_10 : okB ftX8 ctX8 cX8_isPath 15 bX8_isPath_10 = true := by decide +kernel
def bX8_isPath_14 : List Ent := [ec 14 (.iconst 0) (.int 0)]
theorem oX8_isPath_14 : okB ftX8 ctX8 cX8_isPath 15 bX8_isPath_14 = true := by decide +kernel
theorem jX8_isPath_1 : decode cX8_isPath 1 = .ok (.ifCond .lt 13, 3) := by decide +kernel
theorem jX8_isPath_7 : decode cX8_isPath 7 = .ok (.if_icmp .gt 7, 3) := by decide +kernel
theorem jX8_isPath_15 : decode cX8_isPath 15 = .ok (.ireturn, 1) := by decide +kernel
def bX8_isRange_0 : List Ent := [e0 0 (.iload_n 0)]
theorem oX8_isRange_0 : okB ftX8 ctX8 cX8_isRange 1 bX8_isRange_0 = true := by decide +kernel
def bX8_isRange_7 : List Ent := [e0 7 (.iload_n 1)]
theorem oX8_isRange_7 : okB ftX8 ctX8 cX8_isRange 8 bX8_isRange_7 = true := by decide +kernel
def bX8_isRange_14 : List Ent := [e0 14 (.iload_n 0), e0 15 (.iload_n 1)]
theorem oX8_isRange_14 : okB ftX8 ctX8 cX8_isRange 16 bX8_isRange_14 = true := by decide +kernel
def bX8_isRange_19 : List Ent := [ec 19 (.iconst 1) (.int 1), e0 20 (.goto 4)]
theorem oX8_isRange_19 : okB ftX8 ctX8 cX8_isRange 24 bX8_isRange_19 = true := by decide +kernel
def bX8_isRange_23 : List Ent := [ec 23 (.iconst 0) (.int 0)]
theorem oX8_isRange_23 : okB ftX8 ctX8 cX8_isRange 24 bX8_isRange_23 = true := by decide +kernel
theorem jX8_isRange_1 : decode cX8_isRange 1 = .ok (.invokestatic 53, 3) := by decide +kernel
theorem jX8_isRange_4 : decode cX8_isRange 4 = .ok (.ifCond .eq 19, 3) := by decide +kernel
theorem jX8_isRange_8 : decode cX8_isRange 8 = .ok (.invokestatic 53, 3) := by decide +kernel
theorem jX8_isRange_11 : decode cX8_isRange 11 = .ok (.ifCond .eq 12, 3) := by decide +kernel
theorem jX8_isRange_16 : decode cX8_isRange 16 = .ok (.if_icmp .gt 7, 3) := by decide +kernel
theorem jX8_isRange_24 : decode cX8_isRange 24 = .ok (.ireturn, 1) := by decide +kernel
def bX8_isHigh_0 : List Ent := [e0 0 (.iload_n 0), ec 1 (.bipush 15) (.int 15), e0 3 (.iload_n 1), e0 4 .isub, e0 5 .iushr, ec 6 (.iconst 1) (.int 1), e0 7 .iand, ec 8 (.iconst 1) (.int 1)]
theorem oX8_isHigh_0 : okB ftX8 ctX8 cX8_isHigh 9 bX8_isHigh_0 = true := by decide +kernel
def bX8_isHigh_12 : List Ent := [ec 12 (.iconst 1) (.int 1), e0 13 (.goto 4)]
theorem oX8_isHigh_12 : okB ftX8 ctX8 cX8_isHigh 17 bX8_isHigh_12 = true := by decide +kernel
def bX8_isHigh_16 : List Ent := [ec 16 (.iconst 0) (.int 0)]
theorem oX8_isHigh_16 : okB ftX8 ctX8 cX8_isHigh 17 bX8_isHigh_16 = true := by decide +kernel
theorem jX8_isHigh_9 : decode cX8_isHigh 9 = .ok (.if_icmp .ne 7, 3) := by decide +kernel
theorem jX8_isHigh_17 : decode cX8_isHigh 17 = .ok (.ireturn, 1) := by decide +kernel
def bX8_stemOf_0 : List Ent := [e0 0 (.iload_n 0), ec 1 (.bipush 16) (.int 16), e0 3 (.iload_n 1), e0 4 .isub, e0 5 .iushr, ec 6 (.bipush 16) (.int 16), e0 8 (.iload_n 1), e0 9 .isub, e0 10 .ishl]
theorem oX8_stemOf_0 : okB ftX8 ctX8 cX8_stemOf 11 bX8_stemOf_0 = true := by decide +kernel
theorem jX8_stemOf_11 : decode cX8_stemOf 11 = .ok (.ireturn, 1) := by decide +kernel
def bX8_firstOtherBit_0 : List Ent := [ec 0 (.iconst 0) (.int 0), e0 1 (.istore_n 2)]
theorem oX8_firstOtherBit_0 : okB ftX8 ctX8 cX8_firstOtherBit 2 bX8_firstOtherBit_0 = true := by decide +kernel
def bX8_firstOtherBit_2 : List Ent := [e0 2 (.iload_n 2), ec 3 (.bipush 16) (.int 16)]
theorem oX8_firstOtherBit_2 : okB ftX8 ctX8 cX8_firstOtherBit 5 bX8_firstOtherBit_2 = true := by decide +kernel
def bX8_firstOtherBit_8 : List Ent := [e0 8 (.iload_n 0), e0 9 (.iload_n 2)]
theorem oX8_firstOtherBit_8 : okB ftX8 ctX8 cX8_firstOtherBit 10 bX8_firstOtherBit_8 = true := by decide +kernel
def bX8_firstOtherBit_13 : List Ent := [e0 13 (.iload_n 1), e0 14 (.iload_n 2)]
theorem oX8_firstOtherBit_13 : okB ftX8 ctX8 cX8_firstOtherBit 15 bX8_firstOtherBit_13 = true := by decide +kernel
def bX8_firstOtherBit_21 : List Ent := [ec 21 (.iinc 2 1) (.int 1), e0 24 (.goto (-22))]
theorem oX8_firstOtherBit_21 : okB ftX8 ctX8 cX8_firstOtherBit 2 bX8_firstOtherBit_21 = true := by decide +kernel
def bX8_firstOtherBit_27 : List Ent := [e0 27 (.iload_n 2)]
theorem oX8_firstOtherBit_27 : okB ftX8 ctX8 cX8_firstOtherBit 28 bX8_firstOtherBit_27 = true := by decide +kernel
theorem jX8_firstOtherBit_5 : decode cX8_firstOtherBit 5 = .ok (.if_icmp .ge 22, 3) := by decide +kernel
theorem jX8_firstOtherBit_10 : decode cX8_firstOtherBit 10 = .ok (.invokestatic 152, 3) := by decide +kernel
theorem jX8_firstOtherBit_15 : decode cX8_firstOtherBit 15 = .ok (.invokestatic 152, 3) := by decide +kernel
theorem jX8_firstOtherBit_18 : decode cX8_firstOtherBit 18 = .ok (.if_icmp .ne 9, 3) := by decide +kernel
theorem jX8_firstOtherBit_28 : decode cX8_firstOtherBit 28 = .ok (.ireturn, 1) := by decide +kernel
def bX8_mix_0 : List Ent := [e0 0 (.lload_n 0), e0 1 (.lload_n 2), e0 2 .lxor, ec 3 (.ldc2_w 155) (.long (-7046029254386353131)), e0 6 .lmul, e0 7 (.lstore 4), e0 9 (.lload 4), e0 11 (.lload 4), ec 13 (.bipush 29) (.int 29), e0 15 .lushr, e0 16 .lxor, ec 17 (.ldc2_w 157) (.long (-4658895280553007687)), e0 20 .lmul, e0 21 (.lstore 4), e0 23 (.lload 4), e0 25 (.lload 4), ec 27 (.bipush 32) (.int 32), e0 29 .lushr, e0 30 .lxor]
theorem oX8_mix_0 : okB ftX8 ctX8 cX8_mix 31 bX8_mix_0 = true := by decide +kernel
theorem jX8_mix_31 : decode cX8_mix 31 = .ok (.lreturn, 1) := by decide +kernel
def bX8_emptyDigest_0 : List Ent := [ec 0 (.lconst 0) (.long 0), ec 1 (.ldc2_w 159) (.long (3))]
theorem oX8_emptyDigest_0 : okB ftX8 ctX8 cX8_emptyDigest 4 bX8_emptyDigest_0 = true := by decide +kernel
theorem jX8_emptyDigest_4 : decode cX8_emptyDigest 4 = .ok (.invokestatic 161, 3) := by decide +kernel
theorem jX8_emptyDigest_7 : decode cX8_emptyDigest 7 = .ok (.lreturn, 1) := by decide +kernel
def bX8_leafDigest_0 : List Ent := [ec 0 (.lconst 0) (.long 0), ec 1 (.lconst 1) (.long 1)]
theorem oX8_leafDigest_0 : okB ftX8 ctX8 cX8_leafDigest 2 bX8_leafDigest_0 = true := by decide +kernel
def bX8_leafDigest_5 : List Ent := [e0 5 (.iload_n 0), e0 6 .i2l]
theorem oX8_leafDigest_5 : okB ftX8 ctX8 cX8_leafDigest 7 bX8_leafDigest_5 = true := by decide +kernel
def bX8_leafDigest_10 : List Ent := [e0 10 (.lload_n 1)]
theorem oX8_leafDigest_10 : okB ftX8 ctX8 cX8_leafDigest 11 bX8_leafDigest_10 = true := by decide +kernel
theorem jX8_leafDigest_2 : decode cX8_leafDigest 2 = .ok (.invokestatic 161, 3) := by decide +kernel
theorem jX8_leafDigest_7 : decode cX8_leafDigest 7 = .ok (.invokestatic 161, 3) := by decide +kernel
theorem jX8_leafDigest_11 : decode cX8_leafDigest 11 = .ok (.invokestatic 161, 3) := by decide +kernel
theorem jX8_leafDigest_14 : decode cX8_leafDigest 14 = .ok (.lreturn, 1) := by decide +kernel
def bX8_forkDigest_0 : List Ent := [ec 0 (.lconst 0) (.long 0), ec 1 (.ldc2_w 165) (.long (2))]
theorem oX8_forkDigest_0 : okB ftX8 ctX8 cX8_forkDigest 4 bX8_forkDigest_0 = true := by decide +kernel
def bX8_forkDigest_7 : List Ent := [e0 7 (.iload_n 0), e0 8 .i2l]
theorem oX8_forkDigest_7 : okB ftX8 ctX8 cX8_forkDigest 9 bX8_forkDigest_7 = true := by decide +kernel
def bX8_forkDigest_12 : List Ent := [e0 12 (.iload_n 1), e0 13 .i2l]
theorem oX8_forkDigest_12 : okB ftX8 ctX8 cX8_forkDigest 14 bX8_forkDigest_12 = true := by decide +kernel
def bX8_forkDigest_17 : List Ent := [e0 17 (.lload_n 2)]
theorem oX8_forkDigest_17 : okB ftX8 ctX8 cX8_forkDigest 18 bX8_forkDigest_17 = true := by decide +kernel
def bX8_forkDigest_21 : List Ent := [e0 21 (.lload 4)]
theorem oX8_forkDigest_21 : okB ftX8 ctX8 cX8_forkDigest 23 bX8_forkDigest_21 = true := by decide +kernel
theorem jX8_forkDigest_4 : decode cX8_forkDigest 4 = .ok (.invokestatic 161, 3) := by decide +kernel
theorem jX8_forkDigest_9 : decode cX8_forkDigest 9 = .ok (.invokestatic 161, 3) := by decide +kernel
theorem jX8_forkDigest_14 : decode cX8_forkDigest 14 = .ok (.invokestatic 161, 3) := by decide +kernel
theorem jX8_forkDigest_18 : decode cX8_forkDigest 18 = .ok (.invokestatic 161, 3) := by decide +kernel
theorem jX8_forkDigest_23 : decode cX8_forkDigest 23 = .ok (.invokestatic 161, 3) := by decide +kernel
theorem jX8_forkDigest_26 : decode cX8_forkDigest 26 = .ok (.lreturn, 1) := by decide +kernel
def bX8_wholeOf_0 : List Ent := [e0 0 (.iload_n 1), ec 1 (.iconst (-1)) (.int (-1))]
theorem oX8_wholeOf_0 : okB ftX8 ctX8 cX8_wholeOf 2 bX8_wholeOf_0 = true := by decide +kernel
def bX8_wholeOf_5 : List Ent := [e0 5 (.aload_n 0), ef 6 (.getfield 25) .null 7 2]
theorem oX8_wholeOf_5 : okB ftX8 ctX8 cX8_wholeOf 9 bX8_wholeOf_5 = true := by decide +kernel
def bX8_wholeOf_10 : List Ent := [e0 10 (.iload_n 1)]
theorem oX8_wholeOf_10 : okB ftX8 ctX8 cX8_wholeOf 11 bX8_wholeOf_10 = true := by decide +kernel
def bX8_wholeOf_14 : List Ent := [e0 14 (.iload_n 1), e0 15 (.aload_n 0), ef 16 (.getfield 29) .null 7 3]
theorem oX8_wholeOf_14 : okB ftX8 ctX8 cX8_wholeOf 19 bX8_wholeOf_14 = true := by decide +kernel
def bX8_wholeOf_22 : List Ent := [e0 22 (.aload_n 0), ef 23 (.getfield 11) .null 7 0, e0 26 (.iload_n 1)]
theorem oX8_wholeOf_22 : okB ftX8 ctX8 cX8_wholeOf 27 bX8_wholeOf_22 = true := by decide +kernel
def bX8_wholeOf_28 : List Ent := [e0 28 (.goto 4)]
theorem oX8_wholeOf_28 : okB ftX8 ctX8 cX8_wholeOf 32 bX8_wholeOf_28 = true := by decide +kernel
def bX8_wholeOf_31 : List Ent := [e0 31 .aconst_null]
theorem oX8_wholeOf_31 : okB ftX8 ctX8 cX8_wholeOf 32 bX8_wholeOf_31 = true := by decide +kernel
theorem jX8_wholeOf_2 : decode cX8_wholeOf 2 = .ok (.if_icmp .ne 8, 3) := by decide +kernel
theorem jX8_wholeOf_9 : decode cX8_wholeOf 9 = .ok (.areturn, 1) := by decide +kernel
theorem jX8_wholeOf_11 : decode cX8_wholeOf 11 = .ok (.ifCond .lt 20, 3) := by decide +kernel
theorem jX8_wholeOf_19 : decode cX8_wholeOf 19 = .ok (.if_icmp .ge 12, 3) := by decide +kernel
theorem jX8_wholeOf_27 : decode cX8_wholeOf 27 = .ok (.aaload, 1) := by decide +kernel
theorem jX8_wholeOf_32 : decode cX8_wholeOf 32 = .ok (.areturn, 1) := by decide +kernel
def bX8_endOfWay_0 : List Ent := [e0 0 (.aload_n 0), e0 1 (.astore_n 2), ec 2 (.iconst 0) (.int 0), e0 3 (.istore_n 3)]
theorem oX8_endOfWay_0 : okB ftX8 ctX8 cX8_endOfWay 4 bX8_endOfWay_0 = true := by decide +kernel
def bX8_endOfWay_4 : List Ent := [e0 4 (.iload_n 3), ec 5 (.bipush 16) (.int 16)]
theorem oX8_endOfWay_4 : okB ftX8 ctX8 cX8_endOfWay 7 bX8_endOfWay_4 = true := by decide +kernel
def bX8_endOfWay_10 : List Ent := [e0 10 (.aload_n 2)]
theorem oX8_endOfWay_10 : okB ftX8 ctX8 cX8_endOfWay 11 bX8_endOfWay_10 = true := by decide +kernel
def bX8_endOfWay_17 : List Ent := [e0 17 (.aload_n 2)]
theorem oX8_endOfWay_17 : okB ftX8 ctX8 cX8_endOfWay 18 bX8_endOfWay_17 = true := by decide +kernel
def bX8_endOfWay_21 : List Ent := [e0 21 (.astore 4), e0 23 (.aload 4), e0 25 (.iload_n 1)]
theorem oX8_endOfWay_21 : okB ftX8 ctX8 cX8_endOfWay 26 bX8_endOfWay_21 = true := by decide +kernel
def bX8_endOfWay_32 : List Ent := [e0 32 (.aload 4), e0 34 (.iload_n 1)]
theorem oX8_endOfWay_32 : okB ftX8 ctX8 cX8_endOfWay 35 bX8_endOfWay_32 = true := by decide +kernel
def bX8_endOfWay_38 : List Ent := [e0 38 (.astore_n 2), e0 39 (.goto 5)]
theorem oX8_endOfWay_38 : okB ftX8 ctX8 cX8_endOfWay 44 bX8_endOfWay_38 = true := by decide +kernel
def bX8_endOfWay_42 : List Ent := [e0 42 (.aload_n 2)]
theorem oX8_endOfWay_42 : okB ftX8 ctX8 cX8_endOfWay 43 bX8_endOfWay_42 = true := by decide +kernel
def bX8_endOfWay_44 : List Ent := [ec 44 (.iinc 3 1) (.int 1), e0 47 (.goto (-43))]
theorem oX8_endOfWay_44 : okB ftX8 ctX8 cX8_endOfWay 4 bX8_endOfWay_44 = true := by decide +kernel
def bX8_endOfWay_50 : List Ent := [e0 50 (.aload_n 2)]
theorem oX8_endOfWay_50 : okB ftX8 ctX8 cX8_endOfWay 51 bX8_endOfWay_50 = true := by decide +kernel
theorem jX8_endOfWay_7 : decode cX8_endOfWay 7 = .ok (.if_icmp .ge 43, 3) := by decide +kernel
theorem jX8_endOfWay_11 : decode cX8_endOfWay 11 = .ok (.instanceof 167, 3) := by decide +kernel
theorem jX8_endOfWay_14 : decode cX8_endOfWay 14 = .ok (.ifCond .eq 28, 3) := by decide +kernel
theorem jX8_endOfWay_18 : decode cX8_endOfWay 18 = .ok (.checkcast 167, 3) := by decide +kernel
theorem jX8_endOfWay_26 : decode cX8_endOfWay 26 = .ok (.invokevirtual 169, 3) := by decide +kernel
theorem jX8_endOfWay_29 : decode cX8_endOfWay 29 = .ok (.ifCond .eq 13, 3) := by decide +kernel
theorem jX8_endOfWay_35 : decode cX8_endOfWay 35 = .ok (.invokevirtual 172, 3) := by decide +kernel
theorem jX8_endOfWay_43 : decode cX8_endOfWay 43 = .ok (.areturn, 1) := by decide +kernel
theorem jX8_endOfWay_51 : decode cX8_endOfWay 51 = .ok (.areturn, 1) := by decide +kernel
def bX8_isLeafOf_0 : List Ent := [e0 0 (.aload_n 0)]
theorem oX8_isLeafOf_0 : okB ftX8 ctX8 cX8_isLeafOf 1 bX8_isLeafOf_0 = true := by decide +kernel
def bX8_isLeafOf_7 : List Ent := [e0 7 (.aload_n 0)]
theorem oX8_isLeafOf_7 : okB ftX8 ctX8 cX8_isLeafOf 8 bX8_isLeafOf_7 = true := by decide +kernel
def bX8_isLeafOf_11 : List Ent := [e0 11 (.astore_n 2), e0 12 (.aload_n 2)]
theorem oX8_isLeafOf_11 : okB ftX8 ctX8 cX8_isLeafOf 13 bX8_isLeafOf_11 = true := by decide +kernel
def bX8_isLeafOf_16 : List Ent := [e0 16 (.iload_n 1)]
theorem oX8_isLeafOf_16 : okB ftX8 ctX8 cX8_isLeafOf 17 bX8_isLeafOf_16 = true := by decide +kernel
def bX8_isLeafOf_20 : List Ent := [ec 20 (.iconst 1) (.int 1), e0 21 (.goto 4)]
theorem oX8_isLeafOf_20 : okB ftX8 ctX8 cX8_isLeafOf 25 bX8_isLeafOf_20 = true := by decide +kernel
def bX8_isLeafOf_24 : List Ent := [ec 24 (.iconst 0) (.int 0)]
theorem oX8_isLeafOf_24 : okB ftX8 ctX8 cX8_isLeafOf 25 bX8_isLeafOf_24 = true := by decide +kernel
theorem jX8_isLeafOf_1 : decode cX8_isLeafOf 1 = .ok (.instanceof 65, 3) := by decide +kernel
theorem jX8_isLeafOf_4 : decode cX8_isLeafOf 4 = .ok (.ifCond .eq 20, 3) := by decide +kernel
theorem jX8_isLeafOf_8 : decode cX8_isLeafOf 8 = .ok (.checkcast 65, 3) := by decide +kernel
theorem jX8_isLeafOf_13 : decode cX8_isLeafOf 13 = .ok (.getfield 136, 3) := by decide +kernel
theorem jX8_isLeafOf_17 : decode cX8_isLeafOf 17 = .ok (.if_icmp .ne 7, 3) := by decide +kernel
theorem jX8_isLeafOf_25 : decode cX8_isLeafOf 25 = .ok (.ireturn, 1) := by decide +kernel
def bX8_written_0 : List Ent := [e0 0 (.aload_n 0)]
theorem oX8_written_0 : okB ftX8 ctX8 cX8_written 1 bX8_written_0 = true := by decide +kernel
def bX8_written_7 : List Ent := [e0 7 (.aload_n 0)]
theorem oX8_written_7 : okB ftX8 ctX8 cX8_written 8 bX8_written_7 = true := by decide +kernel
def bX8_written_11 : List Ent := [e0 11 (.astore_n 3), e0 12 (.aload_n 3), e0 13 (.aload_n 1)]
theorem oX8_written_11 : okB ftX8 ctX8 cX8_written 14 bX8_written_11 = true := by decide +kernel
def bX8_written_23 : List Ent := [e0 23 (.iload_n 2), ec 24 (.bipush 16) (.int 16)]
theorem oX8_written_23 : okB ftX8 ctX8 cX8_written 26 bX8_written_23 = true := by decide +kernel
def bX8_written_29 : List Ent := [e0 29 (.aload_n 3), e0 30 (.aload_n 1)]
theorem oX8_written_29 : okB ftX8 ctX8 cX8_written 31 bX8_written_29 = true := by decide +kernel
def bX8_written_34 : List Ent := [e0 34 (.aload_n 3), e0 35 (.aload_n 1)]
theorem oX8_written_34 : okB ftX8 ctX8 cX8_written 36 bX8_written_34 = true := by decide +kernel
def bX8_written_42 : List Ent := [e0 42 (.aload_n 1), e0 43 (.iload_n 2), ec 44 (.iconst 1) (.int 1), e0 45 .iadd]
theorem oX8_written_42 : okB ftX8 ctX8 cX8_written 46 bX8_written_42 = true := by decide +kernel
def bX8_written_53 : List Ent := [e0 53 (.aload_n 3), e0 54 (.aload_n 3)]
theorem oX8_written_53 : okB ftX8 ctX8 cX8_written 55 bX8_written_53 = true := by decide +kernel
def bX8_written_58 : List Ent := [e0 58 (.aload_n 1)]
theorem oX8_written_58 : okB ftX8 ctX8 cX8_written 59 bX8_written_58 = true := by decide +kernel
def bX8_written_63 : List Ent := [e0 63 (.aload_n 0)]
theorem oX8_written_63 : okB ftX8 ctX8 cX8_written 64 bX8_written_63 = true := by decide +kernel
def bX8_written_70 : List Ent := [e0 70 (.aload_n 0)]
theorem oX8_written_70 : okB ftX8 ctX8 cX8_written 71 bX8_written_70 = true := by decide +kernel
def bX8_written_74 : List Ent := [e0 74 (.astore_n 3), e0 75 (.aload_n 3)]
theorem oX8_written_74 : okB ftX8 ctX8 cX8_written 76 bX8_written_74 = true := by decide +kernel
def bX8_written_79 : List Ent := [e0 79 (.aload_n 1)]
theorem oX8_written_79 : okB ftX8 ctX8 cX8_written 80 bX8_written_79 = true := by decide +kernel
def bX8_written_86 : List Ent := [e0 86 (.aload_n 3), e0 87 (.aload_n 3)]
theorem oX8_written_86 : okB ftX8 ctX8 cX8_written 88 bX8_written_86 = true := by decide +kernel
def bX8_written_91 : List Ent := [e0 91 (.aload_n 1)]
theorem oX8_written_91 : okB ftX8 ctX8 cX8_written 92 bX8_written_91 = true := by decide +kernel
def bX8_written_96 : List Ent := [e0 96 (.aload_n 1)]
theorem oX8_written_96 : okB ftX8 ctX8 cX8_written 97 bX8_written_96 = true := by decide +kernel
theorem jX8_written_1 : decode cX8_written 1 = .ok (.instanceof 167, 3) := by decide +kernel
theorem jX8_written_4 : decode cX8_written 4 = .ok (.ifCond .eq 59, 3) := by decide +kernel
theorem jX8_written_8 : decode cX8_written 8 = .ok (.checkcast 167, 3) := by decide +kernel
theorem jX8_written_14 : decode cX8_written 14 = .ok (.getfield 136, 3) := by decide +kernel
theorem jX8_written_17 : decode cX8_written 17 = .ok (.invokevirtual 169, 3) := by decide +kernel
theorem jX8_written_20 : decode cX8_written 20 = .ok (.ifCond .eq 33, 3) := by decide +kernel
theorem jX8_written_26 : decode cX8_written 26 = .ok (.if_icmp .ge 27, 3) := by decide +kernel
theorem jX8_written_31 : decode cX8_written 31 = .ok (.getfield 136, 3) := by decide +kernel
theorem jX8_written_36 : decode cX8_written 36 = .ok (.getfield 136, 3) := by decide +kernel
theorem jX8_written_39 : decode cX8_written 39 = .ok (.invokevirtual 172, 3) := by decide +kernel
theorem jX8_written_46 : decode cX8_written 46 = .ok (.invokestatic 70, 3) := by decide +kernel
theorem jX8_written_49 : decode cX8_written 49 = .ok (.invokevirtual 175, 3) := by decide +kernel
theorem jX8_written_52 : decode cX8_written 52 = .ok (.areturn, 1) := by decide +kernel
theorem jX8_written_55 : decode cX8_written 55 = .ok (.getfield 179, 3) := by decide +kernel
theorem jX8_written_59 : decode cX8_written 59 = .ok (.invokestatic 182, 3) := by decide +kernel
theorem jX8_written_62 : decode cX8_written 62 = .ok (.areturn, 1) := by decide +kernel
theorem jX8_written_64 : decode cX8_written 64 = .ok (.instanceof 65, 3) := by decide +kernel
theorem jX8_written_67 : decode cX8_written 67 = .ok (.ifCond .eq 29, 3) := by decide +kernel
theorem jX8_written_71 : decode cX8_written 71 = .ok (.checkcast 65, 3) := by decide +kernel
theorem jX8_written_76 : decode cX8_written 76 = .ok (.getfield 136, 3) := by decide +kernel
theorem jX8_written_80 : decode cX8_written 80 = .ok (.getfield 136, 3) := by decide +kernel
theorem jX8_written_83 : decode cX8_written 83 = .ok (.if_icmp .eq 13, 3) := by decide +kernel
theorem jX8_written_88 : decode cX8_written 88 = .ok (.getfield 136, 3) := by decide +kernel
theorem jX8_written_92 : decode cX8_written 92 = .ok (.invokestatic 182, 3) := by decide +kernel
theorem jX8_written_95 : decode cX8_written 95 = .ok (.areturn, 1) := by decide +kernel
theorem jX8_written_97 : decode cX8_written 97 = .ok (.areturn, 1) := by decide +kernel
def bX8_forkOf_0 : List Ent := [e0 0 (.iload_n 1), e0 1 (.aload_n 2)]
theorem oX8_forkOf_0 : okB ftX8 ctX8 cX8_forkOf 2 bX8_forkOf_0 = true := by decide +kernel
def bX8_forkOf_8 : List Ent := [e0 8 (.istore_n 3), e0 9 (.aload_n 2)]
theorem oX8_forkOf_8 : okB ftX8 ctX8 cX8_forkOf 10 bX8_forkOf_8 = true := by decide +kernel
def bX8_forkOf_13 : List Ent := [e0 13 (.iload_n 3)]
theorem oX8_forkOf_13 : okB ftX8 ctX8 cX8_forkOf 14 bX8_forkOf_13 = true := by decide +kernel
def bX8_forkOf_17 : List Ent := [e0 17 (.istore 4), e0 19 (.aload_n 2)]
theorem oX8_forkOf_17 : okB ftX8 ctX8 cX8_forkOf 20 bX8_forkOf_17 = true := by decide +kernel
def bX8_forkOf_23 : List Ent := [e0 23 (.iload_n 3)]
theorem oX8_forkOf_23 : okB ftX8 ctX8 cX8_forkOf 24 bX8_forkOf_23 = true := by decide +kernel
def bX8_forkOf_33 : List Ent := [e0 33 .dup, e0 34 (.iload_n 3), e0 35 (.iload 4), e0 37 (.aload_n 0), e0 38 (.aload_n 2)]
theorem oX8_forkOf_33 : okB ftX8 ctX8 cX8_forkOf 39 bX8_forkOf_33 = true := by decide +kernel
def bX8_forkOf_46 : List Ent := [e0 46 .dup, e0 47 (.iload_n 3), e0 48 (.iload 4), e0 50 (.aload_n 2), e0 51 (.aload_n 0)]
theorem oX8_forkOf_46 : okB ftX8 ctX8 cX8_forkOf 52 bX8_forkOf_46 = true := by decide +kernel
theorem jX8_forkOf_2 : decode cX8_forkOf 2 = .ok (.getfield 136, 3) := by decide +kernel
theorem jX8_forkOf_5 : decode cX8_forkOf 5 = .ok (.invokestatic 186, 3) := by decide +kernel
theorem jX8_forkOf_10 : decode cX8_forkOf 10 = .ok (.getfield 136, 3) := by decide +kernel
theorem jX8_forkOf_14 : decode cX8_forkOf 14 = .ok (.invokestatic 190, 3) := by decide +kernel
theorem jX8_forkOf_20 : decode cX8_forkOf 20 = .ok (.getfield 136, 3) := by decide +kernel
theorem jX8_forkOf_24 : decode cX8_forkOf 24 = .ok (.invokestatic 152, 3) := by decide +kernel
theorem jX8_forkOf_27 : decode cX8_forkOf 27 = .ok (.ifCond .eq 16, 3) := by decide +kernel
theorem jX8_forkOf_30 : decode cX8_forkOf 30 = .ok (.new 167, 3) := by decide +kernel
theorem jX8_forkOf_39 : decode cX8_forkOf 39 = .ok (.invokespecial 193, 3) := by decide +kernel
theorem jX8_forkOf_42 : decode cX8_forkOf 42 = .ok (.areturn, 1) := by decide +kernel
theorem jX8_forkOf_43 : decode cX8_forkOf 43 = .ok (.new 167, 3) := by decide +kernel
theorem jX8_forkOf_52 : decode cX8_forkOf 52 = .ok (.invokespecial 193, 3) := by decide +kernel
theorem jX8_forkOf_55 : decode cX8_forkOf 55 = .ok (.areturn, 1) := by decide +kernel
def bX8_erased_0 : List Ent := [e0 0 (.aload_n 0)]
theorem oX8_erased_0 : okB ftX8 ctX8 cX8_erased 1 bX8_erased_0 = true := by decide +kernel
def bX8_erased_7 : List Ent := [e0 7 (.aload_n 0)]
theorem oX8_erased_7 : okB ftX8 ctX8 cX8_erased 8 bX8_erased_7 = true := by decide +kernel
def bX8_erased_11 : List Ent := [e0 11 (.astore_n 3), e0 12 (.aload_n 3), e0 13 (.iload_n 1)]
theorem oX8_erased_11 : okB ftX8 ctX8 cX8_erased 14 bX8_erased_11 = true := by decide +kernel
def bX8_erased_17 : List Ent := [e0 17 (.astore 4), e0 19 (.aload 4)]
theorem oX8_erased_17 : okB ftX8 ctX8 cX8_erased 21 bX8_erased_17 = true := by decide +kernel
def bX8_erased_27 : List Ent := [e0 27 (.iload_n 2), ec 28 (.bipush 16) (.int 16)]
theorem oX8_erased_27 : okB ftX8 ctX8 cX8_erased 30 bX8_erased_27 = true := by decide +kernel
def bX8_erased_33 : List Ent := [e0 33 (.aload_n 3), e0 34 (.iload_n 1), e0 35 (.aload 4), e0 37 (.iload_n 1), e0 38 (.iload_n 2), ec 39 (.iconst 1) (.int 1), e0 40 .iadd]
theorem oX8_erased_33 : okB ftX8 ctX8 cX8_erased 41 bX8_erased_33 = true := by decide +kernel
def bX8_erased_48 : List Ent := [e0 48 (.aload_n 3), e0 49 (.iload_n 1)]
theorem oX8_erased_48 : okB ftX8 ctX8 cX8_erased 50 bX8_erased_48 = true := by decide +kernel
def bX8_erased_57 : List Ent := [e0 57 .dup]
theorem oX8_erased_57 : okB ftX8 ctX8 cX8_erased 58 bX8_erased_57 = true := by decide +kernel
theorem jX8_erased_1 : decode cX8_erased 1 = .ok (.instanceof 167, 3) := by decide +kernel
theorem jX8_erased_4 : decode cX8_erased 4 = .ok (.ifCond .eq 50, 3) := by decide +kernel
theorem jX8_erased_8 : decode cX8_erased 8 = .ok (.checkcast 167, 3) := by decide +kernel
theorem jX8_erased_14 : decode cX8_erased 14 = .ok (.invokevirtual 172, 3) := by decide +kernel
theorem jX8_erased_21 : decode cX8_erased 21 = .ok (.instanceof 167, 3) := by decide +kernel
theorem jX8_erased_24 : decode cX8_erased 24 = .ok (.ifCond .eq 24, 3) := by decide +kernel
theorem jX8_erased_30 : decode cX8_erased 30 = .ok (.if_icmp .ge 18, 3) := by decide +kernel
theorem jX8_erased_41 : decode cX8_erased 41 = .ok (.invokestatic 79, 3) := by decide +kernel
theorem jX8_erased_44 : decode cX8_erased 44 = .ok (.invokevirtual 175, 3) := by decide +kernel
theorem jX8_erased_47 : decode cX8_erased 47 = .ok (.areturn, 1) := by decide +kernel
theorem jX8_erased_50 : decode cX8_erased 50 = .ok (.invokevirtual 196, 3) := by decide +kernel
theorem jX8_erased_53 : decode cX8_erased 53 = .ok (.areturn, 1) := by decide +kernel
theorem jX8_erased_54 : decode cX8_erased 54 = .ok (.new 22, 3) := by decide +kernel
theorem jX8_erased_58 : decode cX8_erased 58 = .ok (.invokespecial 24, 3) := by decide +kernel
theorem jX8_erased_61 : decode cX8_erased 61 = .ok (.areturn, 1) := by decide +kernel
def bX8_leavesWithin_0 : List Ent := [e0 0 (.aload_n 0)]
theorem oX8_leavesWithin_0 : okB ftX8 ctX8 cX8_leavesWithin 1 bX8_leavesWithin_0 = true := by decide +kernel
def bX8_leavesWithin_7 : List Ent := [e0 7 (.aload_n 0)]
theorem oX8_leavesWithin_7 : okB ftX8 ctX8 cX8_leavesWithin 8 bX8_leavesWithin_7 = true := by decide +kernel
def bX8_leavesWithin_11 : List Ent := [e0 11 (.astore 4), e0 13 (.iload_n 3), ec 14 (.bipush 16) (.int 16)]
theorem oX8_leavesWithin_11 : okB ftX8 ctX8 cX8_leavesWithin 16 bX8_leavesWithin_11 = true := by decide +kernel
def bX8_leavesWithin_19 : List Ent := [e0 19 (.aload 4)]
theorem oX8_leavesWithin_19 : okB ftX8 ctX8 cX8_leavesWithin 21 bX8_leavesWithin_19 = true := by decide +kernel
def bX8_leavesWithin_24 : List Ent := [e0 24 (.iload_n 1), e0 25 (.iload_n 2), e0 26 (.iload_n 3), ec 27 (.iconst 1) (.int 1), e0 28 .iadd]
theorem oX8_leavesWithin_24 : okB ftX8 ctX8 cX8_leavesWithin 29 bX8_leavesWithin_24 = true := by decide +kernel
def bX8_leavesWithin_32 : List Ent := [e0 32 (.aload 4)]
theorem oX8_leavesWithin_32 : okB ftX8 ctX8 cX8_leavesWithin 34 bX8_leavesWithin_32 = true := by decide +kernel
def bX8_leavesWithin_37 : List Ent := [e0 37 (.iload_n 1), e0 38 (.iload_n 2), e0 39 (.iload_n 3), ec 40 (.iconst 1) (.int 1), e0 41 .iadd]
theorem oX8_leavesWithin_37 : okB ftX8 ctX8 cX8_leavesWithin 42 bX8_leavesWithin_37 = true := by decide +kernel
def bX8_leavesWithin_45 : List Ent := [e0 45 .iadd]
theorem oX8_leavesWithin_45 : okB ftX8 ctX8 cX8_leavesWithin 46 bX8_leavesWithin_45 = true := by decide +kernel
def bX8_leavesWithin_47 : List Ent := [e0 47 (.aload_n 0)]
theorem oX8_leavesWithin_47 : okB ftX8 ctX8 cX8_leavesWithin 48 bX8_leavesWithin_47 = true := by decide +kernel
def bX8_leavesWithin_54 : List Ent := [e0 54 (.aload_n 0)]
theorem oX8_leavesWithin_54 : okB ftX8 ctX8 cX8_leavesWithin 55 bX8_leavesWithin_54 = true := by decide +kernel
def bX8_leavesWithin_58 : List Ent := [e0 58 (.astore 4), e0 60 (.aload 4)]
theorem oX8_leavesWithin_58 : okB ftX8 ctX8 cX8_leavesWithin 62 bX8_leavesWithin_58 = true := by decide +kernel
def bX8_leavesWithin_65 : List Ent := [e0 65 (.iload_n 1)]
theorem oX8_leavesWithin_65 : okB ftX8 ctX8 cX8_leavesWithin 66 bX8_leavesWithin_65 = true := by decide +kernel
def bX8_leavesWithin_69 : List Ent := [e0 69 (.aload 4)]
theorem oX8_leavesWithin_69 : okB ftX8 ctX8 cX8_leavesWithin 71 bX8_leavesWithin_69 = true := by decide +kernel
def bX8_leavesWithin_74 : List Ent := [e0 74 (.iload_n 2)]
theorem oX8_leavesWithin_74 : okB ftX8 ctX8 cX8_leavesWithin 75 bX8_leavesWithin_74 = true := by decide +kernel
def bX8_leavesWithin_78 : List Ent := [ec 78 (.iconst 1) (.int 1), e0 79 (.goto 4)]
theorem oX8_leavesWithin_78 : okB ftX8 ctX8 cX8_leavesWithin 83 bX8_leavesWithin_78 = true := by decide +kernel
def bX8_leavesWithin_82 : List Ent := [ec 82 (.iconst 0) (.int 0)]
theorem oX8_leavesWithin_82 : okB ftX8 ctX8 cX8_leavesWithin 83 bX8_leavesWithin_82 = true := by decide +kernel
theorem jX8_leavesWithin_1 : decode cX8_leavesWithin 1 = .ok (.instanceof 167, 3) := by decide +kernel
theorem jX8_leavesWithin_4 : decode cX8_leavesWithin 4 = .ok (.ifCond .eq 43, 3) := by decide +kernel
theorem jX8_leavesWithin_8 : decode cX8_leavesWithin 8 = .ok (.checkcast 167, 3) := by decide +kernel
theorem jX8_leavesWithin_16 : decode cX8_leavesWithin 16 = .ok (.if_icmp .ge 31, 3) := by decide +kernel
theorem jX8_leavesWithin_21 : decode cX8_leavesWithin 21 = .ok (.getfield 199, 3) := by decide +kernel
theorem jX8_leavesWithin_29 : decode cX8_leavesWithin 29 = .ok (.invokestatic 75, 3) := by decide +kernel
theorem jX8_leavesWithin_34 : decode cX8_leavesWithin 34 = .ok (.getfield 202, 3) := by decide +kernel
theorem jX8_leavesWithin_42 : decode cX8_leavesWithin 42 = .ok (.invokestatic 75, 3) := by decide +kernel
theorem jX8_leavesWithin_46 : decode cX8_leavesWithin 46 = .ok (.ireturn, 1) := by decide +kernel
theorem jX8_leavesWithin_48 : decode cX8_leavesWithin 48 = .ok (.instanceof 65, 3) := by decide +kernel
theorem jX8_leavesWithin_51 : decode cX8_leavesWithin 51 = .ok (.ifCond .eq 31, 3) := by decide +kernel
theorem jX8_leavesWithin_55 : decode cX8_leavesWithin 55 = .ok (.checkcast 65, 3) := by decide +kernel
theorem jX8_leavesWithin_62 : decode cX8_leavesWithin 62 = .ok (.getfield 136, 3) := by decide +kernel
theorem jX8_leavesWithin_66 : decode cX8_leavesWithin 66 = .ok (.if_icmp .lt 16, 3) := by decide +kernel
theorem jX8_leavesWithin_71 : decode cX8_leavesWithin 71 = .ok (.getfield 136, 3) := by decide +kernel
theorem jX8_leavesWithin_75 : decode cX8_leavesWithin 75 = .ok (.if_icmp .gt 7, 3) := by decide +kernel
theorem jX8_leavesWithin_83 : decode cX8_leavesWithin 83 = .ok (.ireturn, 1) := by decide +kernel
def bX8_nodesOf_0 : List Ent := [e0 0 (.aload_n 0)]
theorem oX8_nodesOf_0 : okB ftX8 ctX8 cX8_nodesOf 1 bX8_nodesOf_0 = true := by decide +kernel
def bX8_nodesOf_7 : List Ent := [e0 7 (.aload_n 0)]
theorem oX8_nodesOf_7 : okB ftX8 ctX8 cX8_nodesOf 8 bX8_nodesOf_7 = true := by decide +kernel
def bX8_nodesOf_11 : List Ent := [e0 11 (.astore_n 2), e0 12 (.iload_n 1), ec 13 (.bipush 16) (.int 16)]
theorem oX8_nodesOf_11 : okB ftX8 ctX8 cX8_nodesOf 15 bX8_nodesOf_11 = true := by decide +kernel
def bX8_nodesOf_18 : List Ent := [ec 18 (.iconst 1) (.int 1), e0 19 (.aload_n 2)]
theorem oX8_nodesOf_18 : okB ftX8 ctX8 cX8_nodesOf 20 bX8_nodesOf_18 = true := by decide +kernel
def bX8_nodesOf_23 : List Ent := [e0 23 (.iload_n 1), ec 24 (.iconst 1) (.int 1), e0 25 .iadd]
theorem oX8_nodesOf_23 : okB ftX8 ctX8 cX8_nodesOf 26 bX8_nodesOf_23 = true := by decide +kernel
def bX8_nodesOf_29 : List Ent := [e0 29 .iadd, e0 30 (.aload_n 2)]
theorem oX8_nodesOf_29 : okB ftX8 ctX8 cX8_nodesOf 31 bX8_nodesOf_29 = true := by decide +kernel
def bX8_nodesOf_34 : List Ent := [e0 34 (.iload_n 1), ec 35 (.iconst 1) (.int 1), e0 36 .iadd]
theorem oX8_nodesOf_34 : okB ftX8 ctX8 cX8_nodesOf 37 bX8_nodesOf_34 = true := by decide +kernel
def bX8_nodesOf_40 : List Ent := [e0 40 .iadd]
theorem oX8_nodesOf_40 : okB ftX8 ctX8 cX8_nodesOf 41 bX8_nodesOf_40 = true := by decide +kernel
def bX8_nodesOf_42 : List Ent := [e0 42 (.aload_n 0)]
theorem oX8_nodesOf_42 : okB ftX8 ctX8 cX8_nodesOf 43 bX8_nodesOf_42 = true := by decide +kernel
def bX8_nodesOf_46 : List Ent := [ec 46 (.iconst 0) (.int 0), e0 47 (.goto 4)]
theorem oX8_nodesOf_46 : okB ftX8 ctX8 cX8_nodesOf 51 bX8_nodesOf_46 = true := by decide +kernel
def bX8_nodesOf_50 : List Ent := [ec 50 (.iconst 1) (.int 1)]
theorem oX8_nodesOf_50 : okB ftX8 ctX8 cX8_nodesOf 51 bX8_nodesOf_50 = true := by decide +kernel
theorem jX8_nodesOf_1 : decode cX8_nodesOf 1 = .ok (.instanceof 167, 3) := by decide +kernel
theorem jX8_nodesOf_4 : decode cX8_nodesOf 4 = .ok (.ifCond .eq 38, 3) := by decide +kernel
theorem jX8_nodesOf_8 : decode cX8_nodesOf 8 = .ok (.checkcast 167, 3) := by decide +kernel
theorem jX8_nodesOf_15 : decode cX8_nodesOf 15 = .ok (.if_icmp .ge 27, 3) := by decide +kernel
theorem jX8_nodesOf_20 : decode cX8_nodesOf 20 = .ok (.getfield 199, 3) := by decide +kernel
theorem jX8_nodesOf_26 : decode cX8_nodesOf 26 = .ok (.invokestatic 130, 3) := by decide +kernel
theorem jX8_nodesOf_31 : decode cX8_nodesOf 31 = .ok (.getfield 202, 3) := by decide +kernel
theorem jX8_nodesOf_37 : decode cX8_nodesOf 37 = .ok (.invokestatic 130, 3) := by decide +kernel
theorem jX8_nodesOf_41 : decode cX8_nodesOf 41 = .ok (.ireturn, 1) := by decide +kernel
theorem jX8_nodesOf_43 : decode cX8_nodesOf 43 = .ok (.ifnonnull 7, 3) := by decide +kernel
theorem jX8_nodesOf_51 : decode cX8_nodesOf 51 = .ok (.ireturn, 1) := by decide +kernel
def bX8_mostForks_0 : List Ent := [e0 0 (.aload_n 0)]
theorem oX8_mostForks_0 : okB ftX8 ctX8 cX8_mostForks 1 bX8_mostForks_0 = true := by decide +kernel
def bX8_mostForks_7 : List Ent := [e0 7 (.aload_n 0)]
theorem oX8_mostForks_7 : okB ftX8 ctX8 cX8_mostForks 8 bX8_mostForks_7 = true := by decide +kernel
def bX8_mostForks_11 : List Ent := [e0 11 (.astore_n 2), e0 12 (.iload_n 1), ec 13 (.bipush 16) (.int 16)]
theorem oX8_mostForks_11 : okB ftX8 ctX8 cX8_mostForks 15 bX8_mostForks_11 = true := by decide +kernel
def bX8_mostForks_18 : List Ent := [ec 18 (.iconst 1) (.int 1), e0 19 (.aload_n 2)]
theorem oX8_mostForks_18 : okB ftX8 ctX8 cX8_mostForks 20 bX8_mostForks_18 = true := by decide +kernel
def bX8_mostForks_23 : List Ent := [e0 23 (.iload_n 1), ec 24 (.iconst 1) (.int 1), e0 25 .iadd]
theorem oX8_mostForks_23 : okB ftX8 ctX8 cX8_mostForks 26 bX8_mostForks_23 = true := by decide +kernel
def bX8_mostForks_29 : List Ent := [e0 29 (.aload_n 2)]
theorem oX8_mostForks_29 : okB ftX8 ctX8 cX8_mostForks 30 bX8_mostForks_29 = true := by decide +kernel
def bX8_mostForks_33 : List Ent := [e0 33 (.iload_n 1), ec 34 (.iconst 1) (.int 1), e0 35 .iadd]
theorem oX8_mostForks_33 : okB ftX8 ctX8 cX8_mostForks 36 bX8_mostForks_33 = true := by decide +kernel
def bX8_mostForks_42 : List Ent := [e0 42 .iadd]
theorem oX8_mostForks_42 : okB ftX8 ctX8 cX8_mostForks 43 bX8_mostForks_42 = true := by decide +kernel
def bX8_mostForks_44 : List Ent := [ec 44 (.iconst 0) (.int 0)]
theorem oX8_mostForks_44 : okB ftX8 ctX8 cX8_mostForks 45 bX8_mostForks_44 = true := by decide +kernel
theorem jX8_mostForks_1 : decode cX8_mostForks 1 = .ok (.instanceof 167, 3) := by decide +kernel
theorem jX8_mostForks_4 : decode cX8_mostForks 4 = .ok (.ifCond .eq 40, 3) := by decide +kernel
theorem jX8_mostForks_8 : decode cX8_mostForks 8 = .ok (.checkcast 167, 3) := by decide +kernel
theorem jX8_mostForks_15 : decode cX8_mostForks 15 = .ok (.if_icmp .ge 29, 3) := by decide +kernel
theorem jX8_mostForks_20 : decode cX8_mostForks 20 = .ok (.getfield 199, 3) := by decide +kernel
theorem jX8_mostForks_26 : decode cX8_mostForks 26 = .ok (.invokestatic 149, 3) := by decide +kernel
theorem jX8_mostForks_30 : decode cX8_mostForks 30 = .ok (.getfield 202, 3) := by decide +kernel
theorem jX8_mostForks_36 : decode cX8_mostForks 36 = .ok (.invokestatic 149, 3) := by decide +kernel
theorem jX8_mostForks_39 : decode cX8_mostForks 39 = .ok (.invokestatic 205, 3) := by decide +kernel
theorem jX8_mostForks_43 : decode cX8_mostForks 43 = .ok (.ireturn, 1) := by decide +kernel
theorem jX8_mostForks_45 : decode cX8_mostForks 45 = .ok (.ireturn, 1) := by decide +kernel
def bX8_hiddenOver_0 : List Ent := [e0 0 (.aload_n 0)]
theorem oX8_hiddenOver_0 : okB ftX8 ctX8 cX8_hiddenOver 1 bX8_hiddenOver_0 = true := by decide +kernel
def bX8_hiddenOver_7 : List Ent := [e0 7 (.aload_n 0)]
theorem oX8_hiddenOver_7 : okB ftX8 ctX8 cX8_hiddenOver 8 bX8_hiddenOver_7 = true := by decide +kernel
def bX8_hiddenOver_11 : List Ent := [e0 11 (.astore 6), e0 13 (.iload 5), ec 15 (.bipush 16) (.int 16)]
theorem oX8_hiddenOver_11 : okB ftX8 ctX8 cX8_hiddenOver 17 bX8_hiddenOver_11 = true := by decide +kernel
def bX8_hiddenOver_20 : List Ent := [e0 20 (.aload 6)]
theorem oX8_hiddenOver_20 : okB ftX8 ctX8 cX8_hiddenOver 22 bX8_hiddenOver_20 = true := by decide +kernel
def bX8_hiddenOver_25 : List Ent := [e0 25 (.aload 6)]
theorem oX8_hiddenOver_25 : okB ftX8 ctX8 cX8_hiddenOver 27 bX8_hiddenOver_25 = true := by decide +kernel
def bX8_hiddenOver_30 : List Ent := [e0 30 (.aload 6)]
theorem oX8_hiddenOver_30 : okB ftX8 ctX8 cX8_hiddenOver 32 bX8_hiddenOver_30 = true := by decide +kernel
def bX8_hiddenOver_35 : List Ent := [ec 35 (.iconst 1) (.int 1), e0 36 .isub, e0 37 (.iload_n 3), e0 38 (.iload 4), e0 40 (.iload 5), ec 42 (.iconst 1) (.int 1), e0 43 .iadd]
theorem oX8_hiddenOver_35 : okB ftX8 ctX8 cX8_hiddenOver 44 bX8_hiddenOver_35 = true := by decide +kernel
def bX8_hiddenOver_47 : List Ent := [e0 47 (.aload 6)]
theorem oX8_hiddenOver_47 : okB ftX8 ctX8 cX8_hiddenOver 49 bX8_hiddenOver_47 = true := by decide +kernel
def bX8_hiddenOver_52 : List Ent := [e0 52 (.aload 6)]
theorem oX8_hiddenOver_52 : okB ftX8 ctX8 cX8_hiddenOver 54 bX8_hiddenOver_52 = true := by decide +kernel
def bX8_hiddenOver_57 : List Ent := [e0 57 (.aload 6)]
theorem oX8_hiddenOver_57 : okB ftX8 ctX8 cX8_hiddenOver 59 bX8_hiddenOver_57 = true := by decide +kernel
def bX8_hiddenOver_62 : List Ent := [e0 62 (.iload_n 3), e0 63 (.iload 4), e0 65 (.iload 5), ec 67 (.iconst 1) (.int 1), e0 68 .iadd]
theorem oX8_hiddenOver_62 : okB ftX8 ctX8 cX8_hiddenOver 69 bX8_hiddenOver_62 = true := by decide +kernel
def bX8_hiddenOver_72 : List Ent := [e0 72 .iadd]
theorem oX8_hiddenOver_72 : okB ftX8 ctX8 cX8_hiddenOver 73 bX8_hiddenOver_72 = true := by decide +kernel
def bX8_hiddenOver_74 : List Ent := [e0 74 (.aload_n 0)]
theorem oX8_hiddenOver_74 : okB ftX8 ctX8 cX8_hiddenOver 75 bX8_hiddenOver_74 = true := by decide +kernel
def bX8_hiddenOver_81 : List Ent := [e0 81 (.iload_n 1), e0 82 (.iload 4)]
theorem oX8_hiddenOver_81 : okB ftX8 ctX8 cX8_hiddenOver 84 bX8_hiddenOver_81 = true := by decide +kernel
def bX8_hiddenOver_87 : List Ent := [e0 87 (.iload_n 3), e0 88 (.iload_n 2)]
theorem oX8_hiddenOver_87 : okB ftX8 ctX8 cX8_hiddenOver 89 bX8_hiddenOver_87 = true := by decide +kernel
def bX8_hiddenOver_92 : List Ent := [ec 92 (.iconst 1) (.int 1), e0 93 (.goto 4)]
theorem oX8_hiddenOver_92 : okB ftX8 ctX8 cX8_hiddenOver 97 bX8_hiddenOver_92 = true := by decide +kernel
def bX8_hiddenOver_96 : List Ent := [ec 96 (.iconst 0) (.int 0)]
theorem oX8_hiddenOver_96 : okB ftX8 ctX8 cX8_hiddenOver 97 bX8_hiddenOver_96 = true := by decide +kernel
theorem jX8_hiddenOver_1 : decode cX8_hiddenOver 1 = .ok (.instanceof 167, 3) := by decide +kernel
theorem jX8_hiddenOver_4 : decode cX8_hiddenOver 4 = .ok (.ifCond .eq 70, 3) := by decide +kernel
theorem jX8_hiddenOver_8 : decode cX8_hiddenOver 8 = .ok (.checkcast 167, 3) := by decide +kernel
theorem jX8_hiddenOver_17 : decode cX8_hiddenOver 17 = .ok (.if_icmp .ge 57, 3) := by decide +kernel
theorem jX8_hiddenOver_22 : decode cX8_hiddenOver 22 = .ok (.getfield 199, 3) := by decide +kernel
theorem jX8_hiddenOver_27 : decode cX8_hiddenOver 27 = .ok (.getfield 179, 3) := by decide +kernel
theorem jX8_hiddenOver_32 : decode cX8_hiddenOver 32 = .ok (.invokevirtual 210, 3) := by decide +kernel
theorem jX8_hiddenOver_44 : decode cX8_hiddenOver 44 = .ok (.invokestatic 142, 3) := by decide +kernel
theorem jX8_hiddenOver_49 : decode cX8_hiddenOver 49 = .ok (.getfield 202, 3) := by decide +kernel
theorem jX8_hiddenOver_54 : decode cX8_hiddenOver 54 = .ok (.invokevirtual 210, 3) := by decide +kernel
theorem jX8_hiddenOver_59 : decode cX8_hiddenOver 59 = .ok (.invokevirtual 214, 3) := by decide +kernel
theorem jX8_hiddenOver_69 : decode cX8_hiddenOver 69 = .ok (.invokestatic 142, 3) := by decide +kernel
theorem jX8_hiddenOver_73 : decode cX8_hiddenOver 73 = .ok (.ireturn, 1) := by decide +kernel
theorem jX8_hiddenOver_75 : decode cX8_hiddenOver 75 = .ok (.instanceof 134, 3) := by decide +kernel
theorem jX8_hiddenOver_78 : decode cX8_hiddenOver 78 = .ok (.ifCond .eq 18, 3) := by decide +kernel
theorem jX8_hiddenOver_84 : decode cX8_hiddenOver 84 = .ok (.if_icmp .gt 12, 3) := by decide +kernel
theorem jX8_hiddenOver_89 : decode cX8_hiddenOver 89 = .ok (.if_icmp .gt 7, 3) := by decide +kernel
theorem jX8_hiddenOver_97 : decode cX8_hiddenOver 97 = .ok (.ireturn, 1) := by decide +kernel
def bX8_leastFrom_0 : List Ent := [e0 0 (.aload_n 0)]
theorem oX8_leastFrom_0 : okB ftX8 ctX8 cX8_leastFrom 1 bX8_leastFrom_0 = true := by decide +kernel
def bX8_leastFrom_7 : List Ent := [e0 7 (.aload_n 0)]
theorem oX8_leastFrom_7 : okB ftX8 ctX8 cX8_leastFrom 8 bX8_leastFrom_7 = true := by decide +kernel
def bX8_leastFrom_11 : List Ent := [e0 11 (.astore 4), e0 13 (.iload_n 3), ec 14 (.bipush 16) (.int 16)]
theorem oX8_leastFrom_11 : okB ftX8 ctX8 cX8_leastFrom 16 bX8_leastFrom_11 = true := by decide +kernel
def bX8_leastFrom_19 : List Ent := [e0 19 (.aload 4)]
theorem oX8_leastFrom_19 : okB ftX8 ctX8 cX8_leastFrom 21 bX8_leastFrom_19 = true := by decide +kernel
def bX8_leastFrom_24 : List Ent := [e0 24 (.aload 4)]
theorem oX8_leastFrom_24 : okB ftX8 ctX8 cX8_leastFrom 26 bX8_leastFrom_24 = true := by decide +kernel
def bX8_leastFrom_29 : List Ent := [ec 29 (.iconst 1) (.int 1), e0 30 .isub, e0 31 (.iload_n 2), e0 32 (.iload_n 3), ec 33 (.iconst 1) (.int 1), e0 34 .iadd]
theorem oX8_leastFrom_29 : okB ftX8 ctX8 cX8_leastFrom 35 bX8_leastFrom_29 = true := by decide +kernel
def bX8_leastFrom_38 : List Ent := [e0 38 (.istore 5), e0 40 (.iload 5), ec 42 (.bipush (-2)) (.int (-2))]
theorem oX8_leastFrom_38 : okB ftX8 ctX8 cX8_leastFrom 44 bX8_leastFrom_38 = true := by decide +kernel
def bX8_leastFrom_47 : List Ent := [e0 47 (.aload 4)]
theorem oX8_leastFrom_47 : okB ftX8 ctX8 cX8_leastFrom 49 bX8_leastFrom_47 = true := by decide +kernel
def bX8_leastFrom_52 : List Ent := [e0 52 (.aload 4)]
theorem oX8_leastFrom_52 : okB ftX8 ctX8 cX8_leastFrom 54 bX8_leastFrom_52 = true := by decide +kernel
def bX8_leastFrom_57 : List Ent := [e0 57 (.iload_n 2), e0 58 (.iload_n 3), ec 59 (.iconst 1) (.int 1), e0 60 .iadd]
theorem oX8_leastFrom_57 : okB ftX8 ctX8 cX8_leastFrom 61 bX8_leastFrom_57 = true := by decide +kernel
def bX8_leastFrom_64 : List Ent := [e0 64 (.goto 5)]
theorem oX8_leastFrom_64 : okB ftX8 ctX8 cX8_leastFrom 69 bX8_leastFrom_64 = true := by decide +kernel
def bX8_leastFrom_67 : List Ent := [e0 67 (.iload 5)]
theorem oX8_leastFrom_67 : okB ftX8 ctX8 cX8_leastFrom 69 bX8_leastFrom_67 = true := by decide +kernel
def bX8_leastFrom_70 : List Ent := [e0 70 (.aload_n 0)]
theorem oX8_leastFrom_70 : okB ftX8 ctX8 cX8_leastFrom 71 bX8_leastFrom_70 = true := by decide +kernel
def bX8_leastFrom_77 : List Ent := [e0 77 (.aload_n 0)]
theorem oX8_leastFrom_77 : okB ftX8 ctX8 cX8_leastFrom 78 bX8_leastFrom_77 = true := by decide +kernel
def bX8_leastFrom_81 : List Ent := [e0 81 (.astore 4), e0 83 (.aload 4)]
theorem oX8_leastFrom_81 : okB ftX8 ctX8 cX8_leastFrom 85 bX8_leastFrom_81 = true := by decide +kernel
def bX8_leastFrom_88 : List Ent := [e0 88 (.iload_n 2)]
theorem oX8_leastFrom_88 : okB ftX8 ctX8 cX8_leastFrom 89 bX8_leastFrom_88 = true := by decide +kernel
def bX8_leastFrom_92 : List Ent := [e0 92 (.aload 4)]
theorem oX8_leastFrom_92 : okB ftX8 ctX8 cX8_leastFrom 94 bX8_leastFrom_92 = true := by decide +kernel
def bX8_leastFrom_98 : List Ent := [e0 98 (.aload_n 0)]
theorem oX8_leastFrom_98 : okB ftX8 ctX8 cX8_leastFrom 99 bX8_leastFrom_98 = true := by decide +kernel
def bX8_leastFrom_105 : List Ent := [e0 105 (.iload_n 1), e0 106 (.iload_n 2)]
theorem oX8_leastFrom_105 : okB ftX8 ctX8 cX8_leastFrom 107 bX8_leastFrom_105 = true := by decide +kernel
def bX8_leastFrom_110 : List Ent := [ec 110 (.bipush (-4)) (.int (-4)), e0 112 (.goto 5)]
theorem oX8_leastFrom_110 : okB ftX8 ctX8 cX8_leastFrom 117 bX8_leastFrom_110 = true := by decide +kernel
def bX8_leastFrom_115 : List Ent := [ec 115 (.bipush (-2)) (.int (-2))]
theorem oX8_leastFrom_115 : okB ftX8 ctX8 cX8_leastFrom 117 bX8_leastFrom_115 = true := by decide +kernel
theorem jX8_leastFrom_1 : decode cX8_leastFrom 1 = .ok (.instanceof 167, 3) := by decide +kernel
theorem jX8_leastFrom_4 : decode cX8_leastFrom 4 = .ok (.ifCond .eq 66, 3) := by decide +kernel
theorem jX8_leastFrom_8 : decode cX8_leastFrom 8 = .ok (.checkcast 167, 3) := by decide +kernel
theorem jX8_leastFrom_16 : decode cX8_leastFrom 16 = .ok (.if_icmp .ge 54, 3) := by decide +kernel
theorem jX8_leastFrom_21 : decode cX8_leastFrom 21 = .ok (.getfield 199, 3) := by decide +kernel
theorem jX8_leastFrom_26 : decode cX8_leastFrom 26 = .ok (.invokevirtual 210, 3) := by decide +kernel
theorem jX8_leastFrom_35 : decode cX8_leastFrom 35 = .ok (.invokestatic 146, 3) := by decide +kernel
theorem jX8_leastFrom_44 : decode cX8_leastFrom 44 = .ok (.if_icmp .ne 23, 3) := by decide +kernel
theorem jX8_leastFrom_49 : decode cX8_leastFrom 49 = .ok (.getfield 202, 3) := by decide +kernel
theorem jX8_leastFrom_54 : decode cX8_leastFrom 54 = .ok (.invokevirtual 214, 3) := by decide +kernel
theorem jX8_leastFrom_61 : decode cX8_leastFrom 61 = .ok (.invokestatic 146, 3) := by decide +kernel
theorem jX8_leastFrom_69 : decode cX8_leastFrom 69 = .ok (.ireturn, 1) := by decide +kernel
theorem jX8_leastFrom_71 : decode cX8_leastFrom 71 = .ok (.instanceof 65, 3) := by decide +kernel
theorem jX8_leastFrom_74 : decode cX8_leastFrom 74 = .ok (.ifCond .eq 24, 3) := by decide +kernel
theorem jX8_leastFrom_78 : decode cX8_leastFrom 78 = .ok (.checkcast 65, 3) := by decide +kernel
theorem jX8_leastFrom_85 : decode cX8_leastFrom 85 = .ok (.getfield 136, 3) := by decide +kernel
theorem jX8_leastFrom_89 : decode cX8_leastFrom 89 = .ok (.if_icmp .lt 9, 3) := by decide +kernel
theorem jX8_leastFrom_94 : decode cX8_leastFrom 94 = .ok (.getfield 136, 3) := by decide +kernel
theorem jX8_leastFrom_97 : decode cX8_leastFrom 97 = .ok (.ireturn, 1) := by decide +kernel
theorem jX8_leastFrom_99 : decode cX8_leastFrom 99 = .ok (.instanceof 134, 3) := by decide +kernel
theorem jX8_leastFrom_102 : decode cX8_leastFrom 102 = .ok (.ifCond .eq 13, 3) := by decide +kernel
theorem jX8_leastFrom_107 : decode cX8_leastFrom 107 = .ok (.if_icmp .lt 8, 3) := by decide +kernel
theorem jX8_leastFrom_117 : decode cX8_leastFrom 117 = .ok (.ireturn, 1) := by decide +kernel
def bX8_tapeBecomes_0 : List Ent := [e0 0 (.aload_n 0), ef 1 (.getfield 40) .null 7 5, ec 4 (.iconst 0) (.int 0), ef 5 (.putfield 104) (.int 0) 6 1, e0 8 (.aload_n 0), e0 9 (.aload_n 1), ec 10 (.iconst 0) (.int 0), ec 11 (.ldc 74) (.int 65535), ec 13 (.iconst 0) (.int 0)]
theorem oX8_tapeBecomes_0 : okB ftX8 ctX8 cX8_tapeBecomes 14 bX8_tapeBecomes_0 = true := by decide +kernel
def bX8_tapeBecomes_17 : List Ent := [e0 17 (.aload_n 0), ef 18 (.getfield 40) .null 7 5, ef 21 (.getfield 104) .null 6 1, ec 24 (.sipush 4000) (.int 4000)]
theorem oX8_tapeBecomes_17 : okB ftX8 ctX8 cX8_tapeBecomes 27 bX8_tapeBecomes_17 = true := by decide +kernel
def bX8_tapeBecomes_30 : List Ent := [ec 30 (.bipush (-3)) (.int (-3))]
theorem oX8_tapeBecomes_30 : okB ftX8 ctX8 cX8_tapeBecomes 32 bX8_tapeBecomes_30 = true := by decide +kernel
def bX8_tapeBecomes_33 : List Ent := [e0 33 (.aload_n 0), ef 34 (.getfield 36) .null 7 4, e0 37 (.astore_n 2), e0 38 (.aload_n 0), e0 39 (.aload_n 0), ef 40 (.getfield 40) .null 7 5, ef 43 (.putfield 36) .null 7 4, e0 46 (.aload_n 0), e0 47 (.aload_n 2), ef 48 (.putfield 40) .null 7 5, e0 51 (.aload_n 0), ef 52 (.getfield 36) .null 7 4, ef 55 (.getfield 104) .null 6 1]
theorem oX8_tapeBecomes_33 : okB ftX8 ctX8 cX8_tapeBecomes 58 bX8_tapeBecomes_33 = true := by decide +kernel
theorem jX8_tapeBecomes_14 : decode cX8_tapeBecomes 14 = .ok (.invokevirtual 217, 3) := by decide +kernel
theorem jX8_tapeBecomes_27 : decode cX8_tapeBecomes 27 = .ok (.if_icmp .le 6, 3) := by decide +kernel
theorem jX8_tapeBecomes_32 : decode cX8_tapeBecomes 32 = .ok (.ireturn, 1) := by decide +kernel
theorem jX8_tapeBecomes_58 : decode cX8_tapeBecomes 58 = .ok (.ireturn, 1) := by decide +kernel
def bX8_appendShown_0 : List Ent := [e0 0 (.aload_n 1)]
theorem oX8_appendShown_0 : okB ftX8 ctX8 cX8_appendShown 1 bX8_appendShown_0 = true := by decide +kernel
def bX8_appendShown_7 : List Ent := [e0 7 (.aload_n 0), ef 8 (.getfield 18) .null 7 1, e0 11 (.iload_n 2), e0 12 (.iload_n 3)]
theorem oX8_appendShown_7 : okB ftX8 ctX8 cX8_appendShown 13 bX8_appendShown_7 = true := by decide +kernel
def bX8_appendShown_19 : List Ent := [e0 19 (.aload_n 0), ef 20 (.getfield 40) .null 7 5, ec 23 (.iconst 1) (.int 1), ec 24 (.lconst 0) (.long 0)]
theorem oX8_appendShown_19 : okB ftX8 ctX8 cX8_appendShown 25 bX8_appendShown_19 = true := by decide +kernel
def bX8_appendShown_28 : List Ent := [e0 28 (.aload_n 0), ef 29 (.getfield 40) .null 7 5, ec 32 (.bipush 8) (.int 8), e0 34 (.aload_n 1)]
theorem oX8_appendShown_28 : okB ftX8 ctX8 cX8_appendShown 35 bX8_appendShown_28 = true := by decide +kernel
def bX8_appendShown_41 : List Ent := [e0 41 (.goto 177)]
theorem oX8_appendShown_41 : okB ftX8 ctX8 cX8_appendShown 218 bX8_appendShown_41 = true := by decide +kernel
def bX8_appendShown_44 : List Ent := [e0 44 (.aload_n 1)]
theorem oX8_appendShown_44 : okB ftX8 ctX8 cX8_appendShown 45 bX8_appendShown_44 = true := by decide +kernel
def bX8_appendShown_51 : List Ent := [e0 51 (.aload_n 1)]
theorem oX8_appendShown_51 : okB ftX8 ctX8 cX8_appendShown 52 bX8_appendShown_51 = true := by decide +kernel
def bX8_appendShown_55 : List Ent := [e0 55 (.astore 5), e0 57 (.iload 4), ec 59 (.bipush 16) (.int 16)]
theorem oX8_appendShown_55 : okB ftX8 ctX8 cX8_appendShown 61 bX8_appendShown_55 = true := by decide +kernel
def bX8_appendShown_64 : List Ent := [e0 64 (.aload_n 0), ef 65 (.getfield 40) .null 7 5, ec 68 (.iconst 1) (.int 1), ec 69 (.lconst 1) (.long 1)]
theorem oX8_appendShown_64 : okB ftX8 ctX8 cX8_appendShown 70 bX8_appendShown_64 = true := by decide +kernel
def bX8_appendShown_73 : List Ent := [e0 73 (.aload_n 0), ef 74 (.getfield 40) .null 7 5, ec 77 (.iconst 1) (.int 1), e0 78 (.aload 5)]
theorem oX8_appendShown_73 : okB ftX8 ctX8 cX8_appendShown 80 bX8_appendShown_73 = true := by decide +kernel
def bX8_appendShown_83 : List Ent := [e0 83 .i2l]
theorem oX8_appendShown_83 : okB ftX8 ctX8 cX8_appendShown 84 bX8_appendShown_83 = true := by decide +kernel
def bX8_appendShown_87 : List Ent := [e0 87 (.aload_n 0), ef 88 (.getfield 40) .null 7 5, ec 91 (.iconst 2) (.int 2), e0 92 (.aload 5)]
theorem oX8_appendShown_87 : okB ftX8 ctX8 cX8_appendShown 94 bX8_appendShown_87 = true := by decide +kernel
def bX8_appendShown_97 : List Ent := [e0 97 .i2l]
theorem oX8_appendShown_97 : okB ftX8 ctX8 cX8_appendShown 98 bX8_appendShown_97 = true := by decide +kernel
def bX8_appendShown_101 : List Ent := [e0 101 (.aload_n 0), e0 102 (.aload 5)]
theorem oX8_appendShown_101 : okB ftX8 ctX8 cX8_appendShown 104 bX8_appendShown_101 = true := by decide +kernel
def bX8_appendShown_107 : List Ent := [e0 107 (.aload 5)]
theorem oX8_appendShown_107 : okB ftX8 ctX8 cX8_appendShown 109 bX8_appendShown_107 = true := by decide +kernel
def bX8_appendShown_112 : List Ent := [e0 112 (.aload 5)]
theorem oX8_appendShown_112 : okB ftX8 ctX8 cX8_appendShown 114 bX8_appendShown_112 = true := by decide +kernel
def bX8_appendShown_117 : List Ent := [ec 117 (.iconst 1) (.int 1), e0 118 .isub, e0 119 (.iload 4), ec 121 (.iconst 1) (.int 1), e0 122 .iadd]
theorem oX8_appendShown_117 : okB ftX8 ctX8 cX8_appendShown 123 bX8_appendShown_117 = true := by decide +kernel
def bX8_appendShown_126 : List Ent := [e0 126 (.aload_n 0), e0 127 (.aload 5)]
theorem oX8_appendShown_126 : okB ftX8 ctX8 cX8_appendShown 129 bX8_appendShown_126 = true := by decide +kernel
def bX8_appendShown_132 : List Ent := [e0 132 (.aload 5)]
theorem oX8_appendShown_132 : okB ftX8 ctX8 cX8_appendShown 134 bX8_appendShown_132 = true := by decide +kernel
def bX8_appendShown_137 : List Ent := [e0 137 (.aload 5)]
theorem oX8_appendShown_137 : okB ftX8 ctX8 cX8_appendShown 139 bX8_appendShown_137 = true := by decide +kernel
def bX8_appendShown_142 : List Ent := [e0 142 (.iload 4), ec 144 (.iconst 1) (.int 1), e0 145 .iadd]
theorem oX8_appendShown_142 : okB ftX8 ctX8 cX8_appendShown 146 bX8_appendShown_142 = true := by decide +kernel
def bX8_appendShown_149 : List Ent := [e0 149 (.goto 69)]
theorem oX8_appendShown_149 : okB ftX8 ctX8 cX8_appendShown 218 bX8_appendShown_149 = true := by decide +kernel
def bX8_appendShown_152 : List Ent := [e0 152 (.aload_n 1)]
theorem oX8_appendShown_152 : okB ftX8 ctX8 cX8_appendShown 153 bX8_appendShown_152 = true := by decide +kernel
def bX8_appendShown_159 : List Ent := [e0 159 (.aload_n 1)]
theorem oX8_appendShown_159 : okB ftX8 ctX8 cX8_appendShown 160 bX8_appendShown_159 = true := by decide +kernel
def bX8_appendShown_163 : List Ent := [e0 163 (.astore 6), e0 165 (.aload_n 0), ef 166 (.getfield 40) .null 7 5, ec 169 (.iconst 1) (.int 1), ec 170 (.ldc2_w 165) (.long (2))]
theorem oX8_appendShown_163 : okB ftX8 ctX8 cX8_appendShown 173 bX8_appendShown_163 = true := by decide +kernel
def bX8_appendShown_176 : List Ent := [e0 176 (.aload_n 0), ef 177 (.getfield 40) .null 7 5, ec 180 (.iconst 2) (.int 2), e0 181 (.aload 6)]
theorem oX8_appendShown_176 : okB ftX8 ctX8 cX8_appendShown 183 bX8_appendShown_176 = true := by decide +kernel
def bX8_appendShown_186 : List Ent := [e0 186 .i2l]
theorem oX8_appendShown_186 : okB ftX8 ctX8 cX8_appendShown 187 bX8_appendShown_186 = true := by decide +kernel
def bX8_appendShown_190 : List Ent := [e0 190 (.aload_n 0), ef 191 (.getfield 40) .null 7 5, ec 194 (.bipush 8) (.int 8), e0 196 (.aload 6)]
theorem oX8_appendShown_190 : okB ftX8 ctX8 cX8_appendShown 198 bX8_appendShown_190 = true := by decide +kernel
def bX8_appendShown_204 : List Ent := [e0 204 (.goto 14)]
theorem oX8_appendShown_204 : okB ftX8 ctX8 cX8_appendShown 218 bX8_appendShown_204 = true := by decide +kernel
def bX8_appendShown_207 : List Ent := [e0 207 (.aload_n 0), ef 208 (.getfield 40) .null 7 5, ec 211 (.iconst 1) (.int 1), ec 212 (.ldc2_w 159) (.long (3))]
theorem oX8_appendShown_207 : okB ftX8 ctX8 cX8_appendShown 215 bX8_appendShown_207 = true := by decide +kernel
theorem jX8_appendShown_1 : decode cX8_appendShown 1 = .ok (.instanceof 134, 3) := by decide +kernel
theorem jX8_appendShown_4 : decode cX8_appendShown 4 = .ok (.ifCond .ne 15, 3) := by decide +kernel
theorem jX8_appendShown_13 : decode cX8_appendShown 13 = .ok (.invokevirtual 221, 3) := by decide +kernel
theorem jX8_appendShown_16 : decode cX8_appendShown 16 = .ok (.ifCond .ne 28, 3) := by decide +kernel
theorem jX8_appendShown_25 : decode cX8_appendShown 25 = .ok (.invokevirtual 107, 3) := by decide +kernel
theorem jX8_appendShown_35 : decode cX8_appendShown 35 = .ok (.getfield 87, 3) := by decide +kernel
theorem jX8_appendShown_38 : decode cX8_appendShown 38 = .ok (.invokevirtual 107, 3) := by decide +kernel
theorem jX8_appendShown_45 : decode cX8_appendShown 45 = .ok (.instanceof 167, 3) := by decide +kernel
theorem jX8_appendShown_48 : decode cX8_appendShown 48 = .ok (.ifCond .eq 104, 3) := by decide +kernel
theorem jX8_appendShown_52 : decode cX8_appendShown 52 = .ok (.checkcast 167, 3) := by decide +kernel
theorem jX8_appendShown_61 : decode cX8_appendShown 61 = .ok (.if_icmp .ge 91, 3) := by decide +kernel
theorem jX8_appendShown_70 : decode cX8_appendShown 70 = .ok (.invokevirtual 107, 3) := by decide +kernel
theorem jX8_appendShown_80 : decode cX8_appendShown 80 = .ok (.getfield 224, 3) := by decide +kernel
theorem jX8_appendShown_84 : decode cX8_appendShown 84 = .ok (.invokevirtual 107, 3) := by decide +kernel
theorem jX8_appendShown_94 : decode cX8_appendShown 94 = .ok (.getfield 179, 3) := by decide +kernel
theorem jX8_appendShown_98 : decode cX8_appendShown 98 = .ok (.invokevirtual 107, 3) := by decide +kernel
theorem jX8_appendShown_104 : decode cX8_appendShown 104 = .ok (.getfield 199, 3) := by decide +kernel
theorem jX8_appendShown_109 : decode cX8_appendShown 109 = .ok (.getfield 179, 3) := by decide +kernel
theorem jX8_appendShown_114 : decode cX8_appendShown 114 = .ok (.invokevirtual 210, 3) := by decide +kernel
theorem jX8_appendShown_123 : decode cX8_appendShown 123 = .ok (.invokevirtual 217, 3) := by decide +kernel
theorem jX8_appendShown_129 : decode cX8_appendShown 129 = .ok (.getfield 202, 3) := by decide +kernel
theorem jX8_appendShown_134 : decode cX8_appendShown 134 = .ok (.invokevirtual 210, 3) := by decide +kernel
theorem jX8_appendShown_139 : decode cX8_appendShown 139 = .ok (.invokevirtual 214, 3) := by decide +kernel
theorem jX8_appendShown_146 : decode cX8_appendShown 146 = .ok (.invokevirtual 217, 3) := by decide +kernel
theorem jX8_appendShown_153 : decode cX8_appendShown 153 = .ok (.instanceof 65, 3) := by decide +kernel
theorem jX8_appendShown_156 : decode cX8_appendShown 156 = .ok (.ifCond .eq 51, 3) := by decide +kernel
theorem jX8_appendShown_160 : decode cX8_appendShown 160 = .ok (.checkcast 65, 3) := by decide +kernel
theorem jX8_appendShown_173 : decode cX8_appendShown 173 = .ok (.invokevirtual 107, 3) := by decide +kernel
theorem jX8_appendShown_183 : decode cX8_appendShown 183 = .ok (.getfield 136, 3) := by decide +kernel
theorem jX8_appendShown_187 : decode cX8_appendShown 187 = .ok (.invokevirtual 107, 3) := by decide +kernel
theorem jX8_appendShown_198 : decode cX8_appendShown 198 = .ok (.getfield 139, 3) := by decide +kernel
theorem jX8_appendShown_201 : decode cX8_appendShown 201 = .ok (.invokevirtual 107, 3) := by decide +kernel
theorem jX8_appendShown_215 : decode cX8_appendShown 215 = .ok (.invokevirtual 107, 3) := by decide +kernel
theorem jX8_appendShown_218 : decode cX8_appendShown 218 = .ok (.return_, 1) := by decide +kernel
