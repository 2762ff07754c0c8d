def ftX9 : List (Nat × Nat × Nat) := [(7, 8, 0), (13, 8, 1), (17, 8, 2), (98, 8, 3), (20, 8, 4), (23, 8, 5), (139, 8, 6), (26, 8, 7), (147, 8, 8), (29, 8, 9), (32, 8, 10), (35, 8, 11), (109, 8, 12), (38, 8, 13), (142, 8, 14), (41, 8, 15), (44, 8, 16), (47, 8, 17), (50, 8, 18), (150, 8, 19), (53, 8, 20), (56, 8, 21), (59, 8, 22), (62, 8, 23), (65, 8, 24), (68, 8, 25), (71, 8, 26), (74, 8, 27), (176, 8, 28), (186, 8, 29), (77, 8, 30), (81, 8, 31), (189, 8, 32), (84, 8, 33), (169, 8, 34), (192, 8, 35), (195, 8, 36), (202, 8, 37), (220, 8, 38), (224, 8, 39), (227, 8, 40), (230, 8, 41)]
theorem foX9 : FTo RX9 ftX9 := List.forall_mem_cons.mpr ⟨⟨(RX9, TX9, 42), rfl, by decide, fl_X9_7⟩, List.forall_mem_cons.mpr ⟨⟨(RX9, TX9, 42), rfl, by decide, fl_X9_13⟩, List.forall_mem_cons.mpr ⟨⟨(RX9, TX9, 42), rfl, by decide, fl_X9_17⟩, List.forall_mem_cons.mpr ⟨⟨(RX9, TX9, 42), rfl, by decide, fl_X9_98⟩, List.forall_mem_cons.mpr ⟨⟨(RX9, TX9, 42), rfl, by decide, fl_X9_20⟩, List.forall_mem_cons.mpr ⟨⟨(RX9, TX9, 42), rfl, by decide, fl_X9_23⟩, List.forall_mem_cons.mpr ⟨⟨(RX9, TX9, 42), rfl, by decide, fl_X9_139⟩, List.forall_mem_cons.mpr ⟨⟨(RX9, TX9, 42), rfl, by decide, fl_X9_26⟩, List.forall_mem_cons.mpr ⟨⟨(RX9, TX9, 42), rfl, by decide, fl_X9_147⟩, List.forall_mem_cons.mpr ⟨⟨(RX9, TX9, 42), rfl, by decide, fl_X9_29⟩, List.forall_mem_cons.mpr ⟨⟨(RX9, TX9, 42), rfl, by decide, fl_X9_32⟩, List.forall_mem_cons.mpr ⟨⟨(RX9, TX9, 42), rfl, by decide, fl_X9_35⟩, List.forall_mem_cons.mpr ⟨⟨(RX9, TX9, 42), rfl, by decide, fl_X9_109⟩, List.forall_mem_cons.mpr ⟨⟨(RX9, TX9, 42), rfl, by decide, fl_X9_38⟩, List.forall_mem_cons.mpr ⟨⟨(RX9, TX9, 42), rfl, by decide, fl_X9_142⟩, List.forall_mem_cons.mpr ⟨⟨(RX9, TX9, 42), rfl, by decide, fl_X9_41⟩, List.forall_mem_cons.mpr ⟨⟨(RX9, TX9, 42), rfl, by decide, fl_X9_44⟩, List.forall_mem_cons.mpr ⟨⟨(RX9, TX9, 42), rfl, by decide, fl_X9_47⟩, List.forall_mem_cons.mpr ⟨⟨(RX9, TX9, 42), rfl, by decide, fl_X9_50⟩, List.forall_mem_cons.mpr ⟨⟨(RX9, TX9, 42), rfl, by decide, fl_X9_150⟩, List.forall_mem_cons.mpr ⟨⟨(RX9, TX9, 42), rfl, by decide, fl_X9_53⟩, List.forall_mem_cons.mpr ⟨⟨(RX9, TX9, 42), rfl, by decide, fl_X9_56⟩, List.forall_mem_cons.mpr ⟨⟨(RX9, TX9, 42), rfl, by decide, fl_X9_59⟩, List.forall_mem_cons.mpr ⟨⟨(RX9, TX9, 42), rfl, by decide, fl_X9_62⟩, List.forall_mem_cons.mpr ⟨⟨(RX9, TX9, 42), rfl, by decide, fl_X9_65⟩, List.forall_mem_cons.mpr ⟨⟨(RX9, TX9, 42), rfl, by decide, fl_X9_68⟩, List.forall_mem_cons.mpr ⟨⟨(RX9, TX9, 42), rfl, by decide, fl_X9_71⟩, List.forall_mem_cons.mpr ⟨⟨(RX9, TX9, 42), rfl, by decide, fl_X9_74⟩, List.forall_mem_cons.mpr ⟨⟨(RX9, TX9, 42), rfl, by decide, fl_X9_176⟩, List.forall_mem_cons.mpr ⟨⟨(RX9, TX9, 42), rfl, by decide, fl_X9_186⟩, List.forall_mem_cons.mpr ⟨⟨(RX9, TX9, 42), rfl, by decide, fl_X9_77⟩, List.forall_mem_cons.mpr ⟨⟨(RX9, TX9, 42), rfl, by decide, fl_X9_81⟩, List.forall_mem_cons.mpr ⟨⟨(RX9, TX9, 42), rfl, by decide, fl_X9_189⟩, List.forall_mem_cons.mpr ⟨⟨(RX9, TX9, 42), rfl, by decide, fl_X9_84⟩, List.forall_mem_cons.mpr ⟨⟨(RX9, TX9, 42), rfl, by decide, fl_X9_169⟩, List.forall_mem_cons.mpr ⟨⟨(RX9, TX9, 42), rfl, by decide, fl_X9_192⟩, List.forall_mem_cons.mpr ⟨⟨(RX9, TX9, 42), rfl, by decide, fl_X9_195⟩, List.forall_mem_cons.mpr ⟨⟨(RX9, TX9, 42), rfl, by decide, fl_X9_202⟩, List.forall_mem_cons.mpr ⟨⟨(RX9, TX9, 42), rfl, by decide, fl_X9_220⟩, List.forall_mem_cons.mpr ⟨⟨(RX9, TX9, 42), rfl, by decide, fl_X9_224⟩, List.forall_mem_cons.mpr ⟨⟨(RX9, TX9, 42), rfl, by decide, fl_X9_227⟩, List.forall_mem_cons.mpr ⟨⟨(RX9, TX9, 42), rfl, by decide, fl_X9_230⟩, fun _ h => absurd h List.not_mem_nil⟩⟩⟩⟩⟩⟩⟩⟩⟩⟩⟩⟩⟩⟩⟩⟩⟩⟩⟩⟩⟩⟩⟩⟩⟩⟩⟩⟩⟩⟩⟩⟩⟩⟩⟩⟩⟩⟩⟩⟩⟩⟩
def ctX9 : List (Nat × Value) := [(87, .int 65535), (112, .long (3)), (88, .long (-7046029254386353131)), (90, .long (-4658895280553007687)), (96, .long (2)), (145, .long (255)), (223, .int 70000)]
theorem coX9 : CTo RX9 ctX9 := List.forall_mem_cons.mpr ⟨co_X9_87, List.forall_mem_cons.mpr ⟨co_X9_112, List.forall_mem_cons.mpr ⟨co_X9_88, List.forall_mem_cons.mpr ⟨co_X9_90, List.forall_mem_cons.mpr ⟨co_X9_96, List.forall_mem_cons.mpr ⟨co_X9_145, List.forall_mem_cons.mpr ⟨co_X9_223, fun _ h => absurd h List.not_mem_nil⟩⟩⟩⟩⟩⟩⟩
def bX9_init_0 : List Ent := [e0 0 (.aload_n 0)]
theorem oX9_init_0 : okB ftX9 ctX9 cX9_init 1 bX9_init_0 = true := by decide +kernel
def bX9_init_4 : List Ent := [e0 4 (.aload_n 0), ec 5 (.sipush 2701) (.int 2701)]
theorem oX9_init_4 : okB ftX9 ctX9 cX9_init 8 bX9_init_4 = true := by decide +kernel
def bX9_init_13 : List Ent := [e0 13 (.aload_n 0), ec 14 (.sipush 2701) (.int 2701)]
theorem oX9_init_13 : okB ftX9 ctX9 cX9_init 17 bX9_init_13 = true := by decide +kernel
def bX9_init_22 : List Ent := [e0 22 (.aload_n 0), ec 23 (.bipush 9) (.int 9)]
theorem oX9_init_22 : okB ftX9 ctX9 cX9_init 25 bX9_init_22 = true := by decide +kernel
def bX9_init_30 : List Ent := [e0 30 (.aload_n 0), ec 31 (.bipush 20) (.int 20)]
theorem oX9_init_30 : okB ftX9 ctX9 cX9_init 33 bX9_init_30 = true := by decide +kernel
def bX9_init_38 : List Ent := [e0 38 (.aload_n 0), ec 39 (.bipush 20) (.int 20)]
theorem oX9_init_38 : okB ftX9 ctX9 cX9_init 41 bX9_init_38 = true := by decide +kernel
def bX9_init_46 : List Ent := [e0 46 (.aload_n 0), ec 47 (.sipush 4000) (.int 4000)]
theorem oX9_init_46 : okB ftX9 ctX9 cX9_init 50 bX9_init_46 = true := by decide +kernel
def bX9_init_55 : List Ent := [e0 55 (.aload_n 0), ec 56 (.sipush 302) (.int 302)]
theorem oX9_init_55 : okB ftX9 ctX9 cX9_init 59 bX9_init_55 = true := by decide +kernel
def bX9_init_64 : List Ent := [e0 64 (.aload_n 0), ec 65 (.sipush 302) (.int 302)]
theorem oX9_init_64 : okB ftX9 ctX9 cX9_init 68 bX9_init_64 = true := by decide +kernel
def bX9_init_73 : List Ent := [e0 73 (.aload_n 0), ec 74 (.sipush 302) (.int 302)]
theorem oX9_init_73 : okB ftX9 ctX9 cX9_init 77 bX9_init_73 = true := by decide +kernel
def bX9_init_82 : List Ent := [e0 82 (.aload_n 0), ec 83 (.sipush 4000) (.int 4000)]
theorem oX9_init_82 : okB ftX9 ctX9 cX9_init 86 bX9_init_82 = true := by decide +kernel
def bX9_init_91 : List Ent := [e0 91 (.aload_n 0), ec 92 (.sipush 800) (.int 800)]
theorem oX9_init_91 : okB ftX9 ctX9 cX9_init 95 bX9_init_91 = true := by decide +kernel
def bX9_init_100 : List Ent := [e0 100 (.aload_n 0), ec 101 (.sipush 800) (.int 800)]
theorem oX9_init_100 : okB ftX9 ctX9 cX9_init 104 bX9_init_100 = true := by decide +kernel
def bX9_init_109 : List Ent := [e0 109 (.aload_n 0), ec 110 (.sipush 800) (.int 800)]
theorem oX9_init_109 : okB ftX9 ctX9 cX9_init 113 bX9_init_109 = true := by decide +kernel
def bX9_init_118 : List Ent := [e0 118 (.aload_n 0), ec 119 (.sipush 800) (.int 800)]
theorem oX9_init_118 : okB ftX9 ctX9 cX9_init 122 bX9_init_118 = true := by decide +kernel
def bX9_init_127 : List Ent := [e0 127 (.aload_n 0), ec 128 (.sipush 1600) (.int 1600)]
theorem oX9_init_127 : okB ftX9 ctX9 cX9_init 131 bX9_init_127 = true := by decide +kernel
def bX9_init_136 : List Ent := [e0 136 (.aload_n 0), ec 137 (.sipush 1600) (.int 1600)]
theorem oX9_init_136 : okB ftX9 ctX9 cX9_init 140 bX9_init_136 = true := by decide +kernel
def bX9_init_145 : List Ent := [e0 145 (.aload_n 0), ec 146 (.sipush 1600) (.int 1600)]
theorem oX9_init_145 : okB ftX9 ctX9 cX9_init 149 bX9_init_145 = true := by decide +kernel
def bX9_init_154 : List Ent := [e0 154 (.aload_n 0), ec 155 (.sipush 1600) (.int 1600)]
theorem oX9_init_154 : okB ftX9 ctX9 cX9_init 158 bX9_init_154 = true := by decide +kernel
def bX9_init_163 : List Ent := [e0 163 (.aload_n 0), ec 164 (.sipush 1600) (.int 1600)]
theorem oX9_init_163 : okB ftX9 ctX9 cX9_init 167 bX9_init_163 = true := by decide +kernel
def bX9_init_172 : List Ent := [e0 172 (.aload_n 0), ec 173 (.sipush 1600) (.int 1600)]
theorem oX9_init_172 : okB ftX9 ctX9 cX9_init 176 bX9_init_172 = true := by decide +kernel
def bX9_init_181 : List Ent := [e0 181 (.aload_n 0), ec 182 (.sipush 1600) (.int 1600)]
theorem oX9_init_181 : okB ftX9 ctX9 cX9_init 185 bX9_init_181 = true := by decide +kernel
def bX9_init_190 : List Ent := [e0 190 (.aload_n 0), ec 191 (.sipush 1600) (.int 1600)]
theorem oX9_init_190 : okB ftX9 ctX9 cX9_init 194 bX9_init_190 = true := by decide +kernel
def bX9_init_199 : List Ent := [e0 199 (.aload_n 0), ec 200 (.bipush (-2)) (.int (-2)), ef 202 (.putfield 77) (.int 0) 8 30, e0 205 (.aload_n 0), ec 206 (.sipush 800) (.int 800)]
theorem oX9_init_199 : okB ftX9 ctX9 cX9_init 209 bX9_init_199 = true := by decide +kernel
def bX9_init_214 : List Ent := [e0 214 (.aload_n 0), ec 215 (.bipush (-2)) (.int (-2)), ef 217 (.putfield 84) (.int 0) 8 33]
theorem oX9_init_214 : okB ftX9 ctX9 cX9_init 220 bX9_init_214 = true := by decide +kernel
theorem jX9_init_1 : decode cX9_init 1 = .ok (.invokespecial 1, 3) := by decide +kernel
theorem jX9_init_8 : decode cX9_init 8 = .ok (.newarray .int, 2) := by decide +kernel
theorem jX9_init_10 : decode cX9_init 10 = .ok (.putfield 7, 3) := by decide +kernel
theorem jX9_init_17 : decode cX9_init 17 = .ok (.newarray .long, 2) := by decide +kernel
theorem jX9_init_19 : decode cX9_init 19 = .ok (.putfield 13, 3) := by decide +kernel
theorem jX9_init_25 : decode cX9_init 25 = .ok (.newarray .int, 2) := by decide +kernel
theorem jX9_init_27 : decode cX9_init 27 = .ok (.putfield 17, 3) := by decide +kernel
theorem jX9_init_33 : decode cX9_init 33 = .ok (.newarray .int, 2) := by decide +kernel
theorem jX9_init_35 : decode cX9_init 35 = .ok (.putfield 20, 3) := by decide +kernel
theorem jX9_init_41 : decode cX9_init 41 = .ok (.newarray .int, 2) := by decide +kernel
theorem jX9_init_43 : decode cX9_init 43 = .ok (.putfield 23, 3) := by decide +kernel
theorem jX9_init_50 : decode cX9_init 50 = .ok (.newarray .int, 2) := by decide +kernel
theorem jX9_init_52 : decode cX9_init 52 = .ok (.putfield 26, 3) := by decide +kernel
theorem jX9_init_59 : decode cX9_init 59 = .ok (.newarray .long, 2) := by decide +kernel
theorem jX9_init_61 : decode cX9_init 61 = .ok (.putfield 29, 3) := by decide +kernel
theorem jX9_init_68 : decode cX9_init 68 = .ok (.newarray .int, 2) := by decide +kernel
theorem jX9_init_70 : decode cX9_init 70 = .ok (.putfield 32, 3) := by decide +kernel
theorem jX9_init_77 : decode cX9_init 77 = .ok (.newarray .int, 2) := by decide +kernel
theorem jX9_init_79 : decode cX9_init 79 = .ok (.putfield 35, 3) := by decide +kernel
theorem jX9_init_86 : decode cX9_init 86 = .ok (.newarray .int, 2) := by decide +kernel
theorem jX9_init_88 : decode cX9_init 88 = .ok (.putfield 38, 3) := by decide +kernel
theorem jX9_init_95 : decode cX9_init 95 = .ok (.newarray .int, 2) := by decide +kernel
theorem jX9_init_97 : decode cX9_init 97 = .ok (.putfield 41, 3) := by decide +kernel
theorem jX9_init_104 : decode cX9_init 104 = .ok (.newarray .int, 2) := by decide +kernel
theorem jX9_init_106 : decode cX9_init 106 = .ok (.putfield 44, 3) := by decide +kernel
theorem jX9_init_113 : decode cX9_init 113 = .ok (.newarray .int, 2) := by decide +kernel
theorem jX9_init_115 : decode cX9_init 115 = .ok (.putfield 47, 3) := by decide +kernel
theorem jX9_init_122 : decode cX9_init 122 = .ok (.newarray .int, 2) := by decide +kernel
theorem jX9_init_124 : decode cX9_init 124 = .ok (.putfield 50, 3) := by decide +kernel
theorem jX9_init_131 : decode cX9_init 131 = .ok (.newarray .int, 2) := by decide +kernel
theorem jX9_init_133 : decode cX9_init 133 = .ok (.putfield 53, 3) := by decide +kernel
theorem jX9_init_140 : decode cX9_init 140 = .ok (.newarray .int, 2) := by decide +kernel
theorem jX9_init_142 : decode cX9_init 142 = .ok (.putfield 56, 3) := by decide +kernel
theorem jX9_init_149 : decode cX9_init 149 = .ok (.newarray .int, 2) := by decide +kernel
theorem jX9_init_151 : decode cX9_init 151 = .ok (.putfield 59, 3) := by decide +kernel
theorem jX9_init_158 : decode cX9_init 158 = .ok (.newarray .long, 2) := by decide +kernel
theorem jX9_init_160 : decode cX9_init 160 = .ok (.putfield 62, 3) := by decide +kernel
theorem jX9_init_167 : decode cX9_init 167 = .ok (.newarray .int, 2) := by decide +kernel
theorem jX9_init_169 : decode cX9_init 169 = .ok (.putfield 65, 3) := by decide +kernel
theorem jX9_init_176 : decode cX9_init 176 = .ok (.newarray .int, 2) := by decide +kernel
theorem jX9_init_178 : decode cX9_init 178 = .ok (.putfield 68, 3) := by decide +kernel
theorem jX9_init_185 : decode cX9_init 185 = .ok (.newarray .long, 2) := by decide +kernel
theorem jX9_init_187 : decode cX9_init 187 = .ok (.putfield 71, 3) := by decide +kernel
theorem jX9_init_194 : decode cX9_init 194 = .ok (.newarray .int, 2) := by decide +kernel
theorem jX9_init_196 : decode cX9_init 196 = .ok (.putfield 74, 3) := by decide +kernel
theorem jX9_init_209 : decode cX9_init 209 = .ok (.newarray .int, 2) := by decide +kernel
theorem jX9_init_211 : decode cX9_init 211 = .ok (.putfield 81, 3) := by decide +kernel
theorem jX9_init_220 : decode cX9_init 220 = .ok (.return_, 1) := by decide +kernel
def bX9_isPath_0 : List Ent := [e0 0 (.iload_n 0)]
theorem oX9_isPath_0 : okB ftX9 ctX9 cX9_isPath 1 bX9_isPath_0 = true := by decide +kernel
def bX9_isPath_4 : List Ent := [e0 4 (.iload_n 0), ec 5 (.ldc 87) (.int 65535)]
theorem oX9_isPath_4 : okB ftX9 ctX9 cX9_isPath 7 bX9_isPath_4 = true := by decide +kernel
def bX9_isPath_10 : List Ent := [ec 10 (.iconst 1) (.int 1), e0 11 (.goto 4)]
theorem oX9_isPath_10 : okB ftX9 ctX9 cX9_isPath 15 bX9_isPath_10 = true := by decide +kernel
def bX9_isPath_14 : List Ent := [ec 14 (.iconst 0) (.int 0)]
theorem oX9_isPath_14 : okB ftX9 ctX9 cX9_isPath 15 bX9_isPath_14 = true := by decide +kernel
theorem jX9_isPath_1 : decode cX9_isPath 1 = .ok (.ifCond .lt 13, 3) := by decide +kernel
theorem jX9_isPath_7 : decode cX9_isPath 7 = .ok (.if_icmp .gt 7, 3) := by decide +kernel
theorem jX9_isPath_15 : decode cX9_isPath 15 = .ok (.ireturn, 1) := by decide +kernel
def bX9_firstBit_0 : List Ent := [ec 0 (.iconst 0) (.int 0), e0 1 (.istore_n 2)]
theorem oX9_firstBit_0 : okB ftX9 ctX9 cX9_firstBit 2 bX9_firstBit_0 = true := by decide +kernel
def bX9_firstBit_2 : List Ent := [e0 2 (.iload_n 2), ec 3 (.bipush 15) (.int 15)]
theorem oX9_firstBit_2 : okB ftX9 ctX9 cX9_firstBit 5 bX9_firstBit_2 = true := by decide +kernel
def bX9_firstBit_8 : List Ent := [e0 8 (.iload_n 0), e0 9 (.iload_n 1), e0 10 .ixor, ec 11 (.bipush 15) (.int 15), e0 13 (.iload_n 2), e0 14 .isub, e0 15 .ishr]
theorem oX9_firstBit_8 : okB ftX9 ctX9 cX9_firstBit 16 bX9_firstBit_8 = true := by decide +kernel
def bX9_firstBit_19 : List Ent := [ec 19 (.iinc 2 1) (.int 1), e0 22 (.goto (-20))]
theorem oX9_firstBit_19 : okB ftX9 ctX9 cX9_firstBit 2 bX9_firstBit_19 = true := by decide +kernel
def bX9_firstBit_25 : List Ent := [e0 25 (.iload_n 2)]
theorem oX9_firstBit_25 : okB ftX9 ctX9 cX9_firstBit 26 bX9_firstBit_25 = true := by decide +kernel
theorem jX9_firstBit_5 : decode cX9_firstBit 5 = .ok (.if_icmp .ge 20, 3) := by decide +kernel
theorem jX9_firstBit_16 : decode cX9_firstBit 16 = .ok (.ifCond .ne 9, 3) := by decide +kernel
theorem jX9_firstBit_26 : decode cX9_firstBit 26 = .ok (.ireturn, 1) := by decide +kernel
def bX9_stemOf_0 : List Ent := [e0 0 (.iload_n 0), ec 1 (.bipush 16) (.int 16), e0 3 (.iload_n 1), e0 4 .isub, e0 5 .ishr, ec 6 (.bipush 16) (.int 16), e0 8 (.iload_n 1), e0 9 .isub, e0 10 .ishl]
theorem oX9_stemOf_0 : okB ftX9 ctX9 cX9_stemOf 11 bX9_stemOf_0 = true := by decide +kernel
theorem jX9_stemOf_11 : decode cX9_stemOf 11 = .ok (.ireturn, 1) := by decide +kernel
def bX9_mix_0 : List Ent := [e0 0 (.lload_n 0), e0 1 (.lload_n 2), e0 2 .lxor, ec 3 (.ldc2_w 88) (.long (-7046029254386353131)), e0 6 .lmul, e0 7 (.lstore 4), e0 9 (.lload 4), e0 11 (.lload 4), ec 13 (.bipush 29) (.int 29), e0 15 .lushr, e0 16 .lxor, ec 17 (.ldc2_w 90) (.long (-4658895280553007687)), e0 20 .lmul, e0 21 (.lstore 4), e0 23 (.lload 4), e0 25 (.lload 4), ec 27 (.bipush 32) (.int 32), e0 29 .lushr, e0 30 .lxor]
theorem oX9_mix_0 : okB ftX9 ctX9 cX9_mix 31 bX9_mix_0 = true := by decide +kernel
theorem jX9_mix_31 : decode cX9_mix 31 = .ok (.lreturn, 1) := by decide +kernel
def bX9_leafDigest_0 : List Ent := [ec 0 (.lconst 0) (.long 0), ec 1 (.lconst 1) (.long 1)]
theorem oX9_leafDigest_0 : okB ftX9 ctX9 cX9_leafDigest 2 bX9_leafDigest_0 = true := by decide +kernel
def bX9_leafDigest_5 : List Ent := [e0 5 (.iload_n 0), e0 6 .i2l]
theorem oX9_leafDigest_5 : okB ftX9 ctX9 cX9_leafDigest 7 bX9_leafDigest_5 = true := by decide +kernel
def bX9_leafDigest_10 : List Ent := [e0 10 (.lload_n 1)]
theorem oX9_leafDigest_10 : okB ftX9 ctX9 cX9_leafDigest 11 bX9_leafDigest_10 = true := by decide +kernel
theorem jX9_leafDigest_2 : decode cX9_leafDigest 2 = .ok (.invokestatic 92, 3) := by decide +kernel
theorem jX9_leafDigest_7 : decode cX9_leafDigest 7 = .ok (.invokestatic 92, 3) := by decide +kernel
theorem jX9_leafDigest_11 : decode cX9_leafDigest 11 = .ok (.invokestatic 92, 3) := by decide +kernel
theorem jX9_leafDigest_14 : decode cX9_leafDigest 14 = .ok (.lreturn, 1) := by decide +kernel
def bX9_forkDigest_0 : List Ent := [ec 0 (.lconst 0) (.long 0), ec 1 (.ldc2_w 96) (.long (2))]
theorem oX9_forkDigest_0 : okB ftX9 ctX9 cX9_forkDigest 4 bX9_forkDigest_0 = true := by decide +kernel
def bX9_forkDigest_7 : List Ent := [e0 7 (.iload_n 0), e0 8 .i2l]
theorem oX9_forkDigest_7 : okB ftX9 ctX9 cX9_forkDigest 9 bX9_forkDigest_7 = true := by decide +kernel
def bX9_forkDigest_12 : List Ent := [e0 12 (.iload_n 1), e0 13 .i2l]
theorem oX9_forkDigest_12 : okB ftX9 ctX9 cX9_forkDigest 14 bX9_forkDigest_12 = true := by decide +kernel
def bX9_forkDigest_17 : List Ent := [e0 17 (.lload_n 2)]
theorem oX9_forkDigest_17 : okB ftX9 ctX9 cX9_forkDigest 18 bX9_forkDigest_17 = true := by decide +kernel
def bX9_forkDigest_21 : List Ent := [e0 21 (.lload 4)]
theorem oX9_forkDigest_21 : okB ftX9 ctX9 cX9_forkDigest 23 bX9_forkDigest_21 = true := by decide +kernel
theorem jX9_forkDigest_4 : decode cX9_forkDigest 4 = .ok (.invokestatic 92, 3) := by decide +kernel
theorem jX9_forkDigest_9 : decode cX9_forkDigest 9 = .ok (.invokestatic 92, 3) := by decide +kernel
theorem jX9_forkDigest_14 : decode cX9_forkDigest 14 = .ok (.invokestatic 92, 3) := by decide +kernel
theorem jX9_forkDigest_18 : decode cX9_forkDigest 18 = .ok (.invokestatic 92, 3) := by decide +kernel
theorem jX9_forkDigest_23 : decode cX9_forkDigest 23 = .ok (.invokestatic 92, 3) := by decide +kernel
theorem jX9_forkDigest_26 : decode cX9_forkDigest 26 = .ok (.lreturn, 1) := by decide +kernel
def bX9_baseOf_0 : List Ent := [e0 0 (.iload_n 1), ec 1 (.iconst (-1)) (.int (-1))]
theorem oX9_baseOf_0 : okB ftX9 ctX9 cX9_baseOf 2 bX9_baseOf_0 = true := by decide +kernel
def bX9_baseOf_5 : List Ent := [ec 5 (.sipush 2400) (.int 2400), e0 8 (.goto 25)]
theorem oX9_baseOf_5 : okB ftX9 ctX9 cX9_baseOf 33 bX9_baseOf_5 = true := by decide +kernel
def bX9_baseOf_11 : List Ent := [e0 11 (.iload_n 1)]
theorem oX9_baseOf_11 : okB ftX9 ctX9 cX9_baseOf 12 bX9_baseOf_11 = true := by decide +kernel
def bX9_baseOf_15 : List Ent := [e0 15 (.iload_n 1), e0 16 (.aload_n 0), ef 17 (.getfield 98) .null 8 3]
theorem oX9_baseOf_15 : okB ftX9 ctX9 cX9_baseOf 20 bX9_baseOf_15 = true := by decide +kernel
def bX9_baseOf_23 : List Ent := [ec 23 (.sipush 300) (.int 300), e0 26 (.iload_n 1), e0 27 .imul, e0 28 (.goto 5)]
theorem oX9_baseOf_23 : okB ftX9 ctX9 cX9_baseOf 33 bX9_baseOf_23 = true := by decide +kernel
def bX9_baseOf_31 : List Ent := [ec 31 (.bipush (-2)) (.int (-2))]
theorem oX9_baseOf_31 : okB ftX9 ctX9 cX9_baseOf 33 bX9_baseOf_31 = true := by decide +kernel
theorem jX9_baseOf_2 : decode cX9_baseOf 2 = .ok (.if_icmp .ne 9, 3) := by decide +kernel
theorem jX9_baseOf_12 : decode cX9_baseOf 12 = .ok (.ifCond .lt 19, 3) := by decide +kernel
theorem jX9_baseOf_20 : decode cX9_baseOf 20 = .ok (.if_icmp .ge 11, 3) := by decide +kernel
theorem jX9_baseOf_33 : decode cX9_baseOf 33 = .ok (.ireturn, 1) := by decide +kernel
def bX9_sizeOf_0 : List Ent := [e0 0 (.aload_n 0), ef 1 (.getfield 17) .null 8 2, e0 4 (.iload_n 1), ec 5 (.iconst (-1)) (.int (-1))]
theorem oX9_sizeOf_0 : okB ftX9 ctX9 cX9_sizeOf 6 bX9_sizeOf_0 = true := by decide +kernel
def bX9_sizeOf_9 : List Ent := [ec 9 (.bipush 8) (.int 8), e0 11 (.goto 4)]
theorem oX9_sizeOf_9 : okB ftX9 ctX9 cX9_sizeOf 15 bX9_sizeOf_9 = true := by decide +kernel
def bX9_sizeOf_14 : List Ent := [e0 14 (.iload_n 1)]
theorem oX9_sizeOf_14 : okB ftX9 ctX9 cX9_sizeOf 15 bX9_sizeOf_14 = true := by decide +kernel
def bX9_sizeOf_15 : List Ent := [e0 15 .iaload]
theorem oX9_sizeOf_15 : okB ftX9 ctX9 cX9_sizeOf 16 bX9_sizeOf_15 = true := by decide +kernel
theorem jX9_sizeOf_6 : decode cX9_sizeOf 6 = .ok (.if_icmp .ne 8, 3) := by decide +kernel
theorem jX9_sizeOf_16 : decode cX9_sizeOf 16 = .ok (.ireturn, 1) := by decide +kernel
def bX9_find_0 : List Ent := [ec 0 (.sipush 2400) (.int 2400), e0 3 (.istore_n 2)]
theorem oX9_find_0 : okB ftX9 ctX9 cX9_find 4 bX9_find_0 = true := by decide +kernel
def bX9_find_4 : List Ent := [e0 4 (.iload_n 2), ec 5 (.sipush 2400) (.int 2400), e0 8 (.aload_n 0), ef 9 (.getfield 17) .null 8 2, ec 12 (.bipush 8) (.int 8), e0 14 .iaload, e0 15 .iadd]
theorem oX9_find_4 : okB ftX9 ctX9 cX9_find 16 bX9_find_4 = true := by decide +kernel
def bX9_find_19 : List Ent := [e0 19 (.aload_n 0), ef 20 (.getfield 7) .null 8 0, e0 23 (.iload_n 2), e0 24 .iaload, e0 25 (.iload_n 1)]
theorem oX9_find_19 : okB ftX9 ctX9 cX9_find 26 bX9_find_19 = true := by decide +kernel
def bX9_find_29 : List Ent := [ec 29 (.iinc 2 1) (.int 1), e0 32 (.goto (-28))]
theorem oX9_find_29 : okB ftX9 ctX9 cX9_find 4 bX9_find_29 = true := by decide +kernel
def bX9_find_35 : List Ent := [e0 35 (.iload_n 2)]
theorem oX9_find_35 : okB ftX9 ctX9 cX9_find 36 bX9_find_35 = true := by decide +kernel
theorem jX9_find_16 : decode cX9_find 16 = .ok (.if_icmp .ge 19, 3) := by decide +kernel
theorem jX9_find_26 : decode cX9_find 26 = .ok (.if_icmp .ge 9, 3) := by decide +kernel
theorem jX9_find_36 : decode cX9_find 36 = .ok (.ireturn, 1) := by decide +kernel
def bX9_put_0 : List Ent := [e0 0 (.iload_n 1)]
theorem oX9_put_0 : okB ftX9 ctX9 cX9_put 1 bX9_put_0 = true := by decide +kernel
def bX9_put_7 : List Ent := [ec 7 (.iconst (-1)) (.int (-1))]
theorem oX9_put_7 : okB ftX9 ctX9 cX9_put 8 bX9_put_7 = true := by decide +kernel
def bX9_put_9 : List Ent := [e0 9 (.aload_n 0), e0 10 (.iload_n 1)]
theorem oX9_put_9 : okB ftX9 ctX9 cX9_put 11 bX9_put_9 = true := by decide +kernel
def bX9_put_14 : List Ent := [e0 14 (.istore 4), e0 16 (.iload 4), ec 18 (.sipush 2400) (.int 2400), e0 21 (.aload_n 0), ef 22 (.getfield 17) .null 8 2, ec 25 (.bipush 8) (.int 8), e0 27 .iaload, e0 28 .iadd]
theorem oX9_put_14 : okB ftX9 ctX9 cX9_put 29 bX9_put_14 = true := by decide +kernel
def bX9_put_32 : List Ent := [e0 32 (.aload_n 0), ef 33 (.getfield 7) .null 8 0, e0 36 (.iload 4), e0 38 .iaload, e0 39 (.iload_n 1)]
theorem oX9_put_32 : okB ftX9 ctX9 cX9_put 40 bX9_put_32 = true := by decide +kernel
def bX9_put_43 : List Ent := [e0 43 (.aload_n 0), ef 44 (.getfield 13) .null 8 1, e0 47 (.iload 4), e0 49 (.lload_n 2), e0 50 .lastore, ec 51 (.iconst 0) (.int 0)]
theorem oX9_put_43 : okB ftX9 ctX9 cX9_put 52 bX9_put_43 = true := by decide +kernel
def bX9_put_53 : List Ent := [e0 53 (.aload_n 0), ef 54 (.getfield 17) .null 8 2, ec 57 (.bipush 8) (.int 8), e0 59 .iaload, ec 60 (.sipush 300) (.int 300)]
theorem oX9_put_53 : okB ftX9 ctX9 cX9_put 63 bX9_put_53 = true := by decide +kernel
def bX9_put_66 : List Ent := [ec 66 (.bipush (-3)) (.int (-3))]
theorem oX9_put_66 : okB ftX9 ctX9 cX9_put 68 bX9_put_66 = true := by decide +kernel
def bX9_put_69 : List Ent := [ec 69 (.sipush 2400) (.int 2400), e0 72 (.aload_n 0), ef 73 (.getfield 17) .null 8 2, ec 76 (.bipush 8) (.int 8), e0 78 .iaload, e0 79 .iadd, e0 80 (.istore 5)]
theorem oX9_put_69 : okB ftX9 ctX9 cX9_put 82 bX9_put_69 = true := by decide +kernel
def bX9_put_82 : List Ent := [e0 82 (.iload 5), e0 84 (.iload 4)]
theorem oX9_put_82 : okB ftX9 ctX9 cX9_put 86 bX9_put_82 = true := by decide +kernel
def bX9_put_89 : List Ent := [e0 89 (.aload_n 0), ef 90 (.getfield 7) .null 8 0, e0 93 (.iload 5), e0 95 (.aload_n 0), ef 96 (.getfield 7) .null 8 0, e0 99 (.iload 5), ec 101 (.iconst 1) (.int 1), e0 102 .isub, e0 103 .iaload, e0 104 .iastore, e0 105 (.aload_n 0), ef 106 (.getfield 13) .null 8 1, e0 109 (.iload 5), e0 111 (.aload_n 0), ef 112 (.getfield 13) .null 8 1, e0 115 (.iload 5), ec 117 (.iconst 1) (.int 1), e0 118 .isub, e0 119 .laload, e0 120 .lastore, ec 121 (.iinc 5 (-1)) (.int (-1)), e0 124 (.goto (-42))]
theorem oX9_put_89 : okB ftX9 ctX9 cX9_put 82 bX9_put_89 = true := by decide +kernel
def bX9_put_127 : List Ent := [e0 127 (.aload_n 0), ef 128 (.getfield 7) .null 8 0, e0 131 (.iload 4), e0 133 (.iload_n 1), e0 134 .iastore, e0 135 (.aload_n 0), ef 136 (.getfield 13) .null 8 1, e0 139 (.iload 4), e0 141 (.lload_n 2), e0 142 .lastore, e0 143 (.aload_n 0), ef 144 (.getfield 17) .null 8 2, ec 147 (.bipush 8) (.int 8), e0 149 .dup2, e0 150 .iaload, ec 151 (.iconst 1) (.int 1), e0 152 .iadd, e0 153 .iastore, ec 154 (.iconst 1) (.int 1)]
theorem oX9_put_127 : okB ftX9 ctX9 cX9_put 155 bX9_put_127 = true := by decide +kernel
theorem jX9_put_1 : decode cX9_put 1 = .ok (.invokestatic 101, 3) := by decide +kernel
theorem jX9_put_4 : decode cX9_put 4 = .ok (.ifCond .ne 5, 3) := by decide +kernel
theorem jX9_put_8 : decode cX9_put 8 = .ok (.ireturn, 1) := by decide +kernel
theorem jX9_put_11 : decode cX9_put 11 = .ok (.invokevirtual 105, 3) := by decide +kernel
theorem jX9_put_29 : decode cX9_put 29 = .ok (.if_icmp .ge 24, 3) := by decide +kernel
theorem jX9_put_40 : decode cX9_put 40 = .ok (.if_icmp .ne 13, 3) := by decide +kernel
theorem jX9_put_52 : decode cX9_put 52 = .ok (.ireturn, 1) := by decide +kernel
theorem jX9_put_63 : decode cX9_put 63 = .ok (.if_icmp .ne 6, 3) := by decide +kernel
theorem jX9_put_68 : decode cX9_put 68 = .ok (.ireturn, 1) := by decide +kernel
theorem jX9_put_86 : decode cX9_put 86 = .ok (.if_icmp .le 41, 3) := by decide +kernel
theorem jX9_put_155 : decode cX9_put 155 = .ok (.ireturn, 1) := by decide +kernel
def bX9_remove_0 : List Ent := [e0 0 (.iload_n 1)]
theorem oX9_remove_0 : okB ftX9 ctX9 cX9_remove 1 bX9_remove_0 = true := by decide +kernel
def bX9_remove_7 : List Ent := [ec 7 (.iconst (-1)) (.int (-1))]
theorem oX9_remove_7 : okB ftX9 ctX9 cX9_remove 8 bX9_remove_7 = true := by decide +kernel
def bX9_remove_9 : List Ent := [e0 9 (.aload_n 0), e0 10 (.iload_n 1)]
theorem oX9_remove_9 : okB ftX9 ctX9 cX9_remove 11 bX9_remove_9 = true := by decide +kernel
def bX9_remove_14 : List Ent := [e0 14 (.istore_n 2), e0 15 (.iload_n 2), ec 16 (.sipush 2400) (.int 2400), e0 19 (.aload_n 0), ef 20 (.getfield 17) .null 8 2, ec 23 (.bipush 8) (.int 8), e0 25 .iaload, e0 26 .iadd]
theorem oX9_remove_14 : okB ftX9 ctX9 cX9_remove 27 bX9_remove_14 = true := by decide +kernel
def bX9_remove_30 : List Ent := [e0 30 (.aload_n 0), ef 31 (.getfield 7) .null 8 0, e0 34 (.iload_n 2), e0 35 .iaload, e0 36 (.iload_n 1)]
theorem oX9_remove_30 : okB ftX9 ctX9 cX9_remove 37 bX9_remove_30 = true := by decide +kernel
def bX9_remove_40 : List Ent := [ec 40 (.iconst 0) (.int 0)]
theorem oX9_remove_40 : okB ftX9 ctX9 cX9_remove 41 bX9_remove_40 = true := by decide +kernel
def bX9_remove_42 : List Ent := [e0 42 (.aload_n 0), ef 43 (.getfield 17) .null 8 2, ec 46 (.bipush 8) (.int 8), e0 48 .dup2, e0 49 .iaload, ec 50 (.iconst 1) (.int 1), e0 51 .isub, e0 52 .iastore, e0 53 (.iload_n 2), e0 54 (.istore_n 3)]
theorem oX9_remove_42 : okB ftX9 ctX9 cX9_remove 55 bX9_remove_42 = true := by decide +kernel
def bX9_remove_55 : List Ent := [e0 55 (.iload_n 3), ec 56 (.sipush 2400) (.int 2400), e0 59 (.aload_n 0), ef 60 (.getfield 17) .null 8 2, ec 63 (.bipush 8) (.int 8), e0 65 .iaload, e0 66 .iadd]
theorem oX9_remove_55 : okB ftX9 ctX9 cX9_remove 67 bX9_remove_55 = true := by decide +kernel
def bX9_remove_70 : List Ent := [e0 70 (.aload_n 0), ef 71 (.getfield 7) .null 8 0, e0 74 (.iload_n 3), e0 75 (.aload_n 0), ef 76 (.getfield 7) .null 8 0, e0 79 (.iload_n 3), ec 80 (.iconst 1) (.int 1), e0 81 .iadd, e0 82 .iaload, e0 83 .iastore, e0 84 (.aload_n 0), ef 85 (.getfield 13) .null 8 1, e0 88 (.iload_n 3), e0 89 (.aload_n 0), ef 90 (.getfield 13) .null 8 1, e0 93 (.iload_n 3), ec 94 (.iconst 1) (.int 1), e0 95 .iadd, e0 96 .laload, e0 97 .lastore, ec 98 (.iinc 3 1) (.int 1), e0 101 (.goto (-46))]
theorem oX9_remove_70 : okB ftX9 ctX9 cX9_remove 55 bX9_remove_70 = true := by decide +kernel
def bX9_remove_104 : List Ent := [ec 104 (.iconst 1) (.int 1)]
theorem oX9_remove_104 : okB ftX9 ctX9 cX9_remove 105 bX9_remove_104 = true := by decide +kernel
theorem jX9_remove_1 : decode cX9_remove 1 = .ok (.invokestatic 101, 3) := by decide +kernel
theorem jX9_remove_4 : decode cX9_remove 4 = .ok (.ifCond .ne 5, 3) := by decide +kernel
theorem jX9_remove_8 : decode cX9_remove 8 = .ok (.ireturn, 1) := by decide +kernel
theorem jX9_remove_11 : decode cX9_remove 11 = .ok (.invokevirtual 105, 3) := by decide +kernel
theorem jX9_remove_27 : decode cX9_remove 27 = .ok (.if_icmp .eq 13, 3) := by decide +kernel
theorem jX9_remove_37 : decode cX9_remove 37 = .ok (.if_icmp .eq 5, 3) := by decide +kernel
theorem jX9_remove_41 : decode cX9_remove 41 = .ok (.ireturn, 1) := by decide +kernel
theorem jX9_remove_67 : decode cX9_remove 67 = .ok (.if_icmp .ge 37, 3) := by decide +kernel
theorem jX9_remove_105 : decode cX9_remove 105 = .ok (.ireturn, 1) := by decide +kernel
def bX9_keep_0 : List Ent := [e0 0 (.aload_n 0), ef 1 (.getfield 98) .null 8 3, ec 4 (.bipush 8) (.int 8)]
theorem oX9_keep_0 : okB ftX9 ctX9 cX9_keep 6 bX9_keep_0 = true := by decide +kernel
def bX9_keep_9 : List Ent := [ec 9 (.bipush (-3)) (.int (-3))]
theorem oX9_keep_9 : okB ftX9 ctX9 cX9_keep 11 bX9_keep_9 = true := by decide +kernel
def bX9_keep_12 : List Ent := [e0 12 (.aload_n 0), ef 13 (.getfield 17) .null 8 2, e0 16 (.aload_n 0), ef 17 (.getfield 98) .null 8 3, e0 20 (.aload_n 0), ef 21 (.getfield 17) .null 8 2, ec 24 (.bipush 8) (.int 8), e0 26 .iaload, e0 27 .iastore, ec 28 (.iconst 0) (.int 0), e0 29 (.istore_n 1)]
theorem oX9_keep_12 : okB ftX9 ctX9 cX9_keep 30 bX9_keep_12 = true := by decide +kernel
def bX9_keep_30 : List Ent := [e0 30 (.iload_n 1), e0 31 (.aload_n 0), ef 32 (.getfield 17) .null 8 2, ec 35 (.bipush 8) (.int 8), e0 37 .iaload]
theorem oX9_keep_30 : okB ftX9 ctX9 cX9_keep 38 bX9_keep_30 = true := by decide +kernel
def bX9_keep_41 : List Ent := [e0 41 (.aload_n 0), ef 42 (.getfield 7) .null 8 0, ec 45 (.sipush 300) (.int 300), e0 48 (.aload_n 0), ef 49 (.getfield 98) .null 8 3, e0 52 .imul, e0 53 (.iload_n 1), e0 54 .iadd, e0 55 (.aload_n 0), ef 56 (.getfield 7) .null 8 0, ec 59 (.sipush 2400) (.int 2400), e0 62 (.iload_n 1), e0 63 .iadd, e0 64 .iaload, e0 65 .iastore, e0 66 (.aload_n 0), ef 67 (.getfield 13) .null 8 1, ec 70 (.sipush 300) (.int 300), e0 73 (.aload_n 0), ef 74 (.getfield 98) .null 8 3, e0 77 .imul, e0 78 (.iload_n 1), e0 79 .iadd, e0 80 (.aload_n 0), ef 81 (.getfield 13) .null 8 1, ec 84 (.sipush 2400) (.int 2400), e0 87 (.iload_n 1), e0 88 .iadd, e0 89 .laload, e0 90 .lastore, ec 91 (.iinc 1 1) (.int 1), e0 94 (.goto (-64))]
theorem oX9_keep_41 : okB ftX9 ctX9 cX9_keep 30 bX9_keep_41 = true := by decide +kernel
def bX9_keep_97 : List Ent := [e0 97 (.aload_n 0), e0 98 .dup, ef 99 (.getfield 98) .null 8 3, ec 102 (.iconst 1) (.int 1), e0 103 .iadd, ef 104 (.putfield 98) (.int 0) 8 3, e0 107 (.aload_n 0), ef 108 (.getfield 98) .null 8 3, ec 111 (.iconst 1) (.int 1), e0 112 .isub]
theorem oX9_keep_97 : okB ftX9 ctX9 cX9_keep 113 bX9_keep_97 = true := by decide +kernel
theorem jX9_keep_6 : decode cX9_keep 6 = .ok (.if_icmp .ne 6, 3) := by decide +kernel
theorem jX9_keep_11 : decode cX9_keep 11 = .ok (.ireturn, 1) := by decide +kernel
theorem jX9_keep_38 : decode cX9_keep 38 = .ok (.if_icmp .ge 59, 3) := by decide +kernel
theorem jX9_keep_113 : decode cX9_keep 113 = .ok (.ireturn, 1) := by decide +kernel
def bX9_digest_0 : List Ent := [e0 0 (.aload_n 0), ec 1 (.iconst 0) (.int 0), ef 2 (.putfield 109) (.int 0) 8 12, e0 5 (.iload_n 1), e0 6 (.iload_n 2)]
theorem oX9_digest_0 : okB ftX9 ctX9 cX9_digest 7 bX9_digest_0 = true := by decide +kernel
def bX9_digest_10 : List Ent := [ec 10 (.lconst 0) (.long 0), ec 11 (.ldc2_w 112) (.long (3))]
theorem oX9_digest_10 : okB ftX9 ctX9 cX9_digest 14 bX9_digest_10 = true := by decide +kernel
def bX9_digest_18 : List Ent := [ec 18 (.iconst 0) (.int 0), e0 19 (.istore_n 3), ec 20 (.lconst 0) (.long 0), e0 21 (.lstore 4), ec 23 (.iconst 0) (.int 0), e0 24 (.istore 6), e0 26 (.iload_n 1), e0 27 (.istore 7)]
theorem oX9_digest_18 : okB ftX9 ctX9 cX9_digest 29 bX9_digest_18 = true := by decide +kernel
def bX9_digest_29 : List Ent := [e0 29 (.iload 7), e0 31 (.iload_n 2)]
theorem oX9_digest_29 : okB ftX9 ctX9 cX9_digest 32 bX9_digest_29 = true := by decide +kernel
def bX9_digest_35 : List Ent := [e0 35 (.iload 7), e0 37 (.iload_n 2)]
theorem oX9_digest_35 : okB ftX9 ctX9 cX9_digest 38 bX9_digest_35 = true := by decide +kernel
def bX9_digest_41 : List Ent := [ec 41 (.iconst (-1)) (.int (-1)), e0 42 (.goto 33)]
theorem oX9_digest_41 : okB ftX9 ctX9 cX9_digest 75 bX9_digest_41 = true := by decide +kernel
def bX9_digest_45 : List Ent := [e0 45 (.iload 7), e0 47 (.iload_n 1)]
theorem oX9_digest_45 : okB ftX9 ctX9 cX9_digest 48 bX9_digest_45 = true := by decide +kernel
def bX9_digest_51 : List Ent := [ec 51 (.bipush 16) (.int 16), e0 53 (.goto 22)]
theorem oX9_digest_51 : okB ftX9 ctX9 cX9_digest 75 bX9_digest_51 = true := by decide +kernel
def bX9_digest_56 : List Ent := [e0 56 (.aload_n 0), ef 57 (.getfield 7) .null 8 0, e0 60 (.iload 7), ec 62 (.iconst 1) (.int 1), e0 63 .isub, e0 64 .iaload, e0 65 (.aload_n 0), ef 66 (.getfield 7) .null 8 0, e0 69 (.iload 7), e0 71 .iaload]
theorem oX9_digest_56 : okB ftX9 ctX9 cX9_digest 72 bX9_digest_56 = true := by decide +kernel
def bX9_digest_75 : List Ent := [e0 75 (.istore 8)]
theorem oX9_digest_75 : okB ftX9 ctX9 cX9_digest 77 bX9_digest_75 = true := by decide +kernel
def bX9_digest_77 : List Ent := [e0 77 (.iload 7), e0 79 (.iload_n 1)]
theorem oX9_digest_77 : okB ftX9 ctX9 cX9_digest 80 bX9_digest_77 = true := by decide +kernel
def bX9_digest_83 : List Ent := [e0 83 (.iload_n 3)]
theorem oX9_digest_83 : okB ftX9 ctX9 cX9_digest 84 bX9_digest_83 = true := by decide +kernel
def bX9_digest_87 : List Ent := [e0 87 (.aload_n 0), ef 88 (.getfield 32) .null 8 10, e0 91 (.iload_n 3), ec 92 (.iconst 1) (.int 1), e0 93 .isub, e0 94 .iaload, e0 95 (.iload 8)]
theorem oX9_digest_87 : okB ftX9 ctX9 cX9_digest 97 bX9_digest_87 = true := by decide +kernel
def bX9_digest_100 : List Ent := [ec 100 (.iinc 3 (-1)) (.int (-1)), e0 103 (.aload_n 0), ef 104 (.getfield 32) .null 8 10, e0 107 (.iload_n 3), e0 108 .iaload, e0 109 (.aload_n 0), ef 110 (.getfield 7) .null 8 0, e0 113 (.iload 7), ec 115 (.iconst 1) (.int 1), e0 116 .isub, e0 117 .iaload, e0 118 (.aload_n 0), ef 119 (.getfield 32) .null 8 10, e0 122 (.iload_n 3), e0 123 .iaload]
theorem oX9_digest_100 : okB ftX9 ctX9 cX9_digest 124 bX9_digest_100 = true := by decide +kernel
def bX9_digest_127 : List Ent := [e0 127 (.aload_n 0), ef 128 (.getfield 29) .null 8 9, e0 131 (.iload_n 3), e0 132 .laload, e0 133 (.lload 4)]
theorem oX9_digest_127 : okB ftX9 ctX9 cX9_digest 135 bX9_digest_127 = true := by decide +kernel
def bX9_digest_138 : List Ent := [e0 138 (.lstore 4), ec 140 (.iconst 1) (.int 1), e0 141 (.aload_n 0), ef 142 (.getfield 35) .null 8 11, e0 145 (.iload_n 3), e0 146 .iaload, e0 147 (.iload 6)]
theorem oX9_digest_138 : okB ftX9 ctX9 cX9_digest 149 bX9_digest_138 = true := by decide +kernel
def bX9_digest_152 : List Ent := [e0 152 (.aload_n 0), ef 153 (.getfield 35) .null 8 11, e0 156 (.iload_n 3), e0 157 .iaload, e0 158 (.goto 5)]
theorem oX9_digest_152 : okB ftX9 ctX9 cX9_digest 163 bX9_digest_152 = true := by decide +kernel
def bX9_digest_161 : List Ent := [e0 161 (.iload 6)]
theorem oX9_digest_161 : okB ftX9 ctX9 cX9_digest 163 bX9_digest_161 = true := by decide +kernel
def bX9_digest_163 : List Ent := [e0 163 .iadd, e0 164 (.istore 6), e0 166 (.goto (-89))]
theorem oX9_digest_163 : okB ftX9 ctX9 cX9_digest 77 bX9_digest_163 = true := by decide +kernel
def bX9_digest_169 : List Ent := [e0 169 (.iload 7), e0 171 (.iload_n 1)]
theorem oX9_digest_169 : okB ftX9 ctX9 cX9_digest 172 bX9_digest_169 = true := by decide +kernel
def bX9_digest_175 : List Ent := [e0 175 (.iload 7), e0 177 (.iload_n 2)]
theorem oX9_digest_175 : okB ftX9 ctX9 cX9_digest 178 bX9_digest_175 = true := by decide +kernel
def bX9_digest_181 : List Ent := [e0 181 (.aload_n 0), ef 182 (.getfield 29) .null 8 9, e0 185 (.iload_n 3), e0 186 (.lload 4), e0 188 .lastore, e0 189 (.aload_n 0), ef 190 (.getfield 32) .null 8 10, e0 193 (.iload_n 3), e0 194 (.iload 8), e0 196 .iastore, e0 197 (.aload_n 0), ef 198 (.getfield 35) .null 8 11, e0 201 (.iload_n 3), e0 202 (.iload 6), e0 204 .iastore, ec 205 (.iinc 3 1) (.int 1)]
theorem oX9_digest_181 : okB ftX9 ctX9 cX9_digest 208 bX9_digest_181 = true := by decide +kernel
def bX9_digest_208 : List Ent := [e0 208 (.iload 7), e0 210 (.iload_n 2)]
theorem oX9_digest_208 : okB ftX9 ctX9 cX9_digest 211 bX9_digest_208 = true := by decide +kernel
def bX9_digest_214 : List Ent := [e0 214 (.aload_n 0), ef 215 (.getfield 7) .null 8 0, e0 218 (.iload 7), e0 220 .iaload, e0 221 (.aload_n 0), ef 222 (.getfield 13) .null 8 1, e0 225 (.iload 7), e0 227 .laload]
theorem oX9_digest_214 : okB ftX9 ctX9 cX9_digest 228 bX9_digest_214 = true := by decide +kernel
def bX9_digest_231 : List Ent := [e0 231 (.lstore 4), ec 233 (.iconst 0) (.int 0), e0 234 (.istore 6)]
theorem oX9_digest_231 : okB ftX9 ctX9 cX9_digest 236 bX9_digest_231 = true := by decide +kernel
def bX9_digest_236 : List Ent := [ec 236 (.iinc 7 1) (.int 1), e0 239 (.goto (-210))]
theorem oX9_digest_236 : okB ftX9 ctX9 cX9_digest 29 bX9_digest_236 = true := by decide +kernel
def bX9_digest_242 : List Ent := [e0 242 (.aload_n 0), e0 243 (.iload 6), ef 245 (.putfield 109) (.int 0) 8 12, e0 248 (.lload 4)]
theorem oX9_digest_242 : okB ftX9 ctX9 cX9_digest 250 bX9_digest_242 = true := by decide +kernel
theorem jX9_digest_7 : decode cX9_digest 7 = .ok (.if_icmp .ne 11, 3) := by decide +kernel
theorem jX9_digest_14 : decode cX9_digest 14 = .ok (.invokestatic 92, 3) := by decide +kernel
theorem jX9_digest_17 : decode cX9_digest 17 = .ok (.lreturn, 1) := by decide +kernel
theorem jX9_digest_32 : decode cX9_digest 32 = .ok (.if_icmp .gt 210, 3) := by decide +kernel
theorem jX9_digest_38 : decode cX9_digest 38 = .ok (.if_icmp .ne 7, 3) := by decide +kernel
theorem jX9_digest_48 : decode cX9_digest 48 = .ok (.if_icmp .ne 8, 3) := by decide +kernel
theorem jX9_digest_72 : decode cX9_digest 72 = .ok (.invokestatic 114, 3) := by decide +kernel
theorem jX9_digest_80 : decode cX9_digest 80 = .ok (.if_icmp .le 89, 3) := by decide +kernel
theorem jX9_digest_84 : decode cX9_digest 84 = .ok (.ifCond .le 85, 3) := by decide +kernel
theorem jX9_digest_97 : decode cX9_digest 97 = .ok (.if_icmp .le 72, 3) := by decide +kernel
theorem jX9_digest_124 : decode cX9_digest 124 = .ok (.invokestatic 118, 3) := by decide +kernel
theorem jX9_digest_135 : decode cX9_digest 135 = .ok (.invokestatic 121, 3) := by decide +kernel
theorem jX9_digest_149 : decode cX9_digest 149 = .ok (.if_icmp .le 12, 3) := by decide +kernel
theorem jX9_digest_172 : decode cX9_digest 172 = .ok (.if_icmp .le 36, 3) := by decide +kernel
theorem jX9_digest_178 : decode cX9_digest 178 = .ok (.if_icmp .ge 30, 3) := by decide +kernel
theorem jX9_digest_211 : decode cX9_digest 211 = .ok (.if_icmp .ge 25, 3) := by decide +kernel
theorem jX9_digest_228 : decode cX9_digest 228 = .ok (.invokestatic 125, 3) := by decide +kernel
theorem jX9_digest_250 : decode cX9_digest 250 = .ok (.lreturn, 1) := by decide +kernel
def bX9_root_0 : List Ent := [e0 0 (.aload_n 0), e0 1 (.iload_n 1)]
theorem oX9_root_0 : okB ftX9 ctX9 cX9_root 2 bX9_root_0 = true := by decide +kernel
def bX9_root_5 : List Ent := [e0 5 (.istore_n 2), e0 6 (.iload_n 2), ec 7 (.bipush (-2)) (.int (-2))]
theorem oX9_root_5 : okB ftX9 ctX9 cX9_root 9 bX9_root_5 = true := by decide +kernel
def bX9_root_12 : List Ent := [ec 12 (.lconst 0) (.long 0), e0 13 (.goto 15)]
theorem oX9_root_12 : okB ftX9 ctX9 cX9_root 28 bX9_root_12 = true := by decide +kernel
def bX9_root_16 : List Ent := [e0 16 (.aload_n 0), e0 17 (.iload_n 2), e0 18 (.iload_n 2), e0 19 (.aload_n 0), e0 20 (.iload_n 1)]
theorem oX9_root_16 : okB ftX9 ctX9 cX9_root 21 bX9_root_16 = true := by decide +kernel
def bX9_root_24 : List Ent := [e0 24 .iadd]
theorem oX9_root_24 : okB ftX9 ctX9 cX9_root 25 bX9_root_24 = true := by decide +kernel
theorem jX9_root_2 : decode cX9_root 2 = .ok (.invokevirtual 129, 3) := by decide +kernel
theorem jX9_root_9 : decode cX9_root 9 = .ok (.if_icmp .ne 7, 3) := by decide +kernel
theorem jX9_root_21 : decode cX9_root 21 = .ok (.invokevirtual 132, 3) := by decide +kernel
theorem jX9_root_25 : decode cX9_root 25 = .ok (.invokevirtual 135, 3) := by decide +kernel
theorem jX9_root_28 : decode cX9_root 28 = .ok (.lreturn, 1) := by decide +kernel
def bX9_leaves_0 : List Ent := [e0 0 (.aload_n 0), e0 1 (.iload_n 1)]
theorem oX9_leaves_0 : okB ftX9 ctX9 cX9_leaves 2 bX9_leaves_0 = true := by decide +kernel
def bX9_leaves_5 : List Ent := [ec 5 (.bipush (-2)) (.int (-2))]
theorem oX9_leaves_5 : okB ftX9 ctX9 cX9_leaves 7 bX9_leaves_5 = true := by decide +kernel
def bX9_leaves_10 : List Ent := [ec 10 (.iconst (-1)) (.int (-1)), e0 11 (.goto 8)]
theorem oX9_leaves_10 : okB ftX9 ctX9 cX9_leaves 19 bX9_leaves_10 = true := by decide +kernel
def bX9_leaves_14 : List Ent := [e0 14 (.aload_n 0), e0 15 (.iload_n 1)]
theorem oX9_leaves_14 : okB ftX9 ctX9 cX9_leaves 16 bX9_leaves_14 = true := by decide +kernel
theorem jX9_leaves_2 : decode cX9_leaves 2 = .ok (.invokevirtual 129, 3) := by decide +kernel
theorem jX9_leaves_7 : decode cX9_leaves 7 = .ok (.if_icmp .ne 7, 3) := by decide +kernel
theorem jX9_leaves_16 : decode cX9_leaves 16 = .ok (.invokevirtual 132, 3) := by decide +kernel
theorem jX9_leaves_19 : decode cX9_leaves 19 = .ok (.ireturn, 1) := by decide +kernel
def bX9_want_0 : List Ent := [e0 0 (.iload_n 1)]
theorem oX9_want_0 : okB ftX9 ctX9 cX9_want 1 bX9_want_0 = true := by decide +kernel
def bX9_want_7 : List Ent := [e0 7 (.iload_n 2)]
theorem oX9_want_7 : okB ftX9 ctX9 cX9_want 8 bX9_want_7 = true := by decide +kernel
def bX9_want_14 : List Ent := [e0 14 (.iload_n 1), e0 15 (.iload_n 2)]
theorem oX9_want_14 : okB ftX9 ctX9 cX9_want 16 bX9_want_14 = true := by decide +kernel
def bX9_want_19 : List Ent := [ec 19 (.iconst (-1)) (.int (-1))]
theorem oX9_want_19 : okB ftX9 ctX9 cX9_want 20 bX9_want_19 = true := by decide +kernel
def bX9_want_21 : List Ent := [e0 21 (.aload_n 0), ef 22 (.getfield 139) .null 8 6, ec 25 (.bipush 20) (.int 20)]
theorem oX9_want_21 : okB ftX9 ctX9 cX9_want 27 bX9_want_21 = true := by decide +kernel
def bX9_want_30 : List Ent := [ec 30 (.bipush (-3)) (.int (-3))]
theorem oX9_want_30 : okB ftX9 ctX9 cX9_want 32 bX9_want_30 = true := by decide +kernel
def bX9_want_33 : List Ent := [e0 33 (.aload_n 0), ef 34 (.getfield 20) .null 8 4, e0 37 (.aload_n 0), ef 38 (.getfield 139) .null 8 6, e0 41 (.iload_n 1), e0 42 .iastore, e0 43 (.aload_n 0), ef 44 (.getfield 23) .null 8 5, e0 47 (.aload_n 0), ef 48 (.getfield 139) .null 8 6, e0 51 (.iload_n 2), e0 52 .iastore, e0 53 (.aload_n 0), e0 54 .dup, ef 55 (.getfield 139) .null 8 6, ec 58 (.iconst 1) (.int 1), e0 59 .iadd, ef 60 (.putfield 139) (.int 0) 8 6, e0 63 (.aload_n 0), ef 64 (.getfield 139) .null 8 6]
theorem oX9_want_33 : okB ftX9 ctX9 cX9_want 67 bX9_want_33 = true := by decide +kernel
theorem jX9_want_1 : decode cX9_want 1 = .ok (.invokestatic 101, 3) := by decide +kernel
theorem jX9_want_4 : decode cX9_want 4 = .ok (.ifCond .eq 15, 3) := by decide +kernel
theorem jX9_want_8 : decode cX9_want 8 = .ok (.invokestatic 101, 3) := by decide +kernel
theorem jX9_want_11 : decode cX9_want 11 = .ok (.ifCond .eq 8, 3) := by decide +kernel
theorem jX9_want_16 : decode cX9_want 16 = .ok (.if_icmp .le 5, 3) := by decide +kernel
theorem jX9_want_20 : decode cX9_want 20 = .ok (.ireturn, 1) := by decide +kernel
theorem jX9_want_27 : decode cX9_want 27 = .ok (.if_icmp .ne 6, 3) := by decide +kernel
theorem jX9_want_32 : decode cX9_want 32 = .ok (.ireturn, 1) := by decide +kernel
theorem jX9_want_67 : decode cX9_want 67 = .ok (.ireturn, 1) := by decide +kernel
def bX9_forget_0 : List Ent := [e0 0 (.aload_n 0), ef 1 (.getfield 139) .null 8 6, e0 4 (.istore_n 1), e0 5 (.aload_n 0), ec 6 (.iconst 0) (.int 0), ef 7 (.putfield 139) (.int 0) 8 6, e0 10 (.iload_n 1)]
theorem oX9_forget_0 : okB ftX9 ctX9 cX9_forget 11 bX9_forget_0 = true := by decide +kernel
theorem jX9_forget_11 : decode cX9_forget 11 = .ok (.ireturn, 1) := by decide +kernel
def bX9_isWanted_0 : List Ent := [ec 0 (.iconst 0) (.int 0), e0 1 (.istore_n 3), ec 2 (.iconst 0) (.int 0), e0 3 (.istore 4)]
theorem oX9_isWanted_0 : okB ftX9 ctX9 cX9_isWanted 5 bX9_isWanted_0 = true := by decide +kernel
def bX9_isWanted_5 : List Ent := [e0 5 (.iload 4), e0 7 (.aload_n 0), ef 8 (.getfield 139) .null 8 6]
theorem oX9_isWanted_5 : okB ftX9 ctX9 cX9_isWanted 11 bX9_isWanted_5 = true := by decide +kernel
def bX9_isWanted_14 : List Ent := [e0 14 (.iload_n 3)]
theorem oX9_isWanted_14 : okB ftX9 ctX9 cX9_isWanted 15 bX9_isWanted_14 = true := by decide +kernel
def bX9_isWanted_18 : List Ent := [e0 18 (.aload_n 0), ef 19 (.getfield 20) .null 8 4, e0 22 (.iload 4), e0 24 .iaload, e0 25 (.iload_n 2)]
theorem oX9_isWanted_18 : okB ftX9 ctX9 cX9_isWanted 26 bX9_isWanted_18 = true := by decide +kernel
def bX9_isWanted_29 : List Ent := [e0 29 (.aload_n 0), ef 30 (.getfield 23) .null 8 5, e0 33 (.iload 4), e0 35 .iaload, e0 36 (.iload_n 1)]
theorem oX9_isWanted_29 : okB ftX9 ctX9 cX9_isWanted 37 bX9_isWanted_29 = true := by decide +kernel
def bX9_isWanted_40 : List Ent := [ec 40 (.iconst 1) (.int 1), e0 41 (.goto 4)]
theorem oX9_isWanted_40 : okB ftX9 ctX9 cX9_isWanted 45 bX9_isWanted_40 = true := by decide +kernel
def bX9_isWanted_44 : List Ent := [ec 44 (.iconst 0) (.int 0)]
theorem oX9_isWanted_44 : okB ftX9 ctX9 cX9_isWanted 45 bX9_isWanted_44 = true := by decide +kernel
def bX9_isWanted_45 : List Ent := [e0 45 (.istore_n 3), ec 46 (.iinc 4 1) (.int 1), e0 49 (.goto (-44))]
theorem oX9_isWanted_45 : okB ftX9 ctX9 cX9_isWanted 5 bX9_isWanted_45 = true := by decide +kernel
def bX9_isWanted_52 : List Ent := [e0 52 (.iload_n 3)]
theorem oX9_isWanted_52 : okB ftX9 ctX9 cX9_isWanted 53 bX9_isWanted_52 = true := by decide +kernel
theorem jX9_isWanted_11 : decode cX9_isWanted 11 = .ok (.if_icmp .ge 41, 3) := by decide +kernel
theorem jX9_isWanted_15 : decode cX9_isWanted 15 = .ok (.ifCond .ne 25, 3) := by decide +kernel
theorem jX9_isWanted_26 : decode cX9_isWanted 26 = .ok (.if_icmp .gt 18, 3) := by decide +kernel
theorem jX9_isWanted_37 : decode cX9_isWanted 37 = .ok (.if_icmp .lt 7, 3) := by decide +kernel
theorem jX9_isWanted_53 : decode cX9_isWanted 53 = .ok (.ireturn, 1) := by decide +kernel
def bX9_lay_0 : List Ent := [e0 0 (.iload_n 3), ec 1 (.iconst 1) (.int 1), e0 2 .isub, e0 3 (.istore 4)]
theorem oX9_lay_0 : okB ftX9 ctX9 cX9_lay 5 bX9_lay_0 = true := by decide +kernel
def bX9_lay_5 : List Ent := [e0 5 (.iload 4)]
theorem oX9_lay_5 : okB ftX9 ctX9 cX9_lay 7 bX9_lay_5 = true := by decide +kernel
def bX9_lay_10 : List Ent := [e0 10 (.aload_n 0), ef 11 (.getfield 142) .null 8 14, ec 14 (.sipush 4000) (.int 4000)]
theorem oX9_lay_10 : okB ftX9 ctX9 cX9_lay 17 bX9_lay_10 = true := by decide +kernel
def bX9_lay_20 : List Ent := [e0 20 (.aload_n 0), ef 21 (.getfield 38) .null 8 13, e0 24 (.aload_n 0), ef 25 (.getfield 142) .null 8 14, e0 28 (.lload_n 1), ec 29 (.bipush 8) (.int 8), e0 31 (.iload 4), e0 33 .imul, e0 34 .lshr, ec 35 (.ldc2_w 145) (.long (255)), e0 38 .land, e0 39 .l2i, e0 40 .iastore]
theorem oX9_lay_20 : okB ftX9 ctX9 cX9_lay 41 bX9_lay_20 = true := by decide +kernel
def bX9_lay_41 : List Ent := [e0 41 (.aload_n 0), e0 42 .dup, ef 43 (.getfield 142) .null 8 14, ec 46 (.iconst 1) (.int 1), e0 47 .iadd, ef 48 (.putfield 142) (.int 0) 8 14, ec 51 (.iinc 4 (-1)) (.int (-1)), e0 54 (.goto (-49))]
theorem oX9_lay_41 : okB ftX9 ctX9 cX9_lay 5 bX9_lay_41 = true := by decide +kernel
theorem jX9_lay_7 : decode cX9_lay 7 = .ok (.ifCond .lt 50, 3) := by decide +kernel
theorem jX9_lay_17 : decode cX9_lay 17 = .ok (.if_icmp .ge 24, 3) := by decide +kernel
theorem jX9_lay_57 : decode cX9_lay 57 = .ok (.return_, 1) := by decide +kernel
def bX9_laidOut_0 : List Ent := [e0 0 (.aload_n 0), ef 1 (.getfield 142) .null 8 14, ec 4 (.sipush 4000) (.int 4000)]
theorem oX9_laidOut_0 : okB ftX9 ctX9 cX9_laidOut 7 bX9_laidOut_0 = true := by decide +kernel
def bX9_laidOut_10 : List Ent := [ec 10 (.bipush (-3)) (.int (-3))]
theorem oX9_laidOut_10 : okB ftX9 ctX9 cX9_laidOut 12 bX9_laidOut_10 = true := by decide +kernel
def bX9_laidOut_13 : List Ent := [ec 13 (.iconst 0) (.int 0), e0 14 (.istore_n 1)]
theorem oX9_laidOut_13 : okB ftX9 ctX9 cX9_laidOut 15 bX9_laidOut_13 = true := by decide +kernel
def bX9_laidOut_15 : List Ent := [e0 15 (.iload_n 1), e0 16 (.aload_n 0), ef 17 (.getfield 142) .null 8 14]
theorem oX9_laidOut_15 : okB ftX9 ctX9 cX9_laidOut 20 bX9_laidOut_15 = true := by decide +kernel
def bX9_laidOut_23 : List Ent := [e0 23 (.aload_n 0), ef 24 (.getfield 26) .null 8 7, e0 27 (.iload_n 1), e0 28 (.aload_n 0), ef 29 (.getfield 38) .null 8 13, e0 32 (.iload_n 1), e0 33 .iaload, e0 34 .iastore, ec 35 (.iinc 1 1) (.int 1), e0 38 (.goto (-23))]
theorem oX9_laidOut_23 : okB ftX9 ctX9 cX9_laidOut 15 bX9_laidOut_23 = true := by decide +kernel
def bX9_laidOut_41 : List Ent := [e0 41 (.aload_n 0), e0 42 (.aload_n 0), ef 43 (.getfield 142) .null 8 14, ef 46 (.putfield 147) (.int 0) 8 8, e0 49 (.aload_n 0), ef 50 (.getfield 147) .null 8 8]
theorem oX9_laidOut_41 : okB ftX9 ctX9 cX9_laidOut 53 bX9_laidOut_41 = true := by decide +kernel
theorem jX9_laidOut_7 : decode cX9_laidOut 7 = .ok (.if_icmp .le 6, 3) := by decide +kernel
theorem jX9_laidOut_12 : decode cX9_laidOut 12 = .ok (.ireturn, 1) := by decide +kernel
theorem jX9_laidOut_20 : decode cX9_laidOut 20 = .ok (.if_icmp .ge 21, 3) := by decide +kernel
theorem jX9_laidOut_53 : decode cX9_laidOut 53 = .ok (.ireturn, 1) := by decide +kernel
def bX9_rest_0 : List Ent := [e0 0 (.aload_n 0), ef 1 (.getfield 41) .null 8 15, e0 4 (.aload_n 0), ef 5 (.getfield 150) .null 8 19, e0 8 (.iload_n 1), e0 9 .iastore, e0 10 (.aload_n 0), ef 11 (.getfield 44) .null 8 16, e0 14 (.aload_n 0), ef 15 (.getfield 150) .null 8 19, e0 18 (.iload_n 2), e0 19 .iastore, e0 20 (.aload_n 0), ef 21 (.getfield 47) .null 8 17, e0 24 (.aload_n 0), ef 25 (.getfield 150) .null 8 19, e0 28 (.iload_n 3), e0 29 .iastore, e0 30 (.aload_n 0), ef 31 (.getfield 50) .null 8 18, e0 34 (.aload_n 0), ef 35 (.getfield 150) .null 8 19, e0 38 (.iload 4), e0 40 .iastore, e0 41 (.aload_n 0), e0 42 .dup, ef 43 (.getfield 150) .null 8 19, ec 46 (.iconst 1) (.int 1), e0 47 .iadd, ef 48 (.putfield 150) (.int 0) 8 19]
theorem oX9_rest_0 : okB ftX9 ctX9 cX9_rest 51 bX9_rest_0 = true := by decide +kernel
theorem jX9_rest_51 : decode cX9_rest 51 = .ok (.return_, 1) := by decide +kernel
def bX9_show_0 : List Ent := [e0 0 (.aload_n 0), e0 1 (.iload_n 1)]
theorem oX9_show_0 : okB ftX9 ctX9 cX9_show 2 bX9_show_0 = true := by decide +kernel
def bX9_show_5 : List Ent := [e0 5 (.istore_n 2), e0 6 (.iload_n 2), ec 7 (.bipush (-2)) (.int (-2))]
theorem oX9_show_5 : okB ftX9 ctX9 cX9_show 9 bX9_show_5 = true := by decide +kernel
def bX9_show_12 : List Ent := [ec 12 (.iconst (-1)) (.int (-1))]
theorem oX9_show_12 : okB ftX9 ctX9 cX9_show 13 bX9_show_12 = true := by decide +kernel
def bX9_show_14 : List Ent := [e0 14 (.aload_n 0), ec 15 (.iconst 0) (.int 0), ef 16 (.putfield 142) (.int 0) 8 14, e0 19 (.aload_n 0), ec 20 (.iconst 0) (.int 0), ef 21 (.putfield 150) (.int 0) 8 19, e0 24 (.aload_n 0), e0 25 (.iload_n 2), e0 26 (.iload_n 2), e0 27 (.aload_n 0), e0 28 (.iload_n 1)]
theorem oX9_show_14 : okB ftX9 ctX9 cX9_show 29 bX9_show_14 = true := by decide +kernel
def bX9_show_32 : List Ent := [e0 32 .iadd, ec 33 (.iconst 0) (.int 0), ec 34 (.ldc 87) (.int 65535)]
theorem oX9_show_32 : okB ftX9 ctX9 cX9_show 36 bX9_show_32 = true := by decide +kernel
def bX9_show_39 : List Ent := [e0 39 (.aload_n 0), ef 40 (.getfield 150) .null 8 19]
theorem oX9_show_39 : okB ftX9 ctX9 cX9_show 43 bX9_show_39 = true := by decide +kernel
def bX9_show_46 : List Ent := [e0 46 (.aload_n 0), e0 47 .dup, ef 48 (.getfield 150) .null 8 19, ec 51 (.iconst 1) (.int 1), e0 52 .isub, ef 53 (.putfield 150) (.int 0) 8 19, e0 56 (.aload_n 0), ef 57 (.getfield 41) .null 8 15, e0 60 (.aload_n 0), ef 61 (.getfield 150) .null 8 19, e0 64 .iaload, e0 65 (.istore_n 3), e0 66 (.aload_n 0), ef 67 (.getfield 44) .null 8 16, e0 70 (.aload_n 0), ef 71 (.getfield 150) .null 8 19, e0 74 .iaload, e0 75 (.istore 4), e0 77 (.aload_n 0), e0 78 (.aload_n 0), ef 79 (.getfield 47) .null 8 17, e0 82 (.aload_n 0), ef 83 (.getfield 150) .null 8 19, e0 86 .iaload, e0 87 (.aload_n 0), ef 88 (.getfield 50) .null 8 18, e0 91 (.aload_n 0), ef 92 (.getfield 150) .null 8 19, e0 95 .iaload]
theorem oX9_show_46 : okB ftX9 ctX9 cX9_show 96 bX9_show_46 = true := by decide +kernel
def bX9_show_102 : List Ent := [e0 102 (.aload_n 0), ec 103 (.lconst 0) (.long 0), ec 104 (.iconst 1) (.int 1)]
theorem oX9_show_102 : okB ftX9 ctX9 cX9_show 105 bX9_show_102 = true := by decide +kernel
def bX9_show_108 : List Ent := [e0 108 (.aload_n 0), e0 109 (.aload_n 0), e0 110 (.iload_n 3), e0 111 (.iload 4)]
theorem oX9_show_108 : okB ftX9 ctX9 cX9_show 113 bX9_show_108 = true := by decide +kernel
def bX9_show_116 : List Ent := [ec 116 (.bipush 8) (.int 8)]
theorem oX9_show_116 : okB ftX9 ctX9 cX9_show 118 bX9_show_116 = true := by decide +kernel
def bX9_show_121 : List Ent := [e0 121 (.goto 186)]
theorem oX9_show_121 : okB ftX9 ctX9 cX9_show 307 bX9_show_121 = true := by decide +kernel
def bX9_show_124 : List Ent := [e0 124 (.iload_n 3), e0 125 (.iload 4)]
theorem oX9_show_124 : okB ftX9 ctX9 cX9_show 127 bX9_show_124 = true := by decide +kernel
def bX9_show_130 : List Ent := [e0 130 (.aload_n 0), ec 131 (.ldc2_w 112) (.long (3)), ec 134 (.iconst 1) (.int 1)]
theorem oX9_show_130 : okB ftX9 ctX9 cX9_show 135 bX9_show_130 = true := by decide +kernel
def bX9_show_138 : List Ent := [e0 138 (.goto 169)]
theorem oX9_show_138 : okB ftX9 ctX9 cX9_show 307 bX9_show_138 = true := by decide +kernel
def bX9_show_141 : List Ent := [e0 141 (.iload 4), e0 143 (.iload_n 3), e0 144 .isub, ec 145 (.iconst 1) (.int 1)]
theorem oX9_show_141 : okB ftX9 ctX9 cX9_show 146 bX9_show_141 = true := by decide +kernel
def bX9_show_149 : List Ent := [e0 149 (.aload_n 0), ec 150 (.ldc2_w 96) (.long (2)), ec 153 (.iconst 1) (.int 1)]
theorem oX9_show_149 : okB ftX9 ctX9 cX9_show 154 bX9_show_149 = true := by decide +kernel
def bX9_show_157 : List Ent := [e0 157 (.aload_n 0), e0 158 (.aload_n 0), ef 159 (.getfield 7) .null 8 0, e0 162 (.iload_n 3), e0 163 .iaload, e0 164 .i2l, ec 165 (.iconst 2) (.int 2)]
theorem oX9_show_157 : okB ftX9 ctX9 cX9_show 166 bX9_show_157 = true := by decide +kernel
def bX9_show_169 : List Ent := [e0 169 (.aload_n 0), e0 170 (.aload_n 0), ef 171 (.getfield 13) .null 8 1, e0 174 (.iload_n 3), e0 175 .laload, ec 176 (.bipush 8) (.int 8)]
theorem oX9_show_169 : okB ftX9 ctX9 cX9_show 178 bX9_show_169 = true := by decide +kernel
def bX9_show_181 : List Ent := [e0 181 (.goto 126)]
theorem oX9_show_181 : okB ftX9 ctX9 cX9_show 307 bX9_show_181 = true := by decide +kernel
def bX9_show_184 : List Ent := [e0 184 (.aload_n 0), ef 185 (.getfield 7) .null 8 0, e0 188 (.iload_n 3), e0 189 .iaload, e0 190 (.aload_n 0), ef 191 (.getfield 7) .null 8 0, e0 194 (.iload 4), ec 196 (.iconst 1) (.int 1), e0 197 .isub, e0 198 .iaload]
theorem oX9_show_184 : okB ftX9 ctX9 cX9_show 199 bX9_show_184 = true := by decide +kernel
def bX9_show_202 : List Ent := [e0 202 (.istore 5), e0 204 (.aload_n 0), ef 205 (.getfield 7) .null 8 0, e0 208 (.iload_n 3), e0 209 .iaload, e0 210 (.iload 5)]
theorem oX9_show_202 : okB ftX9 ctX9 cX9_show 212 bX9_show_202 = true := by decide +kernel
def bX9_show_215 : List Ent := [e0 215 (.istore 6), e0 217 (.iload 6), ec 219 (.iconst 1) (.int 1), ec 220 (.bipush 15) (.int 15), e0 222 (.iload 5), e0 224 .isub, e0 225 .ishl, e0 226 .iadd, e0 227 (.istore 7), e0 229 (.iload_n 3), e0 230 (.istore 8)]
theorem oX9_show_215 : okB ftX9 ctX9 cX9_show 232 bX9_show_215 = true := by decide +kernel
def bX9_show_232 : List Ent := [e0 232 (.aload_n 0), ef 233 (.getfield 7) .null 8 0, e0 236 (.iload 8), e0 238 .iaload, e0 239 (.iload 7)]
theorem oX9_show_232 : okB ftX9 ctX9 cX9_show 241 bX9_show_232 = true := by decide +kernel
def bX9_show_244 : List Ent := [ec 244 (.iinc 8 1) (.int 1), e0 247 (.goto (-15))]
theorem oX9_show_244 : okB ftX9 ctX9 cX9_show 232 bX9_show_244 = true := by decide +kernel
def bX9_show_250 : List Ent := [e0 250 (.aload_n 0), ec 251 (.lconst 1) (.long 1), ec 252 (.iconst 1) (.int 1)]
theorem oX9_show_250 : okB ftX9 ctX9 cX9_show 253 bX9_show_250 = true := by decide +kernel
def bX9_show_256 : List Ent := [e0 256 (.aload_n 0), e0 257 (.iload 5), e0 259 .i2l, ec 260 (.iconst 1) (.int 1)]
theorem oX9_show_256 : okB ftX9 ctX9 cX9_show 261 bX9_show_256 = true := by decide +kernel
def bX9_show_264 : List Ent := [e0 264 (.aload_n 0), e0 265 (.iload 6), e0 267 .i2l, ec 268 (.iconst 2) (.int 2)]
theorem oX9_show_264 : okB ftX9 ctX9 cX9_show 269 bX9_show_264 = true := by decide +kernel
def bX9_show_272 : List Ent := [e0 272 (.aload_n 0), e0 273 (.iload 8), e0 275 (.iload 4), e0 277 (.iload 7), e0 279 (.iload 7), ec 281 (.iconst 1) (.int 1), ec 282 (.bipush 15) (.int 15), e0 284 (.iload 5), e0 286 .isub, e0 287 .ishl, e0 288 .iadd, ec 289 (.iconst 1) (.int 1), e0 290 .isub]
theorem oX9_show_272 : okB ftX9 ctX9 cX9_show 291 bX9_show_272 = true := by decide +kernel
def bX9_show_294 : List Ent := [e0 294 (.aload_n 0), e0 295 (.iload_n 3), e0 296 (.iload 8), e0 298 (.iload 6), e0 300 (.iload 7), ec 302 (.iconst 1) (.int 1), e0 303 .isub]
theorem oX9_show_294 : okB ftX9 ctX9 cX9_show 304 bX9_show_294 = true := by decide +kernel
def bX9_show_307 : List Ent := [e0 307 (.goto (-268))]
theorem oX9_show_307 : okB ftX9 ctX9 cX9_show 39 bX9_show_307 = true := by decide +kernel
def bX9_show_310 : List Ent := [e0 310 (.aload_n 0)]
theorem oX9_show_310 : okB ftX9 ctX9 cX9_show 311 bX9_show_310 = true := by decide +kernel
theorem jX9_show_2 : decode cX9_show 2 = .ok (.invokevirtual 129, 3) := by decide +kernel
theorem jX9_show_9 : decode cX9_show 9 = .ok (.if_icmp .ne 5, 3) := by decide +kernel
theorem jX9_show_13 : decode cX9_show 13 = .ok (.ireturn, 1) := by decide +kernel
theorem jX9_show_29 : decode cX9_show 29 = .ok (.invokevirtual 132, 3) := by decide +kernel
theorem jX9_show_36 : decode cX9_show 36 = .ok (.invokevirtual 153, 3) := by decide +kernel
theorem jX9_show_43 : decode cX9_show 43 = .ok (.ifCond .le 267, 3) := by decide +kernel
theorem jX9_show_96 : decode cX9_show 96 = .ok (.invokevirtual 157, 3) := by decide +kernel
theorem jX9_show_99 : decode cX9_show 99 = .ok (.ifCond .ne 25, 3) := by decide +kernel
theorem jX9_show_105 : decode cX9_show 105 = .ok (.invokevirtual 161, 3) := by decide +kernel
theorem jX9_show_113 : decode cX9_show 113 = .ok (.invokevirtual 135, 3) := by decide +kernel
theorem jX9_show_118 : decode cX9_show 118 = .ok (.invokevirtual 161, 3) := by decide +kernel
theorem jX9_show_127 : decode cX9_show 127 = .ok (.if_icmp .ne 14, 3) := by decide +kernel
theorem jX9_show_135 : decode cX9_show 135 = .ok (.invokevirtual 161, 3) := by decide +kernel
theorem jX9_show_146 : decode cX9_show 146 = .ok (.if_icmp .ne 38, 3) := by decide +kernel
theorem jX9_show_154 : decode cX9_show 154 = .ok (.invokevirtual 161, 3) := by decide +kernel
theorem jX9_show_166 : decode cX9_show 166 = .ok (.invokevirtual 161, 3) := by decide +kernel
theorem jX9_show_178 : decode cX9_show 178 = .ok (.invokevirtual 161, 3) := by decide +kernel
theorem jX9_show_199 : decode cX9_show 199 = .ok (.invokestatic 114, 3) := by decide +kernel
theorem jX9_show_212 : decode cX9_show 212 = .ok (.invokestatic 118, 3) := by decide +kernel
theorem jX9_show_241 : decode cX9_show 241 = .ok (.if_icmp .ge 9, 3) := by decide +kernel
theorem jX9_show_253 : decode cX9_show 253 = .ok (.invokevirtual 161, 3) := by decide +kernel
theorem jX9_show_261 : decode cX9_show 261 = .ok (.invokevirtual 161, 3) := by decide +kernel
theorem jX9_show_269 : decode cX9_show 269 = .ok (.invokevirtual 161, 3) := by decide +kernel
theorem jX9_show_291 : decode cX9_show 291 = .ok (.invokevirtual 153, 3) := by decide +kernel
theorem jX9_show_304 : decode cX9_show 304 = .ok (.invokevirtual 153, 3) := by decide +kernel
theorem jX9_show_311 : decode cX9_show 311 = .ok (.invokevirtual 165, 3) := by decide +kernel
theorem jX9_show_314 : decode cX9_show 314 = .ok (.ireturn, 1) := by decide +kernel
def bX9_feed_0 : List Ent := [e0 0 (.iload_n 1), ec 1 (.iconst 1) (.int 1)]
theorem oX9_feed_0 : okB ftX9 ctX9 cX9_feed 2 bX9_feed_0 = true := by decide +kernel
def bX9_feed_5 : List Ent := [e0 5 (.iload_n 1), ec 6 (.bipush 8) (.int 8)]
theorem oX9_feed_5 : okB ftX9 ctX9 cX9_feed 8 bX9_feed_5 = true := by decide +kernel
def bX9_feed_11 : List Ent := [ec 11 (.iconst (-1)) (.int (-1))]
theorem oX9_feed_11 : okB ftX9 ctX9 cX9_feed 12 bX9_feed_11 = true := by decide +kernel
def bX9_feed_13 : List Ent := [e0 13 (.aload_n 0), ef 14 (.getfield 147) .null 8 8, e0 17 (.iload_n 1), e0 18 .iadd, ec 19 (.sipush 4000) (.int 4000)]
theorem oX9_feed_13 : okB ftX9 ctX9 cX9_feed 22 bX9_feed_13 = true := by decide +kernel
def bX9_feed_25 : List Ent := [ec 25 (.bipush (-3)) (.int (-3))]
theorem oX9_feed_25 : okB ftX9 ctX9 cX9_feed 27 bX9_feed_25 = true := by decide +kernel
def bX9_feed_28 : List Ent := [e0 28 (.iload_n 1), ec 29 (.iconst 1) (.int 1), e0 30 .isub, e0 31 (.istore 4)]
theorem oX9_feed_28 : okB ftX9 ctX9 cX9_feed 33 bX9_feed_28 = true := by decide +kernel
def bX9_feed_33 : List Ent := [e0 33 (.iload 4)]
theorem oX9_feed_33 : okB ftX9 ctX9 cX9_feed 35 bX9_feed_33 = true := by decide +kernel
def bX9_feed_38 : List Ent := [e0 38 (.aload_n 0), ef 39 (.getfield 26) .null 8 7, e0 42 (.aload_n 0), ef 43 (.getfield 147) .null 8 8, e0 46 (.lload_n 2), ec 47 (.bipush 8) (.int 8), e0 49 (.iload 4), e0 51 .imul, e0 52 .lshr, ec 53 (.ldc2_w 145) (.long (255)), e0 56 .land, e0 57 .l2i, e0 58 .iastore, e0 59 (.aload_n 0), e0 60 .dup, ef 61 (.getfield 147) .null 8 8, ec 64 (.iconst 1) (.int 1), e0 65 .iadd, ef 66 (.putfield 147) (.int 0) 8 8, ec 69 (.iinc 4 (-1)) (.int (-1)), e0 72 (.goto (-39))]
theorem oX9_feed_38 : okB ftX9 ctX9 cX9_feed 33 bX9_feed_38 = true := by decide +kernel
def bX9_feed_75 : List Ent := [e0 75 (.aload_n 0), ef 76 (.getfield 147) .null 8 8]
theorem oX9_feed_75 : okB ftX9 ctX9 cX9_feed 79 bX9_feed_75 = true := by decide +kernel
theorem jX9_feed_2 : decode cX9_feed 2 = .ok (.if_icmp .lt 9, 3) := by decide +kernel
theorem jX9_feed_8 : decode cX9_feed 8 = .ok (.if_icmp .le 5, 3) := by decide +kernel
theorem jX9_feed_12 : decode cX9_feed 12 = .ok (.ireturn, 1) := by decide +kernel
theorem jX9_feed_22 : decode cX9_feed 22 = .ok (.if_icmp .le 6, 3) := by decide +kernel
theorem jX9_feed_27 : decode cX9_feed 27 = .ok (.ireturn, 1) := by decide +kernel
theorem jX9_feed_35 : decode cX9_feed 35 = .ok (.ifCond .lt 40, 3) := by decide +kernel
theorem jX9_feed_79 : decode cX9_feed 79 = .ok (.ireturn, 1) := by decide +kernel
def bX9_cut_0 : List Ent := [e0 0 (.iload_n 1)]
theorem oX9_cut_0 : okB ftX9 ctX9 cX9_cut 1 bX9_cut_0 = true := by decide +kernel
def bX9_cut_4 : List Ent := [e0 4 (.iload_n 1), e0 5 (.aload_n 0), ef 6 (.getfield 147) .null 8 8]
theorem oX9_cut_4 : okB ftX9 ctX9 cX9_cut 9 bX9_cut_4 = true := by decide +kernel
def bX9_cut_12 : List Ent := [ec 12 (.iconst (-1)) (.int (-1))]
theorem oX9_cut_12 : okB ftX9 ctX9 cX9_cut 13 bX9_cut_12 = true := by decide +kernel
def bX9_cut_14 : List Ent := [e0 14 (.aload_n 0), ef 15 (.getfield 147) .null 8 8, e0 18 (.iload_n 1), e0 19 .isub, e0 20 (.istore_n 2), e0 21 (.aload_n 0), e0 22 (.iload_n 1), ef 23 (.putfield 147) (.int 0) 8 8, e0 26 (.iload_n 2)]
theorem oX9_cut_14 : okB ftX9 ctX9 cX9_cut 27 bX9_cut_14 = true := by decide +kernel
theorem jX9_cut_1 : decode cX9_cut 1 = .ok (.ifCond .lt 11, 3) := by decide +kernel
theorem jX9_cut_9 : decode cX9_cut 9 = .ok (.if_icmp .le 5, 3) := by decide +kernel
theorem jX9_cut_13 : decode cX9_cut 13 = .ok (.ireturn, 1) := by decide +kernel
theorem jX9_cut_27 : decode cX9_cut 27 = .ok (.ireturn, 1) := by decide +kernel
def bX9_spoil_0 : List Ent := [e0 0 (.iload_n 1)]
theorem oX9_spoil_0 : okB ftX9 ctX9 cX9_spoil 1 bX9_spoil_0 = true := by decide +kernel
def bX9_spoil_4 : List Ent := [e0 4 (.iload_n 1), e0 5 (.aload_n 0), ef 6 (.getfield 147) .null 8 8]
theorem oX9_spoil_4 : okB ftX9 ctX9 cX9_spoil 9 bX9_spoil_4 = true := by decide +kernel
def bX9_spoil_12 : List Ent := [e0 12 (.iload_n 2)]
theorem oX9_spoil_12 : okB ftX9 ctX9 cX9_spoil 13 bX9_spoil_12 = true := by decide +kernel
def bX9_spoil_16 : List Ent := [e0 16 (.iload_n 2), ec 17 (.sipush 255) (.int 255)]
theorem oX9_spoil_16 : okB ftX9 ctX9 cX9_spoil 20 bX9_spoil_16 = true := by decide +kernel
def bX9_spoil_23 : List Ent := [ec 23 (.iconst (-1)) (.int (-1))]
theorem oX9_spoil_23 : okB ftX9 ctX9 cX9_spoil 24 bX9_spoil_23 = true := by decide +kernel
def bX9_spoil_25 : List Ent := [e0 25 (.aload_n 0), ef 26 (.getfield 26) .null 8 7, e0 29 (.iload_n 1), e0 30 .dup2, e0 31 .iaload, e0 32 (.iload_n 2), e0 33 .ixor, e0 34 .iastore, e0 35 (.aload_n 0), ef 36 (.getfield 26) .null 8 7, e0 39 (.iload_n 1), e0 40 .iaload]
theorem oX9_spoil_25 : okB ftX9 ctX9 cX9_spoil 41 bX9_spoil_25 = true := by decide +kernel
theorem jX9_spoil_1 : decode cX9_spoil 1 = .ok (.ifCond .lt 22, 3) := by decide +kernel
theorem jX9_spoil_9 : decode cX9_spoil 9 = .ok (.if_icmp .ge 14, 3) := by decide +kernel
theorem jX9_spoil_13 : decode cX9_spoil 13 = .ok (.ifCond .lt 10, 3) := by decide +kernel
theorem jX9_spoil_20 : decode cX9_spoil 20 = .ok (.if_icmp .le 5, 3) := by decide +kernel
theorem jX9_spoil_24 : decode cX9_spoil 24 = .ok (.ireturn, 1) := by decide +kernel
theorem jX9_spoil_41 : decode cX9_spoil 41 = .ok (.ireturn, 1) := by decide +kernel
def bX9_octet_0 : List Ent := [e0 0 (.iload_n 1)]
theorem oX9_octet_0 : okB ftX9 ctX9 cX9_octet 1 bX9_octet_0 = true := by decide +kernel
def bX9_octet_4 : List Ent := [e0 4 (.iload_n 1), e0 5 (.aload_n 0), ef 6 (.getfield 147) .null 8 8]
theorem oX9_octet_4 : okB ftX9 ctX9 cX9_octet 9 bX9_octet_4 = true := by decide +kernel
def bX9_octet_12 : List Ent := [ec 12 (.iconst (-1)) (.int (-1)), e0 13 (.goto 9)]
theorem oX9_octet_12 : okB ftX9 ctX9 cX9_octet 22 bX9_octet_12 = true := by decide +kernel
def bX9_octet_16 : List Ent := [e0 16 (.aload_n 0), ef 17 (.getfield 26) .null 8 7, e0 20 (.iload_n 1), e0 21 .iaload]
theorem oX9_octet_16 : okB ftX9 ctX9 cX9_octet 22 bX9_octet_16 = true := by decide +kernel
theorem jX9_octet_1 : decode cX9_octet 1 = .ok (.ifCond .lt 11, 3) := by decide +kernel
theorem jX9_octet_9 : decode cX9_octet 9 = .ok (.if_icmp .lt 7, 3) := by decide +kernel
theorem jX9_octet_22 : decode cX9_octet 22 = .ok (.ireturn, 1) := by decide +kernel
def bX9_numeral_0 : List Ent := [ec 0 (.lconst 0) (.long 0), e0 1 (.lstore_n 2), ec 2 (.iconst 0) (.int 0), e0 3 (.istore 4)]
theorem oX9_numeral_0 : okB ftX9 ctX9 cX9_numeral 5 bX9_numeral_0 = true := by decide +kernel
def bX9_numeral_5 : List Ent := [e0 5 (.iload 4), e0 7 (.iload_n 1)]
theorem oX9_numeral_5 : okB ftX9 ctX9 cX9_numeral 8 bX9_numeral_5 = true := by decide +kernel
def bX9_numeral_11 : List Ent := [e0 11 (.lload_n 2), ec 12 (.bipush 8) (.int 8), e0 14 .lshl, e0 15 (.aload_n 0), ef 16 (.getfield 169) .null 8 34, e0 19 (.aload_n 0), ef 20 (.getfield 147) .null 8 8]
theorem oX9_numeral_11 : okB ftX9 ctX9 cX9_numeral 23 bX9_numeral_11 = true := by decide +kernel
def bX9_numeral_26 : List Ent := [e0 26 (.aload_n 0), ef 27 (.getfield 26) .null 8 7, e0 30 (.aload_n 0), ef 31 (.getfield 169) .null 8 34, e0 34 .iaload, e0 35 (.goto 4)]
theorem oX9_numeral_26 : okB ftX9 ctX9 cX9_numeral 39 bX9_numeral_26 = true := by decide +kernel
def bX9_numeral_38 : List Ent := [ec 38 (.iconst 0) (.int 0)]
theorem oX9_numeral_38 : okB ftX9 ctX9 cX9_numeral 39 bX9_numeral_38 = true := by decide +kernel
def bX9_numeral_39 : List Ent := [e0 39 .i2l, e0 40 .lor, e0 41 (.lstore_n 2), e0 42 (.aload_n 0), e0 43 .dup, ef 44 (.getfield 169) .null 8 34, ec 47 (.iconst 1) (.int 1), e0 48 .iadd, ef 49 (.putfield 169) (.int 0) 8 34, ec 52 (.iinc 4 1) (.int 1), e0 55 (.goto (-50))]
theorem oX9_numeral_39 : okB ftX9 ctX9 cX9_numeral 5 bX9_numeral_39 = true := by decide +kernel
def bX9_numeral_58 : List Ent := [e0 58 (.lload_n 2)]
theorem oX9_numeral_58 : okB ftX9 ctX9 cX9_numeral 59 bX9_numeral_58 = true := by decide +kernel
theorem jX9_numeral_8 : decode cX9_numeral 8 = .ok (.if_icmp .ge 50, 3) := by decide +kernel
theorem jX9_numeral_23 : decode cX9_numeral 23 = .ok (.if_icmp .ge 15, 3) := by decide +kernel
theorem jX9_numeral_59 : decode cX9_numeral 59 = .ok (.lreturn, 1) := by decide +kernel
def bX9_sumUp_0 : List Ent := [ec 0 (.iconst 1) (.int 1), e0 1 (.istore_n 2), e0 2 (.aload_n 0), ef 3 (.getfield 74) .null 8 27, ec 6 (.iconst 0) (.int 0), e0 7 (.iload_n 1), e0 8 .iastore, ec 9 (.iconst 0) (.int 0), e0 10 (.istore_n 3)]
theorem oX9_sumUp_0 : okB ftX9 ctX9 cX9_sumUp 11 bX9_sumUp_0 = true := by decide +kernel
def bX9_sumUp_11 : List Ent := [e0 11 (.iload_n 3), e0 12 (.iload_n 2)]
theorem oX9_sumUp_11 : okB ftX9 ctX9 cX9_sumUp 13 bX9_sumUp_11 = true := by decide +kernel
def bX9_sumUp_16 : List Ent := [e0 16 (.aload_n 0), ef 17 (.getfield 74) .null 8 27, e0 20 (.iload_n 3), e0 21 .iaload, e0 22 (.istore 4), e0 24 (.aload_n 0), ef 25 (.getfield 53) .null 8 20, e0 28 (.iload 4), e0 30 .iaload, ec 31 (.iconst 1) (.int 1)]
theorem oX9_sumUp_16 : okB ftX9 ctX9 cX9_sumUp 32 bX9_sumUp_16 = true := by decide +kernel
def bX9_sumUp_35 : List Ent := [e0 35 (.aload_n 0), ef 36 (.getfield 74) .null 8 27, e0 39 (.iload_n 2), e0 40 (.aload_n 0), ef 41 (.getfield 65) .null 8 24, e0 44 (.iload 4), e0 46 .iaload, e0 47 .iastore, e0 48 (.aload_n 0), ef 49 (.getfield 74) .null 8 27, e0 52 (.iload_n 2), ec 53 (.iconst 1) (.int 1), e0 54 .iadd, e0 55 (.aload_n 0), ef 56 (.getfield 68) .null 8 25, e0 59 (.iload 4), e0 61 .iaload, e0 62 .iastore, ec 63 (.iinc 2 2) (.int 2)]
theorem oX9_sumUp_35 : okB ftX9 ctX9 cX9_sumUp 66 bX9_sumUp_35 = true := by decide +kernel
def bX9_sumUp_66 : List Ent := [ec 66 (.iinc 3 1) (.int 1), e0 69 (.goto (-58))]
theorem oX9_sumUp_66 : okB ftX9 ctX9 cX9_sumUp 11 bX9_sumUp_66 = true := by decide +kernel
def bX9_sumUp_72 : List Ent := [e0 72 (.iload_n 2), ec 73 (.iconst 1) (.int 1), e0 74 .isub, e0 75 (.istore_n 3)]
theorem oX9_sumUp_72 : okB ftX9 ctX9 cX9_sumUp 76 bX9_sumUp_72 = true := by decide +kernel
def bX9_sumUp_76 : List Ent := [e0 76 (.iload_n 3)]
theorem oX9_sumUp_76 : okB ftX9 ctX9 cX9_sumUp 77 bX9_sumUp_76 = true := by decide +kernel
def bX9_sumUp_80 : List Ent := [e0 80 (.aload_n 0), ef 81 (.getfield 74) .null 8 27, e0 84 (.iload_n 3), e0 85 .iaload, e0 86 (.istore 4), e0 88 (.aload_n 0), ef 89 (.getfield 71) .null 8 26, e0 92 (.iload 4), e0 94 (.aload_n 0), ef 95 (.getfield 53) .null 8 20, e0 98 (.iload 4), e0 100 .iaload]
theorem oX9_sumUp_80 : okB ftX9 ctX9 cX9_sumUp 101 bX9_sumUp_80 = true := by decide +kernel
def bX9_sumUp_104 : List Ent := [e0 104 (.aload_n 0), ef 105 (.getfield 62) .null 8 23, e0 108 (.iload 4), e0 110 .laload, e0 111 (.goto 96)]
theorem oX9_sumUp_104 : okB ftX9 ctX9 cX9_sumUp 207 bX9_sumUp_104 = true := by decide +kernel
def bX9_sumUp_114 : List Ent := [e0 114 (.aload_n 0), ef 115 (.getfield 53) .null 8 20, e0 118 (.iload 4), e0 120 .iaload, ec 121 (.iconst 2) (.int 2)]
theorem oX9_sumUp_114 : okB ftX9 ctX9 cX9_sumUp 122 bX9_sumUp_114 = true := by decide +kernel
def bX9_sumUp_125 : List Ent := [e0 125 (.aload_n 0), ef 126 (.getfield 59) .null 8 22, e0 129 (.iload 4), e0 131 .iaload, e0 132 (.aload_n 0), ef 133 (.getfield 62) .null 8 23, e0 136 (.iload 4), e0 138 .laload]
theorem oX9_sumUp_125 : okB ftX9 ctX9 cX9_sumUp 139 bX9_sumUp_125 = true := by decide +kernel
def bX9_sumUp_142 : List Ent := [e0 142 (.goto 65)]
theorem oX9_sumUp_142 : okB ftX9 ctX9 cX9_sumUp 207 bX9_sumUp_142 = true := by decide +kernel
def bX9_sumUp_145 : List Ent := [e0 145 (.aload_n 0), ef 146 (.getfield 53) .null 8 20, e0 149 (.iload 4), e0 151 .iaload, ec 152 (.iconst 3) (.int 3)]
theorem oX9_sumUp_145 : okB ftX9 ctX9 cX9_sumUp 153 bX9_sumUp_145 = true := by decide +kernel
def bX9_sumUp_156 : List Ent := [ec 156 (.lconst 0) (.long 0), ec 157 (.ldc2_w 112) (.long (3))]
theorem oX9_sumUp_156 : okB ftX9 ctX9 cX9_sumUp 160 bX9_sumUp_156 = true := by decide +kernel
def bX9_sumUp_163 : List Ent := [e0 163 (.goto 44)]
theorem oX9_sumUp_163 : okB ftX9 ctX9 cX9_sumUp 207 bX9_sumUp_163 = true := by decide +kernel
def bX9_sumUp_166 : List Ent := [e0 166 (.aload_n 0), ef 167 (.getfield 56) .null 8 21, e0 170 (.iload 4), e0 172 .iaload, e0 173 (.aload_n 0), ef 174 (.getfield 59) .null 8 22, e0 177 (.iload 4), e0 179 .iaload, e0 180 (.aload_n 0), ef 181 (.getfield 71) .null 8 26, e0 184 (.aload_n 0), ef 185 (.getfield 65) .null 8 24, e0 188 (.iload 4), e0 190 .iaload, e0 191 .laload, e0 192 (.aload_n 0), ef 193 (.getfield 71) .null 8 26, e0 196 (.aload_n 0), ef 197 (.getfield 68) .null 8 25, e0 200 (.iload 4), e0 202 .iaload, e0 203 .laload]
theorem oX9_sumUp_166 : okB ftX9 ctX9 cX9_sumUp 204 bX9_sumUp_166 = true := by decide +kernel
def bX9_sumUp_207 : List Ent := [e0 207 .lastore, ec 208 (.iinc 3 (-1)) (.int (-1)), e0 211 (.goto (-135))]
theorem oX9_sumUp_207 : okB ftX9 ctX9 cX9_sumUp 76 bX9_sumUp_207 = true := by decide +kernel
def bX9_sumUp_214 : List Ent := [e0 214 (.aload_n 0), ef 215 (.getfield 71) .null 8 26, e0 218 (.iload_n 1), e0 219 .laload]
theorem oX9_sumUp_214 : okB ftX9 ctX9 cX9_sumUp 220 bX9_sumUp_214 = true := by decide +kernel
theorem jX9_sumUp_13 : decode cX9_sumUp 13 = .ok (.if_icmp .ge 59, 3) := by decide +kernel
theorem jX9_sumUp_32 : decode cX9_sumUp 32 = .ok (.if_icmp .ne 34, 3) := by decide +kernel
theorem jX9_sumUp_77 : decode cX9_sumUp 77 = .ok (.ifCond .lt 137, 3) := by decide +kernel
theorem jX9_sumUp_101 : decode cX9_sumUp 101 = .ok (.ifCond .ne 13, 3) := by decide +kernel
theorem jX9_sumUp_122 : decode cX9_sumUp 122 = .ok (.if_icmp .ne 23, 3) := by decide +kernel
theorem jX9_sumUp_139 : decode cX9_sumUp 139 = .ok (.invokestatic 125, 3) := by decide +kernel
theorem jX9_sumUp_153 : decode cX9_sumUp 153 = .ok (.if_icmp .ne 13, 3) := by decide +kernel
theorem jX9_sumUp_160 : decode cX9_sumUp 160 = .ok (.invokestatic 92, 3) := by decide +kernel
theorem jX9_sumUp_204 : decode cX9_sumUp 204 = .ok (.invokestatic 121, 3) := by decide +kernel
theorem jX9_sumUp_220 : decode cX9_sumUp 220 = .ok (.lreturn, 1) := by decide +kernel
def bX9_taken_0 : List Ent := [e0 0 (.aload_n 0), ef 1 (.getfield 169) .null 8 34, e0 4 (.aload_n 0), ef 5 (.getfield 147) .null 8 8]
theorem oX9_taken_0 : okB ftX9 ctX9 cX9_taken 8 bX9_taken_0 = true := by decide +kernel
def bX9_taken_11 : List Ent := [e0 11 (.aload_n 0), e0 12 (.aload_n 0), ef 13 (.getfield 147) .null 8 8, ef 16 (.putfield 84) (.int 0) 8 33, ec 19 (.iconst 1) (.int 1)]
theorem oX9_taken_11 : okB ftX9 ctX9 cX9_taken 20 bX9_taken_11 = true := by decide +kernel
def bX9_taken_21 : List Ent := [e0 21 (.aload_n 0), e0 22 (.aload_n 0), ef 23 (.getfield 169) .null 8 34, ef 26 (.putfield 84) (.int 0) 8 33, e0 29 (.aload_n 0), ef 30 (.getfield 53) .null 8 20, e0 33 (.iload_n 1), e0 34 (.aload_n 0), ef 35 (.getfield 26) .null 8 7, e0 38 (.aload_n 0), ef 39 (.getfield 169) .null 8 34, e0 42 .iaload, e0 43 .iastore, e0 44 (.aload_n 0), e0 45 .dup, ef 46 (.getfield 169) .null 8 34, ec 49 (.iconst 1) (.int 1), e0 50 .iadd, ef 51 (.putfield 169) (.int 0) 8 34, e0 54 (.aload_n 0), ef 55 (.getfield 53) .null 8 20, e0 58 (.iload_n 1), e0 59 .iaload, ec 60 (.iconst 3) (.int 3)]
theorem oX9_taken_21 : okB ftX9 ctX9 cX9_taken 61 bX9_taken_21 = true := by decide +kernel
def bX9_taken_64 : List Ent := [e0 64 (.aload_n 0), ef 65 (.getfield 53) .null 8 20, e0 68 (.iload_n 1), e0 69 .iaload, ec 70 (.iconst 3) (.int 3)]
theorem oX9_taken_64 : okB ftX9 ctX9 cX9_taken 71 bX9_taken_64 = true := by decide +kernel
def bX9_taken_74 : List Ent := [e0 74 (.iload_n 2)]
theorem oX9_taken_74 : okB ftX9 ctX9 cX9_taken 75 bX9_taken_74 = true := by decide +kernel
def bX9_taken_78 : List Ent := [ec 78 (.iconst 2) (.int 2)]
theorem oX9_taken_78 : okB ftX9 ctX9 cX9_taken 79 bX9_taken_78 = true := by decide +kernel
def bX9_taken_80 : List Ent := [e0 80 (.aload_n 0), ef 81 (.getfield 53) .null 8 20, e0 84 (.iload_n 1), e0 85 .iaload]
theorem oX9_taken_80 : okB ftX9 ctX9 cX9_taken 86 bX9_taken_80 = true := by decide +kernel
def bX9_taken_89 : List Ent := [e0 89 (.aload_n 0), ef 90 (.getfield 62) .null 8 23, e0 93 (.iload_n 1), e0 94 (.aload_n 0), ec 95 (.bipush 8) (.int 8)]
theorem oX9_taken_89 : okB ftX9 ctX9 cX9_taken 97 bX9_taken_89 = true := by decide +kernel
def bX9_taken_100 : List Ent := [e0 100 .lastore, e0 101 (.goto 240)]
theorem oX9_taken_100 : okB ftX9 ctX9 cX9_taken 341 bX9_taken_100 = true := by decide +kernel
def bX9_taken_104 : List Ent := [e0 104 (.aload_n 0), ef 105 (.getfield 53) .null 8 20, e0 108 (.iload_n 1), e0 109 .iaload, ec 110 (.iconst 1) (.int 1)]
theorem oX9_taken_104 : okB ftX9 ctX9 cX9_taken 111 bX9_taken_104 = true := by decide +kernel
def bX9_taken_114 : List Ent := [e0 114 (.aload_n 0), e0 115 (.aload_n 0), ef 116 (.getfield 169) .null 8 34, ef 119 (.putfield 84) (.int 0) 8 33, e0 122 (.aload_n 0), ef 123 (.getfield 56) .null 8 21, e0 126 (.iload_n 1), e0 127 (.aload_n 0), ec 128 (.iconst 1) (.int 1)]
theorem oX9_taken_114 : okB ftX9 ctX9 cX9_taken 129 bX9_taken_114 = true := by decide +kernel
def bX9_taken_132 : List Ent := [e0 132 .l2i, e0 133 .iastore, e0 134 (.aload_n 0), ef 135 (.getfield 169) .null 8 34, e0 138 (.aload_n 0), ef 139 (.getfield 147) .null 8 8]
theorem oX9_taken_132 : okB ftX9 ctX9 cX9_taken 142 bX9_taken_132 = true := by decide +kernel
def bX9_taken_145 : List Ent := [e0 145 (.aload_n 0), ef 146 (.getfield 56) .null 8 21, e0 149 (.iload_n 1), e0 150 .iaload, ec 151 (.bipush 15) (.int 15)]
theorem oX9_taken_145 : okB ftX9 ctX9 cX9_taken 153 bX9_taken_145 = true := by decide +kernel
def bX9_taken_156 : List Ent := [ec 156 (.iconst 3) (.int 3)]
theorem oX9_taken_156 : okB ftX9 ctX9 cX9_taken 157 bX9_taken_156 = true := by decide +kernel
def bX9_taken_158 : List Ent := [e0 158 (.aload_n 0), e0 159 (.aload_n 0), ef 160 (.getfield 169) .null 8 34, ef 163 (.putfield 84) (.int 0) 8 33, e0 166 (.aload_n 0), ef 167 (.getfield 59) .null 8 22, e0 170 (.iload_n 1), e0 171 (.aload_n 0), ec 172 (.iconst 2) (.int 2)]
theorem oX9_taken_158 : okB ftX9 ctX9 cX9_taken 173 bX9_taken_158 = true := by decide +kernel
def bX9_taken_176 : List Ent := [e0 176 .l2i, e0 177 .iastore, e0 178 (.aload_n 0), ef 179 (.getfield 169) .null 8 34, e0 182 (.aload_n 0), ef 183 (.getfield 147) .null 8 8]
theorem oX9_taken_176 : okB ftX9 ctX9 cX9_taken 186 bX9_taken_176 = true := by decide +kernel
def bX9_taken_189 : List Ent := [e0 189 (.aload_n 0), ef 190 (.getfield 59) .null 8 22, e0 193 (.iload_n 1), e0 194 .iaload, e0 195 (.aload_n 0), ef 196 (.getfield 56) .null 8 21, e0 199 (.iload_n 1), e0 200 .iaload]
theorem oX9_taken_189 : okB ftX9 ctX9 cX9_taken 201 bX9_taken_189 = true := by decide +kernel
def bX9_taken_204 : List Ent := [e0 204 (.aload_n 0), ef 205 (.getfield 59) .null 8 22, e0 208 (.iload_n 1), e0 209 .iaload]
theorem oX9_taken_204 : okB ftX9 ctX9 cX9_taken 210 bX9_taken_204 = true := by decide +kernel
def bX9_taken_213 : List Ent := [e0 213 (.aload_n 0), ef 214 (.getfield 59) .null 8 22, e0 217 (.iload_n 1), e0 218 .iaload, e0 219 (.iload_n 3)]
theorem oX9_taken_213 : okB ftX9 ctX9 cX9_taken 220 bX9_taken_213 = true := by decide +kernel
def bX9_taken_223 : List Ent := [e0 223 (.aload_n 0), ef 224 (.getfield 59) .null 8 22, e0 227 (.iload_n 1), e0 228 .iaload, ec 229 (.iconst 1) (.int 1), ec 230 (.bipush 16) (.int 16), e0 232 (.aload_n 0), ef 233 (.getfield 56) .null 8 21, e0 236 (.iload_n 1), e0 237 .iaload, e0 238 .isub, e0 239 .ishl, e0 240 .iadd, ec 241 (.iconst 1) (.int 1), e0 242 .isub, e0 243 (.iload 4)]
theorem oX9_taken_223 : okB ftX9 ctX9 cX9_taken 245 bX9_taken_223 = true := by decide +kernel
def bX9_taken_248 : List Ent := [ec 248 (.iconst 1) (.int 1), e0 249 (.goto 4)]
theorem oX9_taken_248 : okB ftX9 ctX9 cX9_taken 253 bX9_taken_248 = true := by decide +kernel
def bX9_taken_252 : List Ent := [ec 252 (.iconst 0) (.int 0)]
theorem oX9_taken_252 : okB ftX9 ctX9 cX9_taken 253 bX9_taken_252 = true := by decide +kernel
def bX9_taken_253 : List Ent := [e0 253 (.istore 5), e0 255 (.iload 5)]
theorem oX9_taken_253 : okB ftX9 ctX9 cX9_taken 257 bX9_taken_253 = true := by decide +kernel
def bX9_taken_260 : List Ent := [ec 260 (.iconst 4) (.int 4)]
theorem oX9_taken_260 : okB ftX9 ctX9 cX9_taken 261 bX9_taken_260 = true := by decide +kernel
def bX9_taken_262 : List Ent := [e0 262 (.goto 79)]
theorem oX9_taken_262 : okB ftX9 ctX9 cX9_taken 341 bX9_taken_262 = true := by decide +kernel
def bX9_taken_265 : List Ent := [e0 265 (.aload_n 0), ef 266 (.getfield 53) .null 8 20, e0 269 (.iload_n 1), e0 270 .iaload, ec 271 (.iconst 2) (.int 2)]
theorem oX9_taken_265 : okB ftX9 ctX9 cX9_taken 272 bX9_taken_265 = true := by decide +kernel
def bX9_taken_275 : List Ent := [e0 275 (.aload_n 0), e0 276 (.aload_n 0), ef 277 (.getfield 169) .null 8 34, ef 280 (.putfield 84) (.int 0) 8 33, e0 283 (.aload_n 0), ef 284 (.getfield 59) .null 8 22, e0 287 (.iload_n 1), e0 288 (.aload_n 0), ec 289 (.iconst 2) (.int 2)]
theorem oX9_taken_275 : okB ftX9 ctX9 cX9_taken 290 bX9_taken_275 = true := by decide +kernel
def bX9_taken_293 : List Ent := [e0 293 .l2i, e0 294 .iastore, e0 295 (.aload_n 0), ef 296 (.getfield 169) .null 8 34, e0 299 (.aload_n 0), ef 300 (.getfield 147) .null 8 8]
theorem oX9_taken_293 : okB ftX9 ctX9 cX9_taken 303 bX9_taken_293 = true := by decide +kernel
def bX9_taken_306 : List Ent := [e0 306 (.aload_n 0), ef 307 (.getfield 59) .null 8 22, e0 310 (.iload_n 1), e0 311 .iaload, e0 312 (.iload_n 3)]
theorem oX9_taken_306 : okB ftX9 ctX9 cX9_taken 313 bX9_taken_306 = true := by decide +kernel
def bX9_taken_316 : List Ent := [e0 316 (.aload_n 0), ef 317 (.getfield 59) .null 8 22, e0 320 (.iload_n 1), e0 321 .iaload, e0 322 (.iload 4)]
theorem oX9_taken_316 : okB ftX9 ctX9 cX9_taken 324 bX9_taken_316 = true := by decide +kernel
def bX9_taken_327 : List Ent := [ec 327 (.iconst 5) (.int 5)]
theorem oX9_taken_327 : okB ftX9 ctX9 cX9_taken 328 bX9_taken_327 = true := by decide +kernel
def bX9_taken_329 : List Ent := [e0 329 (.aload_n 0), ef 330 (.getfield 62) .null 8 23, e0 333 (.iload_n 1), e0 334 (.aload_n 0), ec 335 (.bipush 8) (.int 8)]
theorem oX9_taken_329 : okB ftX9 ctX9 cX9_taken 337 bX9_taken_329 = true := by decide +kernel
def bX9_taken_340 : List Ent := [e0 340 .lastore]
theorem oX9_taken_340 : okB ftX9 ctX9 cX9_taken 341 bX9_taken_340 = true := by decide +kernel
def bX9_taken_341 : List Ent := [e0 341 (.aload_n 0), e0 342 (.aload_n 0), ef 343 (.getfield 169) .null 8 34, e0 346 (.aload_n 0), ef 347 (.getfield 147) .null 8 8]
theorem oX9_taken_341 : okB ftX9 ctX9 cX9_taken 350 bX9_taken_341 = true := by decide +kernel
def bX9_taken_353 : List Ent := [e0 353 (.aload_n 0), ef 354 (.getfield 147) .null 8 8, e0 357 (.goto 7)]
theorem oX9_taken_353 : okB ftX9 ctX9 cX9_taken 364 bX9_taken_353 = true := by decide +kernel
def bX9_taken_360 : List Ent := [e0 360 (.aload_n 0), ef 361 (.getfield 84) .null 8 33]
theorem oX9_taken_360 : okB ftX9 ctX9 cX9_taken 364 bX9_taken_360 = true := by decide +kernel
def bX9_taken_364 : List Ent := [ef 364 (.putfield 84) (.int 0) 8 33, e0 367 (.aload_n 0), ef 368 (.getfield 169) .null 8 34, e0 371 (.aload_n 0), ef 372 (.getfield 147) .null 8 8]
theorem oX9_taken_364 : okB ftX9 ctX9 cX9_taken 375 bX9_taken_364 = true := by decide +kernel
def bX9_taken_378 : List Ent := [ec 378 (.iconst 1) (.int 1), e0 379 (.goto 4)]
theorem oX9_taken_378 : okB ftX9 ctX9 cX9_taken 383 bX9_taken_378 = true := by decide +kernel
def bX9_taken_382 : List Ent := [ec 382 (.iconst 0) (.int 0)]
theorem oX9_taken_382 : okB ftX9 ctX9 cX9_taken 383 bX9_taken_382 = true := by decide +kernel
theorem jX9_taken_8 : decode cX9_taken 8 = .ok (.if_icmp .lt 13, 3) := by decide +kernel
theorem jX9_taken_20 : decode cX9_taken 20 = .ok (.ireturn, 1) := by decide +kernel
theorem jX9_taken_61 : decode cX9_taken 61 = .ok (.if_icmp .gt 17, 3) := by decide +kernel
theorem jX9_taken_71 : decode cX9_taken 71 = .ok (.if_icmp .ne 9, 3) := by decide +kernel
theorem jX9_taken_75 : decode cX9_taken 75 = .ok (.ifCond .ne 5, 3) := by decide +kernel
theorem jX9_taken_79 : decode cX9_taken 79 = .ok (.ireturn, 1) := by decide +kernel
theorem jX9_taken_86 : decode cX9_taken 86 = .ok (.ifCond .ne 18, 3) := by decide +kernel
theorem jX9_taken_97 : decode cX9_taken 97 = .ok (.invokevirtual 172, 3) := by decide +kernel
theorem jX9_taken_111 : decode cX9_taken 111 = .ok (.if_icmp .ne 154, 3) := by decide +kernel
theorem jX9_taken_129 : decode cX9_taken 129 = .ok (.invokevirtual 172, 3) := by decide +kernel
theorem jX9_taken_142 : decode cX9_taken 142 = .ok (.if_icmp .gt 16, 3) := by decide +kernel
theorem jX9_taken_153 : decode cX9_taken 153 = .ok (.if_icmp .le 5, 3) := by decide +kernel
theorem jX9_taken_157 : decode cX9_taken 157 = .ok (.ireturn, 1) := by decide +kernel
theorem jX9_taken_173 : decode cX9_taken 173 = .ok (.invokevirtual 172, 3) := by decide +kernel
theorem jX9_taken_186 : decode cX9_taken 186 = .ok (.if_icmp .gt 62, 3) := by decide +kernel
theorem jX9_taken_201 : decode cX9_taken 201 = .ok (.invokestatic 118, 3) := by decide +kernel
theorem jX9_taken_210 : decode cX9_taken 210 = .ok (.if_icmp .ne 42, 3) := by decide +kernel
theorem jX9_taken_220 : decode cX9_taken 220 = .ok (.if_icmp .lt 32, 3) := by decide +kernel
theorem jX9_taken_245 : decode cX9_taken 245 = .ok (.if_icmp .gt 7, 3) := by decide +kernel
theorem jX9_taken_257 : decode cX9_taken 257 = .ok (.ifCond .ne 5, 3) := by decide +kernel
theorem jX9_taken_261 : decode cX9_taken 261 = .ok (.ireturn, 1) := by decide +kernel
theorem jX9_taken_272 : decode cX9_taken 272 = .ok (.if_icmp .ne 69, 3) := by decide +kernel
theorem jX9_taken_290 : decode cX9_taken 290 = .ok (.invokevirtual 172, 3) := by decide +kernel
theorem jX9_taken_303 : decode cX9_taken 303 = .ok (.if_icmp .gt 26, 3) := by decide +kernel
theorem jX9_taken_313 : decode cX9_taken 313 = .ok (.if_icmp .lt 14, 3) := by decide +kernel
theorem jX9_taken_324 : decode cX9_taken 324 = .ok (.if_icmp .le 5, 3) := by decide +kernel
theorem jX9_taken_328 : decode cX9_taken 328 = .ok (.ireturn, 1) := by decide +kernel
theorem jX9_taken_337 : decode cX9_taken 337 = .ok (.invokevirtual 172, 3) := by decide +kernel
theorem jX9_taken_350 : decode cX9_taken 350 = .ok (.if_icmp .le 10, 3) := by decide +kernel
theorem jX9_taken_375 : decode cX9_taken 375 = .ok (.if_icmp .le 7, 3) := by decide +kernel
theorem jX9_taken_383 : decode cX9_taken 383 = .ok (.ireturn, 1) := by decide +kernel
def bX9_take_0 : List Ent := [ec 0 (.sipush 800) (.int 800), e0 3 (.aload_n 0), ef 4 (.getfield 176) .null 8 28, e0 7 .isub, e0 8 (.istore_n 3), ec 9 (.iconst 1) (.int 1), e0 10 (.istore 4), ec 12 (.iconst 0) (.int 0), e0 13 (.istore 5), e0 15 (.aload_n 0), ec 16 (.iconst 0) (.int 0), ef 17 (.putfield 169) (.int 0) 8 34, e0 20 (.aload_n 0), ec 21 (.iconst 0) (.int 0), ef 22 (.putfield 150) (.int 0) 8 19, e0 25 (.aload_n 0), e0 26 (.iload_n 3), ec 27 (.iconst 0) (.int 0), ec 28 (.iconst 0) (.int 0), ec 29 (.ldc 87) (.int 65535)]
theorem oX9_take_0 : okB ftX9 ctX9 cX9_take 31 bX9_take_0 = true := by decide +kernel
def bX9_take_34 : List Ent := [e0 34 (.aload_n 0), ef 35 (.getfield 150) .null 8 19]
theorem oX9_take_34 : okB ftX9 ctX9 cX9_take 38 bX9_take_34 = true := by decide +kernel
def bX9_take_41 : List Ent := [e0 41 (.iload 5)]
theorem oX9_take_41 : okB ftX9 ctX9 cX9_take 43 bX9_take_41 = true := by decide +kernel
def bX9_take_46 : List Ent := [e0 46 (.aload_n 0), e0 47 .dup, ef 48 (.getfield 150) .null 8 19, ec 51 (.iconst 1) (.int 1), e0 52 .isub, ef 53 (.putfield 150) (.int 0) 8 19, e0 56 (.aload_n 0), ef 57 (.getfield 41) .null 8 15, e0 60 (.aload_n 0), ef 61 (.getfield 150) .null 8 19, e0 64 .iaload, e0 65 (.istore 6), e0 67 (.aload_n 0), e0 68 (.iload 6), e0 70 (.iload 6), e0 72 (.iload_n 3)]
theorem oX9_take_46 : okB ftX9 ctX9 cX9_take 73 bX9_take_46 = true := by decide +kernel
def bX9_take_76 : List Ent := [ec 76 (.iconst 1) (.int 1), e0 77 (.goto 4)]
theorem oX9_take_76 : okB ftX9 ctX9 cX9_take 81 bX9_take_76 = true := by decide +kernel
def bX9_take_80 : List Ent := [ec 80 (.iconst 0) (.int 0)]
theorem oX9_take_80 : okB ftX9 ctX9 cX9_take 81 bX9_take_80 = true := by decide +kernel
def bX9_take_81 : List Ent := [e0 81 (.aload_n 0), ef 82 (.getfield 47) .null 8 17, e0 85 (.aload_n 0), ef 86 (.getfield 150) .null 8 19, e0 89 .iaload, e0 90 (.aload_n 0), ef 91 (.getfield 50) .null 8 18, e0 94 (.aload_n 0), ef 95 (.getfield 150) .null 8 19, e0 98 .iaload]
theorem oX9_take_81 : okB ftX9 ctX9 cX9_take 99 bX9_take_81 = true := by decide +kernel
def bX9_take_102 : List Ent := [e0 102 (.istore 5), e0 104 (.iload 5)]
theorem oX9_take_102 : okB ftX9 ctX9 cX9_take 106 bX9_take_102 = true := by decide +kernel
def bX9_take_109 : List Ent := [e0 109 (.aload_n 0), ef 110 (.getfield 53) .null 8 20, e0 113 (.iload 6), e0 115 .iaload, ec 116 (.iconst 1) (.int 1)]
theorem oX9_take_109 : okB ftX9 ctX9 cX9_take 117 bX9_take_109 = true := by decide +kernel
def bX9_take_120 : List Ent := [e0 120 (.iload 4), ec 122 (.sipush 790) (.int 790)]
theorem oX9_take_120 : okB ftX9 ctX9 cX9_take 125 bX9_take_120 = true := by decide +kernel
def bX9_take_128 : List Ent := [e0 128 (.aload_n 0), ef 129 (.getfield 59) .null 8 22, e0 132 (.iload 6), e0 134 .iaload, ec 135 (.iconst 1) (.int 1), ec 136 (.bipush 15) (.int 15), e0 138 (.aload_n 0), ef 139 (.getfield 56) .null 8 21, e0 142 (.iload 6), e0 144 .iaload, e0 145 .isub, e0 146 .ishl, e0 147 .iadd, e0 148 (.istore 7), e0 150 (.aload_n 0), ef 151 (.getfield 65) .null 8 24, e0 154 (.iload 6), e0 156 (.iload_n 3), e0 157 (.iload 4), e0 159 .iadd, e0 160 .iastore, e0 161 (.aload_n 0), ef 162 (.getfield 68) .null 8 25, e0 165 (.iload 6), e0 167 (.iload_n 3), e0 168 (.iload 4), e0 170 .iadd, ec 171 (.iconst 1) (.int 1), e0 172 .iadd, e0 173 .iastore, ec 174 (.iinc 4 2) (.int 2), e0 177 (.aload_n 0), e0 178 (.aload_n 0), ef 179 (.getfield 68) .null 8 25, e0 182 (.iload 6), e0 184 .iaload, ec 185 (.iconst 0) (.int 0), e0 186 (.iload 7), e0 188 (.iload 7), ec 190 (.iconst 1) (.int 1), ec 191 (.bipush 15) (.int 15), e0 193 (.aload_n 0), ef 194 (.getfield 56) .null 8 21, e0 197 (.iload 6), e0 199 .iaload, e0 200 .isub, e0 201 .ishl, e0 202 .iadd, ec 203 (.iconst 1) (.int 1), e0 204 .isub]
theorem oX9_take_128 : okB ftX9 ctX9 cX9_take 205 bX9_take_128 = true := by decide +kernel
def bX9_take_208 : List Ent := [e0 208 (.aload_n 0), e0 209 (.aload_n 0), ef 210 (.getfield 65) .null 8 24, e0 213 (.iload 6), e0 215 .iaload, ec 216 (.iconst 0) (.int 0), e0 217 (.aload_n 0), ef 218 (.getfield 59) .null 8 22, e0 221 (.iload 6), e0 223 .iaload, e0 224 (.iload 7), ec 226 (.iconst 1) (.int 1), e0 227 .isub]
theorem oX9_take_208 : okB ftX9 ctX9 cX9_take 228 bX9_take_208 = true := by decide +kernel
def bX9_take_231 : List Ent := [e0 231 (.goto (-197))]
theorem oX9_take_231 : okB ftX9 ctX9 cX9_take 34 bX9_take_231 = true := by decide +kernel
def bX9_take_234 : List Ent := [e0 234 (.iload 5)]
theorem oX9_take_234 : okB ftX9 ctX9 cX9_take 236 bX9_take_234 = true := by decide +kernel
def bX9_take_239 : List Ent := [e0 239 (.aload_n 0), ef 240 (.getfield 169) .null 8 34, e0 243 (.aload_n 0), ef 244 (.getfield 147) .null 8 8]
theorem oX9_take_239 : okB ftX9 ctX9 cX9_take 247 bX9_take_239 = true := by decide +kernel
def bX9_take_250 : List Ent := [ec 250 (.bipush 6) (.int 6), e0 252 (.istore 5), e0 254 (.aload_n 0), e0 255 (.aload_n 0), ef 256 (.getfield 169) .null 8 34, ef 259 (.putfield 84) (.int 0) 8 33]
theorem oX9_take_250 : okB ftX9 ctX9 cX9_take 262 bX9_take_250 = true := by decide +kernel
def bX9_take_262 : List Ent := [e0 262 (.iload 5)]
theorem oX9_take_262 : okB ftX9 ctX9 cX9_take 264 bX9_take_262 = true := by decide +kernel
def bX9_take_267 : List Ent := [e0 267 (.aload_n 0), e0 268 (.iload_n 3)]
theorem oX9_take_267 : okB ftX9 ctX9 cX9_take 269 bX9_take_267 = true := by decide +kernel
def bX9_take_272 : List Ent := [e0 272 (.lload_n 1), e0 273 .lcmp]
theorem oX9_take_272 : okB ftX9 ctX9 cX9_take 274 bX9_take_272 = true := by decide +kernel
def bX9_take_277 : List Ent := [ec 277 (.bipush 7) (.int 7), e0 279 (.istore 5), e0 281 (.aload_n 0), ec 282 (.iconst 0) (.int 0), ef 283 (.putfield 84) (.int 0) 8 33]
theorem oX9_take_277 : okB ftX9 ctX9 cX9_take 286 bX9_take_277 = true := by decide +kernel
def bX9_take_286 : List Ent := [e0 286 (.iload 5)]
theorem oX9_take_286 : okB ftX9 ctX9 cX9_take 288 bX9_take_286 = true := by decide +kernel
def bX9_take_291 : List Ent := [ec 291 (.bipush (-10)) (.int (-10)), e0 293 (.iload 5), e0 295 .isub]
theorem oX9_take_291 : okB ftX9 ctX9 cX9_take 296 bX9_take_291 = true := by decide +kernel
def bX9_take_297 : List Ent := [e0 297 (.aload_n 0), ec 298 (.bipush (-2)) (.int (-2)), ef 300 (.putfield 84) (.int 0) 8 33, e0 303 (.aload_n 0), e0 304 (.iload_n 3), ef 305 (.putfield 176) (.int 0) 8 28, e0 308 (.aload_n 0), e0 309 (.iload_n 3), ef 310 (.putfield 77) (.int 0) 8 30, e0 313 (.aload_n 0), e0 314 (.iload 4), ef 316 (.putfield 186) (.int 0) 8 29, e0 319 (.aload_n 0), ec 320 (.iconst 0) (.int 0), ef 321 (.putfield 189) (.int 0) 8 32, ec 324 (.sipush 799) (.int 799), e0 327 (.istore 6)]
theorem oX9_take_297 : okB ftX9 ctX9 cX9_take 329 bX9_take_297 = true := by decide +kernel
def bX9_take_329 : List Ent := [e0 329 (.iload 6), e0 331 (.iload 4)]
theorem oX9_take_329 : okB ftX9 ctX9 cX9_take 333 bX9_take_329 = true := by decide +kernel
def bX9_take_336 : List Ent := [e0 336 (.aload_n 0), ef 337 (.getfield 81) .null 8 31, e0 340 (.aload_n 0), ef 341 (.getfield 189) .null 8 32, e0 344 (.iload_n 3), e0 345 (.iload 6), e0 347 .iadd, e0 348 .iastore, e0 349 (.aload_n 0), e0 350 .dup, ef 351 (.getfield 189) .null 8 32, ec 354 (.iconst 1) (.int 1), e0 355 .iadd, ef 356 (.putfield 189) (.int 0) 8 32, ec 359 (.iinc 6 (-1)) (.int (-1)), e0 362 (.goto (-33))]
theorem oX9_take_336 : okB ftX9 ctX9 cX9_take 329 bX9_take_336 = true := by decide +kernel
def bX9_take_365 : List Ent := [e0 365 (.iload 4)]
theorem oX9_take_365 : okB ftX9 ctX9 cX9_take 367 bX9_take_365 = true := by decide +kernel
theorem jX9_take_31 : decode cX9_take 31 = .ok (.invokevirtual 153, 3) := by decide +kernel
theorem jX9_take_38 : decode cX9_take 38 = .ok (.ifCond .le 196, 3) := by decide +kernel
theorem jX9_take_43 : decode cX9_take 43 = .ok (.ifCond .ne 191, 3) := by decide +kernel
theorem jX9_take_73 : decode cX9_take 73 = .ok (.if_icmp .ne 7, 3) := by decide +kernel
theorem jX9_take_99 : decode cX9_take 99 = .ok (.invokevirtual 179, 3) := by decide +kernel
theorem jX9_take_106 : decode cX9_take 106 = .ok (.ifCond .ne 125, 3) := by decide +kernel
theorem jX9_take_117 : decode cX9_take 117 = .ok (.if_icmp .ne 114, 3) := by decide +kernel
theorem jX9_take_125 : decode cX9_take 125 = .ok (.if_icmp .ge 106, 3) := by decide +kernel
theorem jX9_take_205 : decode cX9_take 205 = .ok (.invokevirtual 153, 3) := by decide +kernel
theorem jX9_take_228 : decode cX9_take 228 = .ok (.invokevirtual 153, 3) := by decide +kernel
theorem jX9_take_236 : decode cX9_take 236 = .ok (.ifCond .ne 26, 3) := by decide +kernel
theorem jX9_take_247 : decode cX9_take 247 = .ok (.if_icmp .ge 15, 3) := by decide +kernel
theorem jX9_take_264 : decode cX9_take 264 = .ok (.ifCond .ne 22, 3) := by decide +kernel
theorem jX9_take_269 : decode cX9_take 269 = .ok (.invokevirtual 183, 3) := by decide +kernel
theorem jX9_take_274 : decode cX9_take 274 = .ok (.ifCond .eq 12, 3) := by decide +kernel
theorem jX9_take_288 : decode cX9_take 288 = .ok (.ifCond .le 9, 3) := by decide +kernel
theorem jX9_take_296 : decode cX9_take 296 = .ok (.ireturn, 1) := by decide +kernel
theorem jX9_take_333 : decode cX9_take 333 = .ok (.if_icmp .lt 32, 3) := by decide +kernel
theorem jX9_take_367 : decode cX9_take 367 = .ok (.ireturn, 1) := by decide +kernel
def bX9_place_0 : List Ent := [e0 0 (.aload_n 0), ef 1 (.getfield 84) .null 8 33]
theorem oX9_place_0 : okB ftX9 ctX9 cX9_place 4 bX9_place_0 = true := by decide +kernel
theorem jX9_place_4 : decode cX9_place 4 = .ok (.ireturn, 1) := by decide +kernel
def bX9_takesIn_0 : List Ent := [e0 0 (.iload_n 0), e0 1 (.iload_n 2)]
theorem oX9_takesIn_0 : okB ftX9 ctX9 cX9_takesIn 2 bX9_takesIn_0 = true := by decide +kernel
def bX9_takesIn_5 : List Ent := [e0 5 (.iload_n 1)]
theorem oX9_takesIn_5 : okB ftX9 ctX9 cX9_takesIn 6 bX9_takesIn_5 = true := by decide +kernel
def bX9_takesIn_9 : List Ent := [ec 9 (.iconst 1) (.int 1), e0 10 (.goto 4)]
theorem oX9_takesIn_9 : okB ftX9 ctX9 cX9_takesIn 14 bX9_takesIn_9 = true := by decide +kernel
def bX9_takesIn_13 : List Ent := [ec 13 (.iconst 0) (.int 0)]
theorem oX9_takesIn_13 : okB ftX9 ctX9 cX9_takesIn 14 bX9_takesIn_13 = true := by decide +kernel
theorem jX9_takesIn_2 : decode cX9_takesIn 2 = .ok (.invokestatic 118, 3) := by decide +kernel
theorem jX9_takesIn_6 : decode cX9_takesIn 6 = .ok (.if_icmp .ne 7, 3) := by decide +kernel
theorem jX9_takesIn_14 : decode cX9_takesIn 14 = .ok (.ireturn, 1) := by decide +kernel
def bX9_way_0 : List Ent := [e0 0 (.aload_n 0), e0 1 (.aload_n 0), ef 2 (.getfield 77) .null 8 30, ef 5 (.putfield 192) (.int 0) 8 35, e0 8 (.aload_n 0), ec 9 (.bipush (-2)) (.int (-2)), ef 11 (.putfield 195) (.int 0) 8 36]
theorem oX9_way_0 : okB ftX9 ctX9 cX9_way 14 bX9_way_0 = true := by decide +kernel
def bX9_way_14 : List Ent := [e0 14 (.aload_n 0), ef 15 (.getfield 53) .null 8 20, e0 18 (.aload_n 0), ef 19 (.getfield 192) .null 8 35, e0 22 .iaload, ec 23 (.iconst 1) (.int 1)]
theorem oX9_way_14 : okB ftX9 ctX9 cX9_way 24 bX9_way_14 = true := by decide +kernel
def bX9_way_27 : List Ent := [e0 27 (.iload_n 1), e0 28 (.aload_n 0), ef 29 (.getfield 59) .null 8 22, e0 32 (.aload_n 0), ef 33 (.getfield 192) .null 8 35, e0 36 .iaload, e0 37 (.aload_n 0), ef 38 (.getfield 56) .null 8 21, e0 41 (.aload_n 0), ef 42 (.getfield 192) .null 8 35, e0 45 .iaload]
theorem oX9_way_27 : okB ftX9 ctX9 cX9_way 46 bX9_way_27 = true := by decide +kernel
def bX9_way_52 : List Ent := [e0 52 (.aload_n 0), e0 53 (.aload_n 0), ef 54 (.getfield 192) .null 8 35, ef 57 (.putfield 195) (.int 0) 8 36, e0 60 (.aload_n 0), e0 61 (.iload_n 1), ec 62 (.bipush 15) (.int 15), e0 64 (.aload_n 0), ef 65 (.getfield 56) .null 8 21, e0 68 (.aload_n 0), ef 69 (.getfield 192) .null 8 35, e0 72 .iaload, e0 73 .isub, e0 74 .ishr, ec 75 (.iconst 1) (.int 1), e0 76 .iand]
theorem oX9_way_52 : okB ftX9 ctX9 cX9_way 77 bX9_way_52 = true := by decide +kernel
def bX9_way_80 : List Ent := [e0 80 (.aload_n 0), ef 81 (.getfield 65) .null 8 24, e0 84 (.aload_n 0), ef 85 (.getfield 192) .null 8 35, e0 88 .iaload, e0 89 (.goto 12)]
theorem oX9_way_80 : okB ftX9 ctX9 cX9_way 101 bX9_way_80 = true := by decide +kernel
def bX9_way_92 : List Ent := [e0 92 (.aload_n 0), ef 93 (.getfield 68) .null 8 25, e0 96 (.aload_n 0), ef 97 (.getfield 192) .null 8 35, e0 100 .iaload]
theorem oX9_way_92 : okB ftX9 ctX9 cX9_way 101 bX9_way_92 = true := by decide +kernel
def bX9_way_101 : List Ent := [ef 101 (.putfield 192) (.int 0) 8 35, e0 104 (.goto (-90))]
theorem oX9_way_101 : okB ftX9 ctX9 cX9_way 14 bX9_way_101 = true := by decide +kernel
theorem jX9_way_24 : decode cX9_way 24 = .ok (.if_icmp .ne 83, 3) := by decide +kernel
theorem jX9_way_46 : decode cX9_way 46 = .ok (.invokestatic 198, 3) := by decide +kernel
theorem jX9_way_49 : decode cX9_way 49 = .ok (.ifCond .eq 58, 3) := by decide +kernel
theorem jX9_way_77 : decode cX9_way 77 = .ok (.ifCond .ne 15, 3) := by decide +kernel
theorem jX9_way_107 : decode cX9_way 107 = .ok (.return_, 1) := by decide +kernel
def bX9_isThere_0 : List Ent := [e0 0 (.aload_n 0), ef 1 (.getfield 53) .null 8 20, e0 4 (.aload_n 0), ef 5 (.getfield 192) .null 8 35, e0 8 .iaload, ec 9 (.iconst 2) (.int 2)]
theorem oX9_isThere_0 : okB ftX9 ctX9 cX9_isThere 10 bX9_isThere_0 = true := by decide +kernel
def bX9_isThere_13 : List Ent := [e0 13 (.aload_n 0), ef 14 (.getfield 59) .null 8 22, e0 17 (.aload_n 0), ef 18 (.getfield 192) .null 8 35, e0 21 .iaload, e0 22 (.iload_n 1)]
theorem oX9_isThere_13 : okB ftX9 ctX9 cX9_isThere 23 bX9_isThere_13 = true := by decide +kernel
def bX9_isThere_26 : List Ent := [ec 26 (.iconst 1) (.int 1), e0 27 (.goto 4)]
theorem oX9_isThere_26 : okB ftX9 ctX9 cX9_isThere 31 bX9_isThere_26 = true := by decide +kernel
def bX9_isThere_30 : List Ent := [ec 30 (.iconst 0) (.int 0)]
theorem oX9_isThere_30 : okB ftX9 ctX9 cX9_isThere 31 bX9_isThere_30 = true := by decide +kernel
theorem jX9_isThere_10 : decode cX9_isThere 10 = .ok (.if_icmp .ne 20, 3) := by decide +kernel
theorem jX9_isThere_23 : decode cX9_isThere 23 = .ok (.if_icmp .ne 7, 3) := by decide +kernel
theorem jX9_isThere_31 : decode cX9_isThere 31 = .ok (.ireturn, 1) := by decide +kernel
def bX9_get_0 : List Ent := [e0 0 (.aload_n 0), ec 1 (.lconst 0) (.long 0), ef 2 (.putfield 202) (.long 0) 8 37, e0 5 (.iload_n 1)]
theorem oX9_get_0 : okB ftX9 ctX9 cX9_get 6 bX9_get_0 = true := by decide +kernel
def bX9_get_12 : List Ent := [e0 12 (.aload_n 0), ef 13 (.getfield 77) .null 8 30, ec 16 (.bipush (-2)) (.int (-2))]
theorem oX9_get_12 : okB ftX9 ctX9 cX9_get 18 bX9_get_12 = true := by decide +kernel
def bX9_get_21 : List Ent := [e0 21 (.iload_n 1)]
theorem oX9_get_21 : okB ftX9 ctX9 cX9_get 22 bX9_get_21 = true := by decide +kernel
def bX9_get_28 : List Ent := [ec 28 (.iconst (-1)) (.int (-1)), e0 29 (.goto 5)]
theorem oX9_get_28 : okB ftX9 ctX9 cX9_get 34 bX9_get_28 = true := by decide +kernel
def bX9_get_32 : List Ent := [ec 32 (.bipush (-2)) (.int (-2))]
theorem oX9_get_32 : okB ftX9 ctX9 cX9_get 34 bX9_get_32 = true := by decide +kernel
def bX9_get_35 : List Ent := [e0 35 (.aload_n 0), e0 36 (.iload_n 1)]
theorem oX9_get_35 : okB ftX9 ctX9 cX9_get 37 bX9_get_35 = true := by decide +kernel
def bX9_get_40 : List Ent := [e0 40 (.aload_n 0), ef 41 (.getfield 53) .null 8 20, e0 44 (.aload_n 0), ef 45 (.getfield 192) .null 8 35, e0 48 .iaload]
theorem oX9_get_40 : okB ftX9 ctX9 cX9_get 49 bX9_get_40 = true := by decide +kernel
def bX9_get_52 : List Ent := [ec 52 (.bipush (-4)) (.int (-4))]
theorem oX9_get_52 : okB ftX9 ctX9 cX9_get 54 bX9_get_52 = true := by decide +kernel
def bX9_get_55 : List Ent := [e0 55 (.aload_n 0), e0 56 (.aload_n 0), e0 57 (.iload_n 1)]
theorem oX9_get_55 : okB ftX9 ctX9 cX9_get 58 bX9_get_55 = true := by decide +kernel
def bX9_get_64 : List Ent := [e0 64 (.aload_n 0), ef 65 (.getfield 62) .null 8 23, e0 68 (.aload_n 0), ef 69 (.getfield 192) .null 8 35, e0 72 .laload, e0 73 (.goto 4)]
theorem oX9_get_64 : okB ftX9 ctX9 cX9_get 77 bX9_get_64 = true := by decide +kernel
def bX9_get_76 : List Ent := [ec 76 (.lconst 0) (.long 0)]
theorem oX9_get_76 : okB ftX9 ctX9 cX9_get 77 bX9_get_76 = true := by decide +kernel
def bX9_get_77 : List Ent := [ef 77 (.putfield 202) (.long 0) 8 37, e0 80 (.aload_n 0), e0 81 (.iload_n 1)]
theorem oX9_get_77 : okB ftX9 ctX9 cX9_get 82 bX9_get_77 = true := by decide +kernel
def bX9_get_88 : List Ent := [ec 88 (.iconst 1) (.int 1), e0 89 (.goto 4)]
theorem oX9_get_88 : okB ftX9 ctX9 cX9_get 93 bX9_get_88 = true := by decide +kernel
def bX9_get_92 : List Ent := [ec 92 (.iconst 0) (.int 0)]
theorem oX9_get_92 : okB ftX9 ctX9 cX9_get 93 bX9_get_92 = true := by decide +kernel
theorem jX9_get_6 : decode cX9_get 6 = .ok (.invokestatic 101, 3) := by decide +kernel
theorem jX9_get_9 : decode cX9_get 9 = .ok (.ifCond .eq 12, 3) := by decide +kernel
theorem jX9_get_18 : decode cX9_get 18 = .ok (.if_icmp .ne 17, 3) := by decide +kernel
theorem jX9_get_22 : decode cX9_get 22 = .ok (.invokestatic 101, 3) := by decide +kernel
theorem jX9_get_25 : decode cX9_get 25 = .ok (.ifCond .ne 7, 3) := by decide +kernel
theorem jX9_get_34 : decode cX9_get 34 = .ok (.ireturn, 1) := by decide +kernel
theorem jX9_get_37 : decode cX9_get 37 = .ok (.invokevirtual 206, 3) := by decide +kernel
theorem jX9_get_49 : decode cX9_get 49 = .ok (.ifCond .ne 6, 3) := by decide +kernel
theorem jX9_get_54 : decode cX9_get 54 = .ok (.ireturn, 1) := by decide +kernel
theorem jX9_get_58 : decode cX9_get 58 = .ok (.invokevirtual 210, 3) := by decide +kernel
theorem jX9_get_61 : decode cX9_get 61 = .ok (.ifCond .eq 15, 3) := by decide +kernel
theorem jX9_get_82 : decode cX9_get 82 = .ok (.invokevirtual 210, 3) := by decide +kernel
theorem jX9_get_85 : decode cX9_get 85 = .ok (.ifCond .eq 7, 3) := by decide +kernel
theorem jX9_get_93 : decode cX9_get 93 = .ok (.ireturn, 1) := by decide +kernel
def bX9_value_0 : List Ent := [e0 0 (.aload_n 0), ef 1 (.getfield 202) .null 8 37]
theorem oX9_value_0 : okB ftX9 ctX9 cX9_value 4 bX9_value_0 = true := by decide +kernel
theorem jX9_value_4 : decode cX9_value 4 = .ok (.lreturn, 1) := by decide +kernel
def bX9_fresh_0 : List Ent := [e0 0 (.aload_n 0), e0 1 .dup, ef 2 (.getfield 189) .null 8 32, ec 5 (.iconst 1) (.int 1), e0 6 .isub, ef 7 (.putfield 189) (.int 0) 8 32, e0 10 (.aload_n 0), ef 11 (.getfield 81) .null 8 31, e0 14 (.aload_n 0), ef 15 (.getfield 189) .null 8 32, e0 18 .iaload]
theorem oX9_fresh_0 : okB ftX9 ctX9 cX9_fresh 19 bX9_fresh_0 = true := by decide +kernel
theorem jX9_fresh_19 : decode cX9_fresh 19 = .ok (.ireturn, 1) := by decide +kernel
def bX9_stand_0 : List Ent := [e0 0 (.iload_n 1), ec 1 (.bipush (-2)) (.int (-2))]
theorem oX9_stand_0 : okB ftX9 ctX9 cX9_stand 3 bX9_stand_0 = true := by decide +kernel
def bX9_stand_6 : List Ent := [e0 6 (.aload_n 0), e0 7 (.iload_n 3), ef 8 (.putfield 77) (.int 0) 8 30, e0 11 (.goto 30)]
theorem oX9_stand_6 : okB ftX9 ctX9 cX9_stand 41 bX9_stand_6 = true := by decide +kernel
def bX9_stand_14 : List Ent := [e0 14 (.aload_n 0), ef 15 (.getfield 65) .null 8 24, e0 18 (.iload_n 1), e0 19 .iaload, e0 20 (.iload_n 2)]
theorem oX9_stand_14 : okB ftX9 ctX9 cX9_stand 21 bX9_stand_14 = true := by decide +kernel
def bX9_stand_24 : List Ent := [e0 24 (.aload_n 0), ef 25 (.getfield 65) .null 8 24, e0 28 (.iload_n 1), e0 29 (.iload_n 3), e0 30 .iastore, e0 31 (.goto 10)]
theorem oX9_stand_24 : okB ftX9 ctX9 cX9_stand 41 bX9_stand_24 = true := by decide +kernel
def bX9_stand_34 : List Ent := [e0 34 (.aload_n 0), ef 35 (.getfield 68) .null 8 25, e0 38 (.iload_n 1), e0 39 (.iload_n 3), e0 40 .iastore]
theorem oX9_stand_34 : okB ftX9 ctX9 cX9_stand 41 bX9_stand_34 = true := by decide +kernel
theorem jX9_stand_3 : decode cX9_stand 3 = .ok (.if_icmp .ne 11, 3) := by decide +kernel
theorem jX9_stand_21 : decode cX9_stand 21 = .ok (.if_icmp .ne 13, 3) := by decide +kernel
theorem jX9_stand_41 : decode cX9_stand 41 = .ok (.return_, 1) := by decide +kernel
def bX9_write_0 : List Ent := [e0 0 (.iload_n 1)]
theorem oX9_write_0 : okB ftX9 ctX9 cX9_write 1 bX9_write_0 = true := by decide +kernel
def bX9_write_7 : List Ent := [e0 7 (.aload_n 0), ef 8 (.getfield 77) .null 8 30, ec 11 (.bipush (-2)) (.int (-2))]
theorem oX9_write_7 : okB ftX9 ctX9 cX9_write 13 bX9_write_7 = true := by decide +kernel
def bX9_write_16 : List Ent := [e0 16 (.iload_n 1)]
theorem oX9_write_16 : okB ftX9 ctX9 cX9_write 17 bX9_write_16 = true := by decide +kernel
def bX9_write_23 : List Ent := [ec 23 (.iconst (-1)) (.int (-1)), e0 24 (.goto 5)]
theorem oX9_write_23 : okB ftX9 ctX9 cX9_write 29 bX9_write_23 = true := by decide +kernel
def bX9_write_27 : List Ent := [ec 27 (.bipush (-2)) (.int (-2))]
theorem oX9_write_27 : okB ftX9 ctX9 cX9_write 29 bX9_write_27 = true := by decide +kernel
def bX9_write_30 : List Ent := [e0 30 (.aload_n 0), e0 31 (.iload_n 1)]
theorem oX9_write_30 : okB ftX9 ctX9 cX9_write 32 bX9_write_30 = true := by decide +kernel
def bX9_write_35 : List Ent := [e0 35 (.aload_n 0), ef 36 (.getfield 53) .null 8 20, e0 39 (.aload_n 0), ef 40 (.getfield 192) .null 8 35, e0 43 .iaload]
theorem oX9_write_35 : okB ftX9 ctX9 cX9_write 44 bX9_write_35 = true := by decide +kernel
def bX9_write_47 : List Ent := [ec 47 (.bipush (-4)) (.int (-4))]
theorem oX9_write_47 : okB ftX9 ctX9 cX9_write 49 bX9_write_47 = true := by decide +kernel
def bX9_write_50 : List Ent := [e0 50 (.aload_n 0), e0 51 (.iload_n 1)]
theorem oX9_write_50 : okB ftX9 ctX9 cX9_write 52 bX9_write_50 = true := by decide +kernel
def bX9_write_58 : List Ent := [e0 58 (.aload_n 0), ef 59 (.getfield 62) .null 8 23, e0 62 (.aload_n 0), ef 63 (.getfield 192) .null 8 35, e0 66 (.lload_n 2), e0 67 .lastore, ec 68 (.iconst 0) (.int 0)]
theorem oX9_write_58 : okB ftX9 ctX9 cX9_write 69 bX9_write_58 = true := by decide +kernel
def bX9_write_70 : List Ent := [e0 70 (.aload_n 0), ef 71 (.getfield 53) .null 8 20, e0 74 (.aload_n 0), ef 75 (.getfield 192) .null 8 35, e0 78 .iaload, ec 79 (.iconst 3) (.int 3)]
theorem oX9_write_70 : okB ftX9 ctX9 cX9_write 80 bX9_write_70 = true := by decide +kernel
def bX9_write_83 : List Ent := [e0 83 (.aload_n 0), ef 84 (.getfield 53) .null 8 20, e0 87 (.aload_n 0), ef 88 (.getfield 192) .null 8 35, ec 91 (.iconst 2) (.int 2), e0 92 .iastore, e0 93 (.aload_n 0), ef 94 (.getfield 59) .null 8 22, e0 97 (.aload_n 0), ef 98 (.getfield 192) .null 8 35, e0 101 (.iload_n 1), e0 102 .iastore, e0 103 (.aload_n 0), ef 104 (.getfield 62) .null 8 23, e0 107 (.aload_n 0), ef 108 (.getfield 192) .null 8 35, e0 111 (.lload_n 2), e0 112 .lastore, ec 113 (.iconst 1) (.int 1)]
theorem oX9_write_83 : okB ftX9 ctX9 cX9_write 114 bX9_write_83 = true := by decide +kernel
def bX9_write_115 : List Ent := [e0 115 (.aload_n 0), ef 116 (.getfield 186) .null 8 29, ec 119 (.iconst 2) (.int 2), e0 120 .iadd, ec 121 (.sipush 700) (.int 700)]
theorem oX9_write_115 : okB ftX9 ctX9 cX9_write 124 bX9_write_115 = true := by decide +kernel
def bX9_write_127 : List Ent := [ec 127 (.bipush (-3)) (.int (-3))]
theorem oX9_write_127 : okB ftX9 ctX9 cX9_write 129 bX9_write_127 = true := by decide +kernel
def bX9_write_130 : List Ent := [e0 130 (.aload_n 0)]
theorem oX9_write_130 : okB ftX9 ctX9 cX9_write 131 bX9_write_130 = true := by decide +kernel
def bX9_write_134 : List Ent := [e0 134 (.istore 4), e0 136 (.aload_n 0)]
theorem oX9_write_134 : okB ftX9 ctX9 cX9_write 137 bX9_write_134 = true := by decide +kernel
def bX9_write_140 : List Ent := [e0 140 (.istore 5), e0 142 (.aload_n 0), e0 143 .dup, ef 144 (.getfield 186) .null 8 29, ec 147 (.iconst 2) (.int 2), e0 148 .iadd, ef 149 (.putfield 186) (.int 0) 8 29, e0 152 (.aload_n 0), ef 153 (.getfield 53) .null 8 20, e0 156 (.iload 4), ec 158 (.iconst 2) (.int 2), e0 159 .iastore, e0 160 (.aload_n 0), ef 161 (.getfield 59) .null 8 22, e0 164 (.iload 4), e0 166 (.iload_n 1), e0 167 .iastore, e0 168 (.aload_n 0), ef 169 (.getfield 62) .null 8 23, e0 172 (.iload 4), e0 174 (.lload_n 2), e0 175 .lastore, e0 176 (.iload_n 1), e0 177 (.aload_n 0), ef 178 (.getfield 59) .null 8 22, e0 181 (.aload_n 0), ef 182 (.getfield 192) .null 8 35, e0 185 .iaload]
theorem oX9_write_140 : okB ftX9 ctX9 cX9_write 186 bX9_write_140 = true := by decide +kernel
def bX9_write_189 : List Ent := [e0 189 (.istore 6), e0 191 (.iload_n 1), ec 192 (.bipush 15) (.int 15), e0 194 (.iload 6), e0 196 .isub, e0 197 .ishr, ec 198 (.iconst 1) (.int 1), e0 199 .iand, ec 200 (.iconst 1) (.int 1)]
theorem oX9_write_189 : okB ftX9 ctX9 cX9_write 201 bX9_write_189 = true := by decide +kernel
def bX9_write_204 : List Ent := [ec 204 (.iconst 1) (.int 1), e0 205 (.goto 4)]
theorem oX9_write_204 : okB ftX9 ctX9 cX9_write 209 bX9_write_204 = true := by decide +kernel
def bX9_write_208 : List Ent := [ec 208 (.iconst 0) (.int 0)]
theorem oX9_write_208 : okB ftX9 ctX9 cX9_write 209 bX9_write_208 = true := by decide +kernel
def bX9_write_209 : List Ent := [e0 209 (.istore 7), e0 211 (.aload_n 0), ef 212 (.getfield 53) .null 8 20, e0 215 (.iload 5), ec 217 (.iconst 1) (.int 1), e0 218 .iastore, e0 219 (.aload_n 0), ef 220 (.getfield 56) .null 8 21, e0 223 (.iload 5), e0 225 (.iload 6), e0 227 .iastore, e0 228 (.aload_n 0), ef 229 (.getfield 59) .null 8 22, e0 232 (.iload 5), e0 234 (.iload_n 1), e0 235 (.iload 6)]
theorem oX9_write_209 : okB ftX9 ctX9 cX9_write 237 bX9_write_209 = true := by decide +kernel
def bX9_write_240 : List Ent := [e0 240 .iastore, e0 241 (.aload_n 0), ef 242 (.getfield 65) .null 8 24, e0 245 (.iload 5), e0 247 (.iload 7)]
theorem oX9_write_240 : okB ftX9 ctX9 cX9_write 249 bX9_write_240 = true := by decide +kernel
def bX9_write_252 : List Ent := [e0 252 (.aload_n 0), ef 253 (.getfield 192) .null 8 35, e0 256 (.goto 5)]
theorem oX9_write_252 : okB ftX9 ctX9 cX9_write 261 bX9_write_252 = true := by decide +kernel
def bX9_write_259 : List Ent := [e0 259 (.iload 4)]
theorem oX9_write_259 : okB ftX9 ctX9 cX9_write 261 bX9_write_259 = true := by decide +kernel
def bX9_write_261 : List Ent := [e0 261 .iastore, e0 262 (.aload_n 0), ef 263 (.getfield 68) .null 8 25, e0 266 (.iload 5), e0 268 (.iload 7)]
theorem oX9_write_261 : okB ftX9 ctX9 cX9_write 270 bX9_write_261 = true := by decide +kernel
def bX9_write_273 : List Ent := [e0 273 (.iload 4), e0 275 (.goto 7)]
theorem oX9_write_273 : okB ftX9 ctX9 cX9_write 282 bX9_write_273 = true := by decide +kernel
def bX9_write_278 : List Ent := [e0 278 (.aload_n 0), ef 279 (.getfield 192) .null 8 35]
theorem oX9_write_278 : okB ftX9 ctX9 cX9_write 282 bX9_write_278 = true := by decide +kernel
def bX9_write_282 : List Ent := [e0 282 .iastore, e0 283 (.aload_n 0), e0 284 (.aload_n 0), ef 285 (.getfield 195) .null 8 36, e0 288 (.aload_n 0), ef 289 (.getfield 192) .null 8 35, e0 292 (.iload 5)]
theorem oX9_write_282 : okB ftX9 ctX9 cX9_write 294 bX9_write_282 = true := by decide +kernel
def bX9_write_297 : List Ent := [ec 297 (.iconst 1) (.int 1)]
theorem oX9_write_297 : okB ftX9 ctX9 cX9_write 298 bX9_write_297 = true := by decide +kernel
theorem jX9_write_1 : decode cX9_write 1 = .ok (.invokestatic 101, 3) := by decide +kernel
theorem jX9_write_4 : decode cX9_write 4 = .ok (.ifCond .eq 12, 3) := by decide +kernel
theorem jX9_write_13 : decode cX9_write 13 = .ok (.if_icmp .ne 17, 3) := by decide +kernel
theorem jX9_write_17 : decode cX9_write 17 = .ok (.invokestatic 101, 3) := by decide +kernel
theorem jX9_write_20 : decode cX9_write 20 = .ok (.ifCond .ne 7, 3) := by decide +kernel
theorem jX9_write_29 : decode cX9_write 29 = .ok (.ireturn, 1) := by decide +kernel
theorem jX9_write_32 : decode cX9_write 32 = .ok (.invokevirtual 206, 3) := by decide +kernel
theorem jX9_write_44 : decode cX9_write 44 = .ok (.ifCond .ne 6, 3) := by decide +kernel
theorem jX9_write_49 : decode cX9_write 49 = .ok (.ireturn, 1) := by decide +kernel
theorem jX9_write_52 : decode cX9_write 52 = .ok (.invokevirtual 210, 3) := by decide +kernel
theorem jX9_write_55 : decode cX9_write 55 = .ok (.ifCond .eq 15, 3) := by decide +kernel
theorem jX9_write_69 : decode cX9_write 69 = .ok (.ireturn, 1) := by decide +kernel
theorem jX9_write_80 : decode cX9_write 80 = .ok (.if_icmp .ne 35, 3) := by decide +kernel
theorem jX9_write_114 : decode cX9_write 114 = .ok (.ireturn, 1) := by decide +kernel
theorem jX9_write_124 : decode cX9_write 124 = .ok (.if_icmp .le 6, 3) := by decide +kernel
theorem jX9_write_129 : decode cX9_write 129 = .ok (.ireturn, 1) := by decide +kernel
theorem jX9_write_131 : decode cX9_write 131 = .ok (.invokevirtual 213, 3) := by decide +kernel
theorem jX9_write_137 : decode cX9_write 137 = .ok (.invokevirtual 213, 3) := by decide +kernel
theorem jX9_write_186 : decode cX9_write 186 = .ok (.invokestatic 114, 3) := by decide +kernel
theorem jX9_write_201 : decode cX9_write 201 = .ok (.if_icmp .ne 7, 3) := by decide +kernel
theorem jX9_write_237 : decode cX9_write 237 = .ok (.invokestatic 118, 3) := by decide +kernel
theorem jX9_write_249 : decode cX9_write 249 = .ok (.ifCond .eq 10, 3) := by decide +kernel
theorem jX9_write_270 : decode cX9_write 270 = .ok (.ifCond .eq 8, 3) := by decide +kernel
theorem jX9_write_294 : decode cX9_write 294 = .ok (.invokevirtual 216, 3) := by decide +kernel
theorem jX9_write_298 : decode cX9_write 298 = .ok (.ireturn, 1) := by decide +kernel
def bX9_erase_0 : List Ent := [e0 0 (.iload_n 1)]
theorem oX9_erase_0 : okB ftX9 ctX9 cX9_erase 1 bX9_erase_0 = true := by decide +kernel
def bX9_erase_7 : List Ent := [e0 7 (.aload_n 0), ef 8 (.getfield 77) .null 8 30, ec 11 (.bipush (-2)) (.int (-2))]
theorem oX9_erase_7 : okB ftX9 ctX9 cX9_erase 13 bX9_erase_7 = true := by decide +kernel
def bX9_erase_16 : List Ent := [e0 16 (.iload_n 1)]
theorem oX9_erase_16 : okB ftX9 ctX9 cX9_erase 17 bX9_erase_16 = true := by decide +kernel
def bX9_erase_23 : List Ent := [ec 23 (.iconst (-1)) (.int (-1)), e0 24 (.goto 5)]
theorem oX9_erase_23 : okB ftX9 ctX9 cX9_erase 29 bX9_erase_23 = true := by decide +kernel
def bX9_erase_27 : List Ent := [ec 27 (.bipush (-2)) (.int (-2))]
theorem oX9_erase_27 : okB ftX9 ctX9 cX9_erase 29 bX9_erase_27 = true := by decide +kernel
def bX9_erase_30 : List Ent := [e0 30 (.aload_n 0), e0 31 (.iload_n 1)]
theorem oX9_erase_30 : okB ftX9 ctX9 cX9_erase 32 bX9_erase_30 = true := by decide +kernel
def bX9_erase_35 : List Ent := [e0 35 (.aload_n 0), ef 36 (.getfield 53) .null 8 20, e0 39 (.aload_n 0), ef 40 (.getfield 192) .null 8 35, e0 43 .iaload]
theorem oX9_erase_35 : okB ftX9 ctX9 cX9_erase 44 bX9_erase_35 = true := by decide +kernel
def bX9_erase_47 : List Ent := [ec 47 (.bipush (-4)) (.int (-4))]
theorem oX9_erase_47 : okB ftX9 ctX9 cX9_erase 49 bX9_erase_47 = true := by decide +kernel
def bX9_erase_50 : List Ent := [e0 50 (.aload_n 0), e0 51 (.iload_n 1)]
theorem oX9_erase_50 : okB ftX9 ctX9 cX9_erase 52 bX9_erase_50 = true := by decide +kernel
def bX9_erase_58 : List Ent := [ec 58 (.iconst 0) (.int 0)]
theorem oX9_erase_58 : okB ftX9 ctX9 cX9_erase 59 bX9_erase_58 = true := by decide +kernel
def bX9_erase_60 : List Ent := [e0 60 (.aload_n 0), ef 61 (.getfield 195) .null 8 36, ec 64 (.bipush (-2)) (.int (-2))]
theorem oX9_erase_60 : okB ftX9 ctX9 cX9_erase 66 bX9_erase_60 = true := by decide +kernel
def bX9_erase_69 : List Ent := [e0 69 (.aload_n 0), ef 70 (.getfield 53) .null 8 20, e0 73 (.aload_n 0), ef 74 (.getfield 192) .null 8 35, ec 77 (.iconst 3) (.int 3), e0 78 .iastore, ec 79 (.iconst 1) (.int 1)]
theorem oX9_erase_69 : okB ftX9 ctX9 cX9_erase 80 bX9_erase_69 = true := by decide +kernel
def bX9_erase_81 : List Ent := [e0 81 (.aload_n 0), ef 82 (.getfield 192) .null 8 35, e0 85 (.istore_n 2), e0 86 (.aload_n 0), ef 87 (.getfield 195) .null 8 36, e0 90 (.istore_n 3), e0 91 (.aload_n 0), ef 92 (.getfield 65) .null 8 24, e0 95 (.iload_n 3), e0 96 .iaload, e0 97 (.iload_n 2)]
theorem oX9_erase_81 : okB ftX9 ctX9 cX9_erase 98 bX9_erase_81 = true := by decide +kernel
def bX9_erase_101 : List Ent := [e0 101 (.aload_n 0), ef 102 (.getfield 68) .null 8 25, e0 105 (.iload_n 3), e0 106 .iaload, e0 107 (.goto 9)]
theorem oX9_erase_101 : okB ftX9 ctX9 cX9_erase 116 bX9_erase_101 = true := by decide +kernel
def bX9_erase_110 : List Ent := [e0 110 (.aload_n 0), ef 111 (.getfield 65) .null 8 24, e0 114 (.iload_n 3), e0 115 .iaload]
theorem oX9_erase_110 : okB ftX9 ctX9 cX9_erase 116 bX9_erase_110 = true := by decide +kernel
def bX9_erase_116 : List Ent := [e0 116 (.istore 4), ec 118 (.bipush (-2)) (.int (-2)), e0 120 (.istore 5), e0 122 (.aload_n 0), ef 123 (.getfield 77) .null 8 30, e0 126 (.istore 6)]
theorem oX9_erase_116 : okB ftX9 ctX9 cX9_erase 128 bX9_erase_116 = true := by decide +kernel
def bX9_erase_128 : List Ent := [e0 128 (.iload 6), e0 130 (.iload_n 3)]
theorem oX9_erase_128 : okB ftX9 ctX9 cX9_erase 131 bX9_erase_128 = true := by decide +kernel
def bX9_erase_134 : List Ent := [e0 134 (.iload 6), e0 136 (.istore 5), e0 138 (.iload_n 1), ec 139 (.bipush 15) (.int 15), e0 141 (.aload_n 0), ef 142 (.getfield 56) .null 8 21, e0 145 (.iload 6), e0 147 .iaload, e0 148 .isub, e0 149 .ishr, ec 150 (.iconst 1) (.int 1), e0 151 .iand]
theorem oX9_erase_134 : okB ftX9 ctX9 cX9_erase 152 bX9_erase_134 = true := by decide +kernel
def bX9_erase_155 : List Ent := [e0 155 (.aload_n 0), ef 156 (.getfield 65) .null 8 24, e0 159 (.iload 6), e0 161 .iaload, e0 162 (.goto 10)]
theorem oX9_erase_155 : okB ftX9 ctX9 cX9_erase 172 bX9_erase_155 = true := by decide +kernel
def bX9_erase_165 : List Ent := [e0 165 (.aload_n 0), ef 166 (.getfield 68) .null 8 25, e0 169 (.iload 6), e0 171 .iaload]
theorem oX9_erase_165 : okB ftX9 ctX9 cX9_erase 172 bX9_erase_165 = true := by decide +kernel
def bX9_erase_172 : List Ent := [e0 172 (.istore 6), e0 174 (.goto (-46))]
theorem oX9_erase_172 : okB ftX9 ctX9 cX9_erase 128 bX9_erase_172 = true := by decide +kernel
def bX9_erase_177 : List Ent := [e0 177 (.aload_n 0), e0 178 (.iload 5), e0 180 (.iload_n 3), e0 181 (.iload 4)]
theorem oX9_erase_177 : okB ftX9 ctX9 cX9_erase 183 bX9_erase_177 = true := by decide +kernel
def bX9_erase_186 : List Ent := [e0 186 (.aload_n 0), ef 187 (.getfield 81) .null 8 31, e0 190 (.aload_n 0), ef 191 (.getfield 189) .null 8 32, e0 194 (.iload_n 2), e0 195 .iastore, e0 196 (.aload_n 0), ef 197 (.getfield 81) .null 8 31, e0 200 (.aload_n 0), ef 201 (.getfield 189) .null 8 32, ec 204 (.iconst 1) (.int 1), e0 205 .iadd, e0 206 (.iload_n 3), e0 207 .iastore, e0 208 (.aload_n 0), e0 209 .dup, ef 210 (.getfield 189) .null 8 32, ec 213 (.iconst 2) (.int 2), e0 214 .iadd, ef 215 (.putfield 189) (.int 0) 8 32, e0 218 (.aload_n 0), e0 219 .dup, ef 220 (.getfield 186) .null 8 29, ec 223 (.iconst 2) (.int 2), e0 224 .isub, ef 225 (.putfield 186) (.int 0) 8 29, ec 228 (.iconst 1) (.int 1)]
theorem oX9_erase_186 : okB ftX9 ctX9 cX9_erase 229 bX9_erase_186 = true := by decide +kernel
theorem jX9_erase_1 : decode cX9_erase 1 = .ok (.invokestatic 101, 3) := by decide +kernel
theorem jX9_erase_4 : decode cX9_erase 4 = .ok (.ifCond .eq 12, 3) := by decide +kernel
theorem jX9_erase_13 : decode cX9_erase 13 = .ok (.if_icmp .ne 17, 3) := by decide +kernel
theorem jX9_erase_17 : decode cX9_erase 17 = .ok (.invokestatic 101, 3) := by decide +kernel
theorem jX9_erase_20 : decode cX9_erase 20 = .ok (.ifCond .ne 7, 3) := by decide +kernel
theorem jX9_erase_29 : decode cX9_erase 29 = .ok (.ireturn, 1) := by decide +kernel
theorem jX9_erase_32 : decode cX9_erase 32 = .ok (.invokevirtual 206, 3) := by decide +kernel
theorem jX9_erase_44 : decode cX9_erase 44 = .ok (.ifCond .ne 6, 3) := by decide +kernel
theorem jX9_erase_49 : decode cX9_erase 49 = .ok (.ireturn, 1) := by decide +kernel
theorem jX9_erase_52 : decode cX9_erase 52 = .ok (.invokevirtual 210, 3) := by decide +kernel
theorem jX9_erase_55 : decode cX9_erase 55 = .ok (.ifCond .ne 5, 3) := by decide +kernel
theorem jX9_erase_59 : decode cX9_erase 59 = .ok (.ireturn, 1) := by decide +kernel
theorem jX9_erase_66 : decode cX9_erase 66 = .ok (.if_icmp .ne 15, 3) := by decide +kernel
theorem jX9_erase_80 : decode cX9_erase 80 = .ok (.ireturn, 1) := by decide +kernel
theorem jX9_erase_98 : decode cX9_erase 98 = .ok (.if_icmp .ne 12, 3) := by decide +kernel
theorem jX9_erase_131 : decode cX9_erase 131 = .ok (.if_icmp .eq 46, 3) := by decide +kernel
theorem jX9_erase_152 : decode cX9_erase 152 = .ok (.ifCond .ne 13, 3) := by decide +kernel
theorem jX9_erase_183 : decode cX9_erase 183 = .ok (.invokevirtual 216, 3) := by decide +kernel
theorem jX9_erase_229 : decode cX9_erase 229 = .ok (.ireturn, 1) := by decide +kernel
def bX9_view_0 : List Ent := [e0 0 (.aload_n 0), ef 1 (.getfield 77) .null 8 30, ec 4 (.bipush (-2)) (.int (-2))]
theorem oX9_view_0 : okB ftX9 ctX9 cX9_view 6 bX9_view_0 = true := by decide +kernel
def bX9_view_9 : List Ent := [ec 9 (.lconst 0) (.long 0), e0 10 (.goto 11)]
theorem oX9_view_9 : okB ftX9 ctX9 cX9_view 21 bX9_view_9 = true := by decide +kernel
def bX9_view_13 : List Ent := [e0 13 (.aload_n 0), e0 14 (.aload_n 0), ef 15 (.getfield 77) .null 8 30]
theorem oX9_view_13 : okB ftX9 ctX9 cX9_view 18 bX9_view_13 = true := by decide +kernel
theorem jX9_view_6 : decode cX9_view 6 = .ok (.if_icmp .ne 7, 3) := by decide +kernel
theorem jX9_view_18 : decode cX9_view 18 = .ok (.invokevirtual 183, 3) := by decide +kernel
theorem jX9_view_21 : decode cX9_view 21 = .ok (.lreturn, 1) := by decide +kernel
def bX9_goThrough_0 : List Ent := [e0 0 (.aload_n 0), ec 1 (.iconst 0) (.int 0), ef 2 (.putfield 220) (.int 0) 8 38, e0 5 (.aload_n 0), ec 6 (.ldc 223) (.int 70000), ef 8 (.putfield 224) (.int 0) 8 39, e0 11 (.aload_n 0), ec 12 (.ldc 223) (.int 70000), ef 14 (.putfield 227) (.int 0) 8 40, e0 17 (.aload_n 0), ec 18 (.iconst 0) (.int 0), ef 19 (.putfield 230) (.int 0) 8 41, e0 22 (.aload_n 0), ec 23 (.iconst 0) (.int 0), ef 24 (.putfield 150) (.int 0) 8 19, e0 27 (.aload_n 0), e0 28 (.aload_n 0), ef 29 (.getfield 77) .null 8 30, ec 32 (.iconst 0) (.int 0), ec 33 (.iconst 0) (.int 0), ec 34 (.ldc 87) (.int 65535)]
theorem oX9_goThrough_0 : okB ftX9 ctX9 cX9_goThrough 36 bX9_goThrough_0 = true := by decide +kernel
def bX9_goThrough_39 : List Ent := [e0 39 (.aload_n 0), ef 40 (.getfield 150) .null 8 19]
theorem oX9_goThrough_39 : okB ftX9 ctX9 cX9_goThrough 43 bX9_goThrough_39 = true := by decide +kernel
def bX9_goThrough_46 : List Ent := [e0 46 (.aload_n 0), e0 47 .dup, ef 48 (.getfield 150) .null 8 19, ec 51 (.iconst 1) (.int 1), e0 52 .isub, ef 53 (.putfield 150) (.int 0) 8 19, e0 56 (.aload_n 0), ef 57 (.getfield 41) .null 8 15, e0 60 (.aload_n 0), ef 61 (.getfield 150) .null 8 19, e0 64 .iaload, e0 65 (.istore_n 3), e0 66 (.aload_n 0), ef 67 (.getfield 47) .null 8 17, e0 70 (.aload_n 0), ef 71 (.getfield 150) .null 8 19, e0 74 .iaload, e0 75 (.istore 4), e0 77 (.aload_n 0), ef 78 (.getfield 50) .null 8 18, e0 81 (.aload_n 0), ef 82 (.getfield 150) .null 8 19, e0 85 .iaload, e0 86 (.istore 5), e0 88 (.aload_n 0), ef 89 (.getfield 53) .null 8 20, e0 92 (.iload_n 3), e0 93 .iaload, ec 94 (.iconst 2) (.int 2)]
theorem oX9_goThrough_46 : okB ftX9 ctX9 cX9_goThrough 95 bX9_goThrough_46 = true := by decide +kernel
def bX9_goThrough_98 : List Ent := [e0 98 (.aload_n 0), ef 99 (.getfield 59) .null 8 22, e0 102 (.iload_n 3), e0 103 .iaload, e0 104 (.iload_n 1)]
theorem oX9_goThrough_98 : okB ftX9 ctX9 cX9_goThrough 105 bX9_goThrough_98 = true := by decide +kernel
def bX9_goThrough_108 : List Ent := [e0 108 (.aload_n 0), ef 109 (.getfield 59) .null 8 22, e0 112 (.iload_n 3), e0 113 .iaload, e0 114 (.iload_n 2)]
theorem oX9_goThrough_108 : okB ftX9 ctX9 cX9_goThrough 115 bX9_goThrough_108 = true := by decide +kernel
def bX9_goThrough_118 : List Ent := [e0 118 (.aload_n 0), e0 119 .dup, ef 120 (.getfield 220) .null 8 38, ec 123 (.iconst 1) (.int 1), e0 124 .iadd, ef 125 (.putfield 220) (.int 0) 8 38, e0 128 (.aload_n 0), e0 129 (.aload_n 0), ef 130 (.getfield 59) .null 8 22, e0 133 (.iload_n 3), e0 134 .iaload, e0 135 (.aload_n 0), ef 136 (.getfield 224) .null 8 39]
theorem oX9_goThrough_118 : okB ftX9 ctX9 cX9_goThrough 139 bX9_goThrough_118 = true := by decide +kernel
def bX9_goThrough_142 : List Ent := [e0 142 (.aload_n 0), ef 143 (.getfield 59) .null 8 22, e0 146 (.iload_n 3), e0 147 .iaload, e0 148 (.goto 7)]
theorem oX9_goThrough_142 : okB ftX9 ctX9 cX9_goThrough 155 bX9_goThrough_142 = true := by decide +kernel
def bX9_goThrough_151 : List Ent := [e0 151 (.aload_n 0), ef 152 (.getfield 224) .null 8 39]
theorem oX9_goThrough_151 : okB ftX9 ctX9 cX9_goThrough 155 bX9_goThrough_151 = true := by decide +kernel
def bX9_goThrough_155 : List Ent := [ef 155 (.putfield 224) (.int 0) 8 39, e0 158 (.goto 154)]
theorem oX9_goThrough_155 : okB ftX9 ctX9 cX9_goThrough 312 bX9_goThrough_155 = true := by decide +kernel
def bX9_goThrough_161 : List Ent := [e0 161 (.aload_n 0), ef 162 (.getfield 53) .null 8 20, e0 165 (.iload_n 3), e0 166 .iaload]
theorem oX9_goThrough_161 : okB ftX9 ctX9 cX9_goThrough 167 bX9_goThrough_161 = true := by decide +kernel
def bX9_goThrough_170 : List Ent := [e0 170 (.aload_n 0), e0 171 .dup, ef 172 (.getfield 230) .null 8 41, ec 175 (.iconst 1) (.int 1), e0 176 .iadd, ef 177 (.putfield 230) (.int 0) 8 41, e0 180 (.iload 4), e0 182 (.iload_n 1)]
theorem oX9_goThrough_170 : okB ftX9 ctX9 cX9_goThrough 183 bX9_goThrough_170 = true := by decide +kernel
def bX9_goThrough_186 : List Ent := [e0 186 (.iload 4), e0 188 (.goto 4)]
theorem oX9_goThrough_186 : okB ftX9 ctX9 cX9_goThrough 192 bX9_goThrough_186 = true := by decide +kernel
def bX9_goThrough_191 : List Ent := [e0 191 (.iload_n 1)]
theorem oX9_goThrough_191 : okB ftX9 ctX9 cX9_goThrough 192 bX9_goThrough_191 = true := by decide +kernel
def bX9_goThrough_192 : List Ent := [e0 192 (.istore 6), e0 194 (.aload_n 0), e0 195 (.iload 6), e0 197 (.iload 5)]
theorem oX9_goThrough_192 : okB ftX9 ctX9 cX9_goThrough 199 bX9_goThrough_192 = true := by decide +kernel
def bX9_goThrough_202 : List Ent := [e0 202 (.iload 6), e0 204 (.iload_n 2)]
theorem oX9_goThrough_202 : okB ftX9 ctX9 cX9_goThrough 205 bX9_goThrough_202 = true := by decide +kernel
def bX9_goThrough_208 : List Ent := [e0 208 (.iload 6), e0 210 (.aload_n 0), ef 211 (.getfield 227) .null 8 40]
theorem oX9_goThrough_208 : okB ftX9 ctX9 cX9_goThrough 214 bX9_goThrough_208 = true := by decide +kernel
def bX9_goThrough_217 : List Ent := [e0 217 (.iload 6), e0 219 (.goto 7)]
theorem oX9_goThrough_217 : okB ftX9 ctX9 cX9_goThrough 226 bX9_goThrough_217 = true := by decide +kernel
def bX9_goThrough_222 : List Ent := [e0 222 (.aload_n 0), ef 223 (.getfield 227) .null 8 40]
theorem oX9_goThrough_222 : okB ftX9 ctX9 cX9_goThrough 226 bX9_goThrough_222 = true := by decide +kernel
def bX9_goThrough_226 : List Ent := [ef 226 (.putfield 227) (.int 0) 8 40, e0 229 (.goto 83)]
theorem oX9_goThrough_226 : okB ftX9 ctX9 cX9_goThrough 312 bX9_goThrough_226 = true := by decide +kernel
def bX9_goThrough_232 : List Ent := [e0 232 (.aload_n 0), ef 233 (.getfield 53) .null 8 20, e0 236 (.iload_n 3), e0 237 .iaload, ec 238 (.iconst 1) (.int 1)]
theorem oX9_goThrough_232 : okB ftX9 ctX9 cX9_goThrough 239 bX9_goThrough_232 = true := by decide +kernel
def bX9_goThrough_242 : List Ent := [e0 242 (.aload_n 0), ef 243 (.getfield 59) .null 8 22, e0 246 (.iload_n 3), e0 247 .iaload, ec 248 (.iconst 1) (.int 1), ec 249 (.bipush 15) (.int 15), e0 251 (.aload_n 0), ef 252 (.getfield 56) .null 8 21, e0 255 (.iload_n 3), e0 256 .iaload, e0 257 .isub, e0 258 .ishl, e0 259 .iadd, e0 260 (.istore 6), e0 262 (.aload_n 0), e0 263 (.aload_n 0), ef 264 (.getfield 68) .null 8 25, e0 267 (.iload_n 3), e0 268 .iaload, ec 269 (.iconst 0) (.int 0), e0 270 (.iload 6), e0 272 (.iload 6), ec 274 (.iconst 1) (.int 1), ec 275 (.bipush 15) (.int 15), e0 277 (.aload_n 0), ef 278 (.getfield 56) .null 8 21, e0 281 (.iload_n 3), e0 282 .iaload, e0 283 .isub, e0 284 .ishl, e0 285 .iadd, ec 286 (.iconst 1) (.int 1), e0 287 .isub]
theorem oX9_goThrough_242 : okB ftX9 ctX9 cX9_goThrough 288 bX9_goThrough_242 = true := by decide +kernel
def bX9_goThrough_291 : List Ent := [e0 291 (.aload_n 0), e0 292 (.aload_n 0), ef 293 (.getfield 65) .null 8 24, e0 296 (.iload_n 3), e0 297 .iaload, ec 298 (.iconst 0) (.int 0), e0 299 (.aload_n 0), ef 300 (.getfield 59) .null 8 22, e0 303 (.iload_n 3), e0 304 .iaload, e0 305 (.iload 6), ec 307 (.iconst 1) (.int 1), e0 308 .isub]
theorem oX9_goThrough_291 : okB ftX9 ctX9 cX9_goThrough 309 bX9_goThrough_291 = true := by decide +kernel
def bX9_goThrough_312 : List Ent := [e0 312 (.goto (-273))]
theorem oX9_goThrough_312 : okB ftX9 ctX9 cX9_goThrough 39 bX9_goThrough_312 = true := by decide +kernel
theorem jX9_goThrough_36 : decode cX9_goThrough 36 = .ok (.invokevirtual 153, 3) := by decide +kernel
theorem jX9_goThrough_43 : decode cX9_goThrough 43 = .ok (.ifCond .le 272, 3) := by decide +kernel
theorem jX9_goThrough_95 : decode cX9_goThrough 95 = .ok (.if_icmp .ne 66, 3) := by decide +kernel
theorem jX9_goThrough_105 : decode cX9_goThrough 105 = .ok (.if_icmp .lt 56, 3) := by decide +kernel
theorem jX9_goThrough_115 : decode cX9_goThrough 115 = .ok (.if_icmp .gt 46, 3) := by decide +kernel
theorem jX9_goThrough_139 : decode cX9_goThrough 139 = .ok (.if_icmp .ge 12, 3) := by decide +kernel
theorem jX9_goThrough_167 : decode cX9_goThrough 167 = .ok (.ifCond .ne 65, 3) := by decide +kernel
theorem jX9_goThrough_183 : decode cX9_goThrough 183 = .ok (.if_icmp .le 8, 3) := by decide +kernel
theorem jX9_goThrough_199 : decode cX9_goThrough 199 = .ok (.if_icmp .gt 23, 3) := by decide +kernel
theorem jX9_goThrough_205 : decode cX9_goThrough 205 = .ok (.if_icmp .gt 17, 3) := by decide +kernel
theorem jX9_goThrough_214 : decode cX9_goThrough 214 = .ok (.if_icmp .ge 8, 3) := by decide +kernel
theorem jX9_goThrough_239 : decode cX9_goThrough 239 = .ok (.if_icmp .ne 73, 3) := by decide +kernel
theorem jX9_goThrough_288 : decode cX9_goThrough 288 = .ok (.invokevirtual 153, 3) := by decide +kernel
theorem jX9_goThrough_309 : decode cX9_goThrough 309 = .ok (.invokevirtual 153, 3) := by decide +kernel
theorem jX9_goThrough_315 : decode cX9_goThrough 315 = .ok (.return_, 1) := by decide +kernel
def bX9_count_0 : List Ent := [e0 0 (.iload_n 1)]
theorem oX9_count_0 : okB ftX9 ctX9 cX9_count 1 bX9_count_0 = true := by decide +kernel
def bX9_count_7 : List Ent := [e0 7 (.iload_n 2)]
theorem oX9_count_7 : okB ftX9 ctX9 cX9_count 8 bX9_count_7 = true := by decide +kernel
def bX9_count_14 : List Ent := [e0 14 (.iload_n 1), e0 15 (.iload_n 2)]
theorem oX9_count_14 : okB ftX9 ctX9 cX9_count 16 bX9_count_14 = true := by decide +kernel
def bX9_count_19 : List Ent := [ec 19 (.iconst (-1)) (.int (-1))]
theorem oX9_count_19 : okB ftX9 ctX9 cX9_count 20 bX9_count_19 = true := by decide +kernel
def bX9_count_21 : List Ent := [e0 21 (.aload_n 0), ef 22 (.getfield 77) .null 8 30, ec 25 (.bipush (-2)) (.int (-2))]
theorem oX9_count_21 : okB ftX9 ctX9 cX9_count 27 bX9_count_21 = true := by decide +kernel
def bX9_count_30 : List Ent := [ec 30 (.bipush (-2)) (.int (-2))]
theorem oX9_count_30 : okB ftX9 ctX9 cX9_count 32 bX9_count_30 = true := by decide +kernel
def bX9_count_33 : List Ent := [e0 33 (.aload_n 0), e0 34 (.iload_n 1), e0 35 (.iload_n 2)]
theorem oX9_count_33 : okB ftX9 ctX9 cX9_count 36 bX9_count_33 = true := by decide +kernel
def bX9_count_39 : List Ent := [e0 39 (.aload_n 0), ef 40 (.getfield 227) .null 8 40, ec 43 (.ldc 223) (.int 70000)]
theorem oX9_count_39 : okB ftX9 ctX9 cX9_count 45 bX9_count_39 = true := by decide +kernel
def bX9_count_48 : List Ent := [ec 48 (.bipush (-4)) (.int (-4)), e0 50 (.goto 7)]
theorem oX9_count_48 : okB ftX9 ctX9 cX9_count 57 bX9_count_48 = true := by decide +kernel
def bX9_count_53 : List Ent := [e0 53 (.aload_n 0), ef 54 (.getfield 220) .null 8 38]
theorem oX9_count_53 : okB ftX9 ctX9 cX9_count 57 bX9_count_53 = true := by decide +kernel
theorem jX9_count_1 : decode cX9_count 1 = .ok (.invokestatic 101, 3) := by decide +kernel
theorem jX9_count_4 : decode cX9_count 4 = .ok (.ifCond .eq 15, 3) := by decide +kernel
theorem jX9_count_8 : decode cX9_count 8 = .ok (.invokestatic 101, 3) := by decide +kernel
theorem jX9_count_11 : decode cX9_count 11 = .ok (.ifCond .eq 8, 3) := by decide +kernel
theorem jX9_count_16 : decode cX9_count 16 = .ok (.if_icmp .le 5, 3) := by decide +kernel
theorem jX9_count_20 : decode cX9_count 20 = .ok (.ireturn, 1) := by decide +kernel
theorem jX9_count_27 : decode cX9_count 27 = .ok (.if_icmp .ne 6, 3) := by decide +kernel
theorem jX9_count_32 : decode cX9_count 32 = .ok (.ireturn, 1) := by decide +kernel
theorem jX9_count_36 : decode cX9_count 36 = .ok (.invokevirtual 233, 3) := by decide +kernel
theorem jX9_count_45 : decode cX9_count 45 = .ok (.if_icmp .ge 8, 3) := by decide +kernel
theorem jX9_count_57 : decode cX9_count 57 = .ok (.ireturn, 1) := by decide +kernel
def bX9_next_0 : List Ent := [e0 0 (.iload_n 1)]
theorem oX9_next_0 : okB ftX9 ctX9 cX9_next 1 bX9_next_0 = true := by decide +kernel
def bX9_next_7 : List Ent := [e0 7 (.aload_n 0), ef 8 (.getfield 77) .null 8 30, ec 11 (.bipush (-2)) (.int (-2))]
theorem oX9_next_7 : okB ftX9 ctX9 cX9_next 13 bX9_next_7 = true := by decide +kernel
def bX9_next_16 : List Ent := [e0 16 (.iload_n 1)]
theorem oX9_next_16 : okB ftX9 ctX9 cX9_next 17 bX9_next_16 = true := by decide +kernel
def bX9_next_23 : List Ent := [ec 23 (.iconst (-1)) (.int (-1)), e0 24 (.goto 5)]
theorem oX9_next_23 : okB ftX9 ctX9 cX9_next 29 bX9_next_23 = true := by decide +kernel
def bX9_next_27 : List Ent := [ec 27 (.bipush (-2)) (.int (-2))]
theorem oX9_next_27 : okB ftX9 ctX9 cX9_next 29 bX9_next_27 = true := by decide +kernel
def bX9_next_30 : List Ent := [e0 30 (.aload_n 0), e0 31 (.iload_n 1), ec 32 (.ldc 87) (.int 65535)]
theorem oX9_next_30 : okB ftX9 ctX9 cX9_next 34 bX9_next_30 = true := by decide +kernel
def bX9_next_37 : List Ent := [e0 37 (.aload_n 0), ef 38 (.getfield 227) .null 8 40, e0 41 (.aload_n 0), ef 42 (.getfield 224) .null 8 39]
theorem oX9_next_37 : okB ftX9 ctX9 cX9_next 45 bX9_next_37 = true := by decide +kernel
def bX9_next_48 : List Ent := [ec 48 (.bipush (-4)) (.int (-4)), e0 50 (.goto 21)]
theorem oX9_next_48 : okB ftX9 ctX9 cX9_next 71 bX9_next_48 = true := by decide +kernel
def bX9_next_53 : List Ent := [e0 53 (.aload_n 0), ef 54 (.getfield 224) .null 8 39, ec 57 (.ldc 223) (.int 70000)]
theorem oX9_next_53 : okB ftX9 ctX9 cX9_next 59 bX9_next_53 = true := by decide +kernel
def bX9_next_62 : List Ent := [e0 62 (.aload_n 0), ef 63 (.getfield 224) .null 8 39, e0 66 (.goto 5)]
theorem oX9_next_62 : okB ftX9 ctX9 cX9_next 71 bX9_next_62 = true := by decide +kernel
def bX9_next_69 : List Ent := [ec 69 (.bipush (-2)) (.int (-2))]
theorem oX9_next_69 : okB ftX9 ctX9 cX9_next 71 bX9_next_69 = true := by decide +kernel
theorem jX9_next_1 : decode cX9_next 1 = .ok (.invokestatic 101, 3) := by decide +kernel
theorem jX9_next_4 : decode cX9_next 4 = .ok (.ifCond .eq 12, 3) := by decide +kernel
theorem jX9_next_13 : decode cX9_next 13 = .ok (.if_icmp .ne 17, 3) := by decide +kernel
theorem jX9_next_17 : decode cX9_next 17 = .ok (.invokestatic 101, 3) := by decide +kernel
theorem jX9_next_20 : decode cX9_next 20 = .ok (.ifCond .ne 7, 3) := by decide +kernel
theorem jX9_next_29 : decode cX9_next 29 = .ok (.ireturn, 1) := by decide +kernel
theorem jX9_next_34 : decode cX9_next 34 = .ok (.invokevirtual 233, 3) := by decide +kernel
theorem jX9_next_45 : decode cX9_next 45 = .ok (.if_icmp .ge 8, 3) := by decide +kernel
theorem jX9_next_59 : decode cX9_next 59 = .ok (.if_icmp .ge 10, 3) := by decide +kernel
theorem jX9_next_71 : decode cX9_next 71 = .ok (.ireturn, 1) := by decide +kernel
def bX9_pass_0 : List Ent := [e0 0 (.aload_n 0), ef 1 (.getfield 77) .null 8 30, ec 4 (.bipush (-2)) (.int (-2))]
theorem oX9_pass_0 : okB ftX9 ctX9 cX9_pass 6 bX9_pass_0 = true := by decide +kernel
def bX9_pass_9 : List Ent := [ec 9 (.bipush (-2)) (.int (-2))]
theorem oX9_pass_9 : okB ftX9 ctX9 cX9_pass 11 bX9_pass_9 = true := by decide +kernel
def bX9_pass_12 : List Ent := [e0 12 (.aload_n 0), e0 13 (.aload_n 0), ef 14 (.getfield 77) .null 8 30]
theorem oX9_pass_12 : okB ftX9 ctX9 cX9_pass 17 bX9_pass_12 = true := by decide +kernel
def bX9_pass_20 : List Ent := [e0 20 (.lstore_n 1), e0 21 (.aload_n 0), ec 22 (.iconst 0) (.int 0), ef 23 (.putfield 142) (.int 0) 8 14, e0 26 (.aload_n 0), ec 27 (.iconst 0) (.int 0), ef 28 (.putfield 150) (.int 0) 8 19, e0 31 (.aload_n 0), e0 32 (.aload_n 0), ef 33 (.getfield 77) .null 8 30, ec 36 (.iconst 0) (.int 0), ec 37 (.iconst 0) (.int 0), ec 38 (.ldc 87) (.int 65535)]
theorem oX9_pass_20 : okB ftX9 ctX9 cX9_pass 40 bX9_pass_20 = true := by decide +kernel
def bX9_pass_43 : List Ent := [e0 43 (.aload_n 0), ef 44 (.getfield 150) .null 8 19]
theorem oX9_pass_43 : okB ftX9 ctX9 cX9_pass 47 bX9_pass_43 = true := by decide +kernel
def bX9_pass_50 : List Ent := [e0 50 (.aload_n 0), e0 51 .dup, ef 52 (.getfield 150) .null 8 19, ec 55 (.iconst 1) (.int 1), e0 56 .isub, ef 57 (.putfield 150) (.int 0) 8 19, e0 60 (.aload_n 0), ef 61 (.getfield 41) .null 8 15, e0 64 (.aload_n 0), ef 65 (.getfield 150) .null 8 19, e0 68 .iaload, e0 69 (.istore_n 3), e0 70 (.aload_n 0), e0 71 (.aload_n 0), ef 72 (.getfield 47) .null 8 17, e0 75 (.aload_n 0), ef 76 (.getfield 150) .null 8 19, e0 79 .iaload, e0 80 (.aload_n 0), ef 81 (.getfield 50) .null 8 18, e0 84 (.aload_n 0), ef 85 (.getfield 150) .null 8 19, e0 88 .iaload]
theorem oX9_pass_50 : okB ftX9 ctX9 cX9_pass 89 bX9_pass_50 = true := by decide +kernel
def bX9_pass_92 : List Ent := [e0 92 (.istore 4), e0 94 (.aload_n 0), e0 95 (.iload 4)]
theorem oX9_pass_92 : okB ftX9 ctX9 cX9_pass 97 bX9_pass_92 = true := by decide +kernel
def bX9_pass_100 : List Ent := [e0 100 (.aload_n 0), ef 101 (.getfield 53) .null 8 20, e0 104 (.iload_n 3), e0 105 .iaload, e0 106 .i2l, e0 107 (.goto 4)]
theorem oX9_pass_100 : okB ftX9 ctX9 cX9_pass 111 bX9_pass_100 = true := by decide +kernel
def bX9_pass_110 : List Ent := [ec 110 (.lconst 0) (.long 0)]
theorem oX9_pass_110 : okB ftX9 ctX9 cX9_pass 111 bX9_pass_110 = true := by decide +kernel
def bX9_pass_111 : List Ent := [ec 111 (.iconst 1) (.int 1)]
theorem oX9_pass_111 : okB ftX9 ctX9 cX9_pass 112 bX9_pass_111 = true := by decide +kernel
def bX9_pass_115 : List Ent := [e0 115 (.iload 4)]
theorem oX9_pass_115 : okB ftX9 ctX9 cX9_pass 117 bX9_pass_115 = true := by decide +kernel
def bX9_pass_120 : List Ent := [e0 120 (.aload_n 0), ef 121 (.getfield 53) .null 8 20, e0 124 (.iload_n 3), e0 125 .iaload]
theorem oX9_pass_120 : okB ftX9 ctX9 cX9_pass 126 bX9_pass_120 = true := by decide +kernel
def bX9_pass_129 : List Ent := [e0 129 (.aload_n 0), e0 130 (.aload_n 0), ef 131 (.getfield 71) .null 8 26, e0 134 (.iload_n 3), e0 135 .laload, ec 136 (.bipush 8) (.int 8)]
theorem oX9_pass_129 : okB ftX9 ctX9 cX9_pass 138 bX9_pass_129 = true := by decide +kernel
def bX9_pass_141 : List Ent := [e0 141 (.goto 144)]
theorem oX9_pass_141 : okB ftX9 ctX9 cX9_pass 285 bX9_pass_141 = true := by decide +kernel
def bX9_pass_144 : List Ent := [e0 144 (.aload_n 0), ef 145 (.getfield 53) .null 8 20, e0 148 (.iload_n 3), e0 149 .iaload, ec 150 (.iconst 2) (.int 2)]
theorem oX9_pass_144 : okB ftX9 ctX9 cX9_pass 151 bX9_pass_144 = true := by decide +kernel
def bX9_pass_154 : List Ent := [e0 154 (.aload_n 0), e0 155 (.aload_n 0), ef 156 (.getfield 59) .null 8 22, e0 159 (.iload_n 3), e0 160 .iaload, e0 161 .i2l, ec 162 (.iconst 2) (.int 2)]
theorem oX9_pass_154 : okB ftX9 ctX9 cX9_pass 163 bX9_pass_154 = true := by decide +kernel
def bX9_pass_166 : List Ent := [e0 166 (.aload_n 0), e0 167 (.aload_n 0), ef 168 (.getfield 62) .null 8 23, e0 171 (.iload_n 3), e0 172 .laload, ec 173 (.bipush 8) (.int 8)]
theorem oX9_pass_166 : okB ftX9 ctX9 cX9_pass 175 bX9_pass_166 = true := by decide +kernel
def bX9_pass_178 : List Ent := [e0 178 (.goto 107)]
theorem oX9_pass_178 : okB ftX9 ctX9 cX9_pass 285 bX9_pass_178 = true := by decide +kernel
def bX9_pass_181 : List Ent := [e0 181 (.aload_n 0), ef 182 (.getfield 53) .null 8 20, e0 185 (.iload_n 3), e0 186 .iaload, ec 187 (.iconst 1) (.int 1)]
theorem oX9_pass_181 : okB ftX9 ctX9 cX9_pass 188 bX9_pass_181 = true := by decide +kernel
def bX9_pass_191 : List Ent := [e0 191 (.aload_n 0), ef 192 (.getfield 59) .null 8 22, e0 195 (.iload_n 3), e0 196 .iaload, ec 197 (.iconst 1) (.int 1), ec 198 (.bipush 15) (.int 15), e0 200 (.aload_n 0), ef 201 (.getfield 56) .null 8 21, e0 204 (.iload_n 3), e0 205 .iaload, e0 206 .isub, e0 207 .ishl, e0 208 .iadd, e0 209 (.istore 5), e0 211 (.aload_n 0), e0 212 (.aload_n 0), ef 213 (.getfield 56) .null 8 21, e0 216 (.iload_n 3), e0 217 .iaload, e0 218 .i2l, ec 219 (.iconst 1) (.int 1)]
theorem oX9_pass_191 : okB ftX9 ctX9 cX9_pass 220 bX9_pass_191 = true := by decide +kernel
def bX9_pass_223 : List Ent := [e0 223 (.aload_n 0), e0 224 (.aload_n 0), ef 225 (.getfield 59) .null 8 22, e0 228 (.iload_n 3), e0 229 .iaload, e0 230 .i2l, ec 231 (.iconst 2) (.int 2)]
theorem oX9_pass_223 : okB ftX9 ctX9 cX9_pass 232 bX9_pass_223 = true := by decide +kernel
def bX9_pass_235 : List Ent := [e0 235 (.aload_n 0), e0 236 (.aload_n 0), ef 237 (.getfield 68) .null 8 25, e0 240 (.iload_n 3), e0 241 .iaload, ec 242 (.iconst 0) (.int 0), e0 243 (.iload 5), e0 245 (.iload 5), ec 247 (.iconst 1) (.int 1), ec 248 (.bipush 15) (.int 15), e0 250 (.aload_n 0), ef 251 (.getfield 56) .null 8 21, e0 254 (.iload_n 3), e0 255 .iaload, e0 256 .isub, e0 257 .ishl, e0 258 .iadd, ec 259 (.iconst 1) (.int 1), e0 260 .isub]
theorem oX9_pass_235 : okB ftX9 ctX9 cX9_pass 261 bX9_pass_235 = true := by decide +kernel
def bX9_pass_264 : List Ent := [e0 264 (.aload_n 0), e0 265 (.aload_n 0), ef 266 (.getfield 65) .null 8 24, e0 269 (.iload_n 3), e0 270 .iaload, ec 271 (.iconst 0) (.int 0), e0 272 (.aload_n 0), ef 273 (.getfield 59) .null 8 22, e0 276 (.iload_n 3), e0 277 .iaload, e0 278 (.iload 5), ec 280 (.iconst 1) (.int 1), e0 281 .isub]
theorem oX9_pass_264 : okB ftX9 ctX9 cX9_pass 282 bX9_pass_264 = true := by decide +kernel
def bX9_pass_285 : List Ent := [e0 285 (.goto (-242))]
theorem oX9_pass_285 : okB ftX9 ctX9 cX9_pass 43 bX9_pass_285 = true := by decide +kernel
def bX9_pass_288 : List Ent := [e0 288 (.aload_n 0)]
theorem oX9_pass_288 : okB ftX9 ctX9 cX9_pass 289 bX9_pass_288 = true := by decide +kernel
theorem jX9_pass_6 : decode cX9_pass 6 = .ok (.if_icmp .ne 6, 3) := by decide +kernel
theorem jX9_pass_11 : decode cX9_pass 11 = .ok (.ireturn, 1) := by decide +kernel
theorem jX9_pass_17 : decode cX9_pass 17 = .ok (.invokevirtual 183, 3) := by decide +kernel
theorem jX9_pass_40 : decode cX9_pass 40 = .ok (.invokevirtual 153, 3) := by decide +kernel
theorem jX9_pass_47 : decode cX9_pass 47 = .ok (.ifCond .le 241, 3) := by decide +kernel
theorem jX9_pass_89 : decode cX9_pass 89 = .ok (.invokevirtual 157, 3) := by decide +kernel
theorem jX9_pass_97 : decode cX9_pass 97 = .ok (.ifCond .eq 13, 3) := by decide +kernel
theorem jX9_pass_112 : decode cX9_pass 112 = .ok (.invokevirtual 161, 3) := by decide +kernel
theorem jX9_pass_117 : decode cX9_pass 117 = .ok (.ifCond .eq 12, 3) := by decide +kernel
theorem jX9_pass_126 : decode cX9_pass 126 = .ok (.ifCond .ne 18, 3) := by decide +kernel
theorem jX9_pass_138 : decode cX9_pass 138 = .ok (.invokevirtual 161, 3) := by decide +kernel
theorem jX9_pass_151 : decode cX9_pass 151 = .ok (.if_icmp .ne 30, 3) := by decide +kernel
theorem jX9_pass_163 : decode cX9_pass 163 = .ok (.invokevirtual 161, 3) := by decide +kernel
theorem jX9_pass_175 : decode cX9_pass 175 = .ok (.invokevirtual 161, 3) := by decide +kernel
theorem jX9_pass_188 : decode cX9_pass 188 = .ok (.if_icmp .ne 97, 3) := by decide +kernel
theorem jX9_pass_220 : decode cX9_pass 220 = .ok (.invokevirtual 161, 3) := by decide +kernel
theorem jX9_pass_232 : decode cX9_pass 232 = .ok (.invokevirtual 161, 3) := by decide +kernel
theorem jX9_pass_261 : decode cX9_pass 261 = .ok (.invokevirtual 153, 3) := by decide +kernel
theorem jX9_pass_282 : decode cX9_pass 282 = .ok (.invokevirtual 153, 3) := by decide +kernel
theorem jX9_pass_289 : decode cX9_pass 289 = .ok (.invokevirtual 165, 3) := by decide +kernel
theorem jX9_pass_292 : decode cX9_pass 292 = .ok (.ireturn, 1) := by decide +kernel
def bX9_told_0 : List Ent := [e0 0 (.iload_n 1)]
theorem oX9_told_0 : okB ftX9 ctX9 cX9_told 1 bX9_told_0 = true := by decide +kernel
def bX9_told_4 : List Ent := [e0 4 (.iload_n 1), ec 5 (.iconst 5) (.int 5)]
theorem oX9_told_4 : okB ftX9 ctX9 cX9_told 6 bX9_told_4 = true := by decide +kernel
def bX9_told_9 : List Ent := [ec 9 (.iconst (-1)) (.int (-1))]
theorem oX9_told_9 : okB ftX9 ctX9 cX9_told 10 bX9_told_9 = true := by decide +kernel
def bX9_told_11 : List Ent := [e0 11 (.iload_n 1), ec 12 (.iconst 4) (.int 4)]
theorem oX9_told_11 : okB ftX9 ctX9 cX9_told 13 bX9_told_11 = true := by decide +kernel
def bX9_told_16 : List Ent := [e0 16 (.aload_n 0), ef 17 (.getfield 77) .null 8 30, ec 20 (.bipush (-2)) (.int (-2))]
theorem oX9_told_16 : okB ftX9 ctX9 cX9_told 22 bX9_told_16 = true := by decide +kernel
def bX9_told_25 : List Ent := [e0 25 (.aload_n 0), ec 26 (.iconst 0) (.int 0), ec 27 (.ldc 87) (.int 65535)]
theorem oX9_told_25 : okB ftX9 ctX9 cX9_told 29 bX9_told_25 = true := by decide +kernel
def bX9_told_32 : List Ent := [e0 32 (.iload_n 1), ec 33 (.iconst 5) (.int 5)]
theorem oX9_told_32 : okB ftX9 ctX9 cX9_told 34 bX9_told_32 = true := by decide +kernel
def bX9_told_37 : List Ent := [e0 37 (.aload_n 0), ec 38 (.sipush 2400) (.int 2400), ec 41 (.sipush 2400) (.int 2400), e0 44 (.aload_n 0), ef 45 (.getfield 17) .null 8 2, ec 48 (.bipush 8) (.int 8), e0 50 .iaload, e0 51 .iadd]
theorem oX9_told_37 : okB ftX9 ctX9 cX9_told 52 bX9_told_37 = true := by decide +kernel
def bX9_told_55 : List Ent := [e0 55 (.goto 4)]
theorem oX9_told_55 : okB ftX9 ctX9 cX9_told 59 bX9_told_55 = true := by decide +kernel
def bX9_told_58 : List Ent := [ec 58 (.lconst 0) (.long 0)]
theorem oX9_told_58 : okB ftX9 ctX9 cX9_told 59 bX9_told_58 = true := by decide +kernel
def bX9_told_59 : List Ent := [e0 59 (.lstore_n 2), e0 60 (.iload_n 1)]
theorem oX9_told_59 : okB ftX9 ctX9 cX9_told 61 bX9_told_59 = true := by decide +kernel
def bX9_told_64 : List Ent := [e0 64 (.aload_n 0), ef 65 (.getfield 147) .null 8 8, e0 68 (.goto 81)]
theorem oX9_told_64 : okB ftX9 ctX9 cX9_told 149 bX9_told_64 = true := by decide +kernel
def bX9_told_71 : List Ent := [e0 71 (.iload_n 1), ec 72 (.iconst 1) (.int 1)]
theorem oX9_told_71 : okB ftX9 ctX9 cX9_told 73 bX9_told_71 = true := by decide +kernel
def bX9_told_76 : List Ent := [e0 76 (.aload_n 0), ef 77 (.getfield 139) .null 8 6, e0 80 (.goto 69)]
theorem oX9_told_76 : okB ftX9 ctX9 cX9_told 149 bX9_told_76 = true := by decide +kernel
def bX9_told_83 : List Ent := [e0 83 (.iload_n 1), ec 84 (.iconst 2) (.int 2)]
theorem oX9_told_83 : okB ftX9 ctX9 cX9_told 85 bX9_told_83 = true := by decide +kernel
def bX9_told_88 : List Ent := [e0 88 (.aload_n 0), ef 89 (.getfield 98) .null 8 3, e0 92 (.goto 57)]
theorem oX9_told_88 : okB ftX9 ctX9 cX9_told 149 bX9_told_88 = true := by decide +kernel
def bX9_told_95 : List Ent := [e0 95 (.iload_n 1), ec 96 (.iconst 3) (.int 3)]
theorem oX9_told_95 : okB ftX9 ctX9 cX9_told 97 bX9_told_95 = true := by decide +kernel
def bX9_told_100 : List Ent := [e0 100 (.aload_n 0), ef 101 (.getfield 77) .null 8 30, ec 104 (.bipush (-2)) (.int (-2))]
theorem oX9_told_100 : okB ftX9 ctX9 cX9_told 106 bX9_told_100 = true := by decide +kernel
def bX9_told_109 : List Ent := [ec 109 (.iconst 0) (.int 0), e0 110 (.goto 39)]
theorem oX9_told_109 : okB ftX9 ctX9 cX9_told 149 bX9_told_109 = true := by decide +kernel
def bX9_told_113 : List Ent := [e0 113 (.aload_n 0), ef 114 (.getfield 186) .null 8 29, e0 117 (.goto 32)]
theorem oX9_told_113 : okB ftX9 ctX9 cX9_told 149 bX9_told_113 = true := by decide +kernel
def bX9_told_120 : List Ent := [e0 120 (.iload_n 1), ec 121 (.iconst 4) (.int 4)]
theorem oX9_told_120 : okB ftX9 ctX9 cX9_told 122 bX9_told_120 = true := by decide +kernel
def bX9_told_125 : List Ent := [e0 125 (.aload_n 0), ef 126 (.getfield 77) .null 8 30, ec 129 (.bipush (-2)) (.int (-2))]
theorem oX9_told_125 : okB ftX9 ctX9 cX9_told 131 bX9_told_125 = true := by decide +kernel
def bX9_told_134 : List Ent := [ec 134 (.iconst 0) (.int 0), e0 135 (.goto 14)]
theorem oX9_told_134 : okB ftX9 ctX9 cX9_told 149 bX9_told_134 = true := by decide +kernel
def bX9_told_138 : List Ent := [e0 138 (.aload_n 0), ef 139 (.getfield 230) .null 8 41, e0 142 (.goto 7)]
theorem oX9_told_138 : okB ftX9 ctX9 cX9_told 149 bX9_told_138 = true := by decide +kernel
def bX9_told_145 : List Ent := [e0 145 (.aload_n 0), ef 146 (.getfield 109) .null 8 12]
theorem oX9_told_145 : okB ftX9 ctX9 cX9_told 149 bX9_told_145 = true := by decide +kernel
theorem jX9_told_1 : decode cX9_told 1 = .ok (.ifCond .lt 8, 3) := by decide +kernel
theorem jX9_told_6 : decode cX9_told 6 = .ok (.if_icmp .le 5, 3) := by decide +kernel
theorem jX9_told_10 : decode cX9_told 10 = .ok (.ireturn, 1) := by decide +kernel
theorem jX9_told_13 : decode cX9_told 13 = .ok (.if_icmp .ne 19, 3) := by decide +kernel
theorem jX9_told_22 : decode cX9_told 22 = .ok (.if_icmp .eq 10, 3) := by decide +kernel
theorem jX9_told_29 : decode cX9_told 29 = .ok (.invokevirtual 233, 3) := by decide +kernel
theorem jX9_told_34 : decode cX9_told 34 = .ok (.if_icmp .ne 24, 3) := by decide +kernel
theorem jX9_told_52 : decode cX9_told 52 = .ok (.invokevirtual 135, 3) := by decide +kernel
theorem jX9_told_61 : decode cX9_told 61 = .ok (.ifCond .ne 10, 3) := by decide +kernel
theorem jX9_told_73 : decode cX9_told 73 = .ok (.if_icmp .ne 10, 3) := by decide +kernel
theorem jX9_told_85 : decode cX9_told 85 = .ok (.if_icmp .ne 10, 3) := by decide +kernel
theorem jX9_told_97 : decode cX9_told 97 = .ok (.if_icmp .ne 23, 3) := by decide +kernel
theorem jX9_told_106 : decode cX9_told 106 = .ok (.if_icmp .ne 7, 3) := by decide +kernel
theorem jX9_told_122 : decode cX9_told 122 = .ok (.if_icmp .ne 23, 3) := by decide +kernel
theorem jX9_told_131 : decode cX9_told 131 = .ok (.if_icmp .ne 7, 3) := by decide +kernel
theorem jX9_told_149 : decode cX9_told 149 = .ok (.ireturn, 1) := by decide +kernel
