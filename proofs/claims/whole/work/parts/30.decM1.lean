theorem d_Mo_init_0 : decode c_Mo_init 0 = .ok (.aload_n 0, 1) := by decide +kernel
theorem d_Mo_init_1 : decode c_Mo_init 1 = .ok (.invokespecial 1, 3) := by decide +kernel
theorem d_Mo_init_4 : decode c_Mo_init 4 = .ok (.aload_n 0, 1) := by decide +kernel
theorem d_Mo_init_5 : decode c_Mo_init 5 = .ok (.bipush 33, 2) := by decide +kernel
theorem d_Mo_init_7 : decode c_Mo_init 7 = .ok (.newarray .int, 2) := by decide +kernel
theorem d_Mo_init_9 : decode c_Mo_init 9 = .ok (.putfield 7, 3) := by decide +kernel
theorem d_Mo_init_12 : decode c_Mo_init 12 = .ok (.aload_n 0, 1) := by decide +kernel
theorem d_Mo_init_13 : decode c_Mo_init 13 = .ok (.bipush 33, 2) := by decide +kernel
theorem d_Mo_init_15 : decode c_Mo_init 15 = .ok (.newarray .int, 2) := by decide +kernel
theorem d_Mo_init_17 : decode c_Mo_init 17 = .ok (.putfield 13, 3) := by decide +kernel
theorem d_Mo_init_20 : decode c_Mo_init 20 = .ok (.aload_n 0, 1) := by decide +kernel
theorem d_Mo_init_21 : decode c_Mo_init 21 = .ok (.bipush 33, 2) := by decide +kernel
theorem d_Mo_init_23 : decode c_Mo_init 23 = .ok (.newarray .int, 2) := by decide +kernel
theorem d_Mo_init_25 : decode c_Mo_init 25 = .ok (.putfield 16, 3) := by decide +kernel
theorem d_Mo_init_28 : decode c_Mo_init 28 = .ok (.aload_n 0, 1) := by decide +kernel
theorem d_Mo_init_29 : decode c_Mo_init 29 = .ok (.bipush 33, 2) := by decide +kernel
theorem d_Mo_init_31 : decode c_Mo_init 31 = .ok (.newarray .int, 2) := by decide +kernel
theorem d_Mo_init_33 : decode c_Mo_init 33 = .ok (.putfield 19, 3) := by decide +kernel
theorem d_Mo_init_36 : decode c_Mo_init 36 = .ok (.aload_n 0, 1) := by decide +kernel
theorem d_Mo_init_37 : decode c_Mo_init 37 = .ok (.bipush 33, 2) := by decide +kernel
theorem d_Mo_init_39 : decode c_Mo_init 39 = .ok (.newarray .int, 2) := by decide +kernel
theorem d_Mo_init_41 : decode c_Mo_init 41 = .ok (.putfield 22, 3) := by decide +kernel
theorem d_Mo_init_44 : decode c_Mo_init 44 = .ok (.aload_n 0, 1) := by decide +kernel
theorem d_Mo_init_45 : decode c_Mo_init 45 = .ok (.sipush 330, 3) := by decide +kernel
theorem d_Mo_init_48 : decode c_Mo_init 48 = .ok (.newarray .int, 2) := by decide +kernel
theorem d_Mo_init_50 : decode c_Mo_init 50 = .ok (.putfield 25, 3) := by decide +kernel
theorem d_Mo_init_53 : decode c_Mo_init 53 = .ok (.aload_n 0, 1) := by decide +kernel
theorem d_Mo_init_54 : decode c_Mo_init 54 = .ok (.iconst 4, 1) := by decide +kernel
theorem d_Mo_init_55 : decode c_Mo_init 55 = .ok (.newarray .int, 2) := by decide +kernel
theorem d_Mo_init_57 : decode c_Mo_init 57 = .ok (.putfield 28, 3) := by decide +kernel
theorem d_Mo_init_60 : decode c_Mo_init 60 = .ok (.aload_n 0, 1) := by decide +kernel
theorem d_Mo_init_61 : decode c_Mo_init 61 = .ok (.iconst 4, 1) := by decide +kernel
theorem d_Mo_init_62 : decode c_Mo_init 62 = .ok (.newarray .int, 2) := by decide +kernel
theorem d_Mo_init_64 : decode c_Mo_init 64 = .ok (.putfield 31, 3) := by decide +kernel
theorem d_Mo_init_67 : decode c_Mo_init 67 = .ok (.aload_n 0, 1) := by decide +kernel
theorem d_Mo_init_68 : decode c_Mo_init 68 = .ok (.iconst 4, 1) := by decide +kernel
theorem d_Mo_init_69 : decode c_Mo_init 69 = .ok (.newarray .int, 2) := by decide +kernel
theorem d_Mo_init_71 : decode c_Mo_init 71 = .ok (.putfield 34, 3) := by decide +kernel
theorem d_Mo_init_74 : decode c_Mo_init 74 = .ok (.aload_n 0, 1) := by decide +kernel
theorem d_Mo_init_75 : decode c_Mo_init 75 = .ok (.iconst 4, 1) := by decide +kernel
theorem d_Mo_init_76 : decode c_Mo_init 76 = .ok (.newarray .int, 2) := by decide +kernel
theorem d_Mo_init_78 : decode c_Mo_init 78 = .ok (.putfield 37, 3) := by decide +kernel
theorem d_Mo_init_81 : decode c_Mo_init 81 = .ok (.aload_n 0, 1) := by decide +kernel
theorem d_Mo_init_82 : decode c_Mo_init 82 = .ok (.bipush 33, 2) := by decide +kernel
theorem d_Mo_init_84 : decode c_Mo_init 84 = .ok (.newarray .boolean, 2) := by decide +kernel
theorem d_Mo_init_86 : decode c_Mo_init 86 = .ok (.putfield 40, 3) := by decide +kernel
theorem d_Mo_init_89 : decode c_Mo_init 89 = .ok (.aload_n 0, 1) := by decide +kernel
theorem d_Mo_init_90 : decode c_Mo_init 90 = .ok (.bipush 12, 2) := by decide +kernel
theorem d_Mo_init_92 : decode c_Mo_init 92 = .ok (.newarray .int, 2) := by decide +kernel
theorem d_Mo_init_94 : decode c_Mo_init 94 = .ok (.putfield 44, 3) := by decide +kernel
theorem d_Mo_init_97 : decode c_Mo_init 97 = .ok (.aload_n 0, 1) := by decide +kernel
theorem d_Mo_init_98 : decode c_Mo_init 98 = .ok (.bipush 20, 2) := by decide +kernel
theorem d_Mo_init_100 : decode c_Mo_init 100 = .ok (.newarray .int, 2) := by decide +kernel
theorem d_Mo_init_102 : decode c_Mo_init 102 = .ok (.putfield 47, 3) := by decide +kernel
theorem d_Mo_init_105 : decode c_Mo_init 105 = .ok (.aload_n 0, 1) := by decide +kernel
theorem d_Mo_init_106 : decode c_Mo_init 106 = .ok (.bipush 33, 2) := by decide +kernel
theorem d_Mo_init_108 : decode c_Mo_init 108 = .ok (.newarray .boolean, 2) := by decide +kernel
theorem d_Mo_init_110 : decode c_Mo_init 110 = .ok (.putfield 50, 3) := by decide +kernel
theorem d_Mo_init_113 : decode c_Mo_init 113 = .ok (.aload_n 0, 1) := by decide +kernel
theorem d_Mo_init_114 : decode c_Mo_init 114 = .ok (.bipush 33, 2) := by decide +kernel
theorem d_Mo_init_116 : decode c_Mo_init 116 = .ok (.newarray .int, 2) := by decide +kernel
theorem d_Mo_init_118 : decode c_Mo_init 118 = .ok (.putfield 53, 3) := by decide +kernel
theorem d_Mo_init_121 : decode c_Mo_init 121 = .ok (.aload_n 0, 1) := by decide +kernel
theorem d_Mo_init_122 : decode c_Mo_init 122 = .ok (.sipush 4096, 3) := by decide +kernel
theorem d_Mo_init_125 : decode c_Mo_init 125 = .ok (.newarray .boolean, 2) := by decide +kernel
theorem d_Mo_init_127 : decode c_Mo_init 127 = .ok (.putfield 56, 3) := by decide +kernel
theorem d_Mo_init_130 : decode c_Mo_init 130 = .ok (.aload_n 0, 1) := by decide +kernel
theorem d_Mo_init_131 : decode c_Mo_init 131 = .ok (.sipush 4096, 3) := by decide +kernel
theorem d_Mo_init_134 : decode c_Mo_init 134 = .ok (.newarray .long, 2) := by decide +kernel
theorem d_Mo_init_136 : decode c_Mo_init 136 = .ok (.putfield 59, 3) := by decide +kernel
theorem d_Mo_init_139 : decode c_Mo_init 139 = .ok (.aload_n 0, 1) := by decide +kernel
theorem d_Mo_init_140 : decode c_Mo_init 140 = .ok (.sipush 4096, 3) := by decide +kernel
theorem d_Mo_init_143 : decode c_Mo_init 143 = .ok (.newarray .int, 2) := by decide +kernel
theorem d_Mo_init_145 : decode c_Mo_init 145 = .ok (.putfield 63, 3) := by decide +kernel
theorem d_Mo_init_148 : decode c_Mo_init 148 = .ok (.aload_n 0, 1) := by decide +kernel
theorem d_Mo_init_149 : decode c_Mo_init 149 = .ok (.bipush 12, 2) := by decide +kernel
theorem d_Mo_init_151 : decode c_Mo_init 151 = .ok (.newarray .int, 2) := by decide +kernel
theorem d_Mo_init_153 : decode c_Mo_init 153 = .ok (.putfield 66, 3) := by decide +kernel
theorem d_Mo_init_156 : decode c_Mo_init 156 = .ok (.aload_n 0, 1) := by decide +kernel
theorem d_Mo_init_157 : decode c_Mo_init 157 = .ok (.bipush 31, 2) := by decide +kernel
theorem d_Mo_init_159 : decode c_Mo_init 159 = .ok (.newarray .int, 2) := by decide +kernel
theorem d_Mo_init_161 : decode c_Mo_init 161 = .ok (.putfield 69, 3) := by decide +kernel
theorem d_Mo_init_164 : decode c_Mo_init 164 = .ok (.aload_n 0, 1) := by decide +kernel
theorem d_Mo_init_165 : decode c_Mo_init 165 = .ok (.bipush 100, 2) := by decide +kernel
theorem d_Mo_init_167 : decode c_Mo_init 167 = .ok (.newarray .int, 2) := by decide +kernel
theorem d_Mo_init_169 : decode c_Mo_init 169 = .ok (.putfield 72, 3) := by decide +kernel
theorem d_Mo_init_172 : decode c_Mo_init 172 = .ok (.aload_n 0, 1) := by decide +kernel
theorem d_Mo_init_173 : decode c_Mo_init 173 = .ok (.bipush 100, 2) := by decide +kernel
theorem d_Mo_init_175 : decode c_Mo_init 175 = .ok (.newarray .int, 2) := by decide +kernel
theorem d_Mo_init_177 : decode c_Mo_init 177 = .ok (.putfield 75, 3) := by decide +kernel
theorem d_Mo_init_180 : decode c_Mo_init 180 = .ok (.aload_n 0, 1) := by decide +kernel
theorem d_Mo_init_181 : decode c_Mo_init 181 = .ok (.bipush 100, 2) := by decide +kernel
theorem d_Mo_init_183 : decode c_Mo_init 183 = .ok (.newarray .int, 2) := by decide +kernel
theorem d_Mo_init_185 : decode c_Mo_init 185 = .ok (.putfield 78, 3) := by decide +kernel
theorem d_Mo_init_188 : decode c_Mo_init 188 = .ok (.return_, 1) := by decide +kernel
theorem d_Mo_thrown_0 : decode c_Mo_thrown 0 = .ok (.aload_n 0, 1) := by decide +kernel
theorem d_Mo_thrown_1 : decode c_Mo_thrown 1 = .ok (.getfield 81, 3) := by decide +kernel
theorem d_Mo_thrown_4 : decode c_Mo_thrown 4 = .ok (.ireturn, 1) := by decide +kernel
theorem d_Mo_isIn_0 : decode c_Mo_isIn 0 = .ok (.lload_n 0, 1) := by decide +kernel
theorem d_Mo_isIn_1 : decode c_Mo_isIn 1 = .ok (.lload_n 2, 1) := by decide +kernel
theorem d_Mo_isIn_2 : decode c_Mo_isIn 2 = .ok (.lcmp, 1) := by decide +kernel
theorem d_Mo_isIn_3 : decode c_Mo_isIn 3 = .ok (.ifCond .lt 14, 3) := by decide +kernel
theorem d_Mo_isIn_6 : decode c_Mo_isIn 6 = .ok (.lload_n 0, 1) := by decide +kernel
theorem d_Mo_isIn_7 : decode c_Mo_isIn 7 = .ok (.lload 4, 2) := by decide +kernel
theorem d_Mo_isIn_9 : decode c_Mo_isIn 9 = .ok (.lcmp, 1) := by decide +kernel
theorem d_Mo_isIn_10 : decode c_Mo_isIn 10 = .ok (.ifCond .gt 7, 3) := by decide +kernel
theorem d_Mo_isIn_13 : decode c_Mo_isIn 13 = .ok (.iconst 1, 1) := by decide +kernel
theorem d_Mo_isIn_14 : decode c_Mo_isIn 14 = .ok (.goto 4, 3) := by decide +kernel
theorem d_Mo_isIn_17 : decode c_Mo_isIn 17 = .ok (.iconst 0, 1) := by decide +kernel
theorem d_Mo_isIn_18 : decode c_Mo_isIn 18 = .ok (.ireturn, 1) := by decide +kernel
theorem d_Mo_isGate_0 : decode c_Mo_isGate 0 = .ok (.iload_n 1, 1) := by decide +kernel
theorem d_Mo_isGate_1 : decode c_Mo_isGate 1 = .ok (.i2l, 1) := by decide +kernel
theorem d_Mo_isGate_2 : decode c_Mo_isGate 2 = .ok (.lconst 1, 1) := by decide +kernel
theorem d_Mo_isGate_3 : decode c_Mo_isGate 3 = .ok (.aload_n 0, 1) := by decide +kernel
theorem d_Mo_isGate_4 : decode c_Mo_isGate 4 = .ok (.getfield 85, 3) := by decide +kernel
theorem d_Mo_isGate_7 : decode c_Mo_isGate 7 = .ok (.i2l, 1) := by decide +kernel
theorem d_Mo_isGate_8 : decode c_Mo_isGate 8 = .ok (.invokestatic 88, 3) := by decide +kernel
theorem d_Mo_isGate_11 : decode c_Mo_isGate 11 = .ok (.ifCond .eq 16, 3) := by decide +kernel
theorem d_Mo_isGate_14 : decode c_Mo_isGate 14 = .ok (.aload_n 0, 1) := by decide +kernel
theorem d_Mo_isGate_15 : decode c_Mo_isGate 15 = .ok (.getfield 7, 3) := by decide +kernel
theorem d_Mo_isGate_18 : decode c_Mo_isGate 18 = .ok (.iload_n 1, 1) := by decide +kernel
theorem d_Mo_isGate_19 : decode c_Mo_isGate 19 = .ok (.iaload, 1) := by decide +kernel
theorem d_Mo_isGate_20 : decode c_Mo_isGate 20 = .ok (.ifCond .le 7, 3) := by decide +kernel
theorem d_Mo_isGate_23 : decode c_Mo_isGate 23 = .ok (.iconst 1, 1) := by decide +kernel
theorem d_Mo_isGate_24 : decode c_Mo_isGate 24 = .ok (.goto 4, 3) := by decide +kernel
theorem d_Mo_isGate_27 : decode c_Mo_isGate 27 = .ok (.iconst 0, 1) := by decide +kernel
theorem d_Mo_isGate_28 : decode c_Mo_isGate 28 = .ok (.ireturn, 1) := by decide +kernel
theorem d_Mo_isEvent_0 : decode c_Mo_isEvent 0 = .ok (.iload_n 1, 1) := by decide +kernel
theorem d_Mo_isEvent_1 : decode c_Mo_isEvent 1 = .ok (.i2l, 1) := by decide +kernel
theorem d_Mo_isEvent_2 : decode c_Mo_isEvent 2 = .ok (.lconst 1, 1) := by decide +kernel
theorem d_Mo_isEvent_3 : decode c_Mo_isEvent 3 = .ok (.aload_n 0, 1) := by decide +kernel
theorem d_Mo_isEvent_4 : decode c_Mo_isEvent 4 = .ok (.getfield 85, 3) := by decide +kernel
theorem d_Mo_isEvent_7 : decode c_Mo_isEvent 7 = .ok (.i2l, 1) := by decide +kernel
theorem d_Mo_isEvent_8 : decode c_Mo_isEvent 8 = .ok (.invokestatic 88, 3) := by decide +kernel
theorem d_Mo_isEvent_11 : decode c_Mo_isEvent 11 = .ok (.ifCond .eq 16, 3) := by decide +kernel
theorem d_Mo_isEvent_14 : decode c_Mo_isEvent 14 = .ok (.aload_n 0, 1) := by decide +kernel
theorem d_Mo_isEvent_15 : decode c_Mo_isEvent 15 = .ok (.getfield 7, 3) := by decide +kernel
theorem d_Mo_isEvent_18 : decode c_Mo_isEvent 18 = .ok (.iload_n 1, 1) := by decide +kernel
theorem d_Mo_isEvent_19 : decode c_Mo_isEvent 19 = .ok (.iaload, 1) := by decide +kernel
theorem d_Mo_isEvent_20 : decode c_Mo_isEvent 20 = .ok (.ifCond .ne 7, 3) := by decide +kernel
theorem d_Mo_isEvent_23 : decode c_Mo_isEvent 23 = .ok (.iconst 1, 1) := by decide +kernel
theorem d_Mo_isEvent_24 : decode c_Mo_isEvent 24 = .ok (.goto 4, 3) := by decide +kernel
theorem d_Mo_isEvent_27 : decode c_Mo_isEvent 27 = .ok (.iconst 0, 1) := by decide +kernel
theorem d_Mo_isEvent_28 : decode c_Mo_isEvent 28 = .ok (.ireturn, 1) := by decide +kernel
theorem d_Mo_event_0 : decode c_Mo_event 0 = .ok (.aload_n 0, 1) := by decide +kernel
theorem d_Mo_event_1 : decode c_Mo_event 1 = .ok (.iconst 0, 1) := by decide +kernel
theorem d_Mo_event_2 : decode c_Mo_event 2 = .ok (.putfield 81, 3) := by decide +kernel
theorem d_Mo_event_5 : decode c_Mo_event 5 = .ok (.lload_n 3, 1) := by decide +kernel
theorem d_Mo_event_6 : decode c_Mo_event 6 = .ok (.lconst 1, 1) := by decide +kernel
theorem d_Mo_event_7 : decode c_Mo_event 7 = .ok (.ldc2_w 92, 3) := by decide +kernel
theorem d_Mo_event_10 : decode c_Mo_event 10 = .ok (.invokestatic 88, 3) := by decide +kernel
theorem d_Mo_event_13 : decode c_Mo_event 13 = .ok (.ifCond .eq 9, 3) := by decide +kernel
theorem d_Mo_event_16 : decode c_Mo_event 16 = .ok (.lload_n 1, 1) := by decide +kernel
theorem d_Mo_event_17 : decode c_Mo_event 17 = .ok (.lconst 0, 1) := by decide +kernel
theorem d_Mo_event_18 : decode c_Mo_event 18 = .ok (.lcmp, 1) := by decide +kernel
theorem d_Mo_event_19 : decode c_Mo_event 19 = .ok (.ifCond .ge 6, 3) := by decide +kernel
theorem d_Mo_event_22 : decode c_Mo_event 22 = .ok (.bipush (-2), 2) := by decide +kernel
theorem d_Mo_event_24 : decode c_Mo_event 24 = .ok (.ireturn, 1) := by decide +kernel
theorem d_Mo_event_25 : decode c_Mo_event 25 = .ok (.aload_n 0, 1) := by decide +kernel
theorem d_Mo_event_26 : decode c_Mo_event 26 = .ok (.getfield 94, 3) := by decide +kernel
theorem d_Mo_event_29 : decode c_Mo_event 29 = .ok (.bipush 12, 2) := by decide +kernel
theorem d_Mo_event_31 : decode c_Mo_event 31 = .ok (.if_icmp .ne 6, 3) := by decide +kernel
theorem d_Mo_event_34 : decode c_Mo_event 34 = .ok (.bipush (-4), 2) := by decide +kernel
theorem d_Mo_event_36 : decode c_Mo_event 36 = .ok (.ireturn, 1) := by decide +kernel
theorem d_Mo_event_37 : decode c_Mo_event 37 = .ok (.lload_n 1, 1) := by decide +kernel
theorem d_Mo_event_38 : decode c_Mo_event 38 = .ok (.lload_n 3, 1) := by decide +kernel
theorem d_Mo_event_39 : decode c_Mo_event 39 = .ok (.lcmp, 1) := by decide +kernel
theorem d_Mo_event_40 : decode c_Mo_event 40 = .ok (.ifCond .le 5, 3) := by decide +kernel
theorem d_Mo_event_43 : decode c_Mo_event 43 = .ok (.iconst 0, 1) := by decide +kernel
theorem d_Mo_event_44 : decode c_Mo_event 44 = .ok (.ireturn, 1) := by decide +kernel
theorem d_Mo_event_45 : decode c_Mo_event 45 = .ok (.aload_n 0, 1) := by decide +kernel
theorem d_Mo_event_46 : decode c_Mo_event 46 = .ok (.dup, 1) := by decide +kernel
theorem d_Mo_event_47 : decode c_Mo_event 47 = .ok (.getfield 85, 3) := by decide +kernel
theorem d_Mo_event_50 : decode c_Mo_event 50 = .ok (.iconst 1, 1) := by decide +kernel
theorem d_Mo_event_51 : decode c_Mo_event 51 = .ok (.iadd, 1) := by decide +kernel
theorem d_Mo_event_52 : decode c_Mo_event 52 = .ok (.putfield 85, 3) := by decide +kernel
theorem d_Mo_event_55 : decode c_Mo_event 55 = .ok (.aload_n 0, 1) := by decide +kernel
theorem d_Mo_event_56 : decode c_Mo_event 56 = .ok (.dup, 1) := by decide +kernel
theorem d_Mo_event_57 : decode c_Mo_event 57 = .ok (.getfield 94, 3) := by decide +kernel
theorem d_Mo_event_60 : decode c_Mo_event 60 = .ok (.iconst 1, 1) := by decide +kernel
theorem d_Mo_event_61 : decode c_Mo_event 61 = .ok (.iadd, 1) := by decide +kernel
theorem d_Mo_event_62 : decode c_Mo_event 62 = .ok (.putfield 94, 3) := by decide +kernel
theorem d_Mo_event_65 : decode c_Mo_event 65 = .ok (.aload_n 0, 1) := by decide +kernel
theorem d_Mo_event_66 : decode c_Mo_event 66 = .ok (.getfield 7, 3) := by decide +kernel
theorem d_Mo_event_69 : decode c_Mo_event 69 = .ok (.aload_n 0, 1) := by decide +kernel
theorem d_Mo_event_70 : decode c_Mo_event 70 = .ok (.getfield 85, 3) := by decide +kernel
theorem d_Mo_event_73 : decode c_Mo_event 73 = .ok (.iconst 0, 1) := by decide +kernel
theorem d_Mo_event_74 : decode c_Mo_event 74 = .ok (.iastore, 1) := by decide +kernel
theorem d_Mo_event_75 : decode c_Mo_event 75 = .ok (.aload_n 0, 1) := by decide +kernel
theorem d_Mo_event_76 : decode c_Mo_event 76 = .ok (.getfield 16, 3) := by decide +kernel
theorem d_Mo_event_79 : decode c_Mo_event 79 = .ok (.aload_n 0, 1) := by decide +kernel
theorem d_Mo_event_80 : decode c_Mo_event 80 = .ok (.getfield 85, 3) := by decide +kernel
theorem d_Mo_event_83 : decode c_Mo_event 83 = .ok (.lload_n 1, 1) := by decide +kernel
theorem d_Mo_event_84 : decode c_Mo_event 84 = .ok (.l2i, 1) := by decide +kernel
theorem d_Mo_event_85 : decode c_Mo_event 85 = .ok (.iastore, 1) := by decide +kernel
theorem d_Mo_event_86 : decode c_Mo_event 86 = .ok (.aload_n 0, 1) := by decide +kernel
theorem d_Mo_event_87 : decode c_Mo_event 87 = .ok (.getfield 19, 3) := by decide +kernel
theorem d_Mo_event_90 : decode c_Mo_event 90 = .ok (.aload_n 0, 1) := by decide +kernel
theorem d_Mo_event_91 : decode c_Mo_event 91 = .ok (.getfield 85, 3) := by decide +kernel
theorem d_Mo_event_94 : decode c_Mo_event 94 = .ok (.lload_n 3, 1) := by decide +kernel
theorem d_Mo_event_95 : decode c_Mo_event 95 = .ok (.l2i, 1) := by decide +kernel
theorem d_Mo_event_96 : decode c_Mo_event 96 = .ok (.iastore, 1) := by decide +kernel
theorem d_Mo_event_97 : decode c_Mo_event 97 = .ok (.aload_n 0, 1) := by decide +kernel
theorem d_Mo_event_98 : decode c_Mo_event 98 = .ok (.getfield 85, 3) := by decide +kernel
theorem d_Mo_event_101 : decode c_Mo_event 101 = .ok (.ireturn, 1) := by decide +kernel
theorem d_Mo_gate_0 : decode c_Mo_gate 0 = .ok (.aload_n 0, 1) := by decide +kernel
theorem d_Mo_gate_1 : decode c_Mo_gate 1 = .ok (.iconst 0, 1) := by decide +kernel
theorem d_Mo_gate_2 : decode c_Mo_gate 2 = .ok (.putfield 81, 3) := by decide +kernel
theorem d_Mo_gate_5 : decode c_Mo_gate 5 = .ok (.iload_n 1, 1) := by decide +kernel
theorem d_Mo_gate_6 : decode c_Mo_gate 6 = .ok (.i2l, 1) := by decide +kernel
theorem d_Mo_gate_7 : decode c_Mo_gate 7 = .ok (.lconst 0, 1) := by decide +kernel
theorem d_Mo_gate_8 : decode c_Mo_gate 8 = .ok (.ldc2_w 97, 3) := by decide +kernel
theorem d_Mo_gate_11 : decode c_Mo_gate 11 = .ok (.invokestatic 88, 3) := by decide +kernel
theorem d_Mo_gate_14 : decode c_Mo_gate 14 = .ok (.ifCond .eq 27, 3) := by decide +kernel
theorem d_Mo_gate_17 : decode c_Mo_gate 17 = .ok (.iload_n 1, 1) := by decide +kernel
theorem d_Mo_gate_18 : decode c_Mo_gate 18 = .ok (.iconst 2, 1) := by decide +kernel
theorem d_Mo_gate_19 : decode c_Mo_gate 19 = .ok (.if_icmp .ne 18, 3) := by decide +kernel
theorem d_Mo_gate_22 : decode c_Mo_gate 22 = .ok (.iload_n 2, 1) := by decide +kernel
theorem d_Mo_gate_23 : decode c_Mo_gate 23 = .ok (.i2l, 1) := by decide +kernel
theorem d_Mo_gate_24 : decode c_Mo_gate 24 = .ok (.lconst 1, 1) := by decide +kernel
theorem d_Mo_gate_25 : decode c_Mo_gate 25 = .ok (.ldc2_w 92, 3) := by decide +kernel
theorem d_Mo_gate_28 : decode c_Mo_gate 28 = .ok (.invokestatic 88, 3) := by decide +kernel
theorem d_Mo_gate_31 : decode c_Mo_gate 31 = .ok (.ifCond .ne 13, 3) := by decide +kernel
theorem d_Mo_gate_34 : decode c_Mo_gate 34 = .ok (.goto 7, 3) := by decide +kernel
theorem d_Mo_gate_37 : decode c_Mo_gate 37 = .ok (.iload_n 2, 1) := by decide +kernel
theorem d_Mo_gate_38 : decode c_Mo_gate 38 = .ok (.ifCond .eq 6, 3) := by decide +kernel
theorem d_Mo_gate_41 : decode c_Mo_gate 41 = .ok (.bipush (-2), 2) := by decide +kernel
theorem d_Mo_gate_43 : decode c_Mo_gate 43 = .ok (.ireturn, 1) := by decide +kernel
theorem d_Mo_gate_44 : decode c_Mo_gate 44 = .ok (.aload_n 0, 1) := by decide +kernel
theorem d_Mo_gate_45 : decode c_Mo_gate 45 = .ok (.getfield 99, 3) := by decide +kernel
theorem d_Mo_gate_48 : decode c_Mo_gate 48 = .ok (.bipush 20, 2) := by decide +kernel
theorem d_Mo_gate_50 : decode c_Mo_gate 50 = .ok (.if_icmp .ne 6, 3) := by decide +kernel
theorem d_Mo_gate_53 : decode c_Mo_gate 53 = .ok (.bipush (-4), 2) := by decide +kernel
theorem d_Mo_gate_55 : decode c_Mo_gate 55 = .ok (.ireturn, 1) := by decide +kernel
theorem d_Mo_gate_56 : decode c_Mo_gate 56 = .ok (.aload_n 0, 1) := by decide +kernel
theorem d_Mo_gate_57 : decode c_Mo_gate 57 = .ok (.dup, 1) := by decide +kernel
theorem d_Mo_gate_58 : decode c_Mo_gate 58 = .ok (.getfield 85, 3) := by decide +kernel
theorem d_Mo_gate_61 : decode c_Mo_gate 61 = .ok (.iconst 1, 1) := by decide +kernel
theorem d_Mo_gate_62 : decode c_Mo_gate 62 = .ok (.iadd, 1) := by decide +kernel
theorem d_Mo_gate_63 : decode c_Mo_gate 63 = .ok (.putfield 85, 3) := by decide +kernel
theorem d_Mo_gate_66 : decode c_Mo_gate 66 = .ok (.aload_n 0, 1) := by decide +kernel
theorem d_Mo_gate_67 : decode c_Mo_gate 67 = .ok (.dup, 1) := by decide +kernel
theorem d_Mo_gate_68 : decode c_Mo_gate 68 = .ok (.getfield 99, 3) := by decide +kernel
theorem d_Mo_gate_71 : decode c_Mo_gate 71 = .ok (.iconst 1, 1) := by decide +kernel
theorem d_Mo_gate_72 : decode c_Mo_gate 72 = .ok (.iadd, 1) := by decide +kernel
theorem d_Mo_gate_73 : decode c_Mo_gate 73 = .ok (.putfield 99, 3) := by decide +kernel
theorem d_Mo_gate_76 : decode c_Mo_gate 76 = .ok (.aload_n 0, 1) := by decide +kernel
theorem d_Mo_gate_77 : decode c_Mo_gate 77 = .ok (.getfield 7, 3) := by decide +kernel
theorem d_Mo_gate_80 : decode c_Mo_gate 80 = .ok (.aload_n 0, 1) := by decide +kernel
theorem d_Mo_gate_81 : decode c_Mo_gate 81 = .ok (.getfield 85, 3) := by decide +kernel
theorem d_Mo_gate_84 : decode c_Mo_gate 84 = .ok (.iload_n 1, 1) := by decide +kernel
theorem d_Mo_gate_85 : decode c_Mo_gate 85 = .ok (.iconst 1, 1) := by decide +kernel
theorem d_Mo_gate_86 : decode c_Mo_gate 86 = .ok (.iadd, 1) := by decide +kernel
theorem d_Mo_gate_87 : decode c_Mo_gate 87 = .ok (.iastore, 1) := by decide +kernel
theorem d_Mo_gate_88 : decode c_Mo_gate 88 = .ok (.aload_n 0, 1) := by decide +kernel
theorem d_Mo_gate_89 : decode c_Mo_gate 89 = .ok (.getfield 13, 3) := by decide +kernel
theorem d_Mo_gate_92 : decode c_Mo_gate 92 = .ok (.aload_n 0, 1) := by decide +kernel
theorem d_Mo_gate_93 : decode c_Mo_gate 93 = .ok (.getfield 85, 3) := by decide +kernel
theorem d_Mo_gate_96 : decode c_Mo_gate 96 = .ok (.iload_n 2, 1) := by decide +kernel
theorem d_Mo_gate_97 : decode c_Mo_gate 97 = .ok (.iastore, 1) := by decide +kernel
theorem d_Mo_gate_98 : decode c_Mo_gate 98 = .ok (.aload_n 0, 1) := by decide +kernel
theorem d_Mo_gate_99 : decode c_Mo_gate 99 = .ok (.getfield 85, 3) := by decide +kernel
theorem d_Mo_gate_102 : decode c_Mo_gate 102 = .ok (.ireturn, 1) := by decide +kernel
theorem d_Mo_mark_0 : decode c_Mo_mark 0 = .ok (.iconst 1, 1) := by decide +kernel
theorem d_Mo_mark_1 : decode c_Mo_mark 1 = .ok (.istore_n 2, 1) := by decide +kernel
theorem d_Mo_mark_2 : decode c_Mo_mark 2 = .ok (.iload_n 2, 1) := by decide +kernel
theorem d_Mo_mark_3 : decode c_Mo_mark 3 = .ok (.aload_n 0, 1) := by decide +kernel
theorem d_Mo_mark_4 : decode c_Mo_mark 4 = .ok (.getfield 85, 3) := by decide +kernel
theorem d_Mo_mark_7 : decode c_Mo_mark 7 = .ok (.if_icmp .gt 25, 3) := by decide +kernel
theorem d_Mo_mark_10 : decode c_Mo_mark 10 = .ok (.aload_n 0, 1) := by decide +kernel
theorem d_Mo_mark_11 : decode c_Mo_mark 11 = .ok (.getfield 40, 3) := by decide +kernel
theorem d_Mo_mark_14 : decode c_Mo_mark 14 = .ok (.iload_n 2, 1) := by decide +kernel
theorem d_Mo_mark_15 : decode c_Mo_mark 15 = .ok (.iload_n 2, 1) := by decide +kernel
theorem d_Mo_mark_16 : decode c_Mo_mark 16 = .ok (.iload_n 1, 1) := by decide +kernel
theorem d_Mo_mark_17 : decode c_Mo_mark 17 = .ok (.if_icmp .ne 7, 3) := by decide +kernel
theorem d_Mo_mark_20 : decode c_Mo_mark 20 = .ok (.iconst 1, 1) := by decide +kernel
theorem d_Mo_mark_21 : decode c_Mo_mark 21 = .ok (.goto 4, 3) := by decide +kernel
theorem d_Mo_mark_24 : decode c_Mo_mark 24 = .ok (.iconst 0, 1) := by decide +kernel
theorem d_Mo_mark_25 : decode c_Mo_mark 25 = .ok (.bastore, 1) := by decide +kernel
theorem d_Mo_mark_26 : decode c_Mo_mark 26 = .ok (.iinc 2 1, 3) := by decide +kernel
theorem d_Mo_mark_29 : decode c_Mo_mark 29 = .ok (.goto (-27), 3) := by decide +kernel
theorem d_Mo_mark_32 : decode c_Mo_mark 32 = .ok (.iconst 1, 1) := by decide +kernel
theorem d_Mo_mark_33 : decode c_Mo_mark 33 = .ok (.istore_n 2, 1) := by decide +kernel
theorem d_Mo_mark_34 : decode c_Mo_mark 34 = .ok (.iload_n 2, 1) := by decide +kernel
theorem d_Mo_mark_35 : decode c_Mo_mark 35 = .ok (.ifCond .eq 95, 3) := by decide +kernel
theorem d_Mo_mark_38 : decode c_Mo_mark 38 = .ok (.iconst 0, 1) := by decide +kernel
theorem d_Mo_mark_39 : decode c_Mo_mark 39 = .ok (.istore_n 2, 1) := by decide +kernel
theorem d_Mo_mark_40 : decode c_Mo_mark 40 = .ok (.iconst 1, 1) := by decide +kernel
theorem d_Mo_mark_41 : decode c_Mo_mark 41 = .ok (.istore_n 3, 1) := by decide +kernel
theorem d_Mo_mark_42 : decode c_Mo_mark 42 = .ok (.iload_n 3, 1) := by decide +kernel
theorem d_Mo_mark_43 : decode c_Mo_mark 43 = .ok (.aload_n 0, 1) := by decide +kernel
theorem d_Mo_mark_44 : decode c_Mo_mark 44 = .ok (.getfield 85, 3) := by decide +kernel
theorem d_Mo_mark_47 : decode c_Mo_mark 47 = .ok (.if_icmp .gt 80, 3) := by decide +kernel
theorem d_Mo_mark_50 : decode c_Mo_mark 50 = .ok (.iconst 0, 1) := by decide +kernel
theorem d_Mo_mark_51 : decode c_Mo_mark 51 = .ok (.istore 4, 2) := by decide +kernel
theorem d_Mo_mark_53 : decode c_Mo_mark 53 = .ok (.aload_n 0, 1) := by decide +kernel
theorem d_Mo_mark_54 : decode c_Mo_mark 54 = .ok (.getfield 40, 3) := by decide +kernel
theorem d_Mo_mark_57 : decode c_Mo_mark 57 = .ok (.iload_n 3, 1) := by decide +kernel
theorem d_Mo_mark_58 : decode c_Mo_mark 58 = .ok (.baload, 1) := by decide +kernel
theorem d_Mo_mark_59 : decode c_Mo_mark 59 = .ok (.ifCond .eq 62, 3) := by decide +kernel
theorem d_Mo_mark_62 : decode c_Mo_mark 62 = .ok (.iload 4, 2) := by decide +kernel
theorem d_Mo_mark_64 : decode c_Mo_mark 64 = .ok (.aload_n 0, 1) := by decide +kernel
theorem d_Mo_mark_65 : decode c_Mo_mark 65 = .ok (.getfield 22, 3) := by decide +kernel
theorem d_Mo_mark_68 : decode c_Mo_mark 68 = .ok (.iload_n 3, 1) := by decide +kernel
theorem d_Mo_mark_69 : decode c_Mo_mark 69 = .ok (.iaload, 1) := by decide +kernel
theorem d_Mo_mark_70 : decode c_Mo_mark 70 = .ok (.if_icmp .ge 51, 3) := by decide +kernel
theorem d_Mo_mark_73 : decode c_Mo_mark 73 = .ok (.aload_n 0, 1) := by decide +kernel
theorem d_Mo_mark_74 : decode c_Mo_mark 74 = .ok (.getfield 25, 3) := by decide +kernel
theorem d_Mo_mark_77 : decode c_Mo_mark 77 = .ok (.bipush 10, 2) := by decide +kernel
theorem d_Mo_mark_79 : decode c_Mo_mark 79 = .ok (.iload_n 3, 1) := by decide +kernel
theorem d_Mo_mark_80 : decode c_Mo_mark 80 = .ok (.imul, 1) := by decide +kernel
theorem d_Mo_mark_81 : decode c_Mo_mark 81 = .ok (.iload 4, 2) := by decide +kernel
theorem d_Mo_mark_83 : decode c_Mo_mark 83 = .ok (.iadd, 1) := by decide +kernel
theorem d_Mo_mark_84 : decode c_Mo_mark 84 = .ok (.iaload, 1) := by decide +kernel
theorem d_Mo_mark_85 : decode c_Mo_mark 85 = .ok (.istore 5, 2) := by decide +kernel
theorem d_Mo_mark_87 : decode c_Mo_mark 87 = .ok (.iload_n 2, 1) := by decide +kernel
theorem d_Mo_mark_88 : decode c_Mo_mark 88 = .ok (.ifCond .ne 13, 3) := by decide +kernel
theorem d_Mo_mark_91 : decode c_Mo_mark 91 = .ok (.aload_n 0, 1) := by decide +kernel
theorem d_Mo_mark_92 : decode c_Mo_mark 92 = .ok (.getfield 40, 3) := by decide +kernel
theorem d_Mo_mark_95 : decode c_Mo_mark 95 = .ok (.iload 5, 2) := by decide +kernel
theorem d_Mo_mark_97 : decode c_Mo_mark 97 = .ok (.baload, 1) := by decide +kernel
theorem d_Mo_mark_98 : decode c_Mo_mark 98 = .ok (.ifCond .ne 7, 3) := by decide +kernel
theorem d_Mo_mark_101 : decode c_Mo_mark 101 = .ok (.iconst 1, 1) := by decide +kernel
theorem d_Mo_mark_102 : decode c_Mo_mark 102 = .ok (.goto 4, 3) := by decide +kernel
theorem d_Mo_mark_105 : decode c_Mo_mark 105 = .ok (.iconst 0, 1) := by decide +kernel
theorem d_Mo_mark_106 : decode c_Mo_mark 106 = .ok (.istore_n 2, 1) := by decide +kernel
theorem d_Mo_mark_107 : decode c_Mo_mark 107 = .ok (.aload_n 0, 1) := by decide +kernel
theorem d_Mo_mark_108 : decode c_Mo_mark 108 = .ok (.getfield 40, 3) := by decide +kernel
theorem d_Mo_mark_111 : decode c_Mo_mark 111 = .ok (.iload 5, 2) := by decide +kernel
theorem d_Mo_mark_113 : decode c_Mo_mark 113 = .ok (.iconst 1, 1) := by decide +kernel
theorem d_Mo_mark_114 : decode c_Mo_mark 114 = .ok (.bastore, 1) := by decide +kernel
theorem d_Mo_mark_115 : decode c_Mo_mark 115 = .ok (.iinc 4 1, 3) := by decide +kernel
theorem d_Mo_mark_118 : decode c_Mo_mark 118 = .ok (.goto (-65), 3) := by decide +kernel
theorem d_Mo_mark_121 : decode c_Mo_mark 121 = .ok (.iinc 3 1, 3) := by decide +kernel
theorem d_Mo_mark_124 : decode c_Mo_mark 124 = .ok (.goto (-82), 3) := by decide +kernel
theorem d_Mo_mark_127 : decode c_Mo_mark 127 = .ok (.goto (-93), 3) := by decide +kernel
theorem d_Mo_mark_130 : decode c_Mo_mark 130 = .ok (.return_, 1) := by decide +kernel
theorem d_Mo_below_0 : decode c_Mo_below 0 = .ok (.aload_n 0, 1) := by decide +kernel
theorem d_Mo_below_1 : decode c_Mo_below 1 = .ok (.iconst 0, 1) := by decide +kernel
theorem d_Mo_below_2 : decode c_Mo_below 2 = .ok (.putfield 81, 3) := by decide +kernel
theorem d_Mo_below_5 : decode c_Mo_below 5 = .ok (.aload_n 0, 1) := by decide +kernel
theorem d_Mo_below_6 : decode c_Mo_below 6 = .ok (.iload_n 1, 1) := by decide +kernel
theorem d_Mo_below_7 : decode c_Mo_below 7 = .ok (.invokevirtual 102, 3) := by decide +kernel
theorem d_Mo_below_10 : decode c_Mo_below 10 = .ok (.ifCond .eq 17, 3) := by decide +kernel
theorem d_Mo_below_13 : decode c_Mo_below 13 = .ok (.iload_n 2, 1) := by decide +kernel
theorem d_Mo_below_14 : decode c_Mo_below 14 = .ok (.i2l, 1) := by decide +kernel
theorem d_Mo_below_15 : decode c_Mo_below 15 = .ok (.lconst 1, 1) := by decide +kernel
theorem d_Mo_below_16 : decode c_Mo_below 16 = .ok (.aload_n 0, 1) := by decide +kernel
theorem d_Mo_below_17 : decode c_Mo_below 17 = .ok (.getfield 85, 3) := by decide +kernel
theorem d_Mo_below_20 : decode c_Mo_below 20 = .ok (.i2l, 1) := by decide +kernel
theorem d_Mo_below_21 : decode c_Mo_below 21 = .ok (.invokestatic 88, 3) := by decide +kernel
theorem d_Mo_below_24 : decode c_Mo_below 24 = .ok (.ifCond .ne 5, 3) := by decide +kernel
theorem d_Mo_below_27 : decode c_Mo_below 27 = .ok (.iconst (-1), 1) := by decide +kernel
theorem d_Mo_below_28 : decode c_Mo_below 28 = .ok (.ireturn, 1) := by decide +kernel
theorem d_Mo_below_29 : decode c_Mo_below 29 = .ok (.iconst 0, 1) := by decide +kernel
theorem d_Mo_below_30 : decode c_Mo_below 30 = .ok (.istore_n 3, 1) := by decide +kernel
theorem d_Mo_below_31 : decode c_Mo_below 31 = .ok (.iload_n 3, 1) := by decide +kernel
theorem d_Mo_below_32 : decode c_Mo_below 32 = .ok (.aload_n 0, 1) := by decide +kernel
theorem d_Mo_below_33 : decode c_Mo_below 33 = .ok (.getfield 22, 3) := by decide +kernel
theorem d_Mo_below_36 : decode c_Mo_below 36 = .ok (.iload_n 1, 1) := by decide +kernel
theorem d_Mo_below_37 : decode c_Mo_below 37 = .ok (.iaload, 1) := by decide +kernel
theorem d_Mo_below_38 : decode c_Mo_below 38 = .ok (.if_icmp .ge 27, 3) := by decide +kernel
theorem d_Mo_below_41 : decode c_Mo_below 41 = .ok (.aload_n 0, 1) := by decide +kernel
theorem d_Mo_below_42 : decode c_Mo_below 42 = .ok (.getfield 25, 3) := by decide +kernel
theorem d_Mo_below_45 : decode c_Mo_below 45 = .ok (.bipush 10, 2) := by decide +kernel
theorem d_Mo_below_47 : decode c_Mo_below 47 = .ok (.iload_n 1, 1) := by decide +kernel
theorem d_Mo_below_48 : decode c_Mo_below 48 = .ok (.imul, 1) := by decide +kernel
theorem d_Mo_below_49 : decode c_Mo_below 49 = .ok (.iload_n 3, 1) := by decide +kernel
theorem d_Mo_below_50 : decode c_Mo_below 50 = .ok (.iadd, 1) := by decide +kernel
theorem d_Mo_below_51 : decode c_Mo_below 51 = .ok (.iaload, 1) := by decide +kernel
theorem d_Mo_below_52 : decode c_Mo_below 52 = .ok (.iload_n 2, 1) := by decide +kernel
theorem d_Mo_below_53 : decode c_Mo_below 53 = .ok (.if_icmp .ne 6, 3) := by decide +kernel
theorem d_Mo_below_56 : decode c_Mo_below 56 = .ok (.bipush (-3), 2) := by decide +kernel
theorem d_Mo_below_58 : decode c_Mo_below 58 = .ok (.ireturn, 1) := by decide +kernel
theorem d_Mo_below_59 : decode c_Mo_below 59 = .ok (.iinc 3 1, 3) := by decide +kernel
theorem d_Mo_below_62 : decode c_Mo_below 62 = .ok (.goto (-31), 3) := by decide +kernel
theorem d_Mo_below_65 : decode c_Mo_below 65 = .ok (.aload_n 0, 1) := by decide +kernel
theorem d_Mo_below_66 : decode c_Mo_below 66 = .ok (.getfield 22, 3) := by decide +kernel
theorem d_Mo_below_69 : decode c_Mo_below 69 = .ok (.iload_n 1, 1) := by decide +kernel
theorem d_Mo_below_70 : decode c_Mo_below 70 = .ok (.iaload, 1) := by decide +kernel
theorem d_Mo_below_71 : decode c_Mo_below 71 = .ok (.bipush 10, 2) := by decide +kernel
theorem d_Mo_below_73 : decode c_Mo_below 73 = .ok (.if_icmp .ne 6, 3) := by decide +kernel
theorem d_Mo_below_76 : decode c_Mo_below 76 = .ok (.bipush (-4), 2) := by decide +kernel
theorem d_Mo_below_78 : decode c_Mo_below 78 = .ok (.ireturn, 1) := by decide +kernel
theorem d_Mo_below_79 : decode c_Mo_below 79 = .ok (.aload_n 0, 1) := by decide +kernel
theorem d_Mo_below_80 : decode c_Mo_below 80 = .ok (.iload_n 2, 1) := by decide +kernel
theorem d_Mo_below_81 : decode c_Mo_below 81 = .ok (.invokevirtual 106, 3) := by decide +kernel
theorem d_Mo_below_84 : decode c_Mo_below 84 = .ok (.aload_n 0, 1) := by decide +kernel
theorem d_Mo_below_85 : decode c_Mo_below 85 = .ok (.getfield 40, 3) := by decide +kernel
theorem d_Mo_below_88 : decode c_Mo_below 88 = .ok (.iload_n 1, 1) := by decide +kernel
theorem d_Mo_below_89 : decode c_Mo_below 89 = .ok (.baload, 1) := by decide +kernel
theorem d_Mo_below_90 : decode c_Mo_below 90 = .ok (.ifCond .eq 5, 3) := by decide +kernel
theorem d_Mo_below_93 : decode c_Mo_below 93 = .ok (.iconst 0, 1) := by decide +kernel
theorem d_Mo_below_94 : decode c_Mo_below 94 = .ok (.ireturn, 1) := by decide +kernel
theorem d_Mo_below_95 : decode c_Mo_below 95 = .ok (.aload_n 0, 1) := by decide +kernel
theorem d_Mo_below_96 : decode c_Mo_below 96 = .ok (.getfield 25, 3) := by decide +kernel
theorem d_Mo_below_99 : decode c_Mo_below 99 = .ok (.bipush 10, 2) := by decide +kernel
theorem d_Mo_below_101 : decode c_Mo_below 101 = .ok (.iload_n 1, 1) := by decide +kernel
theorem d_Mo_below_102 : decode c_Mo_below 102 = .ok (.imul, 1) := by decide +kernel
theorem d_Mo_below_103 : decode c_Mo_below 103 = .ok (.aload_n 0, 1) := by decide +kernel
theorem d_Mo_below_104 : decode c_Mo_below 104 = .ok (.getfield 22, 3) := by decide +kernel
theorem d_Mo_below_107 : decode c_Mo_below 107 = .ok (.iload_n 1, 1) := by decide +kernel
theorem d_Mo_below_108 : decode c_Mo_below 108 = .ok (.iaload, 1) := by decide +kernel
theorem d_Mo_below_109 : decode c_Mo_below 109 = .ok (.iadd, 1) := by decide +kernel
theorem d_Mo_below_110 : decode c_Mo_below 110 = .ok (.iload_n 2, 1) := by decide +kernel
theorem d_Mo_below_111 : decode c_Mo_below 111 = .ok (.iastore, 1) := by decide +kernel
theorem d_Mo_below_112 : decode c_Mo_below 112 = .ok (.aload_n 0, 1) := by decide +kernel
theorem d_Mo_below_113 : decode c_Mo_below 113 = .ok (.getfield 22, 3) := by decide +kernel
theorem d_Mo_below_116 : decode c_Mo_below 116 = .ok (.iload_n 1, 1) := by decide +kernel
theorem d_Mo_below_117 : decode c_Mo_below 117 = .ok (.dup2, 1) := by decide +kernel
theorem d_Mo_below_118 : decode c_Mo_below 118 = .ok (.iaload, 1) := by decide +kernel
theorem d_Mo_below_119 : decode c_Mo_below 119 = .ok (.iconst 1, 1) := by decide +kernel
theorem d_Mo_below_120 : decode c_Mo_below 120 = .ok (.iadd, 1) := by decide +kernel
theorem d_Mo_below_121 : decode c_Mo_below 121 = .ok (.iastore, 1) := by decide +kernel
theorem d_Mo_below_122 : decode c_Mo_below 122 = .ok (.iconst 1, 1) := by decide +kernel
theorem d_Mo_below_123 : decode c_Mo_below 123 = .ok (.ireturn, 1) := by decide +kernel
theorem d_Mo_prepare_0 : decode c_Mo_prepare 0 = .ok (.aload_n 0, 1) := by decide +kernel
theorem d_Mo_prepare_1 : decode c_Mo_prepare 1 = .ok (.iload_n 1, 1) := by decide +kernel
theorem d_Mo_prepare_2 : decode c_Mo_prepare 2 = .ok (.invokevirtual 106, 3) := by decide +kernel
theorem d_Mo_prepare_5 : decode c_Mo_prepare 5 = .ok (.aload_n 0, 1) := by decide +kernel
theorem d_Mo_prepare_6 : decode c_Mo_prepare 6 = .ok (.iconst 0, 1) := by decide +kernel
theorem d_Mo_prepare_7 : decode c_Mo_prepare 7 = .ok (.putfield 110, 3) := by decide +kernel
theorem d_Mo_prepare_10 : decode c_Mo_prepare 10 = .ok (.aload_n 0, 1) := by decide +kernel
theorem d_Mo_prepare_11 : decode c_Mo_prepare 11 = .ok (.iconst 0, 1) := by decide +kernel
theorem d_Mo_prepare_12 : decode c_Mo_prepare 12 = .ok (.putfield 113, 3) := by decide +kernel
theorem d_Mo_prepare_15 : decode c_Mo_prepare 15 = .ok (.iconst 1, 1) := by decide +kernel
theorem d_Mo_prepare_16 : decode c_Mo_prepare 16 = .ok (.istore_n 2, 1) := by decide +kernel
theorem d_Mo_prepare_17 : decode c_Mo_prepare 17 = .ok (.iload_n 2, 1) := by decide +kernel
theorem d_Mo_prepare_18 : decode c_Mo_prepare 18 = .ok (.aload_n 0, 1) := by decide +kernel
theorem d_Mo_prepare_19 : decode c_Mo_prepare 19 = .ok (.getfield 85, 3) := by decide +kernel
theorem d_Mo_prepare_22 : decode c_Mo_prepare 22 = .ok (.if_icmp .gt 67, 3) := by decide +kernel
theorem d_Mo_prepare_25 : decode c_Mo_prepare 25 = .ok (.aload_n 0, 1) := by decide +kernel
theorem d_Mo_prepare_26 : decode c_Mo_prepare 26 = .ok (.getfield 50, 3) := by decide +kernel
theorem d_Mo_prepare_29 : decode c_Mo_prepare 29 = .ok (.iload_n 2, 1) := by decide +kernel
theorem d_Mo_prepare_30 : decode c_Mo_prepare 30 = .ok (.aload_n 0, 1) := by decide +kernel
theorem d_Mo_prepare_31 : decode c_Mo_prepare 31 = .ok (.getfield 7, 3) := by decide +kernel
theorem d_Mo_prepare_34 : decode c_Mo_prepare 34 = .ok (.iload_n 2, 1) := by decide +kernel
theorem d_Mo_prepare_35 : decode c_Mo_prepare 35 = .ok (.iaload, 1) := by decide +kernel
theorem d_Mo_prepare_36 : decode c_Mo_prepare 36 = .ok (.ifCond .ne 7, 3) := by decide +kernel
theorem d_Mo_prepare_39 : decode c_Mo_prepare 39 = .ok (.iconst 1, 1) := by decide +kernel
theorem d_Mo_prepare_40 : decode c_Mo_prepare 40 = .ok (.goto 4, 3) := by decide +kernel
theorem d_Mo_prepare_43 : decode c_Mo_prepare 43 = .ok (.iconst 0, 1) := by decide +kernel
theorem d_Mo_prepare_44 : decode c_Mo_prepare 44 = .ok (.bastore, 1) := by decide +kernel
theorem d_Mo_prepare_45 : decode c_Mo_prepare 45 = .ok (.aload_n 0, 1) := by decide +kernel
theorem d_Mo_prepare_46 : decode c_Mo_prepare 46 = .ok (.getfield 40, 3) := by decide +kernel
theorem d_Mo_prepare_49 : decode c_Mo_prepare 49 = .ok (.iload_n 2, 1) := by decide +kernel
theorem d_Mo_prepare_50 : decode c_Mo_prepare 50 = .ok (.baload, 1) := by decide +kernel
theorem d_Mo_prepare_51 : decode c_Mo_prepare 51 = .ok (.ifCond .eq 32, 3) := by decide +kernel
theorem d_Mo_prepare_54 : decode c_Mo_prepare 54 = .ok (.aload_n 0, 1) := by decide +kernel
theorem d_Mo_prepare_55 : decode c_Mo_prepare 55 = .ok (.getfield 7, 3) := by decide +kernel
theorem d_Mo_prepare_58 : decode c_Mo_prepare 58 = .ok (.iload_n 2, 1) := by decide +kernel
theorem d_Mo_prepare_59 : decode c_Mo_prepare 59 = .ok (.iaload, 1) := by decide +kernel
theorem d_Mo_prepare_60 : decode c_Mo_prepare 60 = .ok (.ifCond .ne 23, 3) := by decide +kernel
theorem d_Mo_prepare_63 : decode c_Mo_prepare 63 = .ok (.aload_n 0, 1) := by decide +kernel
theorem d_Mo_prepare_64 : decode c_Mo_prepare 64 = .ok (.getfield 44, 3) := by decide +kernel
theorem d_Mo_prepare_67 : decode c_Mo_prepare 67 = .ok (.aload_n 0, 1) := by decide +kernel
theorem d_Mo_prepare_68 : decode c_Mo_prepare 68 = .ok (.getfield 110, 3) := by decide +kernel
theorem d_Mo_prepare_71 : decode c_Mo_prepare 71 = .ok (.iload_n 2, 1) := by decide +kernel
theorem d_Mo_prepare_72 : decode c_Mo_prepare 72 = .ok (.iastore, 1) := by decide +kernel
theorem d_Mo_prepare_73 : decode c_Mo_prepare 73 = .ok (.aload_n 0, 1) := by decide +kernel
theorem d_Mo_prepare_74 : decode c_Mo_prepare 74 = .ok (.dup, 1) := by decide +kernel
theorem d_Mo_prepare_75 : decode c_Mo_prepare 75 = .ok (.getfield 110, 3) := by decide +kernel
theorem d_Mo_prepare_78 : decode c_Mo_prepare 78 = .ok (.iconst 1, 1) := by decide +kernel
theorem d_Mo_prepare_79 : decode c_Mo_prepare 79 = .ok (.iadd, 1) := by decide +kernel
theorem d_Mo_prepare_80 : decode c_Mo_prepare 80 = .ok (.putfield 110, 3) := by decide +kernel
theorem d_Mo_prepare_83 : decode c_Mo_prepare 83 = .ok (.iinc 2 1, 3) := by decide +kernel
theorem d_Mo_prepare_86 : decode c_Mo_prepare 86 = .ok (.goto (-69), 3) := by decide +kernel
theorem d_Mo_prepare_89 : decode c_Mo_prepare 89 = .ok (.iconst 1, 1) := by decide +kernel
theorem d_Mo_prepare_90 : decode c_Mo_prepare 90 = .ok (.istore_n 2, 1) := by decide +kernel
theorem d_Mo_prepare_91 : decode c_Mo_prepare 91 = .ok (.iload_n 2, 1) := by decide +kernel
theorem d_Mo_prepare_92 : decode c_Mo_prepare 92 = .ok (.ifCond .eq 79, 3) := by decide +kernel
theorem d_Mo_prepare_95 : decode c_Mo_prepare 95 = .ok (.iconst 0, 1) := by decide +kernel
theorem d_Mo_prepare_96 : decode c_Mo_prepare 96 = .ok (.istore_n 2, 1) := by decide +kernel
theorem d_Mo_prepare_97 : decode c_Mo_prepare 97 = .ok (.iconst 1, 1) := by decide +kernel
theorem d_Mo_prepare_98 : decode c_Mo_prepare 98 = .ok (.istore_n 3, 1) := by decide +kernel
theorem d_Mo_prepare_99 : decode c_Mo_prepare 99 = .ok (.iload_n 3, 1) := by decide +kernel
theorem d_Mo_prepare_100 : decode c_Mo_prepare 100 = .ok (.aload_n 0, 1) := by decide +kernel
theorem d_Mo_prepare_101 : decode c_Mo_prepare 101 = .ok (.getfield 85, 3) := by decide +kernel
theorem d_Mo_prepare_104 : decode c_Mo_prepare 104 = .ok (.if_icmp .gt 64, 3) := by decide +kernel
theorem d_Mo_prepare_107 : decode c_Mo_prepare 107 = .ok (.aload_n 0, 1) := by decide +kernel
theorem d_Mo_prepare_108 : decode c_Mo_prepare 108 = .ok (.getfield 40, 3) := by decide +kernel
theorem d_Mo_prepare_111 : decode c_Mo_prepare 111 = .ok (.iload_n 3, 1) := by decide +kernel
theorem d_Mo_prepare_112 : decode c_Mo_prepare 112 = .ok (.baload, 1) := by decide +kernel
theorem d_Mo_prepare_113 : decode c_Mo_prepare 113 = .ok (.ifCond .eq 49, 3) := by decide +kernel
theorem d_Mo_prepare_116 : decode c_Mo_prepare 116 = .ok (.aload_n 0, 1) := by decide +kernel
theorem d_Mo_prepare_117 : decode c_Mo_prepare 117 = .ok (.getfield 50, 3) := by decide +kernel
theorem d_Mo_prepare_120 : decode c_Mo_prepare 120 = .ok (.iload_n 3, 1) := by decide +kernel
theorem d_Mo_prepare_121 : decode c_Mo_prepare 121 = .ok (.baload, 1) := by decide +kernel
theorem d_Mo_prepare_122 : decode c_Mo_prepare 122 = .ok (.ifCond .ne 40, 3) := by decide +kernel
theorem d_Mo_prepare_125 : decode c_Mo_prepare 125 = .ok (.aload_n 0, 1) := by decide +kernel
theorem d_Mo_prepare_126 : decode c_Mo_prepare 126 = .ok (.iload_n 3, 1) := by decide +kernel
theorem d_Mo_prepare_127 : decode c_Mo_prepare 127 = .ok (.invokevirtual 116, 3) := by decide +kernel
theorem d_Mo_prepare_130 : decode c_Mo_prepare 130 = .ok (.ifCond .eq 32, 3) := by decide +kernel
theorem d_Mo_prepare_133 : decode c_Mo_prepare 133 = .ok (.aload_n 0, 1) := by decide +kernel
theorem d_Mo_prepare_134 : decode c_Mo_prepare 134 = .ok (.getfield 50, 3) := by decide +kernel
theorem d_Mo_prepare_137 : decode c_Mo_prepare 137 = .ok (.iload_n 3, 1) := by decide +kernel
theorem d_Mo_prepare_138 : decode c_Mo_prepare 138 = .ok (.iconst 1, 1) := by decide +kernel
theorem d_Mo_prepare_139 : decode c_Mo_prepare 139 = .ok (.bastore, 1) := by decide +kernel
theorem d_Mo_prepare_140 : decode c_Mo_prepare 140 = .ok (.aload_n 0, 1) := by decide +kernel
theorem d_Mo_prepare_141 : decode c_Mo_prepare 141 = .ok (.getfield 47, 3) := by decide +kernel
theorem d_Mo_prepare_144 : decode c_Mo_prepare 144 = .ok (.aload_n 0, 1) := by decide +kernel
theorem d_Mo_prepare_145 : decode c_Mo_prepare 145 = .ok (.getfield 113, 3) := by decide +kernel
theorem d_Mo_prepare_148 : decode c_Mo_prepare 148 = .ok (.iload_n 3, 1) := by decide +kernel
theorem d_Mo_prepare_149 : decode c_Mo_prepare 149 = .ok (.iastore, 1) := by decide +kernel
theorem d_Mo_prepare_150 : decode c_Mo_prepare 150 = .ok (.aload_n 0, 1) := by decide +kernel
theorem d_Mo_prepare_151 : decode c_Mo_prepare 151 = .ok (.dup, 1) := by decide +kernel
theorem d_Mo_prepare_152 : decode c_Mo_prepare 152 = .ok (.getfield 113, 3) := by decide +kernel
theorem d_Mo_prepare_155 : decode c_Mo_prepare 155 = .ok (.iconst 1, 1) := by decide +kernel
theorem d_Mo_prepare_156 : decode c_Mo_prepare 156 = .ok (.iadd, 1) := by decide +kernel
theorem d_Mo_prepare_157 : decode c_Mo_prepare 157 = .ok (.putfield 113, 3) := by decide +kernel
theorem d_Mo_prepare_160 : decode c_Mo_prepare 160 = .ok (.iconst 1, 1) := by decide +kernel
theorem d_Mo_prepare_161 : decode c_Mo_prepare 161 = .ok (.istore_n 2, 1) := by decide +kernel
theorem d_Mo_prepare_162 : decode c_Mo_prepare 162 = .ok (.iinc 3 1, 3) := by decide +kernel
theorem d_Mo_prepare_165 : decode c_Mo_prepare 165 = .ok (.goto (-66), 3) := by decide +kernel
theorem d_Mo_prepare_168 : decode c_Mo_prepare 168 = .ok (.goto (-77), 3) := by decide +kernel
theorem d_Mo_prepare_171 : decode c_Mo_prepare 171 = .ok (.return_, 1) := by decide +kernel
theorem d_Mo_isReady_0 : decode c_Mo_isReady 0 = .ok (.iconst 1, 1) := by decide +kernel
theorem d_Mo_isReady_1 : decode c_Mo_isReady 1 = .ok (.istore_n 2, 1) := by decide +kernel
theorem d_Mo_isReady_2 : decode c_Mo_isReady 2 = .ok (.iconst 0, 1) := by decide +kernel
theorem d_Mo_isReady_3 : decode c_Mo_isReady 3 = .ok (.istore_n 3, 1) := by decide +kernel
theorem d_Mo_isReady_4 : decode c_Mo_isReady 4 = .ok (.iload_n 3, 1) := by decide +kernel
theorem d_Mo_isReady_5 : decode c_Mo_isReady 5 = .ok (.aload_n 0, 1) := by decide +kernel
theorem d_Mo_isReady_6 : decode c_Mo_isReady 6 = .ok (.getfield 22, 3) := by decide +kernel
theorem d_Mo_isReady_9 : decode c_Mo_isReady 9 = .ok (.iload_n 1, 1) := by decide +kernel
theorem d_Mo_isReady_10 : decode c_Mo_isReady 10 = .ok (.iaload, 1) := by decide +kernel
theorem d_Mo_isReady_11 : decode c_Mo_isReady 11 = .ok (.if_icmp .ge 38, 3) := by decide +kernel
theorem d_Mo_isReady_14 : decode c_Mo_isReady 14 = .ok (.iload_n 2, 1) := by decide +kernel
theorem d_Mo_isReady_15 : decode c_Mo_isReady 15 = .ok (.ifCond .eq 26, 3) := by decide +kernel
theorem d_Mo_isReady_18 : decode c_Mo_isReady 18 = .ok (.aload_n 0, 1) := by decide +kernel
theorem d_Mo_isReady_19 : decode c_Mo_isReady 19 = .ok (.getfield 50, 3) := by decide +kernel
theorem d_Mo_isReady_22 : decode c_Mo_isReady 22 = .ok (.aload_n 0, 1) := by decide +kernel
theorem d_Mo_isReady_23 : decode c_Mo_isReady 23 = .ok (.getfield 25, 3) := by decide +kernel
theorem d_Mo_isReady_26 : decode c_Mo_isReady 26 = .ok (.bipush 10, 2) := by decide +kernel
theorem d_Mo_isReady_28 : decode c_Mo_isReady 28 = .ok (.iload_n 1, 1) := by decide +kernel
theorem d_Mo_isReady_29 : decode c_Mo_isReady 29 = .ok (.imul, 1) := by decide +kernel
theorem d_Mo_isReady_30 : decode c_Mo_isReady 30 = .ok (.iload_n 3, 1) := by decide +kernel
theorem d_Mo_isReady_31 : decode c_Mo_isReady 31 = .ok (.iadd, 1) := by decide +kernel
theorem d_Mo_isReady_32 : decode c_Mo_isReady 32 = .ok (.iaload, 1) := by decide +kernel
theorem d_Mo_isReady_33 : decode c_Mo_isReady 33 = .ok (.baload, 1) := by decide +kernel
theorem d_Mo_isReady_34 : decode c_Mo_isReady 34 = .ok (.ifCond .eq 7, 3) := by decide +kernel
theorem d_Mo_isReady_37 : decode c_Mo_isReady 37 = .ok (.iconst 1, 1) := by decide +kernel
theorem d_Mo_isReady_38 : decode c_Mo_isReady 38 = .ok (.goto 4, 3) := by decide +kernel
theorem d_Mo_isReady_41 : decode c_Mo_isReady 41 = .ok (.iconst 0, 1) := by decide +kernel
theorem d_Mo_isReady_42 : decode c_Mo_isReady 42 = .ok (.istore_n 2, 1) := by decide +kernel
theorem d_Mo_isReady_43 : decode c_Mo_isReady 43 = .ok (.iinc 3 1, 3) := by decide +kernel
theorem d_Mo_isReady_46 : decode c_Mo_isReady 46 = .ok (.goto (-42), 3) := by decide +kernel
theorem d_Mo_isReady_49 : decode c_Mo_isReady 49 = .ok (.iload_n 2, 1) := by decide +kernel
theorem d_Mo_isReady_50 : decode c_Mo_isReady 50 = .ok (.ireturn, 1) := by decide +kernel
theorem d_Mo_bit_0 : decode c_Mo_bit 0 = .ok (.iconst 1, 1) := by decide +kernel
theorem d_Mo_bit_1 : decode c_Mo_bit 1 = .ok (.aload_n 0, 1) := by decide +kernel
theorem d_Mo_bit_2 : decode c_Mo_bit 2 = .ok (.getfield 110, 3) := by decide +kernel
theorem d_Mo_bit_5 : decode c_Mo_bit 5 = .ok (.iconst 1, 1) := by decide +kernel
theorem d_Mo_bit_6 : decode c_Mo_bit 6 = .ok (.isub, 1) := by decide +kernel
theorem d_Mo_bit_7 : decode c_Mo_bit 7 = .ok (.iload_n 1, 1) := by decide +kernel
theorem d_Mo_bit_8 : decode c_Mo_bit 8 = .ok (.isub, 1) := by decide +kernel
theorem d_Mo_bit_9 : decode c_Mo_bit 9 = .ok (.ishl, 1) := by decide +kernel
theorem d_Mo_bit_10 : decode c_Mo_bit 10 = .ok (.ireturn, 1) := by decide +kernel
theorem d_Mo_tryAll_0 : decode c_Mo_tryAll 0 = .ok (.aload_n 0, 1) := by decide +kernel
theorem d_Mo_tryAll_1 : decode c_Mo_tryAll 1 = .ok (.iload_n 1, 1) := by decide +kernel
theorem d_Mo_tryAll_2 : decode c_Mo_tryAll 2 = .ok (.invokevirtual 119, 3) := by decide +kernel
theorem d_Mo_tryAll_5 : decode c_Mo_tryAll 5 = .ok (.iconst 0, 1) := by decide +kernel
theorem d_Mo_tryAll_6 : decode c_Mo_tryAll 6 = .ok (.istore_n 2, 1) := by decide +kernel
theorem d_Mo_tryAll_7 : decode c_Mo_tryAll 7 = .ok (.iload_n 2, 1) := by decide +kernel
theorem d_Mo_tryAll_8 : decode c_Mo_tryAll 8 = .ok (.iconst 1, 1) := by decide +kernel
theorem d_Mo_tryAll_9 : decode c_Mo_tryAll 9 = .ok (.aload_n 0, 1) := by decide +kernel
theorem d_Mo_tryAll_10 : decode c_Mo_tryAll 10 = .ok (.getfield 110, 3) := by decide +kernel
theorem d_Mo_tryAll_13 : decode c_Mo_tryAll 13 = .ok (.ishl, 1) := by decide +kernel
theorem d_Mo_tryAll_14 : decode c_Mo_tryAll 14 = .ok (.if_icmp .ge 234, 3) := by decide +kernel
theorem d_Mo_tryAll_17 : decode c_Mo_tryAll 17 = .ok (.iconst 0, 1) := by decide +kernel
theorem d_Mo_tryAll_18 : decode c_Mo_tryAll 18 = .ok (.istore_n 3, 1) := by decide +kernel
theorem d_Mo_tryAll_19 : decode c_Mo_tryAll 19 = .ok (.iload_n 3, 1) := by decide +kernel
theorem d_Mo_tryAll_20 : decode c_Mo_tryAll 20 = .ok (.aload_n 0, 1) := by decide +kernel
theorem d_Mo_tryAll_21 : decode c_Mo_tryAll 21 = .ok (.getfield 110, 3) := by decide +kernel
theorem d_Mo_tryAll_24 : decode c_Mo_tryAll 24 = .ok (.if_icmp .ge 35, 3) := by decide +kernel
theorem d_Mo_tryAll_27 : decode c_Mo_tryAll 27 = .ok (.aload_n 0, 1) := by decide +kernel
theorem d_Mo_tryAll_28 : decode c_Mo_tryAll 28 = .ok (.getfield 53, 3) := by decide +kernel
theorem d_Mo_tryAll_31 : decode c_Mo_tryAll 31 = .ok (.aload_n 0, 1) := by decide +kernel
theorem d_Mo_tryAll_32 : decode c_Mo_tryAll 32 = .ok (.getfield 44, 3) := by decide +kernel
theorem d_Mo_tryAll_35 : decode c_Mo_tryAll 35 = .ok (.iload_n 3, 1) := by decide +kernel
theorem d_Mo_tryAll_36 : decode c_Mo_tryAll 36 = .ok (.iaload, 1) := by decide +kernel
theorem d_Mo_tryAll_37 : decode c_Mo_tryAll 37 = .ok (.iload_n 2, 1) := by decide +kernel
theorem d_Mo_tryAll_38 : decode c_Mo_tryAll 38 = .ok (.aload_n 0, 1) := by decide +kernel
theorem d_Mo_tryAll_39 : decode c_Mo_tryAll 39 = .ok (.iload_n 3, 1) := by decide +kernel
theorem d_Mo_tryAll_40 : decode c_Mo_tryAll 40 = .ok (.invokevirtual 122, 3) := by decide +kernel
theorem d_Mo_tryAll_43 : decode c_Mo_tryAll 43 = .ok (.iand, 1) := by decide +kernel
theorem d_Mo_tryAll_44 : decode c_Mo_tryAll 44 = .ok (.ifCond .eq 7, 3) := by decide +kernel
theorem d_Mo_tryAll_47 : decode c_Mo_tryAll 47 = .ok (.iconst 1, 1) := by decide +kernel
theorem d_Mo_tryAll_48 : decode c_Mo_tryAll 48 = .ok (.goto 4, 3) := by decide +kernel
theorem d_Mo_tryAll_51 : decode c_Mo_tryAll 51 = .ok (.iconst 0, 1) := by decide +kernel
theorem d_Mo_tryAll_52 : decode c_Mo_tryAll 52 = .ok (.iastore, 1) := by decide +kernel
theorem d_Mo_tryAll_53 : decode c_Mo_tryAll 53 = .ok (.iinc 3 1, 3) := by decide +kernel
theorem d_Mo_tryAll_56 : decode c_Mo_tryAll 56 = .ok (.goto (-37), 3) := by decide +kernel
theorem d_Mo_tryAll_59 : decode c_Mo_tryAll 59 = .ok (.iconst 0, 1) := by decide +kernel
theorem d_Mo_tryAll_60 : decode c_Mo_tryAll 60 = .ok (.istore_n 3, 1) := by decide +kernel
theorem d_Mo_tryAll_61 : decode c_Mo_tryAll 61 = .ok (.iload_n 3, 1) := by decide +kernel
theorem d_Mo_tryAll_62 : decode c_Mo_tryAll 62 = .ok (.aload_n 0, 1) := by decide +kernel
theorem d_Mo_tryAll_63 : decode c_Mo_tryAll 63 = .ok (.getfield 113, 3) := by decide +kernel
theorem d_Mo_tryAll_66 : decode c_Mo_tryAll 66 = .ok (.if_icmp .ge 155, 3) := by decide +kernel
theorem d_Mo_tryAll_69 : decode c_Mo_tryAll 69 = .ok (.aload_n 0, 1) := by decide +kernel
theorem d_Mo_tryAll_70 : decode c_Mo_tryAll 70 = .ok (.getfield 47, 3) := by decide +kernel
theorem d_Mo_tryAll_73 : decode c_Mo_tryAll 73 = .ok (.iload_n 3, 1) := by decide +kernel
theorem d_Mo_tryAll_74 : decode c_Mo_tryAll 74 = .ok (.iaload, 1) := by decide +kernel
theorem d_Mo_tryAll_75 : decode c_Mo_tryAll 75 = .ok (.istore 4, 2) := by decide +kernel
theorem d_Mo_tryAll_77 : decode c_Mo_tryAll 77 = .ok (.iconst 0, 1) := by decide +kernel
theorem d_Mo_tryAll_78 : decode c_Mo_tryAll 78 = .ok (.istore 5, 2) := by decide +kernel
theorem d_Mo_tryAll_80 : decode c_Mo_tryAll 80 = .ok (.iconst 0, 1) := by decide +kernel
theorem d_Mo_tryAll_81 : decode c_Mo_tryAll 81 = .ok (.istore 6, 2) := by decide +kernel
theorem d_Mo_tryAll_83 : decode c_Mo_tryAll 83 = .ok (.iload 6, 2) := by decide +kernel
theorem d_Mo_tryAll_85 : decode c_Mo_tryAll 85 = .ok (.aload_n 0, 1) := by decide +kernel
theorem d_Mo_tryAll_86 : decode c_Mo_tryAll 86 = .ok (.getfield 22, 3) := by decide +kernel
theorem d_Mo_tryAll_89 : decode c_Mo_tryAll 89 = .ok (.iload 4, 2) := by decide +kernel
theorem d_Mo_tryAll_91 : decode c_Mo_tryAll 91 = .ok (.iaload, 1) := by decide +kernel
theorem d_Mo_tryAll_92 : decode c_Mo_tryAll 92 = .ok (.if_icmp .ge 32, 3) := by decide +kernel
theorem d_Mo_tryAll_95 : decode c_Mo_tryAll 95 = .ok (.iload 5, 2) := by decide +kernel
theorem d_Mo_tryAll_97 : decode c_Mo_tryAll 97 = .ok (.aload_n 0, 1) := by decide +kernel
theorem d_Mo_tryAll_98 : decode c_Mo_tryAll 98 = .ok (.getfield 53, 3) := by decide +kernel
theorem d_Mo_tryAll_101 : decode c_Mo_tryAll 101 = .ok (.aload_n 0, 1) := by decide +kernel
theorem d_Mo_tryAll_102 : decode c_Mo_tryAll 102 = .ok (.getfield 25, 3) := by decide +kernel
theorem d_Mo_tryAll_105 : decode c_Mo_tryAll 105 = .ok (.bipush 10, 2) := by decide +kernel
theorem d_Mo_tryAll_107 : decode c_Mo_tryAll 107 = .ok (.iload 4, 2) := by decide +kernel
theorem d_Mo_tryAll_109 : decode c_Mo_tryAll 109 = .ok (.imul, 1) := by decide +kernel
theorem d_Mo_tryAll_110 : decode c_Mo_tryAll 110 = .ok (.iload 6, 2) := by decide +kernel
theorem d_Mo_tryAll_112 : decode c_Mo_tryAll 112 = .ok (.iadd, 1) := by decide +kernel
theorem d_Mo_tryAll_113 : decode c_Mo_tryAll 113 = .ok (.iaload, 1) := by decide +kernel
theorem d_Mo_tryAll_114 : decode c_Mo_tryAll 114 = .ok (.iaload, 1) := by decide +kernel
theorem d_Mo_tryAll_115 : decode c_Mo_tryAll 115 = .ok (.iadd, 1) := by decide +kernel
theorem d_Mo_tryAll_116 : decode c_Mo_tryAll 116 = .ok (.istore 5, 2) := by decide +kernel
theorem d_Mo_tryAll_118 : decode c_Mo_tryAll 118 = .ok (.iinc 6 1, 3) := by decide +kernel
theorem d_Mo_tryAll_121 : decode c_Mo_tryAll 121 = .ok (.goto (-38), 3) := by decide +kernel
theorem d_Mo_tryAll_124 : decode c_Mo_tryAll 124 = .ok (.aload_n 0, 1) := by decide +kernel
theorem d_Mo_tryAll_125 : decode c_Mo_tryAll 125 = .ok (.getfield 7, 3) := by decide +kernel
theorem d_Mo_tryAll_128 : decode c_Mo_tryAll 128 = .ok (.iload 4, 2) := by decide +kernel
theorem d_Mo_tryAll_130 : decode c_Mo_tryAll 130 = .ok (.iaload, 1) := by decide +kernel
theorem d_Mo_tryAll_131 : decode c_Mo_tryAll 131 = .ok (.iconst 1, 1) := by decide +kernel
theorem d_Mo_tryAll_132 : decode c_Mo_tryAll 132 = .ok (.if_icmp .ne 23, 3) := by decide +kernel
theorem d_Mo_tryAll_135 : decode c_Mo_tryAll 135 = .ok (.iload 5, 2) := by decide +kernel
theorem d_Mo_tryAll_137 : decode c_Mo_tryAll 137 = .ok (.aload_n 0, 1) := by decide +kernel
theorem d_Mo_tryAll_138 : decode c_Mo_tryAll 138 = .ok (.getfield 22, 3) := by decide +kernel
theorem d_Mo_tryAll_141 : decode c_Mo_tryAll 141 = .ok (.iload 4, 2) := by decide +kernel
theorem d_Mo_tryAll_143 : decode c_Mo_tryAll 143 = .ok (.iaload, 1) := by decide +kernel
theorem d_Mo_tryAll_144 : decode c_Mo_tryAll 144 = .ok (.if_icmp .ne 7, 3) := by decide +kernel
theorem d_Mo_tryAll_147 : decode c_Mo_tryAll 147 = .ok (.iconst 1, 1) := by decide +kernel
theorem d_Mo_tryAll_148 : decode c_Mo_tryAll 148 = .ok (.goto 48, 3) := by decide +kernel
theorem d_Mo_tryAll_151 : decode c_Mo_tryAll 151 = .ok (.iconst 0, 1) := by decide +kernel
theorem d_Mo_tryAll_152 : decode c_Mo_tryAll 152 = .ok (.goto 44, 3) := by decide +kernel
theorem d_Mo_tryAll_155 : decode c_Mo_tryAll 155 = .ok (.aload_n 0, 1) := by decide +kernel
theorem d_Mo_tryAll_156 : decode c_Mo_tryAll 156 = .ok (.getfield 7, 3) := by decide +kernel
theorem d_Mo_tryAll_159 : decode c_Mo_tryAll 159 = .ok (.iload 4, 2) := by decide +kernel
theorem d_Mo_tryAll_161 : decode c_Mo_tryAll 161 = .ok (.iaload, 1) := by decide +kernel
theorem d_Mo_tryAll_162 : decode c_Mo_tryAll 162 = .ok (.iconst 2, 1) := by decide +kernel
theorem d_Mo_tryAll_163 : decode c_Mo_tryAll 163 = .ok (.if_icmp .ne 16, 3) := by decide +kernel
theorem d_Mo_tryAll_166 : decode c_Mo_tryAll 166 = .ok (.iload 5, 2) := by decide +kernel
theorem d_Mo_tryAll_168 : decode c_Mo_tryAll 168 = .ok (.ifCond .le 7, 3) := by decide +kernel
theorem d_Mo_tryAll_171 : decode c_Mo_tryAll 171 = .ok (.iconst 1, 1) := by decide +kernel
theorem d_Mo_tryAll_172 : decode c_Mo_tryAll 172 = .ok (.goto 24, 3) := by decide +kernel
theorem d_Mo_tryAll_175 : decode c_Mo_tryAll 175 = .ok (.iconst 0, 1) := by decide +kernel
theorem d_Mo_tryAll_176 : decode c_Mo_tryAll 176 = .ok (.goto 20, 3) := by decide +kernel
theorem d_Mo_tryAll_179 : decode c_Mo_tryAll 179 = .ok (.iload 5, 2) := by decide +kernel
theorem d_Mo_tryAll_181 : decode c_Mo_tryAll 181 = .ok (.aload_n 0, 1) := by decide +kernel
theorem d_Mo_tryAll_182 : decode c_Mo_tryAll 182 = .ok (.getfield 13, 3) := by decide +kernel
theorem d_Mo_tryAll_185 : decode c_Mo_tryAll 185 = .ok (.iload 4, 2) := by decide +kernel
theorem d_Mo_tryAll_187 : decode c_Mo_tryAll 187 = .ok (.iaload, 1) := by decide +kernel
theorem d_Mo_tryAll_188 : decode c_Mo_tryAll 188 = .ok (.if_icmp .lt 7, 3) := by decide +kernel
theorem d_Mo_tryAll_191 : decode c_Mo_tryAll 191 = .ok (.iconst 1, 1) := by decide +kernel
theorem d_Mo_tryAll_192 : decode c_Mo_tryAll 192 = .ok (.goto 4, 3) := by decide +kernel
theorem d_Mo_tryAll_195 : decode c_Mo_tryAll 195 = .ok (.iconst 0, 1) := by decide +kernel
theorem d_Mo_tryAll_196 : decode c_Mo_tryAll 196 = .ok (.istore 6, 2) := by decide +kernel
theorem d_Mo_tryAll_198 : decode c_Mo_tryAll 198 = .ok (.aload_n 0, 1) := by decide +kernel
theorem d_Mo_tryAll_199 : decode c_Mo_tryAll 199 = .ok (.getfield 53, 3) := by decide +kernel
theorem d_Mo_tryAll_202 : decode c_Mo_tryAll 202 = .ok (.iload 4, 2) := by decide +kernel
theorem d_Mo_tryAll_204 : decode c_Mo_tryAll 204 = .ok (.iload 6, 2) := by decide +kernel
theorem d_Mo_tryAll_206 : decode c_Mo_tryAll 206 = .ok (.ifCond .eq 7, 3) := by decide +kernel
theorem d_Mo_tryAll_209 : decode c_Mo_tryAll 209 = .ok (.iconst 1, 1) := by decide +kernel
theorem d_Mo_tryAll_210 : decode c_Mo_tryAll 210 = .ok (.goto 4, 3) := by decide +kernel
theorem d_Mo_tryAll_213 : decode c_Mo_tryAll 213 = .ok (.iconst 0, 1) := by decide +kernel
theorem d_Mo_tryAll_214 : decode c_Mo_tryAll 214 = .ok (.iastore, 1) := by decide +kernel
theorem d_Mo_tryAll_215 : decode c_Mo_tryAll 215 = .ok (.iinc 3 1, 3) := by decide +kernel
theorem d_Mo_tryAll_218 : decode c_Mo_tryAll 218 = .ok (.goto (-157), 3) := by decide +kernel
theorem d_Mo_tryAll_221 : decode c_Mo_tryAll 221 = .ok (.aload_n 0, 1) := by decide +kernel
theorem d_Mo_tryAll_222 : decode c_Mo_tryAll 222 = .ok (.getfield 56, 3) := by decide +kernel
theorem d_Mo_tryAll_225 : decode c_Mo_tryAll 225 = .ok (.iload_n 2, 1) := by decide +kernel
theorem d_Mo_tryAll_226 : decode c_Mo_tryAll 226 = .ok (.aload_n 0, 1) := by decide +kernel
theorem d_Mo_tryAll_227 : decode c_Mo_tryAll 227 = .ok (.getfield 53, 3) := by decide +kernel
theorem d_Mo_tryAll_230 : decode c_Mo_tryAll 230 = .ok (.iload_n 1, 1) := by decide +kernel
theorem d_Mo_tryAll_231 : decode c_Mo_tryAll 231 = .ok (.iaload, 1) := by decide +kernel
theorem d_Mo_tryAll_232 : decode c_Mo_tryAll 232 = .ok (.iconst 1, 1) := by decide +kernel
theorem d_Mo_tryAll_233 : decode c_Mo_tryAll 233 = .ok (.if_icmp .ne 7, 3) := by decide +kernel
theorem d_Mo_tryAll_236 : decode c_Mo_tryAll 236 = .ok (.iconst 1, 1) := by decide +kernel
theorem d_Mo_tryAll_237 : decode c_Mo_tryAll 237 = .ok (.goto 4, 3) := by decide +kernel
theorem d_Mo_tryAll_240 : decode c_Mo_tryAll 240 = .ok (.iconst 0, 1) := by decide +kernel
theorem d_Mo_tryAll_241 : decode c_Mo_tryAll 241 = .ok (.bastore, 1) := by decide +kernel
theorem d_Mo_tryAll_242 : decode c_Mo_tryAll 242 = .ok (.iinc 2 1, 3) := by decide +kernel
theorem d_Mo_tryAll_245 : decode c_Mo_tryAll 245 = .ok (.goto (-238), 3) := by decide +kernel
theorem d_Mo_tryAll_248 : decode c_Mo_tryAll 248 = .ok (.return_, 1) := by decide +kernel
theorem d_Mo_ones_0 : decode c_Mo_ones 0 = .ok (.iconst 0, 1) := by decide +kernel
theorem d_Mo_ones_1 : decode c_Mo_ones 1 = .ok (.istore_n 1, 1) := by decide +kernel
theorem d_Mo_ones_2 : decode c_Mo_ones 2 = .ok (.iconst 0, 1) := by decide +kernel
theorem d_Mo_ones_3 : decode c_Mo_ones 3 = .ok (.istore_n 2, 1) := by decide +kernel
theorem d_Mo_ones_4 : decode c_Mo_ones 4 = .ok (.iload_n 2, 1) := by decide +kernel
theorem d_Mo_ones_5 : decode c_Mo_ones 5 = .ok (.bipush 12, 2) := by decide +kernel
theorem d_Mo_ones_7 : decode c_Mo_ones 7 = .ok (.if_icmp .ge 17, 3) := by decide +kernel
theorem d_Mo_ones_10 : decode c_Mo_ones 10 = .ok (.iload_n 1, 1) := by decide +kernel
theorem d_Mo_ones_11 : decode c_Mo_ones 11 = .ok (.iload_n 0, 1) := by decide +kernel
theorem d_Mo_ones_12 : decode c_Mo_ones 12 = .ok (.iload_n 2, 1) := by decide +kernel
theorem d_Mo_ones_13 : decode c_Mo_ones 13 = .ok (.ishr, 1) := by decide +kernel
theorem d_Mo_ones_14 : decode c_Mo_ones 14 = .ok (.iconst 1, 1) := by decide +kernel
theorem d_Mo_ones_15 : decode c_Mo_ones 15 = .ok (.iand, 1) := by decide +kernel
theorem d_Mo_ones_16 : decode c_Mo_ones 16 = .ok (.iadd, 1) := by decide +kernel
theorem d_Mo_ones_17 : decode c_Mo_ones 17 = .ok (.istore_n 1, 1) := by decide +kernel
theorem d_Mo_ones_18 : decode c_Mo_ones 18 = .ok (.iinc 2 1, 3) := by decide +kernel
theorem d_Mo_ones_21 : decode c_Mo_ones 21 = .ok (.goto (-17), 3) := by decide +kernel
theorem d_Mo_ones_24 : decode c_Mo_ones 24 = .ok (.iload_n 1, 1) := by decide +kernel
theorem d_Mo_ones_25 : decode c_Mo_ones 25 = .ok (.ireturn, 1) := by decide +kernel
theorem d_Mo_isMinimal_0 : decode c_Mo_isMinimal 0 = .ok (.aload_n 0, 1) := by decide +kernel
theorem d_Mo_isMinimal_1 : decode c_Mo_isMinimal 1 = .ok (.getfield 56, 3) := by decide +kernel
theorem d_Mo_isMinimal_4 : decode c_Mo_isMinimal 4 = .ok (.iload_n 1, 1) := by decide +kernel
theorem d_Mo_isMinimal_5 : decode c_Mo_isMinimal 5 = .ok (.baload, 1) := by decide +kernel
theorem d_Mo_isMinimal_6 : decode c_Mo_isMinimal 6 = .ok (.istore_n 2, 1) := by decide +kernel
theorem d_Mo_isMinimal_7 : decode c_Mo_isMinimal 7 = .ok (.iconst 0, 1) := by decide +kernel
theorem d_Mo_isMinimal_8 : decode c_Mo_isMinimal 8 = .ok (.istore_n 3, 1) := by decide +kernel
theorem d_Mo_isMinimal_9 : decode c_Mo_isMinimal 9 = .ok (.iload_n 3, 1) := by decide +kernel
theorem d_Mo_isMinimal_10 : decode c_Mo_isMinimal 10 = .ok (.aload_n 0, 1) := by decide +kernel
theorem d_Mo_isMinimal_11 : decode c_Mo_isMinimal 11 = .ok (.getfield 110, 3) := by decide +kernel
theorem d_Mo_isMinimal_14 : decode c_Mo_isMinimal 14 = .ok (.if_icmp .ge 44, 3) := by decide +kernel
theorem d_Mo_isMinimal_17 : decode c_Mo_isMinimal 17 = .ok (.iload_n 2, 1) := by decide +kernel
theorem d_Mo_isMinimal_18 : decode c_Mo_isMinimal 18 = .ok (.ifCond .eq 32, 3) := by decide +kernel
theorem d_Mo_isMinimal_21 : decode c_Mo_isMinimal 21 = .ok (.iload_n 1, 1) := by decide +kernel
theorem d_Mo_isMinimal_22 : decode c_Mo_isMinimal 22 = .ok (.aload_n 0, 1) := by decide +kernel
theorem d_Mo_isMinimal_23 : decode c_Mo_isMinimal 23 = .ok (.iload_n 3, 1) := by decide +kernel
theorem d_Mo_isMinimal_24 : decode c_Mo_isMinimal 24 = .ok (.invokevirtual 122, 3) := by decide +kernel
theorem d_Mo_isMinimal_27 : decode c_Mo_isMinimal 27 = .ok (.iand, 1) := by decide +kernel
theorem d_Mo_isMinimal_28 : decode c_Mo_isMinimal 28 = .ok (.ifCond .eq 18, 3) := by decide +kernel
theorem d_Mo_isMinimal_31 : decode c_Mo_isMinimal 31 = .ok (.aload_n 0, 1) := by decide +kernel
theorem d_Mo_isMinimal_32 : decode c_Mo_isMinimal 32 = .ok (.getfield 56, 3) := by decide +kernel
theorem d_Mo_isMinimal_35 : decode c_Mo_isMinimal 35 = .ok (.iload_n 1, 1) := by decide +kernel
theorem d_Mo_isMinimal_36 : decode c_Mo_isMinimal 36 = .ok (.aload_n 0, 1) := by decide +kernel
theorem d_Mo_isMinimal_37 : decode c_Mo_isMinimal 37 = .ok (.iload_n 3, 1) := by decide +kernel
theorem d_Mo_isMinimal_38 : decode c_Mo_isMinimal 38 = .ok (.invokevirtual 122, 3) := by decide +kernel
theorem d_Mo_isMinimal_41 : decode c_Mo_isMinimal 41 = .ok (.ixor, 1) := by decide +kernel
theorem d_Mo_isMinimal_42 : decode c_Mo_isMinimal 42 = .ok (.baload, 1) := by decide +kernel
theorem d_Mo_isMinimal_43 : decode c_Mo_isMinimal 43 = .ok (.ifCond .ne 7, 3) := by decide +kernel
theorem d_Mo_isMinimal_46 : decode c_Mo_isMinimal 46 = .ok (.iconst 1, 1) := by decide +kernel
theorem d_Mo_isMinimal_47 : decode c_Mo_isMinimal 47 = .ok (.goto 4, 3) := by decide +kernel
theorem d_Mo_isMinimal_50 : decode c_Mo_isMinimal 50 = .ok (.iconst 0, 1) := by decide +kernel
theorem d_Mo_isMinimal_51 : decode c_Mo_isMinimal 51 = .ok (.istore_n 2, 1) := by decide +kernel
theorem d_Mo_isMinimal_52 : decode c_Mo_isMinimal 52 = .ok (.iinc 3 1, 3) := by decide +kernel
theorem d_Mo_isMinimal_55 : decode c_Mo_isMinimal 55 = .ok (.goto (-46), 3) := by decide +kernel
theorem d_Mo_isMinimal_58 : decode c_Mo_isMinimal 58 = .ok (.iload_n 2, 1) := by decide +kernel
theorem d_Mo_isMinimal_59 : decode c_Mo_isMinimal 59 = .ok (.ireturn, 1) := by decide +kernel
theorem d_Mo_cuts_0 : decode c_Mo_cuts 0 = .ok (.aload_n 0, 1) := by decide +kernel
theorem d_Mo_cuts_1 : decode c_Mo_cuts 1 = .ok (.iconst 0, 1) := by decide +kernel
theorem d_Mo_cuts_2 : decode c_Mo_cuts 2 = .ok (.putfield 81, 3) := by decide +kernel
theorem d_Mo_cuts_5 : decode c_Mo_cuts 5 = .ok (.aload_n 0, 1) := by decide +kernel
theorem d_Mo_cuts_6 : decode c_Mo_cuts 6 = .ok (.iload_n 1, 1) := by decide +kernel
theorem d_Mo_cuts_7 : decode c_Mo_cuts 7 = .ok (.invokevirtual 102, 3) := by decide +kernel
theorem d_Mo_cuts_10 : decode c_Mo_cuts 10 = .ok (.ifCond .eq 9, 3) := by decide +kernel
theorem d_Mo_cuts_13 : decode c_Mo_cuts 13 = .ok (.lload_n 2, 1) := by decide +kernel
theorem d_Mo_cuts_14 : decode c_Mo_cuts 14 = .ok (.lconst 0, 1) := by decide +kernel
theorem d_Mo_cuts_15 : decode c_Mo_cuts 15 = .ok (.lcmp, 1) := by decide +kernel
theorem d_Mo_cuts_16 : decode c_Mo_cuts 16 = .ok (.ifCond .ge 6, 3) := by decide +kernel
theorem d_Mo_cuts_19 : decode c_Mo_cuts 19 = .ok (.bipush (-2), 2) := by decide +kernel
theorem d_Mo_cuts_21 : decode c_Mo_cuts 21 = .ok (.ireturn, 1) := by decide +kernel
theorem d_Mo_cuts_22 : decode c_Mo_cuts 22 = .ok (.aload_n 0, 1) := by decide +kernel
theorem d_Mo_cuts_23 : decode c_Mo_cuts 23 = .ok (.iload_n 1, 1) := by decide +kernel
theorem d_Mo_cuts_24 : decode c_Mo_cuts 24 = .ok (.invokevirtual 119, 3) := by decide +kernel
theorem d_Mo_cuts_27 : decode c_Mo_cuts 27 = .ok (.aload_n 0, 1) := by decide +kernel
theorem d_Mo_cuts_28 : decode c_Mo_cuts 28 = .ok (.iconst 0, 1) := by decide +kernel
theorem d_Mo_cuts_29 : decode c_Mo_cuts 29 = .ok (.putfield 126, 3) := by decide +kernel
theorem d_Mo_cuts_32 : decode c_Mo_cuts 32 = .ok (.aload_n 0, 1) := by decide +kernel
theorem d_Mo_cuts_33 : decode c_Mo_cuts 33 = .ok (.aload_n 0, 1) := by decide +kernel
theorem d_Mo_cuts_34 : decode c_Mo_cuts 34 = .ok (.getfield 110, 3) := by decide +kernel
theorem d_Mo_cuts_37 : decode c_Mo_cuts 37 = .ok (.putfield 129, 3) := by decide +kernel
theorem d_Mo_cuts_40 : decode c_Mo_cuts 40 = .ok (.lconst 1, 1) := by decide +kernel
theorem d_Mo_cuts_41 : decode c_Mo_cuts 41 = .ok (.aload_n 0, 1) := by decide +kernel
theorem d_Mo_cuts_42 : decode c_Mo_cuts 42 = .ok (.getfield 110, 3) := by decide +kernel
theorem d_Mo_cuts_45 : decode c_Mo_cuts 45 = .ok (.lshl, 1) := by decide +kernel
theorem d_Mo_cuts_46 : decode c_Mo_cuts 46 = .ok (.lload_n 2, 1) := by decide +kernel
theorem d_Mo_cuts_47 : decode c_Mo_cuts 47 = .ok (.lcmp, 1) := by decide +kernel
theorem d_Mo_cuts_48 : decode c_Mo_cuts 48 = .ok (.ifCond .le 5, 3) := by decide +kernel
theorem d_Mo_cuts_51 : decode c_Mo_cuts 51 = .ok (.iconst (-1), 1) := by decide +kernel
theorem d_Mo_cuts_52 : decode c_Mo_cuts 52 = .ok (.ireturn, 1) := by decide +kernel
theorem d_Mo_cuts_53 : decode c_Mo_cuts 53 = .ok (.aload_n 0, 1) := by decide +kernel
theorem d_Mo_cuts_54 : decode c_Mo_cuts 54 = .ok (.iload_n 1, 1) := by decide +kernel
theorem d_Mo_cuts_55 : decode c_Mo_cuts 55 = .ok (.invokevirtual 132, 3) := by decide +kernel
theorem d_Mo_cuts_58 : decode c_Mo_cuts 58 = .ok (.iconst 0, 1) := by decide +kernel
theorem d_Mo_cuts_59 : decode c_Mo_cuts 59 = .ok (.istore 4, 2) := by decide +kernel
theorem d_Mo_cuts_61 : decode c_Mo_cuts 61 = .ok (.iload 4, 2) := by decide +kernel
theorem d_Mo_cuts_63 : decode c_Mo_cuts 63 = .ok (.aload_n 0, 1) := by decide +kernel
theorem d_Mo_cuts_64 : decode c_Mo_cuts 64 = .ok (.getfield 110, 3) := by decide +kernel
theorem d_Mo_cuts_67 : decode c_Mo_cuts 67 = .ok (.if_icmp .ge 23, 3) := by decide +kernel
theorem d_Mo_cuts_70 : decode c_Mo_cuts 70 = .ok (.aload_n 0, 1) := by decide +kernel
theorem d_Mo_cuts_71 : decode c_Mo_cuts 71 = .ok (.getfield 66, 3) := by decide +kernel
theorem d_Mo_cuts_74 : decode c_Mo_cuts 74 = .ok (.iload 4, 2) := by decide +kernel
theorem d_Mo_cuts_76 : decode c_Mo_cuts 76 = .ok (.aload_n 0, 1) := by decide +kernel
theorem d_Mo_cuts_77 : decode c_Mo_cuts 77 = .ok (.getfield 44, 3) := by decide +kernel
theorem d_Mo_cuts_80 : decode c_Mo_cuts 80 = .ok (.iload 4, 2) := by decide +kernel
theorem d_Mo_cuts_82 : decode c_Mo_cuts 82 = .ok (.iaload, 1) := by decide +kernel
theorem d_Mo_cuts_83 : decode c_Mo_cuts 83 = .ok (.iastore, 1) := by decide +kernel
theorem d_Mo_cuts_84 : decode c_Mo_cuts 84 = .ok (.iinc 4 1, 3) := by decide +kernel
theorem d_Mo_cuts_87 : decode c_Mo_cuts 87 = .ok (.goto (-26), 3) := by decide +kernel
theorem d_Mo_cuts_90 : decode c_Mo_cuts 90 = .ok (.iconst 0, 1) := by decide +kernel
theorem d_Mo_cuts_91 : decode c_Mo_cuts 91 = .ok (.istore 4, 2) := by decide +kernel
theorem d_Mo_cuts_93 : decode c_Mo_cuts 93 = .ok (.iload 4, 2) := by decide +kernel
theorem d_Mo_cuts_95 : decode c_Mo_cuts 95 = .ok (.aload_n 0, 1) := by decide +kernel
theorem d_Mo_cuts_96 : decode c_Mo_cuts 96 = .ok (.getfield 110, 3) := by decide +kernel
theorem d_Mo_cuts_99 : decode c_Mo_cuts 99 = .ok (.if_icmp .gt 70, 3) := by decide +kernel
theorem d_Mo_cuts_102 : decode c_Mo_cuts 102 = .ok (.iconst 1, 1) := by decide +kernel
theorem d_Mo_cuts_103 : decode c_Mo_cuts 103 = .ok (.aload_n 0, 1) := by decide +kernel
theorem d_Mo_cuts_104 : decode c_Mo_cuts 104 = .ok (.getfield 110, 3) := by decide +kernel
theorem d_Mo_cuts_107 : decode c_Mo_cuts 107 = .ok (.ishl, 1) := by decide +kernel
theorem d_Mo_cuts_108 : decode c_Mo_cuts 108 = .ok (.iconst 1, 1) := by decide +kernel
theorem d_Mo_cuts_109 : decode c_Mo_cuts 109 = .ok (.isub, 1) := by decide +kernel
theorem d_Mo_cuts_110 : decode c_Mo_cuts 110 = .ok (.istore 5, 2) := by decide +kernel
theorem d_Mo_cuts_112 : decode c_Mo_cuts 112 = .ok (.iload 5, 2) := by decide +kernel
theorem d_Mo_cuts_114 : decode c_Mo_cuts 114 = .ok (.ifCond .lt 49, 3) := by decide +kernel
theorem d_Mo_cuts_117 : decode c_Mo_cuts 117 = .ok (.iload 5, 2) := by decide +kernel
theorem d_Mo_cuts_119 : decode c_Mo_cuts 119 = .ok (.invokestatic 135, 3) := by decide +kernel
theorem d_Mo_cuts_122 : decode c_Mo_cuts 122 = .ok (.iload 4, 2) := by decide +kernel
theorem d_Mo_cuts_124 : decode c_Mo_cuts 124 = .ok (.if_icmp .ne 33, 3) := by decide +kernel
theorem d_Mo_cuts_127 : decode c_Mo_cuts 127 = .ok (.aload_n 0, 1) := by decide +kernel
theorem d_Mo_cuts_128 : decode c_Mo_cuts 128 = .ok (.iload 5, 2) := by decide +kernel
theorem d_Mo_cuts_130 : decode c_Mo_cuts 130 = .ok (.invokevirtual 138, 3) := by decide +kernel
theorem d_Mo_cuts_133 : decode c_Mo_cuts 133 = .ok (.ifCond .eq 24, 3) := by decide +kernel
theorem d_Mo_cuts_136 : decode c_Mo_cuts 136 = .ok (.aload_n 0, 1) := by decide +kernel
theorem d_Mo_cuts_137 : decode c_Mo_cuts 137 = .ok (.getfield 63, 3) := by decide +kernel
theorem d_Mo_cuts_140 : decode c_Mo_cuts 140 = .ok (.aload_n 0, 1) := by decide +kernel
theorem d_Mo_cuts_141 : decode c_Mo_cuts 141 = .ok (.getfield 126, 3) := by decide +kernel
theorem d_Mo_cuts_144 : decode c_Mo_cuts 144 = .ok (.iload 5, 2) := by decide +kernel
theorem d_Mo_cuts_146 : decode c_Mo_cuts 146 = .ok (.iastore, 1) := by decide +kernel
theorem d_Mo_cuts_147 : decode c_Mo_cuts 147 = .ok (.aload_n 0, 1) := by decide +kernel
theorem d_Mo_cuts_148 : decode c_Mo_cuts 148 = .ok (.dup, 1) := by decide +kernel
theorem d_Mo_cuts_149 : decode c_Mo_cuts 149 = .ok (.getfield 126, 3) := by decide +kernel
theorem d_Mo_cuts_152 : decode c_Mo_cuts 152 = .ok (.iconst 1, 1) := by decide +kernel
theorem d_Mo_cuts_153 : decode c_Mo_cuts 153 = .ok (.iadd, 1) := by decide +kernel
theorem d_Mo_cuts_154 : decode c_Mo_cuts 154 = .ok (.putfield 126, 3) := by decide +kernel
theorem d_Mo_cuts_157 : decode c_Mo_cuts 157 = .ok (.iinc 5 (-1), 3) := by decide +kernel
theorem d_Mo_cuts_160 : decode c_Mo_cuts 160 = .ok (.goto (-48), 3) := by decide +kernel
theorem d_Mo_cuts_163 : decode c_Mo_cuts 163 = .ok (.iinc 4 1, 3) := by decide +kernel
theorem d_Mo_cuts_166 : decode c_Mo_cuts 166 = .ok (.goto (-73), 3) := by decide +kernel
theorem d_Mo_cuts_169 : decode c_Mo_cuts 169 = .ok (.aload_n 0, 1) := by decide +kernel
theorem d_Mo_cuts_170 : decode c_Mo_cuts 170 = .ok (.getfield 126, 3) := by decide +kernel
theorem d_Mo_cuts_173 : decode c_Mo_cuts 173 = .ok (.ireturn, 1) := by decide +kernel
theorem d_Mo_cut_0 : decode c_Mo_cut 0 = .ok (.aload_n 0, 1) := by decide +kernel
theorem d_Mo_cut_1 : decode c_Mo_cut 1 = .ok (.iconst 0, 1) := by decide +kernel
theorem d_Mo_cut_2 : decode c_Mo_cut 2 = .ok (.putfield 81, 3) := by decide +kernel
theorem d_Mo_cut_5 : decode c_Mo_cut 5 = .ok (.iload_n 1, 1) := by decide +kernel
theorem d_Mo_cut_6 : decode c_Mo_cut 6 = .ok (.i2l, 1) := by decide +kernel
theorem d_Mo_cut_7 : decode c_Mo_cut 7 = .ok (.lconst 0, 1) := by decide +kernel
theorem d_Mo_cut_8 : decode c_Mo_cut 8 = .ok (.aload_n 0, 1) := by decide +kernel
theorem d_Mo_cut_9 : decode c_Mo_cut 9 = .ok (.getfield 126, 3) := by decide +kernel
theorem d_Mo_cut_12 : decode c_Mo_cut 12 = .ok (.iconst 1, 1) := by decide +kernel
theorem d_Mo_cut_13 : decode c_Mo_cut 13 = .ok (.isub, 1) := by decide +kernel
theorem d_Mo_cut_14 : decode c_Mo_cut 14 = .ok (.i2l, 1) := by decide +kernel
theorem d_Mo_cut_15 : decode c_Mo_cut 15 = .ok (.invokestatic 88, 3) := by decide +kernel
theorem d_Mo_cut_18 : decode c_Mo_cut 18 = .ok (.ifCond .ne 5, 3) := by decide +kernel
theorem d_Mo_cut_21 : decode c_Mo_cut 21 = .ok (.iconst 0, 1) := by decide +kernel
theorem d_Mo_cut_22 : decode c_Mo_cut 22 = .ok (.ireturn, 1) := by decide +kernel
theorem d_Mo_cut_23 : decode c_Mo_cut 23 = .ok (.iconst 0, 1) := by decide +kernel
theorem d_Mo_cut_24 : decode c_Mo_cut 24 = .ok (.istore_n 3, 1) := by decide +kernel
theorem d_Mo_cut_25 : decode c_Mo_cut 25 = .ok (.iconst 0, 1) := by decide +kernel
theorem d_Mo_cut_26 : decode c_Mo_cut 26 = .ok (.istore 4, 2) := by decide +kernel
theorem d_Mo_cut_28 : decode c_Mo_cut 28 = .ok (.iload 4, 2) := by decide +kernel
theorem d_Mo_cut_30 : decode c_Mo_cut 30 = .ok (.aload_n 0, 1) := by decide +kernel
theorem d_Mo_cut_31 : decode c_Mo_cut 31 = .ok (.getfield 129, 3) := by decide +kernel
theorem d_Mo_cut_34 : decode c_Mo_cut 34 = .ok (.if_icmp .ge 47, 3) := by decide +kernel
theorem d_Mo_cut_37 : decode c_Mo_cut 37 = .ok (.aload_n 0, 1) := by decide +kernel
theorem d_Mo_cut_38 : decode c_Mo_cut 38 = .ok (.getfield 63, 3) := by decide +kernel
theorem d_Mo_cut_41 : decode c_Mo_cut 41 = .ok (.iload_n 1, 1) := by decide +kernel
theorem d_Mo_cut_42 : decode c_Mo_cut 42 = .ok (.iaload, 1) := by decide +kernel
theorem d_Mo_cut_43 : decode c_Mo_cut 43 = .ok (.aload_n 0, 1) := by decide +kernel
theorem d_Mo_cut_44 : decode c_Mo_cut 44 = .ok (.getfield 129, 3) := by decide +kernel
theorem d_Mo_cut_47 : decode c_Mo_cut 47 = .ok (.iconst 1, 1) := by decide +kernel
theorem d_Mo_cut_48 : decode c_Mo_cut 48 = .ok (.isub, 1) := by decide +kernel
theorem d_Mo_cut_49 : decode c_Mo_cut 49 = .ok (.iload 4, 2) := by decide +kernel
theorem d_Mo_cut_51 : decode c_Mo_cut 51 = .ok (.isub, 1) := by decide +kernel
theorem d_Mo_cut_52 : decode c_Mo_cut 52 = .ok (.ishr, 1) := by decide +kernel
theorem d_Mo_cut_53 : decode c_Mo_cut 53 = .ok (.iconst 1, 1) := by decide +kernel
theorem d_Mo_cut_54 : decode c_Mo_cut 54 = .ok (.iand, 1) := by decide +kernel
theorem d_Mo_cut_55 : decode c_Mo_cut 55 = .ok (.iconst 1, 1) := by decide +kernel
theorem d_Mo_cut_56 : decode c_Mo_cut 56 = .ok (.if_icmp .ne 19, 3) := by decide +kernel
theorem d_Mo_cut_59 : decode c_Mo_cut 59 = .ok (.iload_n 3, 1) := by decide +kernel
theorem d_Mo_cut_60 : decode c_Mo_cut 60 = .ok (.iload_n 2, 1) := by decide +kernel
theorem d_Mo_cut_61 : decode c_Mo_cut 61 = .ok (.if_icmp .ne 11, 3) := by decide +kernel
theorem d_Mo_cut_64 : decode c_Mo_cut 64 = .ok (.aload_n 0, 1) := by decide +kernel
theorem d_Mo_cut_65 : decode c_Mo_cut 65 = .ok (.getfield 66, 3) := by decide +kernel
theorem d_Mo_cut_68 : decode c_Mo_cut 68 = .ok (.iload 4, 2) := by decide +kernel
theorem d_Mo_cut_70 : decode c_Mo_cut 70 = .ok (.iaload, 1) := by decide +kernel
theorem d_Mo_cut_71 : decode c_Mo_cut 71 = .ok (.ireturn, 1) := by decide +kernel
theorem d_Mo_cut_72 : decode c_Mo_cut 72 = .ok (.iinc 3 1, 3) := by decide +kernel
theorem d_Mo_cut_75 : decode c_Mo_cut 75 = .ok (.iinc 4 1, 3) := by decide +kernel
theorem d_Mo_cut_78 : decode c_Mo_cut 78 = .ok (.goto (-50), 3) := by decide +kernel
theorem d_Mo_cut_81 : decode c_Mo_cut 81 = .ok (.iconst 0, 1) := by decide +kernel
theorem d_Mo_cut_82 : decode c_Mo_cut 82 = .ok (.ireturn, 1) := by decide +kernel
theorem d_Mo_plain_0 : decode c_Mo_plain 0 = .ok (.aload_n 0, 1) := by decide +kernel
theorem d_Mo_plain_1 : decode c_Mo_plain 1 = .ok (.iconst 0, 1) := by decide +kernel
theorem d_Mo_plain_2 : decode c_Mo_plain 2 = .ok (.putfield 81, 3) := by decide +kernel
theorem d_Mo_plain_5 : decode c_Mo_plain 5 = .ok (.aload_n 0, 1) := by decide +kernel
theorem d_Mo_plain_6 : decode c_Mo_plain 6 = .ok (.iload_n 1, 1) := by decide +kernel
theorem d_Mo_plain_7 : decode c_Mo_plain 7 = .ok (.invokevirtual 102, 3) := by decide +kernel
theorem d_Mo_plain_10 : decode c_Mo_plain 10 = .ok (.ifCond .ne 6, 3) := by decide +kernel
theorem d_Mo_plain_13 : decode c_Mo_plain 13 = .ok (.bipush (-2), 2) := by decide +kernel
theorem d_Mo_plain_15 : decode c_Mo_plain 15 = .ok (.ireturn, 1) := by decide +kernel
theorem d_Mo_plain_16 : decode c_Mo_plain 16 = .ok (.aload_n 0, 1) := by decide +kernel
theorem d_Mo_plain_17 : decode c_Mo_plain 17 = .ok (.iload_n 1, 1) := by decide +kernel
theorem d_Mo_plain_18 : decode c_Mo_plain 18 = .ok (.invokevirtual 132, 3) := by decide +kernel
theorem d_Mo_plain_21 : decode c_Mo_plain 21 = .ok (.iconst 0, 1) := by decide +kernel
theorem d_Mo_plain_22 : decode c_Mo_plain 22 = .ok (.istore_n 2, 1) := by decide +kernel
theorem d_Mo_plain_23 : decode c_Mo_plain 23 = .ok (.iconst 0, 1) := by decide +kernel
theorem d_Mo_plain_24 : decode c_Mo_plain 24 = .ok (.istore_n 3, 1) := by decide +kernel
theorem d_Mo_plain_25 : decode c_Mo_plain 25 = .ok (.iload_n 3, 1) := by decide +kernel
theorem d_Mo_plain_26 : decode c_Mo_plain 26 = .ok (.iconst 1, 1) := by decide +kernel
theorem d_Mo_plain_27 : decode c_Mo_plain 27 = .ok (.aload_n 0, 1) := by decide +kernel
theorem d_Mo_plain_28 : decode c_Mo_plain 28 = .ok (.getfield 110, 3) := by decide +kernel
theorem d_Mo_plain_31 : decode c_Mo_plain 31 = .ok (.ishl, 1) := by decide +kernel
theorem d_Mo_plain_32 : decode c_Mo_plain 32 = .ok (.if_icmp .ge 26, 3) := by decide +kernel
theorem d_Mo_plain_35 : decode c_Mo_plain 35 = .ok (.aload_n 0, 1) := by decide +kernel
theorem d_Mo_plain_36 : decode c_Mo_plain 36 = .ok (.getfield 56, 3) := by decide +kernel
theorem d_Mo_plain_39 : decode c_Mo_plain 39 = .ok (.iload_n 3, 1) := by decide +kernel
theorem d_Mo_plain_40 : decode c_Mo_plain 40 = .ok (.baload, 1) := by decide +kernel
theorem d_Mo_plain_41 : decode c_Mo_plain 41 = .ok (.ifCond .eq 9, 3) := by decide +kernel
theorem d_Mo_plain_44 : decode c_Mo_plain 44 = .ok (.iload_n 2, 1) := by decide +kernel
theorem d_Mo_plain_45 : decode c_Mo_plain 45 = .ok (.iconst 1, 1) := by decide +kernel
theorem d_Mo_plain_46 : decode c_Mo_plain 46 = .ok (.iadd, 1) := by decide +kernel
theorem d_Mo_plain_47 : decode c_Mo_plain 47 = .ok (.goto 4, 3) := by decide +kernel
theorem d_Mo_plain_50 : decode c_Mo_plain 50 = .ok (.iload_n 2, 1) := by decide +kernel
theorem d_Mo_plain_51 : decode c_Mo_plain 51 = .ok (.istore_n 2, 1) := by decide +kernel
theorem d_Mo_plain_52 : decode c_Mo_plain 52 = .ok (.iinc 3 1, 3) := by decide +kernel
theorem d_Mo_plain_55 : decode c_Mo_plain 55 = .ok (.goto (-30), 3) := by decide +kernel
theorem d_Mo_plain_58 : decode c_Mo_plain 58 = .ok (.iload_n 2, 1) := by decide +kernel
theorem d_Mo_plain_59 : decode c_Mo_plain 59 = .ok (.ireturn, 1) := by decide +kernel
