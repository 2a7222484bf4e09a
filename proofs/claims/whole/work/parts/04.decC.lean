theorem d_Od_init_0 : decode c_Od_init 0 = .ok (.aload_n 0, 1) := by decide +kernel
theorem d_Od_init_1 : decode c_Od_init 1 = .ok (.invokespecial 3, 3) := by decide +kernel
theorem d_Od_init_4 : decode c_Od_init 4 = .ok (.aload_n 0, 1) := by decide +kernel
theorem d_Od_init_5 : decode c_Od_init 5 = .ok (.new 9, 3) := by decide +kernel
theorem d_Od_init_8 : decode c_Od_init 8 = .ok (.dup, 1) := by decide +kernel
theorem d_Od_init_9 : decode c_Od_init 9 = .ok (.invokespecial 11, 3) := by decide +kernel
theorem d_Od_init_12 : decode c_Od_init 12 = .ok (.putfield 12, 3) := by decide +kernel
theorem d_Od_init_15 : decode c_Od_init 15 = .ok (.aload_n 0, 1) := by decide +kernel
theorem d_Od_init_16 : decode c_Od_init 16 = .ok (.iconst 0, 1) := by decide +kernel
theorem d_Od_init_17 : decode c_Od_init 17 = .ok (.putfield 18, 3) := by decide +kernel
theorem d_Od_init_20 : decode c_Od_init 20 = .ok (.aload_n 0, 1) := by decide +kernel
theorem d_Od_init_21 : decode c_Od_init 21 = .ok (.sipush 4096, 3) := by decide +kernel
theorem d_Od_init_24 : decode c_Od_init 24 = .ok (.newarray .long, 2) := by decide +kernel
theorem d_Od_init_26 : decode c_Od_init 26 = .ok (.putfield 22, 3) := by decide +kernel
theorem d_Od_init_29 : decode c_Od_init 29 = .ok (.aload_n 0, 1) := by decide +kernel
theorem d_Od_init_30 : decode c_Od_init 30 = .ok (.bipush 33, 2) := by decide +kernel
theorem d_Od_init_32 : decode c_Od_init 32 = .ok (.newarray .long, 2) := by decide +kernel
theorem d_Od_init_34 : decode c_Od_init 34 = .ok (.putfield 26, 3) := by decide +kernel
theorem d_Od_init_37 : decode c_Od_init 37 = .ok (.aload_n 0, 1) := by decide +kernel
theorem d_Od_init_38 : decode c_Od_init 38 = .ok (.aload_n 1, 1) := by decide +kernel
theorem d_Od_init_39 : decode c_Od_init 39 = .ok (.putfield 29, 3) := by decide +kernel
theorem d_Od_init_42 : decode c_Od_init 42 = .ok (.aload_n 0, 1) := by decide +kernel
theorem d_Od_init_43 : decode c_Od_init 43 = .ok (.aload_n 2, 1) := by decide +kernel
theorem d_Od_init_44 : decode c_Od_init 44 = .ok (.putfield 33, 3) := by decide +kernel
theorem d_Od_init_47 : decode c_Od_init 47 = .ok (.aload_n 0, 1) := by decide +kernel
theorem d_Od_init_48 : decode c_Od_init 48 = .ok (.aload_n 3, 1) := by decide +kernel
theorem d_Od_init_49 : decode c_Od_init 49 = .ok (.putfield 37, 3) := by decide +kernel
theorem d_Od_init_52 : decode c_Od_init 52 = .ok (.return_, 1) := by decide +kernel
theorem d_Od_work_0 : decode c_Od_work 0 = .ok (.aload_n 0, 1) := by decide +kernel
theorem d_Od_work_1 : decode c_Od_work 1 = .ok (.getfield 29, 3) := by decide +kernel
theorem d_Od_work_4 : decode c_Od_work 4 = .ok (.getfield 41, 3) := by decide +kernel
theorem d_Od_work_7 : decode c_Od_work 7 = .ok (.iload_n 1, 1) := by decide +kernel
theorem d_Od_work_8 : decode c_Od_work 8 = .ok (.iaload, 1) := by decide +kernel
theorem d_Od_work_9 : decode c_Od_work 9 = .ok (.istore_n 2, 1) := by decide +kernel
theorem d_Od_work_10 : decode c_Od_work 10 = .ok (.aload_n 0, 1) := by decide +kernel
theorem d_Od_work_11 : decode c_Od_work 11 = .ok (.iload_n 2, 1) := by decide +kernel
theorem d_Od_work_12 : decode c_Od_work 12 = .ok (.invokestatic 47, 3) := by decide +kernel
theorem d_Od_work_15 : decode c_Od_work 15 = .ok (.aload_n 0, 1) := by decide +kernel
theorem d_Od_work_16 : decode c_Od_work 16 = .ok (.getfield 37, 3) := by decide +kernel
theorem d_Od_work_19 : decode c_Od_work 19 = .ok (.iload_n 2, 1) := by decide +kernel
theorem d_Od_work_20 : decode c_Od_work 20 = .ok (.invokevirtual 53, 3) := by decide +kernel
theorem d_Od_work_23 : decode c_Od_work 23 = .ok (.iadd, 1) := by decide +kernel
theorem d_Od_work_24 : decode c_Od_work 24 = .ok (.bipush 14, 2) := by decide +kernel
theorem d_Od_work_26 : decode c_Od_work 26 = .ok (.if_icmp .gt 7, 3) := by decide +kernel
theorem d_Od_work_29 : decode c_Od_work 29 = .ok (.iconst 1, 1) := by decide +kernel
theorem d_Od_work_30 : decode c_Od_work 30 = .ok (.goto 4, 3) := by decide +kernel
theorem d_Od_work_33 : decode c_Od_work 33 = .ok (.iconst 0, 1) := by decide +kernel
theorem d_Od_work_34 : decode c_Od_work 34 = .ok (.putfield 18, 3) := by decide +kernel
theorem d_Od_work_37 : decode c_Od_work 37 = .ok (.aload_n 0, 1) := by decide +kernel
theorem d_Od_work_38 : decode c_Od_work 38 = .ok (.getfield 18, 3) := by decide +kernel
theorem d_Od_work_41 : decode c_Od_work 41 = .ok (.ifCond .eq 12, 3) := by decide +kernel
theorem d_Od_work_44 : decode c_Od_work 44 = .ok (.aload_n 0, 1) := by decide +kernel
theorem d_Od_work_45 : decode c_Od_work 45 = .ok (.iload_n 1, 1) := by decide +kernel
theorem d_Od_work_46 : decode c_Od_work 46 = .ok (.iload_n 2, 1) := by decide +kernel
theorem d_Od_work_47 : decode c_Od_work 47 = .ok (.invokevirtual 58, 3) := by decide +kernel
theorem d_Od_work_50 : decode c_Od_work 50 = .ok (.goto 8, 3) := by decide +kernel
theorem d_Od_work_53 : decode c_Od_work 53 = .ok (.aload_n 0, 1) := by decide +kernel
theorem d_Od_work_54 : decode c_Od_work 54 = .ok (.iload_n 1, 1) := by decide +kernel
theorem d_Od_work_55 : decode c_Od_work 55 = .ok (.invokevirtual 62, 3) := by decide +kernel
theorem d_Od_work_58 : decode c_Od_work 58 = .ok (.return_, 1) := by decide +kernel
theorem d_Od_workExactly_0 : decode c_Od_workExactly 0 = .ok (.aload_n 0, 1) := by decide +kernel
theorem d_Od_workExactly_1 : decode c_Od_workExactly 1 = .ok (.getfield 33, 3) := by decide +kernel
theorem d_Od_workExactly_4 : decode c_Od_workExactly 4 = .ok (.iload_n 1, 1) := by decide +kernel
theorem d_Od_workExactly_5 : decode c_Od_workExactly 5 = .ok (.invokevirtual 66, 3) := by decide +kernel
theorem d_Od_workExactly_8 : decode c_Od_workExactly 8 = .ok (.aload_n 0, 1) := by decide +kernel
theorem d_Od_workExactly_9 : decode c_Od_workExactly 9 = .ok (.iload_n 1, 1) := by decide +kernel
theorem d_Od_workExactly_10 : decode c_Od_workExactly 10 = .ok (.iload_n 2, 1) := by decide +kernel
theorem d_Od_workExactly_11 : decode c_Od_workExactly 11 = .ok (.invokevirtual 71, 3) := by decide +kernel
theorem d_Od_workExactly_14 : decode c_Od_workExactly 14 = .ok (.lconst 1, 1) := by decide +kernel
theorem d_Od_workExactly_15 : decode c_Od_workExactly 15 = .ok (.lstore_n 3, 1) := by decide +kernel
theorem d_Od_workExactly_16 : decode c_Od_workExactly 16 = .ok (.iconst 0, 1) := by decide +kernel
theorem d_Od_workExactly_17 : decode c_Od_workExactly 17 = .ok (.istore 5, 2) := by decide +kernel
theorem d_Od_workExactly_19 : decode c_Od_workExactly 19 = .ok (.iload 5, 2) := by decide +kernel
theorem d_Od_workExactly_21 : decode c_Od_workExactly 21 = .ok (.aload_n 0, 1) := by decide +kernel
theorem d_Od_workExactly_22 : decode c_Od_workExactly 22 = .ok (.getfield 37, 3) := by decide +kernel
theorem d_Od_workExactly_25 : decode c_Od_workExactly 25 = .ok (.getfield 74, 3) := by decide +kernel
theorem d_Od_workExactly_28 : decode c_Od_workExactly 28 = .ok (.if_icmp .ge 72, 3) := by decide +kernel
theorem d_Od_workExactly_31 : decode c_Od_workExactly 31 = .ok (.aload_n 0, 1) := by decide +kernel
theorem d_Od_workExactly_32 : decode c_Od_workExactly 32 = .ok (.getfield 37, 3) := by decide +kernel
theorem d_Od_workExactly_35 : decode c_Od_workExactly 35 = .ok (.iload 5, 2) := by decide +kernel
theorem d_Od_workExactly_37 : decode c_Od_workExactly 37 = .ok (.iload_n 2, 1) := by decide +kernel
theorem d_Od_workExactly_38 : decode c_Od_workExactly 38 = .ok (.invokevirtual 78, 3) := by decide +kernel
theorem d_Od_workExactly_41 : decode c_Od_workExactly 41 = .ok (.ifCond .eq 53, 3) := by decide +kernel
theorem d_Od_workExactly_44 : decode c_Od_workExactly 44 = .ok (.aload_n 0, 1) := by decide +kernel
theorem d_Od_workExactly_45 : decode c_Od_workExactly 45 = .ok (.iload_n 2, 1) := by decide +kernel
theorem d_Od_workExactly_46 : decode c_Od_workExactly 46 = .ok (.aload_n 0, 1) := by decide +kernel
theorem d_Od_workExactly_47 : decode c_Od_workExactly 47 = .ok (.getfield 37, 3) := by decide +kernel
theorem d_Od_workExactly_50 : decode c_Od_workExactly 50 = .ok (.getfield 82, 3) := by decide +kernel
theorem d_Od_workExactly_53 : decode c_Od_workExactly 53 = .ok (.iload 5, 2) := by decide +kernel
theorem d_Od_workExactly_55 : decode c_Od_workExactly 55 = .ok (.iaload, 1) := by decide +kernel
theorem d_Od_workExactly_56 : decode c_Od_workExactly 56 = .ok (.iload_n 2, 1) := by decide +kernel
theorem d_Od_workExactly_57 : decode c_Od_workExactly 57 = .ok (.iand, 1) := by decide +kernel
theorem d_Od_workExactly_58 : decode c_Od_workExactly 58 = .ok (.aload_n 0, 1) := by decide +kernel
theorem d_Od_workExactly_59 : decode c_Od_workExactly 59 = .ok (.getfield 37, 3) := by decide +kernel
theorem d_Od_workExactly_62 : decode c_Od_workExactly 62 = .ok (.getfield 85, 3) := by decide +kernel
theorem d_Od_workExactly_65 : decode c_Od_workExactly 65 = .ok (.iload 5, 2) := by decide +kernel
theorem d_Od_workExactly_67 : decode c_Od_workExactly 67 = .ok (.laload, 1) := by decide +kernel
theorem d_Od_workExactly_68 : decode c_Od_workExactly 68 = .ok (.aload_n 0, 1) := by decide +kernel
theorem d_Od_workExactly_69 : decode c_Od_workExactly 69 = .ok (.getfield 37, 3) := by decide +kernel
theorem d_Od_workExactly_72 : decode c_Od_workExactly 72 = .ok (.getfield 88, 3) := by decide +kernel
theorem d_Od_workExactly_75 : decode c_Od_workExactly 75 = .ok (.iload 5, 2) := by decide +kernel
theorem d_Od_workExactly_77 : decode c_Od_workExactly 77 = .ok (.laload, 1) := by decide +kernel
theorem d_Od_workExactly_78 : decode c_Od_workExactly 78 = .ok (.invokevirtual 91, 3) := by decide +kernel
theorem d_Od_workExactly_81 : decode c_Od_workExactly 81 = .ok (.lload_n 3, 1) := by decide +kernel
theorem d_Od_workExactly_82 : decode c_Od_workExactly 82 = .ok (.aload_n 0, 1) := by decide +kernel
theorem d_Od_workExactly_83 : decode c_Od_workExactly 83 = .ok (.getfield 37, 3) := by decide +kernel
theorem d_Od_workExactly_86 : decode c_Od_workExactly 86 = .ok (.getfield 88, 3) := by decide +kernel
theorem d_Od_workExactly_89 : decode c_Od_workExactly 89 = .ok (.iload 5, 2) := by decide +kernel
theorem d_Od_workExactly_91 : decode c_Od_workExactly 91 = .ok (.laload, 1) := by decide +kernel
theorem d_Od_workExactly_92 : decode c_Od_workExactly 92 = .ok (.lmul, 1) := by decide +kernel
theorem d_Od_workExactly_93 : decode c_Od_workExactly 93 = .ok (.lstore_n 3, 1) := by decide +kernel
theorem d_Od_workExactly_94 : decode c_Od_workExactly 94 = .ok (.iinc 5 1, 3) := by decide +kernel
theorem d_Od_workExactly_97 : decode c_Od_workExactly 97 = .ok (.goto (-78), 3) := by decide +kernel
theorem d_Od_workExactly_100 : decode c_Od_workExactly 100 = .ok (.iload_n 2, 1) := by decide +kernel
theorem d_Od_workExactly_101 : decode c_Od_workExactly 101 = .ok (.istore 5, 2) := by decide +kernel
theorem d_Od_workExactly_103 : decode c_Od_workExactly 103 = .ok (.iconst 0, 1) := by decide +kernel
theorem d_Od_workExactly_104 : decode c_Od_workExactly 104 = .ok (.istore 6, 2) := by decide +kernel
theorem d_Od_workExactly_106 : decode c_Od_workExactly 106 = .ok (.iload 6, 2) := by decide +kernel
theorem d_Od_workExactly_108 : decode c_Od_workExactly 108 = .ok (.aload_n 0, 1) := by decide +kernel
theorem d_Od_workExactly_109 : decode c_Od_workExactly 109 = .ok (.getfield 29, 3) := by decide +kernel
theorem d_Od_workExactly_112 : decode c_Od_workExactly 112 = .ok (.getfield 95, 3) := by decide +kernel
theorem d_Od_workExactly_115 : decode c_Od_workExactly 115 = .ok (.if_icmp .ge 88, 3) := by decide +kernel
theorem d_Od_workExactly_118 : decode c_Od_workExactly 118 = .ok (.aload_n 0, 1) := by decide +kernel
theorem d_Od_workExactly_119 : decode c_Od_workExactly 119 = .ok (.getfield 29, 3) := by decide +kernel
theorem d_Od_workExactly_122 : decode c_Od_workExactly 122 = .ok (.getfield 98, 3) := by decide +kernel
theorem d_Od_workExactly_125 : decode c_Od_workExactly 125 = .ok (.iload 6, 2) := by decide +kernel
theorem d_Od_workExactly_127 : decode c_Od_workExactly 127 = .ok (.iaload, 1) := by decide +kernel
theorem d_Od_workExactly_128 : decode c_Od_workExactly 128 = .ok (.istore 7, 2) := by decide +kernel
theorem d_Od_workExactly_130 : decode c_Od_workExactly 130 = .ok (.aload_n 0, 1) := by decide +kernel
theorem d_Od_workExactly_131 : decode c_Od_workExactly 131 = .ok (.getfield 29, 3) := by decide +kernel
theorem d_Od_workExactly_134 : decode c_Od_workExactly 134 = .ok (.getfield 41, 3) := by decide +kernel
theorem d_Od_workExactly_137 : decode c_Od_workExactly 137 = .ok (.iload 7, 2) := by decide +kernel
theorem d_Od_workExactly_139 : decode c_Od_workExactly 139 = .ok (.iaload, 1) := by decide +kernel
theorem d_Od_workExactly_140 : decode c_Od_workExactly 140 = .ok (.istore 8, 2) := by decide +kernel
theorem d_Od_workExactly_142 : decode c_Od_workExactly 142 = .ok (.iload_n 2, 1) := by decide +kernel
theorem d_Od_workExactly_143 : decode c_Od_workExactly 143 = .ok (.iload 8, 2) := by decide +kernel
theorem d_Od_workExactly_145 : decode c_Od_workExactly 145 = .ok (.iand, 1) := by decide +kernel
theorem d_Od_workExactly_146 : decode c_Od_workExactly 146 = .ok (.ifCond .eq 51, 3) := by decide +kernel
theorem d_Od_workExactly_149 : decode c_Od_workExactly 149 = .ok (.iload 5, 2) := by decide +kernel
theorem d_Od_workExactly_151 : decode c_Od_workExactly 151 = .ok (.iload 8, 2) := by decide +kernel
theorem d_Od_workExactly_153 : decode c_Od_workExactly 153 = .ok (.ixor, 1) := by decide +kernel
theorem d_Od_workExactly_154 : decode c_Od_workExactly 154 = .ok (.istore 5, 2) := by decide +kernel
theorem d_Od_workExactly_156 : decode c_Od_workExactly 156 = .ok (.aload_n 0, 1) := by decide +kernel
theorem d_Od_workExactly_157 : decode c_Od_workExactly 157 = .ok (.iload 5, 2) := by decide +kernel
theorem d_Od_workExactly_159 : decode c_Od_workExactly 159 = .ok (.iload 8, 2) := by decide +kernel
theorem d_Od_workExactly_161 : decode c_Od_workExactly 161 = .ok (.aload_n 0, 1) := by decide +kernel
theorem d_Od_workExactly_162 : decode c_Od_workExactly 162 = .ok (.getfield 29, 3) := by decide +kernel
theorem d_Od_workExactly_165 : decode c_Od_workExactly 165 = .ok (.getfield 101, 3) := by decide +kernel
theorem d_Od_workExactly_168 : decode c_Od_workExactly 168 = .ok (.iload 7, 2) := by decide +kernel
theorem d_Od_workExactly_170 : decode c_Od_workExactly 170 = .ok (.laload, 1) := by decide +kernel
theorem d_Od_workExactly_171 : decode c_Od_workExactly 171 = .ok (.aload_n 0, 1) := by decide +kernel
theorem d_Od_workExactly_172 : decode c_Od_workExactly 172 = .ok (.getfield 29, 3) := by decide +kernel
theorem d_Od_workExactly_175 : decode c_Od_workExactly 175 = .ok (.getfield 102, 3) := by decide +kernel
theorem d_Od_workExactly_178 : decode c_Od_workExactly 178 = .ok (.iload 7, 2) := by decide +kernel
theorem d_Od_workExactly_180 : decode c_Od_workExactly 180 = .ok (.laload, 1) := by decide +kernel
theorem d_Od_workExactly_181 : decode c_Od_workExactly 181 = .ok (.invokevirtual 91, 3) := by decide +kernel
theorem d_Od_workExactly_184 : decode c_Od_workExactly 184 = .ok (.lload_n 3, 1) := by decide +kernel
theorem d_Od_workExactly_185 : decode c_Od_workExactly 185 = .ok (.aload_n 0, 1) := by decide +kernel
theorem d_Od_workExactly_186 : decode c_Od_workExactly 186 = .ok (.getfield 29, 3) := by decide +kernel
theorem d_Od_workExactly_189 : decode c_Od_workExactly 189 = .ok (.getfield 102, 3) := by decide +kernel
theorem d_Od_workExactly_192 : decode c_Od_workExactly 192 = .ok (.iload 7, 2) := by decide +kernel
theorem d_Od_workExactly_194 : decode c_Od_workExactly 194 = .ok (.laload, 1) := by decide +kernel
theorem d_Od_workExactly_195 : decode c_Od_workExactly 195 = .ok (.lmul, 1) := by decide +kernel
theorem d_Od_workExactly_196 : decode c_Od_workExactly 196 = .ok (.lstore_n 3, 1) := by decide +kernel
theorem d_Od_workExactly_197 : decode c_Od_workExactly 197 = .ok (.iinc 6 1, 3) := by decide +kernel
theorem d_Od_workExactly_200 : decode c_Od_workExactly 200 = .ok (.goto (-94), 3) := by decide +kernel
theorem d_Od_workExactly_203 : decode c_Od_workExactly 203 = .ok (.aload_n 0, 1) := by decide +kernel
theorem d_Od_workExactly_204 : decode c_Od_workExactly 204 = .ok (.getfield 12, 3) := by decide +kernel
theorem d_Od_workExactly_207 : decode c_Od_workExactly 207 = .ok (.aload_n 0, 1) := by decide +kernel
theorem d_Od_workExactly_208 : decode c_Od_workExactly 208 = .ok (.getfield 22, 3) := by decide +kernel
theorem d_Od_workExactly_211 : decode c_Od_workExactly 211 = .ok (.iconst 0, 1) := by decide +kernel
theorem d_Od_workExactly_212 : decode c_Od_workExactly 212 = .ok (.laload, 1) := by decide +kernel
theorem d_Od_workExactly_213 : decode c_Od_workExactly 213 = .ok (.lload_n 3, 1) := by decide +kernel
theorem d_Od_workExactly_214 : decode c_Od_workExactly 214 = .ok (.invokevirtual 103, 3) := by decide +kernel
theorem d_Od_workExactly_217 : decode c_Od_workExactly 217 = .ok (.return_, 1) := by decide +kernel
theorem d_Od_weighSets_0 : decode c_Od_weighSets 0 = .ok (.iload_n 2, 1) := by decide +kernel
theorem d_Od_weighSets_1 : decode c_Od_weighSets 1 = .ok (.invokestatic 107, 3) := by decide +kernel
theorem d_Od_weighSets_4 : decode c_Od_weighSets 4 = .ok (.istore_n 3, 1) := by decide +kernel
theorem d_Od_weighSets_5 : decode c_Od_weighSets 5 = .ok (.iconst 0, 1) := by decide +kernel
theorem d_Od_weighSets_6 : decode c_Od_weighSets 6 = .ok (.istore 4, 2) := by decide +kernel
theorem d_Od_weighSets_8 : decode c_Od_weighSets 8 = .ok (.iconst 0, 1) := by decide +kernel
theorem d_Od_weighSets_9 : decode c_Od_weighSets 9 = .ok (.istore 5, 2) := by decide +kernel
theorem d_Od_weighSets_11 : decode c_Od_weighSets 11 = .ok (.iload 5, 2) := by decide +kernel
theorem d_Od_weighSets_13 : decode c_Od_weighSets 13 = .ok (.iload_n 3, 1) := by decide +kernel
theorem d_Od_weighSets_14 : decode c_Od_weighSets 14 = .ok (.if_icmp .ge 42, 3) := by decide +kernel
theorem d_Od_weighSets_17 : decode c_Od_weighSets 17 = .ok (.aload_n 0, 1) := by decide +kernel
theorem d_Od_weighSets_18 : decode c_Od_weighSets 18 = .ok (.getfield 22, 3) := by decide +kernel
theorem d_Od_weighSets_21 : decode c_Od_weighSets 21 = .ok (.iload 4, 2) := by decide +kernel
theorem d_Od_weighSets_23 : decode c_Od_weighSets 23 = .ok (.aload_n 0, 1) := by decide +kernel
theorem d_Od_weighSets_24 : decode c_Od_weighSets 24 = .ok (.getfield 33, 3) := by decide +kernel
theorem d_Od_weighSets_27 : decode c_Od_weighSets 27 = .ok (.iload_n 1, 1) := by decide +kernel
theorem d_Od_weighSets_28 : decode c_Od_weighSets 28 = .ok (.iload 4, 2) := by decide +kernel
theorem d_Od_weighSets_30 : decode c_Od_weighSets 30 = .ok (.invokevirtual 110, 3) := by decide +kernel
theorem d_Od_weighSets_33 : decode c_Od_weighSets 33 = .ok (.ifCond .eq 7, 3) := by decide +kernel
theorem d_Od_weighSets_36 : decode c_Od_weighSets 36 = .ok (.lconst 1, 1) := by decide +kernel
theorem d_Od_weighSets_37 : decode c_Od_weighSets 37 = .ok (.goto 4, 3) := by decide +kernel
theorem d_Od_weighSets_40 : decode c_Od_weighSets 40 = .ok (.lconst 0, 1) := by decide +kernel
theorem d_Od_weighSets_41 : decode c_Od_weighSets 41 = .ok (.lastore, 1) := by decide +kernel
theorem d_Od_weighSets_42 : decode c_Od_weighSets 42 = .ok (.iload 4, 2) := by decide +kernel
theorem d_Od_weighSets_44 : decode c_Od_weighSets 44 = .ok (.iload_n 2, 1) := by decide +kernel
theorem d_Od_weighSets_45 : decode c_Od_weighSets 45 = .ok (.invokestatic 113, 3) := by decide +kernel
theorem d_Od_weighSets_48 : decode c_Od_weighSets 48 = .ok (.istore 4, 2) := by decide +kernel
theorem d_Od_weighSets_50 : decode c_Od_weighSets 50 = .ok (.iinc 5 1, 3) := by decide +kernel
theorem d_Od_weighSets_53 : decode c_Od_weighSets 53 = .ok (.goto (-42), 3) := by decide +kernel
theorem d_Od_weighSets_56 : decode c_Od_weighSets 56 = .ok (.return_, 1) := by decide +kernel
theorem d_Od_mix_0 : decode c_Od_mix 0 = .ok (.iload_n 1, 1) := by decide +kernel
theorem d_Od_mix_1 : decode c_Od_mix 1 = .ok (.invokestatic 107, 3) := by decide +kernel
theorem d_Od_mix_4 : decode c_Od_mix 4 = .ok (.istore 7, 2) := by decide +kernel
theorem d_Od_mix_6 : decode c_Od_mix 6 = .ok (.iconst 0, 1) := by decide +kernel
theorem d_Od_mix_7 : decode c_Od_mix 7 = .ok (.istore 8, 2) := by decide +kernel
theorem d_Od_mix_9 : decode c_Od_mix 9 = .ok (.iconst 0, 1) := by decide +kernel
theorem d_Od_mix_10 : decode c_Od_mix 10 = .ok (.istore 9, 2) := by decide +kernel
theorem d_Od_mix_12 : decode c_Od_mix 12 = .ok (.iload 9, 2) := by decide +kernel
theorem d_Od_mix_14 : decode c_Od_mix 14 = .ok (.iload 7, 2) := by decide +kernel
theorem d_Od_mix_16 : decode c_Od_mix 16 = .ok (.if_icmp .ge 48, 3) := by decide +kernel
theorem d_Od_mix_19 : decode c_Od_mix 19 = .ok (.aload_n 0, 1) := by decide +kernel
theorem d_Od_mix_20 : decode c_Od_mix 20 = .ok (.getfield 22, 3) := by decide +kernel
theorem d_Od_mix_23 : decode c_Od_mix 23 = .ok (.iload 8, 2) := by decide +kernel
theorem d_Od_mix_25 : decode c_Od_mix 25 = .ok (.lload 5, 2) := by decide +kernel
theorem d_Od_mix_27 : decode c_Od_mix 27 = .ok (.lload_n 3, 1) := by decide +kernel
theorem d_Od_mix_28 : decode c_Od_mix 28 = .ok (.lsub, 1) := by decide +kernel
theorem d_Od_mix_29 : decode c_Od_mix 29 = .ok (.aload_n 0, 1) := by decide +kernel
theorem d_Od_mix_30 : decode c_Od_mix 30 = .ok (.getfield 22, 3) := by decide +kernel
theorem d_Od_mix_33 : decode c_Od_mix 33 = .ok (.iload 8, 2) := by decide +kernel
theorem d_Od_mix_35 : decode c_Od_mix 35 = .ok (.laload, 1) := by decide +kernel
theorem d_Od_mix_36 : decode c_Od_mix 36 = .ok (.lmul, 1) := by decide +kernel
theorem d_Od_mix_37 : decode c_Od_mix 37 = .ok (.lload_n 3, 1) := by decide +kernel
theorem d_Od_mix_38 : decode c_Od_mix 38 = .ok (.aload_n 0, 1) := by decide +kernel
theorem d_Od_mix_39 : decode c_Od_mix 39 = .ok (.getfield 22, 3) := by decide +kernel
theorem d_Od_mix_42 : decode c_Od_mix 42 = .ok (.iload 8, 2) := by decide +kernel
theorem d_Od_mix_44 : decode c_Od_mix 44 = .ok (.iload_n 2, 1) := by decide +kernel
theorem d_Od_mix_45 : decode c_Od_mix 45 = .ok (.ior, 1) := by decide +kernel
theorem d_Od_mix_46 : decode c_Od_mix 46 = .ok (.laload, 1) := by decide +kernel
theorem d_Od_mix_47 : decode c_Od_mix 47 = .ok (.lmul, 1) := by decide +kernel
theorem d_Od_mix_48 : decode c_Od_mix 48 = .ok (.ladd, 1) := by decide +kernel
theorem d_Od_mix_49 : decode c_Od_mix 49 = .ok (.lastore, 1) := by decide +kernel
theorem d_Od_mix_50 : decode c_Od_mix 50 = .ok (.iload 8, 2) := by decide +kernel
theorem d_Od_mix_52 : decode c_Od_mix 52 = .ok (.iload_n 1, 1) := by decide +kernel
theorem d_Od_mix_53 : decode c_Od_mix 53 = .ok (.invokestatic 113, 3) := by decide +kernel
theorem d_Od_mix_56 : decode c_Od_mix 56 = .ok (.istore 8, 2) := by decide +kernel
theorem d_Od_mix_58 : decode c_Od_mix 58 = .ok (.iinc 9 1, 3) := by decide +kernel
theorem d_Od_mix_61 : decode c_Od_mix 61 = .ok (.goto (-49), 3) := by decide +kernel
theorem d_Od_mix_64 : decode c_Od_mix 64 = .ok (.return_, 1) := by decide +kernel
theorem d_Od_workBound_0 : decode c_Od_workBound 0 = .ok (.iconst 0, 1) := by decide +kernel
theorem d_Od_workBound_1 : decode c_Od_workBound 1 = .ok (.istore_n 2, 1) := by decide +kernel
theorem d_Od_workBound_2 : decode c_Od_workBound 2 = .ok (.iload_n 2, 1) := by decide +kernel
theorem d_Od_workBound_3 : decode c_Od_workBound 3 = .ok (.aload_n 0, 1) := by decide +kernel
theorem d_Od_workBound_4 : decode c_Od_workBound 4 = .ok (.getfield 29, 3) := by decide +kernel
theorem d_Od_workBound_7 : decode c_Od_workBound 7 = .ok (.getfield 95, 3) := by decide +kernel
theorem d_Od_workBound_10 : decode c_Od_workBound 10 = .ok (.if_icmp .ge 30, 3) := by decide +kernel
theorem d_Od_workBound_13 : decode c_Od_workBound 13 = .ok (.aload_n 0, 1) := by decide +kernel
theorem d_Od_workBound_14 : decode c_Od_workBound 14 = .ok (.getfield 29, 3) := by decide +kernel
theorem d_Od_workBound_17 : decode c_Od_workBound 17 = .ok (.getfield 98, 3) := by decide +kernel
theorem d_Od_workBound_20 : decode c_Od_workBound 20 = .ok (.iload_n 2, 1) := by decide +kernel
theorem d_Od_workBound_21 : decode c_Od_workBound 21 = .ok (.iaload, 1) := by decide +kernel
theorem d_Od_workBound_22 : decode c_Od_workBound 22 = .ok (.istore_n 3, 1) := by decide +kernel
theorem d_Od_workBound_23 : decode c_Od_workBound 23 = .ok (.aload_n 0, 1) := by decide +kernel
theorem d_Od_workBound_24 : decode c_Od_workBound 24 = .ok (.getfield 26, 3) := by decide +kernel
theorem d_Od_workBound_27 : decode c_Od_workBound 27 = .ok (.iload_n 3, 1) := by decide +kernel
theorem d_Od_workBound_28 : decode c_Od_workBound 28 = .ok (.aload_n 0, 1) := by decide +kernel
theorem d_Od_workBound_29 : decode c_Od_workBound 29 = .ok (.iload_n 3, 1) := by decide +kernel
theorem d_Od_workBound_30 : decode c_Od_workBound 30 = .ok (.invokevirtual 117, 3) := by decide +kernel
theorem d_Od_workBound_33 : decode c_Od_workBound 33 = .ok (.lastore, 1) := by decide +kernel
theorem d_Od_workBound_34 : decode c_Od_workBound 34 = .ok (.iinc 2 1, 3) := by decide +kernel
theorem d_Od_workBound_37 : decode c_Od_workBound 37 = .ok (.goto (-35), 3) := by decide +kernel
theorem d_Od_workBound_40 : decode c_Od_workBound 40 = .ok (.aload_n 0, 1) := by decide +kernel
theorem d_Od_workBound_41 : decode c_Od_workBound 41 = .ok (.getfield 29, 3) := by decide +kernel
theorem d_Od_workBound_44 : decode c_Od_workBound 44 = .ok (.iload_n 1, 1) := by decide +kernel
theorem d_Od_workBound_45 : decode c_Od_workBound 45 = .ok (.invokevirtual 121, 3) := by decide +kernel
theorem d_Od_workBound_48 : decode c_Od_workBound 48 = .ok (.istore_n 2, 1) := by decide +kernel
theorem d_Od_workBound_49 : decode c_Od_workBound 49 = .ok (.iconst 0, 1) := by decide +kernel
theorem d_Od_workBound_50 : decode c_Od_workBound 50 = .ok (.istore_n 3, 1) := by decide +kernel
theorem d_Od_workBound_51 : decode c_Od_workBound 51 = .ok (.iload_n 3, 1) := by decide +kernel
theorem d_Od_workBound_52 : decode c_Od_workBound 52 = .ok (.iload_n 2, 1) := by decide +kernel
theorem d_Od_workBound_53 : decode c_Od_workBound 53 = .ok (.if_icmp .ge 36, 3) := by decide +kernel
theorem d_Od_workBound_56 : decode c_Od_workBound 56 = .ok (.aload_n 0, 1) := by decide +kernel
theorem d_Od_workBound_57 : decode c_Od_workBound 57 = .ok (.getfield 26, 3) := by decide +kernel
theorem d_Od_workBound_60 : decode c_Od_workBound 60 = .ok (.aload_n 0, 1) := by decide +kernel
theorem d_Od_workBound_61 : decode c_Od_workBound 61 = .ok (.getfield 29, 3) := by decide +kernel
theorem d_Od_workBound_64 : decode c_Od_workBound 64 = .ok (.getfield 124, 3) := by decide +kernel
theorem d_Od_workBound_67 : decode c_Od_workBound 67 = .ok (.iload_n 3, 1) := by decide +kernel
theorem d_Od_workBound_68 : decode c_Od_workBound 68 = .ok (.iaload, 1) := by decide +kernel
theorem d_Od_workBound_69 : decode c_Od_workBound 69 = .ok (.aload_n 0, 1) := by decide +kernel
theorem d_Od_workBound_70 : decode c_Od_workBound 70 = .ok (.aload_n 0, 1) := by decide +kernel
theorem d_Od_workBound_71 : decode c_Od_workBound 71 = .ok (.getfield 29, 3) := by decide +kernel
theorem d_Od_workBound_74 : decode c_Od_workBound 74 = .ok (.getfield 124, 3) := by decide +kernel
theorem d_Od_workBound_77 : decode c_Od_workBound 77 = .ok (.iload_n 3, 1) := by decide +kernel
theorem d_Od_workBound_78 : decode c_Od_workBound 78 = .ok (.iaload, 1) := by decide +kernel
theorem d_Od_workBound_79 : decode c_Od_workBound 79 = .ok (.invokevirtual 127, 3) := by decide +kernel
theorem d_Od_workBound_82 : decode c_Od_workBound 82 = .ok (.lastore, 1) := by decide +kernel
theorem d_Od_workBound_83 : decode c_Od_workBound 83 = .ok (.iinc 3 1, 3) := by decide +kernel
theorem d_Od_workBound_86 : decode c_Od_workBound 86 = .ok (.goto (-35), 3) := by decide +kernel
theorem d_Od_workBound_89 : decode c_Od_workBound 89 = .ok (.aload_n 0, 1) := by decide +kernel
theorem d_Od_workBound_90 : decode c_Od_workBound 90 = .ok (.getfield 12, 3) := by decide +kernel
theorem d_Od_workBound_93 : decode c_Od_workBound 93 = .ok (.aload_n 0, 1) := by decide +kernel
theorem d_Od_workBound_94 : decode c_Od_workBound 94 = .ok (.getfield 26, 3) := by decide +kernel
theorem d_Od_workBound_97 : decode c_Od_workBound 97 = .ok (.iload_n 1, 1) := by decide +kernel
theorem d_Od_workBound_98 : decode c_Od_workBound 98 = .ok (.laload, 1) := by decide +kernel
theorem d_Od_workBound_99 : decode c_Od_workBound 99 = .ok (.ldc2_w 130, 3) := by decide +kernel
theorem d_Od_workBound_102 : decode c_Od_workBound 102 = .ok (.invokevirtual 103, 3) := by decide +kernel
theorem d_Od_workBound_105 : decode c_Od_workBound 105 = .ok (.return_, 1) := by decide +kernel
theorem d_Od_eventBound_0 : decode c_Od_eventBound 0 = .ok (.aload_n 0, 1) := by decide +kernel
theorem d_Od_eventBound_1 : decode c_Od_eventBound 1 = .ok (.getfield 29, 3) := by decide +kernel
theorem d_Od_eventBound_4 : decode c_Od_eventBound 4 = .ok (.getfield 101, 3) := by decide +kernel
theorem d_Od_eventBound_7 : decode c_Od_eventBound 7 = .ok (.iload_n 1, 1) := by decide +kernel
theorem d_Od_eventBound_8 : decode c_Od_eventBound 8 = .ok (.laload, 1) := by decide +kernel
theorem d_Od_eventBound_9 : decode c_Od_eventBound 9 = .ok (.aload_n 0, 1) := by decide +kernel
theorem d_Od_eventBound_10 : decode c_Od_eventBound 10 = .ok (.getfield 29, 3) := by decide +kernel
theorem d_Od_eventBound_13 : decode c_Od_eventBound 13 = .ok (.getfield 102, 3) := by decide +kernel
theorem d_Od_eventBound_16 : decode c_Od_eventBound 16 = .ok (.iload_n 1, 1) := by decide +kernel
theorem d_Od_eventBound_17 : decode c_Od_eventBound 17 = .ok (.laload, 1) := by decide +kernel
theorem d_Od_eventBound_18 : decode c_Od_eventBound 18 = .ok (.invokestatic 132, 3) := by decide +kernel
theorem d_Od_eventBound_21 : decode c_Od_eventBound 21 = .ok (.lstore_n 2, 1) := by decide +kernel
theorem d_Od_eventBound_22 : decode c_Od_eventBound 22 = .ok (.iconst 0, 1) := by decide +kernel
theorem d_Od_eventBound_23 : decode c_Od_eventBound 23 = .ok (.istore 4, 2) := by decide +kernel
theorem d_Od_eventBound_25 : decode c_Od_eventBound 25 = .ok (.iload 4, 2) := by decide +kernel
theorem d_Od_eventBound_27 : decode c_Od_eventBound 27 = .ok (.aload_n 0, 1) := by decide +kernel
theorem d_Od_eventBound_28 : decode c_Od_eventBound 28 = .ok (.getfield 37, 3) := by decide +kernel
theorem d_Od_eventBound_31 : decode c_Od_eventBound 31 = .ok (.getfield 74, 3) := by decide +kernel
theorem d_Od_eventBound_34 : decode c_Od_eventBound 34 = .ok (.if_icmp .ge 56, 3) := by decide +kernel
theorem d_Od_eventBound_37 : decode c_Od_eventBound 37 = .ok (.aload_n 0, 1) := by decide +kernel
theorem d_Od_eventBound_38 : decode c_Od_eventBound 38 = .ok (.getfield 37, 3) := by decide +kernel
theorem d_Od_eventBound_41 : decode c_Od_eventBound 41 = .ok (.iload 4, 2) := by decide +kernel
theorem d_Od_eventBound_43 : decode c_Od_eventBound 43 = .ok (.aload_n 0, 1) := by decide +kernel
theorem d_Od_eventBound_44 : decode c_Od_eventBound 44 = .ok (.getfield 29, 3) := by decide +kernel
theorem d_Od_eventBound_47 : decode c_Od_eventBound 47 = .ok (.getfield 41, 3) := by decide +kernel
theorem d_Od_eventBound_50 : decode c_Od_eventBound 50 = .ok (.iload_n 1, 1) := by decide +kernel
theorem d_Od_eventBound_51 : decode c_Od_eventBound 51 = .ok (.iaload, 1) := by decide +kernel
theorem d_Od_eventBound_52 : decode c_Od_eventBound 52 = .ok (.invokevirtual 78, 3) := by decide +kernel
theorem d_Od_eventBound_55 : decode c_Od_eventBound 55 = .ok (.ifCond .eq 29, 3) := by decide +kernel
theorem d_Od_eventBound_58 : decode c_Od_eventBound 58 = .ok (.lload_n 2, 1) := by decide +kernel
theorem d_Od_eventBound_59 : decode c_Od_eventBound 59 = .ok (.aload_n 0, 1) := by decide +kernel
theorem d_Od_eventBound_60 : decode c_Od_eventBound 60 = .ok (.getfield 37, 3) := by decide +kernel
theorem d_Od_eventBound_63 : decode c_Od_eventBound 63 = .ok (.getfield 85, 3) := by decide +kernel
theorem d_Od_eventBound_66 : decode c_Od_eventBound 66 = .ok (.iload 4, 2) := by decide +kernel
theorem d_Od_eventBound_68 : decode c_Od_eventBound 68 = .ok (.laload, 1) := by decide +kernel
theorem d_Od_eventBound_69 : decode c_Od_eventBound 69 = .ok (.aload_n 0, 1) := by decide +kernel
theorem d_Od_eventBound_70 : decode c_Od_eventBound 70 = .ok (.getfield 37, 3) := by decide +kernel
theorem d_Od_eventBound_73 : decode c_Od_eventBound 73 = .ok (.getfield 88, 3) := by decide +kernel
theorem d_Od_eventBound_76 : decode c_Od_eventBound 76 = .ok (.iload 4, 2) := by decide +kernel
theorem d_Od_eventBound_78 : decode c_Od_eventBound 78 = .ok (.laload, 1) := by decide +kernel
theorem d_Od_eventBound_79 : decode c_Od_eventBound 79 = .ok (.invokestatic 132, 3) := by decide +kernel
theorem d_Od_eventBound_82 : decode c_Od_eventBound 82 = .ok (.ladd, 1) := by decide +kernel
theorem d_Od_eventBound_83 : decode c_Od_eventBound 83 = .ok (.lstore_n 2, 1) := by decide +kernel
theorem d_Od_eventBound_84 : decode c_Od_eventBound 84 = .ok (.iinc 4 1, 3) := by decide +kernel
theorem d_Od_eventBound_87 : decode c_Od_eventBound 87 = .ok (.goto (-62), 3) := by decide +kernel
theorem d_Od_eventBound_90 : decode c_Od_eventBound 90 = .ok (.lload_n 2, 1) := by decide +kernel
theorem d_Od_eventBound_91 : decode c_Od_eventBound 91 = .ok (.ldc2_w 130, 3) := by decide +kernel
theorem d_Od_eventBound_94 : decode c_Od_eventBound 94 = .ok (.invokestatic 136, 3) := by decide +kernel
theorem d_Od_eventBound_97 : decode c_Od_eventBound 97 = .ok (.lreturn, 1) := by decide +kernel
theorem d_Od_inParts_0 : decode c_Od_inParts 0 = .ok (.lload_n 2, 1) := by decide +kernel
theorem d_Od_inParts_1 : decode c_Od_inParts 1 = .ok (.lconst 1, 1) := by decide +kernel
theorem d_Od_inParts_2 : decode c_Od_inParts 2 = .ok (.lcmp, 1) := by decide +kernel
theorem d_Od_inParts_3 : decode c_Od_inParts 3 = .ok (.ifCond .ge 7, 3) := by decide +kernel
theorem d_Od_inParts_6 : decode c_Od_inParts 6 = .ok (.lconst 0, 1) := by decide +kernel
theorem d_Od_inParts_7 : decode c_Od_inParts 7 = .ok (.goto 10, 3) := by decide +kernel
theorem d_Od_inParts_10 : decode c_Od_inParts 10 = .ok (.lload_n 0, 1) := by decide +kernel
theorem d_Od_inParts_11 : decode c_Od_inParts 11 = .ok (.ldc2_w 130, 3) := by decide +kernel
theorem d_Od_inParts_14 : decode c_Od_inParts 14 = .ok (.lload_n 2, 1) := by decide +kernel
theorem d_Od_inParts_15 : decode c_Od_inParts 15 = .ok (.ldiv, 1) := by decide +kernel
theorem d_Od_inParts_16 : decode c_Od_inParts 16 = .ok (.lmul, 1) := by decide +kernel
theorem d_Od_inParts_17 : decode c_Od_inParts 17 = .ok (.lreturn, 1) := by decide +kernel
theorem d_Od_gateBound_0 : decode c_Od_gateBound 0 = .ok (.ldc2_w 130, 3) := by decide +kernel
theorem d_Od_gateBound_3 : decode c_Od_gateBound 3 = .ok (.lstore_n 2, 1) := by decide +kernel
theorem d_Od_gateBound_4 : decode c_Od_gateBound 4 = .ok (.lconst 0, 1) := by decide +kernel
theorem d_Od_gateBound_5 : decode c_Od_gateBound 5 = .ok (.lstore 4, 2) := by decide +kernel
theorem d_Od_gateBound_7 : decode c_Od_gateBound 7 = .ok (.iconst 0, 1) := by decide +kernel
theorem d_Od_gateBound_8 : decode c_Od_gateBound 8 = .ok (.istore 6, 2) := by decide +kernel
theorem d_Od_gateBound_10 : decode c_Od_gateBound 10 = .ok (.iload 6, 2) := by decide +kernel
theorem d_Od_gateBound_12 : decode c_Od_gateBound 12 = .ok (.aload_n 0, 1) := by decide +kernel
theorem d_Od_gateBound_13 : decode c_Od_gateBound 13 = .ok (.getfield 29, 3) := by decide +kernel
theorem d_Od_gateBound_16 : decode c_Od_gateBound 16 = .ok (.getfield 141, 3) := by decide +kernel
theorem d_Od_gateBound_19 : decode c_Od_gateBound 19 = .ok (.iload_n 1, 1) := by decide +kernel
theorem d_Od_gateBound_20 : decode c_Od_gateBound 20 = .ok (.iaload, 1) := by decide +kernel
theorem d_Od_gateBound_21 : decode c_Od_gateBound 21 = .ok (.if_icmp .ge 42, 3) := by decide +kernel
theorem d_Od_gateBound_24 : decode c_Od_gateBound 24 = .ok (.aload_n 0, 1) := by decide +kernel
theorem d_Od_gateBound_25 : decode c_Od_gateBound 25 = .ok (.getfield 26, 3) := by decide +kernel
theorem d_Od_gateBound_28 : decode c_Od_gateBound 28 = .ok (.aload_n 0, 1) := by decide +kernel
theorem d_Od_gateBound_29 : decode c_Od_gateBound 29 = .ok (.getfield 29, 3) := by decide +kernel
theorem d_Od_gateBound_32 : decode c_Od_gateBound 32 = .ok (.getfield 144, 3) := by decide +kernel
theorem d_Od_gateBound_35 : decode c_Od_gateBound 35 = .ok (.iload_n 1, 1) := by decide +kernel
theorem d_Od_gateBound_36 : decode c_Od_gateBound 36 = .ok (.aaload, 1) := by decide +kernel
theorem d_Od_gateBound_37 : decode c_Od_gateBound 37 = .ok (.iload 6, 2) := by decide +kernel
theorem d_Od_gateBound_39 : decode c_Od_gateBound 39 = .ok (.iaload, 1) := by decide +kernel
theorem d_Od_gateBound_40 : decode c_Od_gateBound 40 = .ok (.laload, 1) := by decide +kernel
theorem d_Od_gateBound_41 : decode c_Od_gateBound 41 = .ok (.lstore 7, 2) := by decide +kernel
theorem d_Od_gateBound_43 : decode c_Od_gateBound 43 = .ok (.lload_n 2, 1) := by decide +kernel
theorem d_Od_gateBound_44 : decode c_Od_gateBound 44 = .ok (.lload 7, 2) := by decide +kernel
theorem d_Od_gateBound_46 : decode c_Od_gateBound 46 = .ok (.invokestatic 136, 3) := by decide +kernel
theorem d_Od_gateBound_49 : decode c_Od_gateBound 49 = .ok (.lstore_n 2, 1) := by decide +kernel
theorem d_Od_gateBound_50 : decode c_Od_gateBound 50 = .ok (.lload 4, 2) := by decide +kernel
theorem d_Od_gateBound_52 : decode c_Od_gateBound 52 = .ok (.lload 7, 2) := by decide +kernel
theorem d_Od_gateBound_54 : decode c_Od_gateBound 54 = .ok (.ladd, 1) := by decide +kernel
theorem d_Od_gateBound_55 : decode c_Od_gateBound 55 = .ok (.lstore 4, 2) := by decide +kernel
theorem d_Od_gateBound_57 : decode c_Od_gateBound 57 = .ok (.iinc 6 1, 3) := by decide +kernel
theorem d_Od_gateBound_60 : decode c_Od_gateBound 60 = .ok (.goto (-50), 3) := by decide +kernel
theorem d_Od_gateBound_63 : decode c_Od_gateBound 63 = .ok (.aload_n 0, 1) := by decide +kernel
theorem d_Od_gateBound_64 : decode c_Od_gateBound 64 = .ok (.getfield 29, 3) := by decide +kernel
theorem d_Od_gateBound_67 : decode c_Od_gateBound 67 = .ok (.getfield 148, 3) := by decide +kernel
theorem d_Od_gateBound_70 : decode c_Od_gateBound 70 = .ok (.iload_n 1, 1) := by decide +kernel
theorem d_Od_gateBound_71 : decode c_Od_gateBound 71 = .ok (.iaload, 1) := by decide +kernel
theorem d_Od_gateBound_72 : decode c_Od_gateBound 72 = .ok (.ifCond .ne 5, 3) := by decide +kernel
theorem d_Od_gateBound_75 : decode c_Od_gateBound 75 = .ok (.lload_n 2, 1) := by decide +kernel
theorem d_Od_gateBound_76 : decode c_Od_gateBound 76 = .ok (.lreturn, 1) := by decide +kernel
theorem d_Od_gateBound_77 : decode c_Od_gateBound 77 = .ok (.aload_n 0, 1) := by decide +kernel
theorem d_Od_gateBound_78 : decode c_Od_gateBound 78 = .ok (.getfield 29, 3) := by decide +kernel
theorem d_Od_gateBound_81 : decode c_Od_gateBound 81 = .ok (.getfield 151, 3) := by decide +kernel
theorem d_Od_gateBound_84 : decode c_Od_gateBound 84 = .ok (.iload_n 1, 1) := by decide +kernel
theorem d_Od_gateBound_85 : decode c_Od_gateBound 85 = .ok (.iaload, 1) := by decide +kernel
theorem d_Od_gateBound_86 : decode c_Od_gateBound 86 = .ok (.i2l, 1) := by decide +kernel
theorem d_Od_gateBound_87 : decode c_Od_gateBound 87 = .ok (.lstore 6, 2) := by decide +kernel
theorem d_Od_gateBound_89 : decode c_Od_gateBound 89 = .ok (.aload_n 0, 1) := by decide +kernel
theorem d_Od_gateBound_90 : decode c_Od_gateBound 90 = .ok (.getfield 29, 3) := by decide +kernel
theorem d_Od_gateBound_93 : decode c_Od_gateBound 93 = .ok (.getfield 148, 3) := by decide +kernel
theorem d_Od_gateBound_96 : decode c_Od_gateBound 96 = .ok (.iload_n 1, 1) := by decide +kernel
theorem d_Od_gateBound_97 : decode c_Od_gateBound 97 = .ok (.iaload, 1) := by decide +kernel
theorem d_Od_gateBound_98 : decode c_Od_gateBound 98 = .ok (.iconst 2, 1) := by decide +kernel
theorem d_Od_gateBound_99 : decode c_Od_gateBound 99 = .ok (.if_icmp .ne 22, 3) := by decide +kernel
theorem d_Od_gateBound_102 : decode c_Od_gateBound 102 = .ok (.lload 6, 2) := by decide +kernel
theorem d_Od_gateBound_104 : decode c_Od_gateBound 104 = .ok (.lconst 0, 1) := by decide +kernel
theorem d_Od_gateBound_105 : decode c_Od_gateBound 105 = .ok (.lcmp, 1) := by decide +kernel
theorem d_Od_gateBound_106 : decode c_Od_gateBound 106 = .ok (.ifCond .le 15, 3) := by decide +kernel
theorem d_Od_gateBound_109 : decode c_Od_gateBound 109 = .ok (.lload 4, 2) := by decide +kernel
theorem d_Od_gateBound_111 : decode c_Od_gateBound 111 = .ok (.lload 6, 2) := by decide +kernel
theorem d_Od_gateBound_113 : decode c_Od_gateBound 113 = .ok (.ladd, 1) := by decide +kernel
theorem d_Od_gateBound_114 : decode c_Od_gateBound 114 = .ok (.lconst 1, 1) := by decide +kernel
theorem d_Od_gateBound_115 : decode c_Od_gateBound 115 = .ok (.lsub, 1) := by decide +kernel
theorem d_Od_gateBound_116 : decode c_Od_gateBound 116 = .ok (.lload 6, 2) := by decide +kernel
theorem d_Od_gateBound_118 : decode c_Od_gateBound 118 = .ok (.ldiv, 1) := by decide +kernel
theorem d_Od_gateBound_119 : decode c_Od_gateBound 119 = .ok (.lstore 4, 2) := by decide +kernel
theorem d_Od_gateBound_121 : decode c_Od_gateBound 121 = .ok (.lload 4, 2) := by decide +kernel
theorem d_Od_gateBound_123 : decode c_Od_gateBound 123 = .ok (.ldc2_w 130, 3) := by decide +kernel
theorem d_Od_gateBound_126 : decode c_Od_gateBound 126 = .ok (.invokestatic 136, 3) := by decide +kernel
theorem d_Od_gateBound_129 : decode c_Od_gateBound 129 = .ok (.lreturn, 1) := by decide +kernel
theorem d_Go_init_0 : decode c_Go_init 0 = .ok (.aload_n 0, 1) := by decide +kernel
theorem d_Go_init_1 : decode c_Go_init 1 = .ok (.invokespecial 3, 3) := by decide +kernel
theorem d_Go_init_4 : decode c_Go_init 4 = .ok (.aload_n 0, 1) := by decide +kernel
theorem d_Go_init_5 : decode c_Go_init 5 = .ok (.iconst 0, 1) := by decide +kernel
theorem d_Go_init_6 : decode c_Go_init 6 = .ok (.putfield 9, 3) := by decide +kernel
theorem d_Go_init_9 : decode c_Go_init 9 = .ok (.aload_n 0, 1) := by decide +kernel
theorem d_Go_init_10 : decode c_Go_init 10 = .ok (.iconst 0, 1) := by decide +kernel
theorem d_Go_init_11 : decode c_Go_init 11 = .ok (.putfield 15, 3) := by decide +kernel
theorem d_Go_init_14 : decode c_Go_init 14 = .ok (.aload_n 0, 1) := by decide +kernel
theorem d_Go_init_15 : decode c_Go_init 15 = .ok (.bipush 31, 2) := by decide +kernel
theorem d_Go_init_17 : decode c_Go_init 17 = .ok (.newarray .int, 2) := by decide +kernel
theorem d_Go_init_19 : decode c_Go_init 19 = .ok (.putfield 18, 3) := by decide +kernel
theorem d_Go_init_22 : decode c_Go_init 22 = .ok (.aload_n 0, 1) := by decide +kernel
theorem d_Go_init_23 : decode c_Go_init 23 = .ok (.bipush 100, 2) := by decide +kernel
theorem d_Go_init_25 : decode c_Go_init 25 = .ok (.newarray .int, 2) := by decide +kernel
theorem d_Go_init_27 : decode c_Go_init 27 = .ok (.putfield 22, 3) := by decide +kernel
theorem d_Go_init_30 : decode c_Go_init 30 = .ok (.aload_n 0, 1) := by decide +kernel
theorem d_Go_init_31 : decode c_Go_init 31 = .ok (.bipush 100, 2) := by decide +kernel
theorem d_Go_init_33 : decode c_Go_init 33 = .ok (.newarray .int, 2) := by decide +kernel
theorem d_Go_init_35 : decode c_Go_init 35 = .ok (.putfield 25, 3) := by decide +kernel
theorem d_Go_init_38 : decode c_Go_init 38 = .ok (.aload_n 0, 1) := by decide +kernel
theorem d_Go_init_39 : decode c_Go_init 39 = .ok (.bipush 100, 2) := by decide +kernel
theorem d_Go_init_41 : decode c_Go_init 41 = .ok (.newarray .int, 2) := by decide +kernel
theorem d_Go_init_43 : decode c_Go_init 43 = .ok (.putfield 28, 3) := by decide +kernel
theorem d_Go_init_46 : decode c_Go_init 46 = .ok (.return_, 1) := by decide +kernel
theorem d_Go_add_0 : decode c_Go_add 0 = .ok (.aload_n 0, 1) := by decide +kernel
theorem d_Go_add_1 : decode c_Go_add 1 = .ok (.dup, 1) := by decide +kernel
theorem d_Go_add_2 : decode c_Go_add 2 = .ok (.getfield 9, 3) := by decide +kernel
theorem d_Go_add_5 : decode c_Go_add 5 = .ok (.iconst 1, 1) := by decide +kernel
theorem d_Go_add_6 : decode c_Go_add 6 = .ok (.iadd, 1) := by decide +kernel
theorem d_Go_add_7 : decode c_Go_add 7 = .ok (.putfield 9, 3) := by decide +kernel
theorem d_Go_add_10 : decode c_Go_add 10 = .ok (.aload_n 0, 1) := by decide +kernel
theorem d_Go_add_11 : decode c_Go_add 11 = .ok (.getfield 18, 3) := by decide +kernel
theorem d_Go_add_14 : decode c_Go_add 14 = .ok (.aload_n 0, 1) := by decide +kernel
theorem d_Go_add_15 : decode c_Go_add 15 = .ok (.getfield 9, 3) := by decide +kernel
theorem d_Go_add_18 : decode c_Go_add 18 = .ok (.iload_n 1, 1) := by decide +kernel
theorem d_Go_add_19 : decode c_Go_add 19 = .ok (.iastore, 1) := by decide +kernel
theorem d_Go_add_20 : decode c_Go_add 20 = .ok (.aload_n 0, 1) := by decide +kernel
theorem d_Go_add_21 : decode c_Go_add 21 = .ok (.getfield 9, 3) := by decide +kernel
theorem d_Go_add_24 : decode c_Go_add 24 = .ok (.ireturn, 1) := by decide +kernel
theorem d_Go_addRow_0 : decode c_Go_addRow 0 = .ok (.aload_n 0, 1) := by decide +kernel
theorem d_Go_addRow_1 : decode c_Go_addRow 1 = .ok (.getfield 22, 3) := by decide +kernel
theorem d_Go_addRow_4 : decode c_Go_addRow 4 = .ok (.aload_n 0, 1) := by decide +kernel
theorem d_Go_addRow_5 : decode c_Go_addRow 5 = .ok (.getfield 15, 3) := by decide +kernel
theorem d_Go_addRow_8 : decode c_Go_addRow 8 = .ok (.iload_n 1, 1) := by decide +kernel
theorem d_Go_addRow_9 : decode c_Go_addRow 9 = .ok (.iastore, 1) := by decide +kernel
theorem d_Go_addRow_10 : decode c_Go_addRow 10 = .ok (.aload_n 0, 1) := by decide +kernel
theorem d_Go_addRow_11 : decode c_Go_addRow 11 = .ok (.getfield 25, 3) := by decide +kernel
theorem d_Go_addRow_14 : decode c_Go_addRow 14 = .ok (.aload_n 0, 1) := by decide +kernel
theorem d_Go_addRow_15 : decode c_Go_addRow 15 = .ok (.getfield 15, 3) := by decide +kernel
theorem d_Go_addRow_18 : decode c_Go_addRow 18 = .ok (.iload_n 2, 1) := by decide +kernel
theorem d_Go_addRow_19 : decode c_Go_addRow 19 = .ok (.iastore, 1) := by decide +kernel
theorem d_Go_addRow_20 : decode c_Go_addRow 20 = .ok (.aload_n 0, 1) := by decide +kernel
theorem d_Go_addRow_21 : decode c_Go_addRow 21 = .ok (.getfield 28, 3) := by decide +kernel
theorem d_Go_addRow_24 : decode c_Go_addRow 24 = .ok (.aload_n 0, 1) := by decide +kernel
theorem d_Go_addRow_25 : decode c_Go_addRow 25 = .ok (.getfield 15, 3) := by decide +kernel
theorem d_Go_addRow_28 : decode c_Go_addRow 28 = .ok (.iload_n 3, 1) := by decide +kernel
theorem d_Go_addRow_29 : decode c_Go_addRow 29 = .ok (.iastore, 1) := by decide +kernel
theorem d_Go_addRow_30 : decode c_Go_addRow 30 = .ok (.aload_n 0, 1) := by decide +kernel
theorem d_Go_addRow_31 : decode c_Go_addRow 31 = .ok (.dup, 1) := by decide +kernel
theorem d_Go_addRow_32 : decode c_Go_addRow 32 = .ok (.getfield 15, 3) := by decide +kernel
theorem d_Go_addRow_35 : decode c_Go_addRow 35 = .ok (.iconst 1, 1) := by decide +kernel
theorem d_Go_addRow_36 : decode c_Go_addRow 36 = .ok (.iadd, 1) := by decide +kernel
theorem d_Go_addRow_37 : decode c_Go_addRow 37 = .ok (.putfield 15, 3) := by decide +kernel
theorem d_Go_addRow_40 : decode c_Go_addRow 40 = .ok (.aload_n 0, 1) := by decide +kernel
theorem d_Go_addRow_41 : decode c_Go_addRow 41 = .ok (.getfield 15, 3) := by decide +kernel
theorem d_Go_addRow_44 : decode c_Go_addRow 44 = .ok (.ireturn, 1) := by decide +kernel
theorem d_Go_hasRow_0 : decode c_Go_hasRow 0 = .ok (.iconst 0, 1) := by decide +kernel
theorem d_Go_hasRow_1 : decode c_Go_hasRow 1 = .ok (.istore 4, 2) := by decide +kernel
theorem d_Go_hasRow_3 : decode c_Go_hasRow 3 = .ok (.iload 4, 2) := by decide +kernel
theorem d_Go_hasRow_5 : decode c_Go_hasRow 5 = .ok (.aload_n 0, 1) := by decide +kernel
theorem d_Go_hasRow_6 : decode c_Go_hasRow 6 = .ok (.getfield 15, 3) := by decide +kernel
theorem d_Go_hasRow_9 : decode c_Go_hasRow 9 = .ok (.if_icmp .ge 44, 3) := by decide +kernel
theorem d_Go_hasRow_12 : decode c_Go_hasRow 12 = .ok (.aload_n 0, 1) := by decide +kernel
theorem d_Go_hasRow_13 : decode c_Go_hasRow 13 = .ok (.getfield 22, 3) := by decide +kernel
theorem d_Go_hasRow_16 : decode c_Go_hasRow 16 = .ok (.iload 4, 2) := by decide +kernel
theorem d_Go_hasRow_18 : decode c_Go_hasRow 18 = .ok (.iaload, 1) := by decide +kernel
theorem d_Go_hasRow_19 : decode c_Go_hasRow 19 = .ok (.iload_n 1, 1) := by decide +kernel
theorem d_Go_hasRow_20 : decode c_Go_hasRow 20 = .ok (.if_icmp .ne 27, 3) := by decide +kernel
theorem d_Go_hasRow_23 : decode c_Go_hasRow 23 = .ok (.aload_n 0, 1) := by decide +kernel
theorem d_Go_hasRow_24 : decode c_Go_hasRow 24 = .ok (.getfield 25, 3) := by decide +kernel
theorem d_Go_hasRow_27 : decode c_Go_hasRow 27 = .ok (.iload 4, 2) := by decide +kernel
theorem d_Go_hasRow_29 : decode c_Go_hasRow 29 = .ok (.iaload, 1) := by decide +kernel
theorem d_Go_hasRow_30 : decode c_Go_hasRow 30 = .ok (.iload_n 2, 1) := by decide +kernel
theorem d_Go_hasRow_31 : decode c_Go_hasRow 31 = .ok (.if_icmp .ne 16, 3) := by decide +kernel
theorem d_Go_hasRow_34 : decode c_Go_hasRow 34 = .ok (.aload_n 0, 1) := by decide +kernel
theorem d_Go_hasRow_35 : decode c_Go_hasRow 35 = .ok (.getfield 28, 3) := by decide +kernel
theorem d_Go_hasRow_38 : decode c_Go_hasRow 38 = .ok (.iload 4, 2) := by decide +kernel
theorem d_Go_hasRow_40 : decode c_Go_hasRow 40 = .ok (.iaload, 1) := by decide +kernel
theorem d_Go_hasRow_41 : decode c_Go_hasRow 41 = .ok (.iload_n 3, 1) := by decide +kernel
theorem d_Go_hasRow_42 : decode c_Go_hasRow 42 = .ok (.if_icmp .ne 5, 3) := by decide +kernel
theorem d_Go_hasRow_45 : decode c_Go_hasRow 45 = .ok (.iconst 1, 1) := by decide +kernel
theorem d_Go_hasRow_46 : decode c_Go_hasRow 46 = .ok (.ireturn, 1) := by decide +kernel
theorem d_Go_hasRow_47 : decode c_Go_hasRow 47 = .ok (.iinc 4 1, 3) := by decide +kernel
theorem d_Go_hasRow_50 : decode c_Go_hasRow 50 = .ok (.goto (-47), 3) := by decide +kernel
theorem d_Go_hasRow_53 : decode c_Go_hasRow 53 = .ok (.iconst 0, 1) := by decide +kernel
theorem d_Go_hasRow_54 : decode c_Go_hasRow 54 = .ok (.ireturn, 1) := by decide +kernel
theorem d_Go_rowsOfPart_0 : decode c_Go_rowsOfPart 0 = .ok (.iconst 0, 1) := by decide +kernel
theorem d_Go_rowsOfPart_1 : decode c_Go_rowsOfPart 1 = .ok (.istore_n 2, 1) := by decide +kernel
theorem d_Go_rowsOfPart_2 : decode c_Go_rowsOfPart 2 = .ok (.iconst 0, 1) := by decide +kernel
theorem d_Go_rowsOfPart_3 : decode c_Go_rowsOfPart 3 = .ok (.istore_n 3, 1) := by decide +kernel
theorem d_Go_rowsOfPart_4 : decode c_Go_rowsOfPart 4 = .ok (.iload_n 3, 1) := by decide +kernel
theorem d_Go_rowsOfPart_5 : decode c_Go_rowsOfPart 5 = .ok (.aload_n 0, 1) := by decide +kernel
theorem d_Go_rowsOfPart_6 : decode c_Go_rowsOfPart 6 = .ok (.getfield 15, 3) := by decide +kernel
theorem d_Go_rowsOfPart_9 : decode c_Go_rowsOfPart 9 = .ok (.if_icmp .ge 22, 3) := by decide +kernel
theorem d_Go_rowsOfPart_12 : decode c_Go_rowsOfPart 12 = .ok (.aload_n 0, 1) := by decide +kernel
theorem d_Go_rowsOfPart_13 : decode c_Go_rowsOfPart 13 = .ok (.getfield 25, 3) := by decide +kernel
theorem d_Go_rowsOfPart_16 : decode c_Go_rowsOfPart 16 = .ok (.iload_n 3, 1) := by decide +kernel
theorem d_Go_rowsOfPart_17 : decode c_Go_rowsOfPart 17 = .ok (.iaload, 1) := by decide +kernel
theorem d_Go_rowsOfPart_18 : decode c_Go_rowsOfPart 18 = .ok (.iload_n 1, 1) := by decide +kernel
theorem d_Go_rowsOfPart_19 : decode c_Go_rowsOfPart 19 = .ok (.if_icmp .ne 6, 3) := by decide +kernel
theorem d_Go_rowsOfPart_22 : decode c_Go_rowsOfPart 22 = .ok (.iinc 2 1, 3) := by decide +kernel
theorem d_Go_rowsOfPart_25 : decode c_Go_rowsOfPart 25 = .ok (.iinc 3 1, 3) := by decide +kernel
theorem d_Go_rowsOfPart_28 : decode c_Go_rowsOfPart 28 = .ok (.goto (-24), 3) := by decide +kernel
theorem d_Go_rowsOfPart_31 : decode c_Go_rowsOfPart 31 = .ok (.iload_n 2, 1) := by decide +kernel
theorem d_Go_rowsOfPart_32 : decode c_Go_rowsOfPart 32 = .ok (.ireturn, 1) := by decide +kernel
theorem d_Go_testedRowsOfPart_0 : decode c_Go_testedRowsOfPart 0 = .ok (.iconst 0, 1) := by decide +kernel
theorem d_Go_testedRowsOfPart_1 : decode c_Go_testedRowsOfPart 1 = .ok (.istore_n 2, 1) := by decide +kernel
theorem d_Go_testedRowsOfPart_2 : decode c_Go_testedRowsOfPart 2 = .ok (.iconst 0, 1) := by decide +kernel
theorem d_Go_testedRowsOfPart_3 : decode c_Go_testedRowsOfPart 3 = .ok (.istore_n 3, 1) := by decide +kernel
theorem d_Go_testedRowsOfPart_4 : decode c_Go_testedRowsOfPart 4 = .ok (.iload_n 3, 1) := by decide +kernel
theorem d_Go_testedRowsOfPart_5 : decode c_Go_testedRowsOfPart 5 = .ok (.aload_n 0, 1) := by decide +kernel
theorem d_Go_testedRowsOfPart_6 : decode c_Go_testedRowsOfPart 6 = .ok (.getfield 15, 3) := by decide +kernel
theorem d_Go_testedRowsOfPart_9 : decode c_Go_testedRowsOfPart 9 = .ok (.if_icmp .ge 31, 3) := by decide +kernel
theorem d_Go_testedRowsOfPart_12 : decode c_Go_testedRowsOfPart 12 = .ok (.aload_n 0, 1) := by decide +kernel
theorem d_Go_testedRowsOfPart_13 : decode c_Go_testedRowsOfPart 13 = .ok (.getfield 25, 3) := by decide +kernel
theorem d_Go_testedRowsOfPart_16 : decode c_Go_testedRowsOfPart 16 = .ok (.iload_n 3, 1) := by decide +kernel
theorem d_Go_testedRowsOfPart_17 : decode c_Go_testedRowsOfPart 17 = .ok (.iaload, 1) := by decide +kernel
theorem d_Go_testedRowsOfPart_18 : decode c_Go_testedRowsOfPart 18 = .ok (.iload_n 1, 1) := by decide +kernel
theorem d_Go_testedRowsOfPart_19 : decode c_Go_testedRowsOfPart 19 = .ok (.if_icmp .ne 15, 3) := by decide +kernel
theorem d_Go_testedRowsOfPart_22 : decode c_Go_testedRowsOfPart 22 = .ok (.aload_n 0, 1) := by decide +kernel
theorem d_Go_testedRowsOfPart_23 : decode c_Go_testedRowsOfPart 23 = .ok (.getfield 28, 3) := by decide +kernel
theorem d_Go_testedRowsOfPart_26 : decode c_Go_testedRowsOfPart 26 = .ok (.iload_n 3, 1) := by decide +kernel
theorem d_Go_testedRowsOfPart_27 : decode c_Go_testedRowsOfPart 27 = .ok (.iaload, 1) := by decide +kernel
theorem d_Go_testedRowsOfPart_28 : decode c_Go_testedRowsOfPart 28 = .ok (.ifCond .eq 6, 3) := by decide +kernel
theorem d_Go_testedRowsOfPart_31 : decode c_Go_testedRowsOfPart 31 = .ok (.iinc 2 1, 3) := by decide +kernel
theorem d_Go_testedRowsOfPart_34 : decode c_Go_testedRowsOfPart 34 = .ok (.iinc 3 1, 3) := by decide +kernel
theorem d_Go_testedRowsOfPart_37 : decode c_Go_testedRowsOfPart 37 = .ok (.goto (-33), 3) := by decide +kernel
theorem d_Go_testedRowsOfPart_40 : decode c_Go_testedRowsOfPart 40 = .ok (.iload_n 2, 1) := by decide +kernel
theorem d_Go_testedRowsOfPart_41 : decode c_Go_testedRowsOfPart 41 = .ok (.ireturn, 1) := by decide +kernel
theorem d_Go_findOpen_0 : decode c_Go_findOpen 0 = .ok (.iload_n 1, 1) := by decide +kernel
theorem d_Go_findOpen_1 : decode c_Go_findOpen 1 = .ok (.istore_n 2, 1) := by decide +kernel
theorem d_Go_findOpen_2 : decode c_Go_findOpen 2 = .ok (.iconst 1, 1) := by decide +kernel
theorem d_Go_findOpen_3 : decode c_Go_findOpen 3 = .ok (.istore_n 3, 1) := by decide +kernel
theorem d_Go_findOpen_4 : decode c_Go_findOpen 4 = .ok (.iload_n 3, 1) := by decide +kernel
theorem d_Go_findOpen_5 : decode c_Go_findOpen 5 = .ok (.aload_n 0, 1) := by decide +kernel
theorem d_Go_findOpen_6 : decode c_Go_findOpen 6 = .ok (.getfield 9, 3) := by decide +kernel
theorem d_Go_findOpen_9 : decode c_Go_findOpen 9 = .ok (.if_icmp .gt 26, 3) := by decide +kernel
theorem d_Go_findOpen_12 : decode c_Go_findOpen 12 = .ok (.aload_n 0, 1) := by decide +kernel
theorem d_Go_findOpen_13 : decode c_Go_findOpen 13 = .ok (.iload_n 3, 1) := by decide +kernel
theorem d_Go_findOpen_14 : decode c_Go_findOpen 14 = .ok (.invokevirtual 31, 3) := by decide +kernel
theorem d_Go_findOpen_17 : decode c_Go_findOpen 17 = .ok (.ifCond .eq 12, 3) := by decide +kernel
theorem d_Go_findOpen_20 : decode c_Go_findOpen 20 = .ok (.iload_n 2, 1) := by decide +kernel
theorem d_Go_findOpen_21 : decode c_Go_findOpen 21 = .ok (.ifCond .ne 5, 3) := by decide +kernel
theorem d_Go_findOpen_24 : decode c_Go_findOpen 24 = .ok (.iload_n 3, 1) := by decide +kernel
theorem d_Go_findOpen_25 : decode c_Go_findOpen 25 = .ok (.ireturn, 1) := by decide +kernel
theorem d_Go_findOpen_26 : decode c_Go_findOpen 26 = .ok (.iinc 2 (-1), 3) := by decide +kernel
theorem d_Go_findOpen_29 : decode c_Go_findOpen 29 = .ok (.iinc 3 1, 3) := by decide +kernel
theorem d_Go_findOpen_32 : decode c_Go_findOpen 32 = .ok (.goto (-28), 3) := by decide +kernel
theorem d_Go_findOpen_35 : decode c_Go_findOpen 35 = .ok (.iconst 1, 1) := by decide +kernel
theorem d_Go_findOpen_36 : decode c_Go_findOpen 36 = .ok (.istore_n 3, 1) := by decide +kernel
theorem d_Go_findOpen_37 : decode c_Go_findOpen 37 = .ok (.iload_n 3, 1) := by decide +kernel
theorem d_Go_findOpen_38 : decode c_Go_findOpen 38 = .ok (.bipush 50, 2) := by decide +kernel
theorem d_Go_findOpen_40 : decode c_Go_findOpen 40 = .ok (.if_icmp .gt 27, 3) := by decide +kernel
theorem d_Go_findOpen_43 : decode c_Go_findOpen 43 = .ok (.aload_n 0, 1) := by decide +kernel
theorem d_Go_findOpen_44 : decode c_Go_findOpen 44 = .ok (.iload_n 3, 1) := by decide +kernel
theorem d_Go_findOpen_45 : decode c_Go_findOpen 45 = .ok (.invokevirtual 35, 3) := by decide +kernel
theorem d_Go_findOpen_48 : decode c_Go_findOpen 48 = .ok (.ifCond .eq 13, 3) := by decide +kernel
theorem d_Go_findOpen_51 : decode c_Go_findOpen 51 = .ok (.iload_n 2, 1) := by decide +kernel
theorem d_Go_findOpen_52 : decode c_Go_findOpen 52 = .ok (.ifCond .ne 6, 3) := by decide +kernel
theorem d_Go_findOpen_55 : decode c_Go_findOpen 55 = .ok (.iload_n 3, 1) := by decide +kernel
theorem d_Go_findOpen_56 : decode c_Go_findOpen 56 = .ok (.ineg, 1) := by decide +kernel
theorem d_Go_findOpen_57 : decode c_Go_findOpen 57 = .ok (.ireturn, 1) := by decide +kernel
theorem d_Go_findOpen_58 : decode c_Go_findOpen 58 = .ok (.iinc 2 (-1), 3) := by decide +kernel
theorem d_Go_findOpen_61 : decode c_Go_findOpen 61 = .ok (.iinc 3 1, 3) := by decide +kernel
theorem d_Go_findOpen_64 : decode c_Go_findOpen 64 = .ok (.goto (-27), 3) := by decide +kernel
theorem d_Go_findOpen_67 : decode c_Go_findOpen 67 = .ok (.iconst 0, 1) := by decide +kernel
theorem d_Go_findOpen_68 : decode c_Go_findOpen 68 = .ok (.ireturn, 1) := by decide +kernel
theorem d_Go_isGoalOpen_0 : decode c_Go_isGoalOpen 0 = .ok (.aload_n 0, 1) := by decide +kernel
theorem d_Go_isGoalOpen_1 : decode c_Go_isGoalOpen 1 = .ok (.getfield 18, 3) := by decide +kernel
theorem d_Go_isGoalOpen_4 : decode c_Go_isGoalOpen 4 = .ok (.iload_n 1, 1) := by decide +kernel
theorem d_Go_isGoalOpen_5 : decode c_Go_isGoalOpen 5 = .ok (.iaload, 1) := by decide +kernel
theorem d_Go_isGoalOpen_6 : decode c_Go_isGoalOpen 6 = .ok (.ifCond .ne 5, 3) := by decide +kernel
theorem d_Go_isGoalOpen_9 : decode c_Go_isGoalOpen 9 = .ok (.iconst 0, 1) := by decide +kernel
theorem d_Go_isGoalOpen_10 : decode c_Go_isGoalOpen 10 = .ok (.ireturn, 1) := by decide +kernel
theorem d_Go_isGoalOpen_11 : decode c_Go_isGoalOpen 11 = .ok (.iconst 0, 1) := by decide +kernel
theorem d_Go_isGoalOpen_12 : decode c_Go_isGoalOpen 12 = .ok (.istore_n 2, 1) := by decide +kernel
theorem d_Go_isGoalOpen_13 : decode c_Go_isGoalOpen 13 = .ok (.iload_n 2, 1) := by decide +kernel
theorem d_Go_isGoalOpen_14 : decode c_Go_isGoalOpen 14 = .ok (.aload_n 0, 1) := by decide +kernel
theorem d_Go_isGoalOpen_15 : decode c_Go_isGoalOpen 15 = .ok (.getfield 15, 3) := by decide +kernel
theorem d_Go_isGoalOpen_18 : decode c_Go_isGoalOpen 18 = .ok (.if_icmp .ge 30, 3) := by decide +kernel
theorem d_Go_isGoalOpen_21 : decode c_Go_isGoalOpen 21 = .ok (.aload_n 0, 1) := by decide +kernel
theorem d_Go_isGoalOpen_22 : decode c_Go_isGoalOpen 22 = .ok (.getfield 22, 3) := by decide +kernel
theorem d_Go_isGoalOpen_25 : decode c_Go_isGoalOpen 25 = .ok (.iload_n 2, 1) := by decide +kernel
theorem d_Go_isGoalOpen_26 : decode c_Go_isGoalOpen 26 = .ok (.iaload, 1) := by decide +kernel
theorem d_Go_isGoalOpen_27 : decode c_Go_isGoalOpen 27 = .ok (.iload_n 1, 1) := by decide +kernel
theorem d_Go_isGoalOpen_28 : decode c_Go_isGoalOpen 28 = .ok (.if_icmp .ne 14, 3) := by decide +kernel
theorem d_Go_isGoalOpen_31 : decode c_Go_isGoalOpen 31 = .ok (.aload_n 0, 1) := by decide +kernel
theorem d_Go_isGoalOpen_32 : decode c_Go_isGoalOpen 32 = .ok (.getfield 28, 3) := by decide +kernel
theorem d_Go_isGoalOpen_35 : decode c_Go_isGoalOpen 35 = .ok (.iload_n 2, 1) := by decide +kernel
theorem d_Go_isGoalOpen_36 : decode c_Go_isGoalOpen 36 = .ok (.iaload, 1) := by decide +kernel
theorem d_Go_isGoalOpen_37 : decode c_Go_isGoalOpen 37 = .ok (.ifCond .eq 5, 3) := by decide +kernel
theorem d_Go_isGoalOpen_40 : decode c_Go_isGoalOpen 40 = .ok (.iconst 0, 1) := by decide +kernel
theorem d_Go_isGoalOpen_41 : decode c_Go_isGoalOpen 41 = .ok (.ireturn, 1) := by decide +kernel
theorem d_Go_isGoalOpen_42 : decode c_Go_isGoalOpen 42 = .ok (.iinc 2 1, 3) := by decide +kernel
theorem d_Go_isGoalOpen_45 : decode c_Go_isGoalOpen 45 = .ok (.goto (-32), 3) := by decide +kernel
theorem d_Go_isGoalOpen_48 : decode c_Go_isGoalOpen 48 = .ok (.iconst 1, 1) := by decide +kernel
theorem d_Go_isGoalOpen_49 : decode c_Go_isGoalOpen 49 = .ok (.ireturn, 1) := by decide +kernel
theorem d_Go_isPartOpen_0 : decode c_Go_isPartOpen 0 = .ok (.aload_n 0, 1) := by decide +kernel
theorem d_Go_isPartOpen_1 : decode c_Go_isPartOpen 1 = .ok (.iload_n 1, 1) := by decide +kernel
theorem d_Go_isPartOpen_2 : decode c_Go_isPartOpen 2 = .ok (.invokevirtual 38, 3) := by decide +kernel
theorem d_Go_isPartOpen_5 : decode c_Go_isPartOpen 5 = .ok (.ifCond .le 15, 3) := by decide +kernel
theorem d_Go_isPartOpen_8 : decode c_Go_isPartOpen 8 = .ok (.aload_n 0, 1) := by decide +kernel
theorem d_Go_isPartOpen_9 : decode c_Go_isPartOpen 9 = .ok (.iload_n 1, 1) := by decide +kernel
theorem d_Go_isPartOpen_10 : decode c_Go_isPartOpen 10 = .ok (.invokevirtual 42, 3) := by decide +kernel
theorem d_Go_isPartOpen_13 : decode c_Go_isPartOpen 13 = .ok (.ifCond .ne 7, 3) := by decide +kernel
theorem d_Go_isPartOpen_16 : decode c_Go_isPartOpen 16 = .ok (.iconst 1, 1) := by decide +kernel
theorem d_Go_isPartOpen_17 : decode c_Go_isPartOpen 17 = .ok (.goto 4, 3) := by decide +kernel
theorem d_Go_isPartOpen_20 : decode c_Go_isPartOpen 20 = .ok (.iconst 0, 1) := by decide +kernel
theorem d_Go_isPartOpen_21 : decode c_Go_isPartOpen 21 = .ok (.ireturn, 1) := by decide +kernel
