theorem d_ST_init_0 : decode c_ST_init 0 = .ok (.aload_n 0, 1) := by decide +kernel
theorem d_ST_init_1 : decode c_ST_init 1 = .ok (.invokespecial 3, 3) := by decide +kernel
theorem d_ST_init_4 : decode c_ST_init 4 = .ok (.aload_n 0, 1) := by decide +kernel
theorem d_ST_init_5 : decode c_ST_init 5 = .ok (.new 9, 3) := by decide +kernel
theorem d_ST_init_8 : decode c_ST_init 8 = .ok (.dup, 1) := by decide +kernel
theorem d_ST_init_9 : decode c_ST_init 9 = .ok (.invokespecial 11, 3) := by decide +kernel
theorem d_ST_init_12 : decode c_ST_init 12 = .ok (.putfield 12, 3) := by decide +kernel
theorem d_ST_init_15 : decode c_ST_init 15 = .ok (.aload_n 0, 1) := by decide +kernel
theorem d_ST_init_16 : decode c_ST_init 16 = .ok (.new 16, 3) := by decide +kernel
theorem d_ST_init_19 : decode c_ST_init 19 = .ok (.dup, 1) := by decide +kernel
theorem d_ST_init_20 : decode c_ST_init 20 = .ok (.aload_n 0, 1) := by decide +kernel
theorem d_ST_init_21 : decode c_ST_init 21 = .ok (.getfield 12, 3) := by decide +kernel
theorem d_ST_init_24 : decode c_ST_init 24 = .ok (.invokespecial 18, 3) := by decide +kernel
theorem d_ST_init_27 : decode c_ST_init 27 = .ok (.putfield 21, 3) := by decide +kernel
theorem d_ST_init_30 : decode c_ST_init 30 = .ok (.aload_n 0, 1) := by decide +kernel
theorem d_ST_init_31 : decode c_ST_init 31 = .ok (.new 25, 3) := by decide +kernel
theorem d_ST_init_34 : decode c_ST_init 34 = .ok (.dup, 1) := by decide +kernel
theorem d_ST_init_35 : decode c_ST_init 35 = .ok (.invokespecial 27, 3) := by decide +kernel
theorem d_ST_init_38 : decode c_ST_init 38 = .ok (.putfield 28, 3) := by decide +kernel
theorem d_ST_init_41 : decode c_ST_init 41 = .ok (.aload_n 0, 1) := by decide +kernel
theorem d_ST_init_42 : decode c_ST_init 42 = .ok (.new 32, 3) := by decide +kernel
theorem d_ST_init_45 : decode c_ST_init 45 = .ok (.dup, 1) := by decide +kernel
theorem d_ST_init_46 : decode c_ST_init 46 = .ok (.invokespecial 34, 3) := by decide +kernel
theorem d_ST_init_49 : decode c_ST_init 49 = .ok (.putfield 35, 3) := by decide +kernel
theorem d_ST_init_52 : decode c_ST_init 52 = .ok (.aload_n 0, 1) := by decide +kernel
theorem d_ST_init_53 : decode c_ST_init 53 = .ok (.new 39, 3) := by decide +kernel
theorem d_ST_init_56 : decode c_ST_init 56 = .ok (.dup, 1) := by decide +kernel
theorem d_ST_init_57 : decode c_ST_init 57 = .ok (.aload_n 0, 1) := by decide +kernel
theorem d_ST_init_58 : decode c_ST_init 58 = .ok (.getfield 12, 3) := by decide +kernel
theorem d_ST_init_61 : decode c_ST_init 61 = .ok (.aload_n 0, 1) := by decide +kernel
theorem d_ST_init_62 : decode c_ST_init 62 = .ok (.getfield 21, 3) := by decide +kernel
theorem d_ST_init_65 : decode c_ST_init 65 = .ok (.aload_n 0, 1) := by decide +kernel
theorem d_ST_init_66 : decode c_ST_init 66 = .ok (.getfield 28, 3) := by decide +kernel
theorem d_ST_init_69 : decode c_ST_init 69 = .ok (.invokespecial 41, 3) := by decide +kernel
theorem d_ST_init_72 : decode c_ST_init 72 = .ok (.putfield 44, 3) := by decide +kernel
theorem d_ST_init_75 : decode c_ST_init 75 = .ok (.aload_n 0, 1) := by decide +kernel
theorem d_ST_init_76 : decode c_ST_init 76 = .ok (.new 48, 3) := by decide +kernel
theorem d_ST_init_79 : decode c_ST_init 79 = .ok (.dup, 1) := by decide +kernel
theorem d_ST_init_80 : decode c_ST_init 80 = .ok (.invokespecial 50, 3) := by decide +kernel
theorem d_ST_init_83 : decode c_ST_init 83 = .ok (.putfield 51, 3) := by decide +kernel
theorem d_ST_init_86 : decode c_ST_init 86 = .ok (.aload_n 0, 1) := by decide +kernel
theorem d_ST_init_87 : decode c_ST_init 87 = .ok (.new 55, 3) := by decide +kernel
theorem d_ST_init_90 : decode c_ST_init 90 = .ok (.dup, 1) := by decide +kernel
theorem d_ST_init_91 : decode c_ST_init 91 = .ok (.invokespecial 57, 3) := by decide +kernel
theorem d_ST_init_94 : decode c_ST_init 94 = .ok (.putfield 58, 3) := by decide +kernel
theorem d_ST_init_97 : decode c_ST_init 97 = .ok (.return_, 1) := by decide +kernel
theorem d_ST_event_0 : decode c_ST_event 0 = .ok (.lload_n 3, 1) := by decide +kernel
theorem d_ST_event_1 : decode c_ST_event 1 = .ok (.invokestatic 62, 3) := by decide +kernel
theorem d_ST_event_4 : decode c_ST_event 4 = .ok (.ifCond .eq 9, 3) := by decide +kernel
theorem d_ST_event_7 : decode c_ST_event 7 = .ok (.lload_n 1, 1) := by decide +kernel
theorem d_ST_event_8 : decode c_ST_event 8 = .ok (.lconst 0, 1) := by decide +kernel
theorem d_ST_event_9 : decode c_ST_event 9 = .ok (.lcmp, 1) := by decide +kernel
theorem d_ST_event_10 : decode c_ST_event 10 = .ok (.ifCond .ge 6, 3) := by decide +kernel
theorem d_ST_event_13 : decode c_ST_event 13 = .ok (.bipush (-2), 2) := by decide +kernel
theorem d_ST_event_15 : decode c_ST_event 15 = .ok (.ireturn, 1) := by decide +kernel
theorem d_ST_event_16 : decode c_ST_event 16 = .ok (.aload_n 0, 1) := by decide +kernel
theorem d_ST_event_17 : decode c_ST_event 17 = .ok (.getfield 12, 3) := by decide +kernel
theorem d_ST_event_20 : decode c_ST_event 20 = .ok (.getfield 66, 3) := by decide +kernel
theorem d_ST_event_23 : decode c_ST_event 23 = .ok (.bipush 12, 2) := by decide +kernel
theorem d_ST_event_25 : decode c_ST_event 25 = .ok (.if_icmp .lt 6, 3) := by decide +kernel
theorem d_ST_event_28 : decode c_ST_event 28 = .ok (.bipush (-4), 2) := by decide +kernel
theorem d_ST_event_30 : decode c_ST_event 30 = .ok (.ireturn, 1) := by decide +kernel
theorem d_ST_event_31 : decode c_ST_event 31 = .ok (.lload_n 1, 1) := by decide +kernel
theorem d_ST_event_32 : decode c_ST_event 32 = .ok (.lload_n 3, 1) := by decide +kernel
theorem d_ST_event_33 : decode c_ST_event 33 = .ok (.lcmp, 1) := by decide +kernel
theorem d_ST_event_34 : decode c_ST_event 34 = .ok (.ifCond .le 5, 3) := by decide +kernel
theorem d_ST_event_37 : decode c_ST_event 37 = .ok (.iconst 0, 1) := by decide +kernel
theorem d_ST_event_38 : decode c_ST_event 38 = .ok (.ireturn, 1) := by decide +kernel
theorem d_ST_event_39 : decode c_ST_event 39 = .ok (.aload_n 0, 1) := by decide +kernel
theorem d_ST_event_40 : decode c_ST_event 40 = .ok (.getfield 12, 3) := by decide +kernel
theorem d_ST_event_43 : decode c_ST_event 43 = .ok (.lload_n 1, 1) := by decide +kernel
theorem d_ST_event_44 : decode c_ST_event 44 = .ok (.lload_n 3, 1) := by decide +kernel
theorem d_ST_event_45 : decode c_ST_event 45 = .ok (.invokevirtual 70, 3) := by decide +kernel
theorem d_ST_event_48 : decode c_ST_event 48 = .ok (.istore 5, 2) := by decide +kernel
theorem d_ST_event_50 : decode c_ST_event 50 = .ok (.aload_n 0, 1) := by decide +kernel
theorem d_ST_event_51 : decode c_ST_event 51 = .ok (.getfield 21, 3) := by decide +kernel
theorem d_ST_event_54 : decode c_ST_event 54 = .ok (.iload 5, 2) := by decide +kernel
theorem d_ST_event_56 : decode c_ST_event 56 = .ok (.invokevirtual 74, 3) := by decide +kernel
theorem d_ST_event_59 : decode c_ST_event 59 = .ok (.iload 5, 2) := by decide +kernel
theorem d_ST_event_61 : decode c_ST_event 61 = .ok (.ireturn, 1) := by decide +kernel
theorem d_ST_gate_0 : decode c_ST_gate 0 = .ok (.iload_n 1, 1) := by decide +kernel
theorem d_ST_gate_1 : decode c_ST_gate 1 = .ok (.iload_n 2, 1) := by decide +kernel
theorem d_ST_gate_2 : decode c_ST_gate 2 = .ok (.invokestatic 78, 3) := by decide +kernel
theorem d_ST_gate_5 : decode c_ST_gate 5 = .ok (.ifCond .ne 6, 3) := by decide +kernel
theorem d_ST_gate_8 : decode c_ST_gate 8 = .ok (.bipush (-2), 2) := by decide +kernel
theorem d_ST_gate_10 : decode c_ST_gate 10 = .ok (.ireturn, 1) := by decide +kernel
theorem d_ST_gate_11 : decode c_ST_gate 11 = .ok (.aload_n 0, 1) := by decide +kernel
theorem d_ST_gate_12 : decode c_ST_gate 12 = .ok (.getfield 12, 3) := by decide +kernel
theorem d_ST_gate_15 : decode c_ST_gate 15 = .ok (.getfield 82, 3) := by decide +kernel
theorem d_ST_gate_18 : decode c_ST_gate 18 = .ok (.bipush 20, 2) := by decide +kernel
theorem d_ST_gate_20 : decode c_ST_gate 20 = .ok (.if_icmp .lt 6, 3) := by decide +kernel
theorem d_ST_gate_23 : decode c_ST_gate 23 = .ok (.bipush (-4), 2) := by decide +kernel
theorem d_ST_gate_25 : decode c_ST_gate 25 = .ok (.ireturn, 1) := by decide +kernel
theorem d_ST_gate_26 : decode c_ST_gate 26 = .ok (.aload_n 0, 1) := by decide +kernel
theorem d_ST_gate_27 : decode c_ST_gate 27 = .ok (.getfield 12, 3) := by decide +kernel
theorem d_ST_gate_30 : decode c_ST_gate 30 = .ok (.iload_n 1, 1) := by decide +kernel
theorem d_ST_gate_31 : decode c_ST_gate 31 = .ok (.iload_n 2, 1) := by decide +kernel
theorem d_ST_gate_32 : decode c_ST_gate 32 = .ok (.invokevirtual 85, 3) := by decide +kernel
theorem d_ST_gate_35 : decode c_ST_gate 35 = .ok (.ireturn, 1) := by decide +kernel
theorem d_ST_below_0 : decode c_ST_below 0 = .ok (.aload_n 0, 1) := by decide +kernel
theorem d_ST_below_1 : decode c_ST_below 1 = .ok (.getfield 12, 3) := by decide +kernel
theorem d_ST_below_4 : decode c_ST_below 4 = .ok (.iload_n 1, 1) := by decide +kernel
theorem d_ST_below_5 : decode c_ST_below 5 = .ok (.invokevirtual 89, 3) := by decide +kernel
theorem d_ST_below_8 : decode c_ST_below 8 = .ok (.ifCond .eq 14, 3) := by decide +kernel
theorem d_ST_below_11 : decode c_ST_below 11 = .ok (.aload_n 0, 1) := by decide +kernel
theorem d_ST_below_12 : decode c_ST_below 12 = .ok (.getfield 12, 3) := by decide +kernel
theorem d_ST_below_15 : decode c_ST_below 15 = .ok (.iload_n 2, 1) := by decide +kernel
theorem d_ST_below_16 : decode c_ST_below 16 = .ok (.invokevirtual 93, 3) := by decide +kernel
theorem d_ST_below_19 : decode c_ST_below 19 = .ok (.ifCond .ne 5, 3) := by decide +kernel
theorem d_ST_below_22 : decode c_ST_below 22 = .ok (.iconst (-1), 1) := by decide +kernel
theorem d_ST_below_23 : decode c_ST_below 23 = .ok (.ireturn, 1) := by decide +kernel
theorem d_ST_below_24 : decode c_ST_below 24 = .ok (.aload_n 0, 1) := by decide +kernel
theorem d_ST_below_25 : decode c_ST_below 25 = .ok (.getfield 12, 3) := by decide +kernel
theorem d_ST_below_28 : decode c_ST_below 28 = .ok (.iload_n 2, 1) := by decide +kernel
theorem d_ST_below_29 : decode c_ST_below 29 = .ok (.iload_n 1, 1) := by decide +kernel
theorem d_ST_below_30 : decode c_ST_below 30 = .ok (.invokevirtual 96, 3) := by decide +kernel
theorem d_ST_below_33 : decode c_ST_below 33 = .ok (.ifCond .eq 6, 3) := by decide +kernel
theorem d_ST_below_36 : decode c_ST_below 36 = .ok (.bipush (-3), 2) := by decide +kernel
theorem d_ST_below_38 : decode c_ST_below 38 = .ok (.ireturn, 1) := by decide +kernel
theorem d_ST_below_39 : decode c_ST_below 39 = .ok (.aload_n 0, 1) := by decide +kernel
theorem d_ST_below_40 : decode c_ST_below 40 = .ok (.getfield 12, 3) := by decide +kernel
theorem d_ST_below_43 : decode c_ST_below 43 = .ok (.getfield 99, 3) := by decide +kernel
theorem d_ST_below_46 : decode c_ST_below 46 = .ok (.iload_n 1, 1) := by decide +kernel
theorem d_ST_below_47 : decode c_ST_below 47 = .ok (.iaload, 1) := by decide +kernel
theorem d_ST_below_48 : decode c_ST_below 48 = .ok (.bipush 10, 2) := by decide +kernel
theorem d_ST_below_50 : decode c_ST_below 50 = .ok (.if_icmp .lt 6, 3) := by decide +kernel
theorem d_ST_below_53 : decode c_ST_below 53 = .ok (.bipush (-4), 2) := by decide +kernel
theorem d_ST_below_55 : decode c_ST_below 55 = .ok (.ireturn, 1) := by decide +kernel
theorem d_ST_below_56 : decode c_ST_below 56 = .ok (.iload_n 2, 1) := by decide +kernel
theorem d_ST_below_57 : decode c_ST_below 57 = .ok (.iload_n 1, 1) := by decide +kernel
theorem d_ST_below_58 : decode c_ST_below 58 = .ok (.if_icmp .eq 15, 3) := by decide +kernel
theorem d_ST_below_61 : decode c_ST_below 61 = .ok (.aload_n 0, 1) := by decide +kernel
theorem d_ST_below_62 : decode c_ST_below 62 = .ok (.getfield 12, 3) := by decide +kernel
theorem d_ST_below_65 : decode c_ST_below 65 = .ok (.iload_n 1, 1) := by decide +kernel
theorem d_ST_below_66 : decode c_ST_below 66 = .ok (.iload_n 2, 1) := by decide +kernel
theorem d_ST_below_67 : decode c_ST_below 67 = .ok (.invokevirtual 103, 3) := by decide +kernel
theorem d_ST_below_70 : decode c_ST_below 70 = .ok (.ifCond .eq 5, 3) := by decide +kernel
theorem d_ST_below_73 : decode c_ST_below 73 = .ok (.iconst 0, 1) := by decide +kernel
theorem d_ST_below_74 : decode c_ST_below 74 = .ok (.ireturn, 1) := by decide +kernel
theorem d_ST_below_75 : decode c_ST_below 75 = .ok (.aload_n 0, 1) := by decide +kernel
theorem d_ST_below_76 : decode c_ST_below 76 = .ok (.getfield 12, 3) := by decide +kernel
theorem d_ST_below_79 : decode c_ST_below 79 = .ok (.iload_n 2, 1) := by decide +kernel
theorem d_ST_below_80 : decode c_ST_below 80 = .ok (.iload_n 1, 1) := by decide +kernel
theorem d_ST_below_81 : decode c_ST_below 81 = .ok (.invokevirtual 106, 3) := by decide +kernel
theorem d_ST_below_84 : decode c_ST_below 84 = .ok (.iconst 1, 1) := by decide +kernel
theorem d_ST_below_85 : decode c_ST_below 85 = .ok (.ireturn, 1) := by decide +kernel
theorem d_ST_cuts_0 : decode c_ST_cuts 0 = .ok (.aload_n 0, 1) := by decide +kernel
theorem d_ST_cuts_1 : decode c_ST_cuts 1 = .ok (.getfield 12, 3) := by decide +kernel
theorem d_ST_cuts_4 : decode c_ST_cuts 4 = .ok (.iload_n 1, 1) := by decide +kernel
theorem d_ST_cuts_5 : decode c_ST_cuts 5 = .ok (.invokevirtual 89, 3) := by decide +kernel
theorem d_ST_cuts_8 : decode c_ST_cuts 8 = .ok (.ifCond .eq 9, 3) := by decide +kernel
theorem d_ST_cuts_11 : decode c_ST_cuts 11 = .ok (.lload_n 2, 1) := by decide +kernel
theorem d_ST_cuts_12 : decode c_ST_cuts 12 = .ok (.lconst 0, 1) := by decide +kernel
theorem d_ST_cuts_13 : decode c_ST_cuts 13 = .ok (.lcmp, 1) := by decide +kernel
theorem d_ST_cuts_14 : decode c_ST_cuts 14 = .ok (.ifCond .ge 6, 3) := by decide +kernel
theorem d_ST_cuts_17 : decode c_ST_cuts 17 = .ok (.bipush (-2), 2) := by decide +kernel
theorem d_ST_cuts_19 : decode c_ST_cuts 19 = .ok (.ireturn, 1) := by decide +kernel
theorem d_ST_cuts_20 : decode c_ST_cuts 20 = .ok (.aload_n 0, 1) := by decide +kernel
theorem d_ST_cuts_21 : decode c_ST_cuts 21 = .ok (.getfield 12, 3) := by decide +kernel
theorem d_ST_cuts_24 : decode c_ST_cuts 24 = .ok (.getfield 110, 3) := by decide +kernel
theorem d_ST_cuts_27 : decode c_ST_cuts 27 = .ok (.iload_n 1, 1) := by decide +kernel
theorem d_ST_cuts_28 : decode c_ST_cuts 28 = .ok (.iaload, 1) := by decide +kernel
theorem d_ST_cuts_29 : decode c_ST_cuts 29 = .ok (.istore 4, 2) := by decide +kernel
theorem d_ST_cuts_31 : decode c_ST_cuts 31 = .ok (.iload 4, 2) := by decide +kernel
theorem d_ST_cuts_33 : decode c_ST_cuts 33 = .ok (.invokestatic 113, 3) := by decide +kernel
theorem d_ST_cuts_36 : decode c_ST_cuts 36 = .ok (.i2l, 1) := by decide +kernel
theorem d_ST_cuts_37 : decode c_ST_cuts 37 = .ok (.lload_n 2, 1) := by decide +kernel
theorem d_ST_cuts_38 : decode c_ST_cuts 38 = .ok (.lcmp, 1) := by decide +kernel
theorem d_ST_cuts_39 : decode c_ST_cuts 39 = .ok (.ifCond .le 12, 3) := by decide +kernel
theorem d_ST_cuts_42 : decode c_ST_cuts 42 = .ok (.aload_n 0, 1) := by decide +kernel
theorem d_ST_cuts_43 : decode c_ST_cuts 43 = .ok (.getfield 35, 3) := by decide +kernel
theorem d_ST_cuts_46 : decode c_ST_cuts 46 = .ok (.invokevirtual 117, 3) := by decide +kernel
theorem d_ST_cuts_49 : decode c_ST_cuts 49 = .ok (.iconst (-1), 1) := by decide +kernel
theorem d_ST_cuts_50 : decode c_ST_cuts 50 = .ok (.ireturn, 1) := by decide +kernel
theorem d_ST_cuts_51 : decode c_ST_cuts 51 = .ok (.aload_n 0, 1) := by decide +kernel
theorem d_ST_cuts_52 : decode c_ST_cuts 52 = .ok (.getfield 21, 3) := by decide +kernel
theorem d_ST_cuts_55 : decode c_ST_cuts 55 = .ok (.iload_n 1, 1) := by decide +kernel
theorem d_ST_cuts_56 : decode c_ST_cuts 56 = .ok (.invokevirtual 120, 3) := by decide +kernel
theorem d_ST_cuts_59 : decode c_ST_cuts 59 = .ok (.aload_n 0, 1) := by decide +kernel
theorem d_ST_cuts_60 : decode c_ST_cuts 60 = .ok (.getfield 35, 3) := by decide +kernel
theorem d_ST_cuts_63 : decode c_ST_cuts 63 = .ok (.aload_n 0, 1) := by decide +kernel
theorem d_ST_cuts_64 : decode c_ST_cuts 64 = .ok (.getfield 21, 3) := by decide +kernel
theorem d_ST_cuts_67 : decode c_ST_cuts 67 = .ok (.iload_n 1, 1) := by decide +kernel
theorem d_ST_cuts_68 : decode c_ST_cuts 68 = .ok (.iload 4, 2) := by decide +kernel
theorem d_ST_cuts_70 : decode c_ST_cuts 70 = .ok (.invokevirtual 123, 3) := by decide +kernel
theorem d_ST_cuts_73 : decode c_ST_cuts 73 = .ok (.ireturn, 1) := by decide +kernel
theorem d_ST_cut_0 : decode c_ST_cut 0 = .ok (.aload_n 0, 1) := by decide +kernel
theorem d_ST_cut_1 : decode c_ST_cut 1 = .ok (.getfield 35, 3) := by decide +kernel
theorem d_ST_cut_4 : decode c_ST_cut 4 = .ok (.iload_n 1, 1) := by decide +kernel
theorem d_ST_cut_5 : decode c_ST_cut 5 = .ok (.iload_n 2, 1) := by decide +kernel
theorem d_ST_cut_6 : decode c_ST_cut 6 = .ok (.invokevirtual 127, 3) := by decide +kernel
theorem d_ST_cut_9 : decode c_ST_cut 9 = .ok (.istore_n 3, 1) := by decide +kernel
theorem d_ST_cut_10 : decode c_ST_cut 10 = .ok (.iload_n 3, 1) := by decide +kernel
theorem d_ST_cut_11 : decode c_ST_cut 11 = .ok (.ifCond .lt 9, 3) := by decide +kernel
theorem d_ST_cut_14 : decode c_ST_cut 14 = .ok (.iload_n 3, 1) := by decide +kernel
theorem d_ST_cut_15 : decode c_ST_cut 15 = .ok (.bipush 12, 2) := by decide +kernel
theorem d_ST_cut_17 : decode c_ST_cut 17 = .ok (.if_icmp .lt 7, 3) := by decide +kernel
theorem d_ST_cut_20 : decode c_ST_cut 20 = .ok (.iconst 0, 1) := by decide +kernel
theorem d_ST_cut_21 : decode c_ST_cut 21 = .ok (.goto 12, 3) := by decide +kernel
theorem d_ST_cut_24 : decode c_ST_cut 24 = .ok (.aload_n 0, 1) := by decide +kernel
theorem d_ST_cut_25 : decode c_ST_cut 25 = .ok (.getfield 12, 3) := by decide +kernel
theorem d_ST_cut_28 : decode c_ST_cut 28 = .ok (.getfield 130, 3) := by decide +kernel
theorem d_ST_cut_31 : decode c_ST_cut 31 = .ok (.iload_n 3, 1) := by decide +kernel
theorem d_ST_cut_32 : decode c_ST_cut 32 = .ok (.iaload, 1) := by decide +kernel
theorem d_ST_cut_33 : decode c_ST_cut 33 = .ok (.ireturn, 1) := by decide +kernel
theorem d_ST_chance_0 : decode c_ST_chance 0 = .ok (.aload_n 0, 1) := by decide +kernel
theorem d_ST_chance_1 : decode c_ST_chance 1 = .ok (.getfield 12, 3) := by decide +kernel
theorem d_ST_chance_4 : decode c_ST_chance 4 = .ok (.iload_n 1, 1) := by decide +kernel
theorem d_ST_chance_5 : decode c_ST_chance 5 = .ok (.invokevirtual 89, 3) := by decide +kernel
theorem d_ST_chance_8 : decode c_ST_chance 8 = .ok (.ifCond .ne 7, 3) := by decide +kernel
theorem d_ST_chance_11 : decode c_ST_chance 11 = .ok (.ldc2_w 133, 3) := by decide +kernel
theorem d_ST_chance_14 : decode c_ST_chance 14 = .ok (.lreturn, 1) := by decide +kernel
theorem d_ST_chance_15 : decode c_ST_chance 15 = .ok (.aload_n 0, 1) := by decide +kernel
theorem d_ST_chance_16 : decode c_ST_chance 16 = .ok (.getfield 44, 3) := by decide +kernel
theorem d_ST_chance_19 : decode c_ST_chance 19 = .ok (.iload_n 1, 1) := by decide +kernel
theorem d_ST_chance_20 : decode c_ST_chance 20 = .ok (.invokevirtual 135, 3) := by decide +kernel
theorem d_ST_chance_23 : decode c_ST_chance 23 = .ok (.aload_n 0, 1) := by decide +kernel
theorem d_ST_chance_24 : decode c_ST_chance 24 = .ok (.getfield 44, 3) := by decide +kernel
theorem d_ST_chance_27 : decode c_ST_chance 27 = .ok (.getfield 138, 3) := by decide +kernel
theorem d_ST_chance_30 : decode c_ST_chance 30 = .ok (.iload_n 2, 1) := by decide +kernel
theorem d_ST_chance_31 : decode c_ST_chance 31 = .ok (.invokevirtual 141, 3) := by decide +kernel
theorem d_ST_chance_34 : decode c_ST_chance 34 = .ok (.lreturn, 1) := by decide +kernel
theorem d_ST_exact_0 : decode c_ST_exact 0 = .ok (.aload_n 0, 1) := by decide +kernel
theorem d_ST_exact_1 : decode c_ST_exact 1 = .ok (.getfield 44, 3) := by decide +kernel
theorem d_ST_exact_4 : decode c_ST_exact 4 = .ok (.getfield 145, 3) := by decide +kernel
theorem d_ST_exact_7 : decode c_ST_exact 7 = .ok (.ireturn, 1) := by decide +kernel
theorem d_ST_common_0 : decode c_ST_common 0 = .ok (.aload_n 0, 1) := by decide +kernel
theorem d_ST_common_1 : decode c_ST_common 1 = .ok (.getfield 12, 3) := by decide +kernel
theorem d_ST_common_4 : decode c_ST_common 4 = .ok (.iload_n 1, 1) := by decide +kernel
theorem d_ST_common_5 : decode c_ST_common 5 = .ok (.invokevirtual 149, 3) := by decide +kernel
theorem d_ST_common_8 : decode c_ST_common 8 = .ok (.ifCond .eq 14, 3) := by decide +kernel
theorem d_ST_common_11 : decode c_ST_common 11 = .ok (.aload_n 0, 1) := by decide +kernel
theorem d_ST_common_12 : decode c_ST_common 12 = .ok (.getfield 12, 3) := by decide +kernel
theorem d_ST_common_15 : decode c_ST_common 15 = .ok (.iload_n 2, 1) := by decide +kernel
theorem d_ST_common_16 : decode c_ST_common 16 = .ok (.invokevirtual 149, 3) := by decide +kernel
theorem d_ST_common_19 : decode c_ST_common 19 = .ok (.ifCond .ne 5, 3) := by decide +kernel
theorem d_ST_common_22 : decode c_ST_common 22 = .ok (.iconst (-1), 1) := by decide +kernel
theorem d_ST_common_23 : decode c_ST_common 23 = .ok (.ireturn, 1) := by decide +kernel
theorem d_ST_common_24 : decode c_ST_common 24 = .ok (.iload_n 1, 1) := by decide +kernel
theorem d_ST_common_25 : decode c_ST_common 25 = .ok (.iload_n 2, 1) := by decide +kernel
theorem d_ST_common_26 : decode c_ST_common 26 = .ok (.if_icmp .eq 24, 3) := by decide +kernel
theorem d_ST_common_29 : decode c_ST_common 29 = .ok (.lload 5, 2) := by decide +kernel
theorem d_ST_common_31 : decode c_ST_common 31 = .ok (.invokestatic 62, 3) := by decide +kernel
theorem d_ST_common_34 : decode c_ST_common 34 = .ok (.ifCond .eq 16, 3) := by decide +kernel
theorem d_ST_common_37 : decode c_ST_common 37 = .ok (.lload_n 3, 1) := by decide +kernel
theorem d_ST_common_38 : decode c_ST_common 38 = .ok (.lconst 0, 1) := by decide +kernel
theorem d_ST_common_39 : decode c_ST_common 39 = .ok (.lcmp, 1) := by decide +kernel
theorem d_ST_common_40 : decode c_ST_common 40 = .ok (.ifCond .lt 10, 3) := by decide +kernel
theorem d_ST_common_43 : decode c_ST_common 43 = .ok (.lload_n 3, 1) := by decide +kernel
theorem d_ST_common_44 : decode c_ST_common 44 = .ok (.lload 5, 2) := by decide +kernel
theorem d_ST_common_46 : decode c_ST_common 46 = .ok (.lcmp, 1) := by decide +kernel
theorem d_ST_common_47 : decode c_ST_common 47 = .ok (.ifCond .le 6, 3) := by decide +kernel
theorem d_ST_common_50 : decode c_ST_common 50 = .ok (.bipush (-2), 2) := by decide +kernel
theorem d_ST_common_52 : decode c_ST_common 52 = .ok (.ireturn, 1) := by decide +kernel
theorem d_ST_common_53 : decode c_ST_common 53 = .ok (.aload_n 0, 1) := by decide +kernel
theorem d_ST_common_54 : decode c_ST_common 54 = .ok (.getfield 28, 3) := by decide +kernel
theorem d_ST_common_57 : decode c_ST_common 57 = .ok (.getfield 152, 3) := by decide +kernel
theorem d_ST_common_60 : decode c_ST_common 60 = .ok (.iconst 4, 1) := by decide +kernel
theorem d_ST_common_61 : decode c_ST_common 61 = .ok (.if_icmp .lt 6, 3) := by decide +kernel
theorem d_ST_common_64 : decode c_ST_common 64 = .ok (.bipush (-4), 2) := by decide +kernel
theorem d_ST_common_66 : decode c_ST_common 66 = .ok (.ireturn, 1) := by decide +kernel
theorem d_ST_common_67 : decode c_ST_common 67 = .ok (.aload_n 0, 1) := by decide +kernel
theorem d_ST_common_68 : decode c_ST_common 68 = .ok (.getfield 28, 3) := by decide +kernel
theorem d_ST_common_71 : decode c_ST_common 71 = .ok (.aload_n 0, 1) := by decide +kernel
theorem d_ST_common_72 : decode c_ST_common 72 = .ok (.getfield 12, 3) := by decide +kernel
theorem d_ST_common_75 : decode c_ST_common 75 = .ok (.getfield 110, 3) := by decide +kernel
theorem d_ST_common_78 : decode c_ST_common 78 = .ok (.iload_n 1, 1) := by decide +kernel
theorem d_ST_common_79 : decode c_ST_common 79 = .ok (.iaload, 1) := by decide +kernel
theorem d_ST_common_80 : decode c_ST_common 80 = .ok (.aload_n 0, 1) := by decide +kernel
theorem d_ST_common_81 : decode c_ST_common 81 = .ok (.getfield 12, 3) := by decide +kernel
theorem d_ST_common_84 : decode c_ST_common 84 = .ok (.getfield 110, 3) := by decide +kernel
theorem d_ST_common_87 : decode c_ST_common 87 = .ok (.iload_n 2, 1) := by decide +kernel
theorem d_ST_common_88 : decode c_ST_common 88 = .ok (.iaload, 1) := by decide +kernel
theorem d_ST_common_89 : decode c_ST_common 89 = .ok (.ior, 1) := by decide +kernel
theorem d_ST_common_90 : decode c_ST_common 90 = .ok (.lload_n 3, 1) := by decide +kernel
theorem d_ST_common_91 : decode c_ST_common 91 = .ok (.lload 5, 2) := by decide +kernel
theorem d_ST_common_93 : decode c_ST_common 93 = .ok (.invokevirtual 155, 3) := by decide +kernel
theorem d_ST_common_96 : decode c_ST_common 96 = .ok (.ireturn, 1) := by decide +kernel
theorem d_ST_grade_0 : decode c_ST_grade 0 = .ok (.iload_n 1, 1) := by decide +kernel
theorem d_ST_grade_1 : decode c_ST_grade 1 = .ok (.iconst 0, 1) := by decide +kernel
theorem d_ST_grade_2 : decode c_ST_grade 2 = .ok (.iconst 3, 1) := by decide +kernel
theorem d_ST_grade_3 : decode c_ST_grade 3 = .ok (.invokestatic 159, 3) := by decide +kernel
theorem d_ST_grade_6 : decode c_ST_grade 6 = .ok (.ifCond .eq 21, 3) := by decide +kernel
theorem d_ST_grade_9 : decode c_ST_grade 9 = .ok (.iload_n 2, 1) := by decide +kernel
theorem d_ST_grade_10 : decode c_ST_grade 10 = .ok (.iconst 0, 1) := by decide +kernel
theorem d_ST_grade_11 : decode c_ST_grade 11 = .ok (.iconst 4, 1) := by decide +kernel
theorem d_ST_grade_12 : decode c_ST_grade 12 = .ok (.invokestatic 159, 3) := by decide +kernel
theorem d_ST_grade_15 : decode c_ST_grade 15 = .ok (.ifCond .eq 12, 3) := by decide +kernel
theorem d_ST_grade_18 : decode c_ST_grade 18 = .ok (.iload_n 3, 1) := by decide +kernel
theorem d_ST_grade_19 : decode c_ST_grade 19 = .ok (.iconst 0, 1) := by decide +kernel
theorem d_ST_grade_20 : decode c_ST_grade 20 = .ok (.iconst 3, 1) := by decide +kernel
theorem d_ST_grade_21 : decode c_ST_grade 21 = .ok (.invokestatic 159, 3) := by decide +kernel
theorem d_ST_grade_24 : decode c_ST_grade 24 = .ok (.ifCond .ne 6, 3) := by decide +kernel
theorem d_ST_grade_27 : decode c_ST_grade 27 = .ok (.bipush (-2), 2) := by decide +kernel
theorem d_ST_grade_29 : decode c_ST_grade 29 = .ok (.ireturn, 1) := by decide +kernel
theorem d_ST_grade_30 : decode c_ST_grade 30 = .ok (.iload_n 1, 1) := by decide +kernel
theorem d_ST_grade_31 : decode c_ST_grade 31 = .ok (.iload_n 2, 1) := by decide +kernel
theorem d_ST_grade_32 : decode c_ST_grade 32 = .ok (.iadd, 1) := by decide +kernel
theorem d_ST_grade_33 : decode c_ST_grade 33 = .ok (.iload_n 3, 1) := by decide +kernel
theorem d_ST_grade_34 : decode c_ST_grade 34 = .ok (.iadd, 1) := by decide +kernel
theorem d_ST_grade_35 : decode c_ST_grade 35 = .ok (.istore 4, 2) := by decide +kernel
theorem d_ST_grade_37 : decode c_ST_grade 37 = .ok (.iload_n 1, 1) := by decide +kernel
theorem d_ST_grade_38 : decode c_ST_grade 38 = .ok (.ifCond .eq 18, 3) := by decide +kernel
theorem d_ST_grade_41 : decode c_ST_grade 41 = .ok (.iload_n 2, 1) := by decide +kernel
theorem d_ST_grade_42 : decode c_ST_grade 42 = .ok (.ifCond .eq 14, 3) := by decide +kernel
theorem d_ST_grade_45 : decode c_ST_grade 45 = .ok (.iload_n 3, 1) := by decide +kernel
theorem d_ST_grade_46 : decode c_ST_grade 46 = .ok (.ifCond .eq 10, 3) := by decide +kernel
theorem d_ST_grade_49 : decode c_ST_grade 49 = .ok (.iload 4, 2) := by decide +kernel
theorem d_ST_grade_51 : decode c_ST_grade 51 = .ok (.bipush 7, 2) := by decide +kernel
theorem d_ST_grade_53 : decode c_ST_grade 53 = .ok (.if_icmp .ge 5, 3) := by decide +kernel
theorem d_ST_grade_56 : decode c_ST_grade 56 = .ok (.iconst 0, 1) := by decide +kernel
theorem d_ST_grade_57 : decode c_ST_grade 57 = .ok (.ireturn, 1) := by decide +kernel
theorem d_ST_grade_58 : decode c_ST_grade 58 = .ok (.iload 4, 2) := by decide +kernel
theorem d_ST_grade_60 : decode c_ST_grade 60 = .ok (.bipush 6, 2) := by decide +kernel
theorem d_ST_grade_62 : decode c_ST_grade 62 = .ok (.isub, 1) := by decide +kernel
theorem d_ST_grade_63 : decode c_ST_grade 63 = .ok (.ireturn, 1) := by decide +kernel
theorem d_ST_goal_0 : decode c_ST_goal 0 = .ok (.iload_n 1, 1) := by decide +kernel
theorem d_ST_goal_1 : decode c_ST_goal 1 = .ok (.iconst 0, 1) := by decide +kernel
theorem d_ST_goal_2 : decode c_ST_goal 2 = .ok (.iconst 4, 1) := by decide +kernel
theorem d_ST_goal_3 : decode c_ST_goal 3 = .ok (.invokestatic 159, 3) := by decide +kernel
theorem d_ST_goal_6 : decode c_ST_goal 6 = .ok (.ifCond .ne 6, 3) := by decide +kernel
theorem d_ST_goal_9 : decode c_ST_goal 9 = .ok (.bipush (-2), 2) := by decide +kernel
theorem d_ST_goal_11 : decode c_ST_goal 11 = .ok (.ireturn, 1) := by decide +kernel
theorem d_ST_goal_12 : decode c_ST_goal 12 = .ok (.aload_n 0, 1) := by decide +kernel
theorem d_ST_goal_13 : decode c_ST_goal 13 = .ok (.getfield 51, 3) := by decide +kernel
theorem d_ST_goal_16 : decode c_ST_goal 16 = .ok (.getfield 163, 3) := by decide +kernel
theorem d_ST_goal_19 : decode c_ST_goal 19 = .ok (.bipush 30, 2) := by decide +kernel
theorem d_ST_goal_21 : decode c_ST_goal 21 = .ok (.if_icmp .lt 6, 3) := by decide +kernel
theorem d_ST_goal_24 : decode c_ST_goal 24 = .ok (.bipush (-4), 2) := by decide +kernel
theorem d_ST_goal_26 : decode c_ST_goal 26 = .ok (.ireturn, 1) := by decide +kernel
theorem d_ST_goal_27 : decode c_ST_goal 27 = .ok (.aload_n 0, 1) := by decide +kernel
theorem d_ST_goal_28 : decode c_ST_goal 28 = .ok (.getfield 51, 3) := by decide +kernel
theorem d_ST_goal_31 : decode c_ST_goal 31 = .ok (.iload_n 1, 1) := by decide +kernel
theorem d_ST_goal_32 : decode c_ST_goal 32 = .ok (.invokevirtual 164, 3) := by decide +kernel
theorem d_ST_goal_35 : decode c_ST_goal 35 = .ok (.ireturn, 1) := by decide +kernel
theorem d_ST_trace_0 : decode c_ST_trace 0 = .ok (.iload_n 1, 1) := by decide +kernel
theorem d_ST_trace_1 : decode c_ST_trace 1 = .ok (.iconst 1, 1) := by decide +kernel
theorem d_ST_trace_2 : decode c_ST_trace 2 = .ok (.aload_n 0, 1) := by decide +kernel
theorem d_ST_trace_3 : decode c_ST_trace 3 = .ok (.getfield 51, 3) := by decide +kernel
theorem d_ST_trace_6 : decode c_ST_trace 6 = .ok (.getfield 163, 3) := by decide +kernel
theorem d_ST_trace_9 : decode c_ST_trace 9 = .ok (.invokestatic 159, 3) := by decide +kernel
theorem d_ST_trace_12 : decode c_ST_trace 12 = .ok (.ifCond .ne 5, 3) := by decide +kernel
theorem d_ST_trace_15 : decode c_ST_trace 15 = .ok (.iconst (-1), 1) := by decide +kernel
theorem d_ST_trace_16 : decode c_ST_trace 16 = .ok (.ireturn, 1) := by decide +kernel
theorem d_ST_trace_17 : decode c_ST_trace 17 = .ok (.iload_n 2, 1) := by decide +kernel
theorem d_ST_trace_18 : decode c_ST_trace 18 = .ok (.iconst 1, 1) := by decide +kernel
theorem d_ST_trace_19 : decode c_ST_trace 19 = .ok (.bipush 50, 2) := by decide +kernel
theorem d_ST_trace_21 : decode c_ST_trace 21 = .ok (.invokestatic 159, 3) := by decide +kernel
theorem d_ST_trace_24 : decode c_ST_trace 24 = .ok (.ifCond .eq 13, 3) := by decide +kernel
theorem d_ST_trace_27 : decode c_ST_trace 27 = .ok (.iload_n 3, 1) := by decide +kernel
theorem d_ST_trace_28 : decode c_ST_trace 28 = .ok (.iconst 0, 1) := by decide +kernel
theorem d_ST_trace_29 : decode c_ST_trace 29 = .ok (.bipush 50, 2) := by decide +kernel
theorem d_ST_trace_31 : decode c_ST_trace 31 = .ok (.invokestatic 159, 3) := by decide +kernel
theorem d_ST_trace_34 : decode c_ST_trace 34 = .ok (.ifCond .ne 6, 3) := by decide +kernel
theorem d_ST_trace_37 : decode c_ST_trace 37 = .ok (.bipush (-2), 2) := by decide +kernel
theorem d_ST_trace_39 : decode c_ST_trace 39 = .ok (.ireturn, 1) := by decide +kernel
theorem d_ST_trace_40 : decode c_ST_trace 40 = .ok (.aload_n 0, 1) := by decide +kernel
theorem d_ST_trace_41 : decode c_ST_trace 41 = .ok (.getfield 51, 3) := by decide +kernel
theorem d_ST_trace_44 : decode c_ST_trace 44 = .ok (.iload_n 1, 1) := by decide +kernel
theorem d_ST_trace_45 : decode c_ST_trace 45 = .ok (.iload_n 2, 1) := by decide +kernel
theorem d_ST_trace_46 : decode c_ST_trace 46 = .ok (.iload_n 3, 1) := by decide +kernel
theorem d_ST_trace_47 : decode c_ST_trace 47 = .ok (.invokevirtual 166, 3) := by decide +kernel
theorem d_ST_trace_50 : decode c_ST_trace 50 = .ok (.ifCond .eq 6, 3) := by decide +kernel
theorem d_ST_trace_53 : decode c_ST_trace 53 = .ok (.bipush (-3), 2) := by decide +kernel
theorem d_ST_trace_55 : decode c_ST_trace 55 = .ok (.ireturn, 1) := by decide +kernel
theorem d_ST_trace_56 : decode c_ST_trace 56 = .ok (.aload_n 0, 1) := by decide +kernel
theorem d_ST_trace_57 : decode c_ST_trace 57 = .ok (.getfield 51, 3) := by decide +kernel
theorem d_ST_trace_60 : decode c_ST_trace 60 = .ok (.getfield 169, 3) := by decide +kernel
theorem d_ST_trace_63 : decode c_ST_trace 63 = .ok (.bipush 100, 2) := by decide +kernel
theorem d_ST_trace_65 : decode c_ST_trace 65 = .ok (.if_icmp .lt 6, 3) := by decide +kernel
theorem d_ST_trace_68 : decode c_ST_trace 68 = .ok (.bipush (-4), 2) := by decide +kernel
theorem d_ST_trace_70 : decode c_ST_trace 70 = .ok (.ireturn, 1) := by decide +kernel
theorem d_ST_trace_71 : decode c_ST_trace 71 = .ok (.aload_n 0, 1) := by decide +kernel
theorem d_ST_trace_72 : decode c_ST_trace 72 = .ok (.getfield 51, 3) := by decide +kernel
theorem d_ST_trace_75 : decode c_ST_trace 75 = .ok (.iload_n 1, 1) := by decide +kernel
theorem d_ST_trace_76 : decode c_ST_trace 76 = .ok (.iload_n 2, 1) := by decide +kernel
theorem d_ST_trace_77 : decode c_ST_trace 77 = .ok (.iload_n 3, 1) := by decide +kernel
theorem d_ST_trace_78 : decode c_ST_trace 78 = .ok (.invokevirtual 172, 3) := by decide +kernel
theorem d_ST_trace_81 : decode c_ST_trace 81 = .ok (.ireturn, 1) := by decide +kernel
theorem d_ST_open_0 : decode c_ST_open 0 = .ok (.iload_n 1, 1) := by decide +kernel
theorem d_ST_open_1 : decode c_ST_open 1 = .ok (.ifCond .ge 7, 3) := by decide +kernel
theorem d_ST_open_4 : decode c_ST_open 4 = .ok (.iconst 0, 1) := by decide +kernel
theorem d_ST_open_5 : decode c_ST_open 5 = .ok (.goto 11, 3) := by decide +kernel
theorem d_ST_open_8 : decode c_ST_open 8 = .ok (.aload_n 0, 1) := by decide +kernel
theorem d_ST_open_9 : decode c_ST_open 9 = .ok (.getfield 51, 3) := by decide +kernel
theorem d_ST_open_12 : decode c_ST_open 12 = .ok (.iload_n 1, 1) := by decide +kernel
theorem d_ST_open_13 : decode c_ST_open 13 = .ok (.invokevirtual 176, 3) := by decide +kernel
theorem d_ST_open_16 : decode c_ST_open 16 = .ok (.ireturn, 1) := by decide +kernel
theorem d_ST_cover_0 : decode c_ST_cover 0 = .ok (.aload_n 0, 1) := by decide +kernel
theorem d_ST_cover_1 : decode c_ST_cover 1 = .ok (.getfield 51, 3) := by decide +kernel
theorem d_ST_cover_4 : decode c_ST_cover 4 = .ok (.iload_n 1, 1) := by decide +kernel
theorem d_ST_cover_5 : decode c_ST_cover 5 = .ok (.invokevirtual 179, 3) := by decide +kernel
theorem d_ST_cover_8 : decode c_ST_cover 8 = .ok (.istore_n 3, 1) := by decide +kernel
theorem d_ST_cover_9 : decode c_ST_cover 9 = .ok (.iload_n 3, 1) := by decide +kernel
theorem d_ST_cover_10 : decode c_ST_cover 10 = .ok (.ifCond .ne 13, 3) := by decide +kernel
theorem d_ST_cover_13 : decode c_ST_cover 13 = .ok (.new 182, 3) := by decide +kernel
theorem d_ST_cover_16 : decode c_ST_cover 16 = .ok (.dup, 1) := by decide +kernel
theorem d_ST_cover_17 : decode c_ST_cover 17 = .ok (.ldc 184, 2) := by decide +kernel
theorem d_ST_cover_19 : decode c_ST_cover 19 = .ok (.invokespecial 186, 3) := by decide +kernel
theorem d_ST_cover_22 : decode c_ST_cover 22 = .ok (.athrow, 1) := by decide +kernel
theorem d_ST_cover_23 : decode c_ST_cover 23 = .ok (.aload_n 0, 1) := by decide +kernel
theorem d_ST_cover_24 : decode c_ST_cover 24 = .ok (.getfield 58, 3) := by decide +kernel
theorem d_ST_cover_27 : decode c_ST_cover 27 = .ok (.aload_n 0, 1) := by decide +kernel
theorem d_ST_cover_28 : decode c_ST_cover 28 = .ok (.getfield 51, 3) := by decide +kernel
theorem d_ST_cover_31 : decode c_ST_cover 31 = .ok (.iload_n 1, 1) := by decide +kernel
theorem d_ST_cover_32 : decode c_ST_cover 32 = .ok (.invokevirtual 189, 3) := by decide +kernel
theorem d_ST_cover_35 : decode c_ST_cover 35 = .ok (.i2l, 1) := by decide +kernel
theorem d_ST_cover_36 : decode c_ST_cover 36 = .ok (.iload_n 3, 1) := by decide +kernel
theorem d_ST_cover_37 : decode c_ST_cover 37 = .ok (.i2l, 1) := by decide +kernel
theorem d_ST_cover_38 : decode c_ST_cover 38 = .ok (.invokevirtual 192, 3) := by decide +kernel
theorem d_ST_cover_41 : decode c_ST_cover 41 = .ok (.aload_n 0, 1) := by decide +kernel
theorem d_ST_cover_42 : decode c_ST_cover 42 = .ok (.getfield 58, 3) := by decide +kernel
theorem d_ST_cover_45 : decode c_ST_cover 45 = .ok (.iload_n 2, 1) := by decide +kernel
theorem d_ST_cover_46 : decode c_ST_cover 46 = .ok (.invokevirtual 141, 3) := by decide +kernel
theorem d_ST_cover_49 : decode c_ST_cover 49 = .ok (.lreturn, 1) := by decide +kernel
theorem d_ST_plain_0 : decode c_ST_plain 0 = .ok (.aload_n 0, 1) := by decide +kernel
theorem d_ST_plain_1 : decode c_ST_plain 1 = .ok (.getfield 12, 3) := by decide +kernel
theorem d_ST_plain_4 : decode c_ST_plain 4 = .ok (.iload_n 1, 1) := by decide +kernel
theorem d_ST_plain_5 : decode c_ST_plain 5 = .ok (.invokevirtual 89, 3) := by decide +kernel
theorem d_ST_plain_8 : decode c_ST_plain 8 = .ok (.ifCond .ne 6, 3) := by decide +kernel
theorem d_ST_plain_11 : decode c_ST_plain 11 = .ok (.bipush (-2), 2) := by decide +kernel
theorem d_ST_plain_13 : decode c_ST_plain 13 = .ok (.ireturn, 1) := by decide +kernel
theorem d_ST_plain_14 : decode c_ST_plain 14 = .ok (.aload_n 0, 1) := by decide +kernel
theorem d_ST_plain_15 : decode c_ST_plain 15 = .ok (.getfield 21, 3) := by decide +kernel
theorem d_ST_plain_18 : decode c_ST_plain 18 = .ok (.iload_n 1, 1) := by decide +kernel
theorem d_ST_plain_19 : decode c_ST_plain 19 = .ok (.invokevirtual 120, 3) := by decide +kernel
theorem d_ST_plain_22 : decode c_ST_plain 22 = .ok (.aload_n 0, 1) := by decide +kernel
theorem d_ST_plain_23 : decode c_ST_plain 23 = .ok (.getfield 21, 3) := by decide +kernel
theorem d_ST_plain_26 : decode c_ST_plain 26 = .ok (.iload_n 1, 1) := by decide +kernel
theorem d_ST_plain_27 : decode c_ST_plain 27 = .ok (.aload_n 0, 1) := by decide +kernel
theorem d_ST_plain_28 : decode c_ST_plain 28 = .ok (.getfield 12, 3) := by decide +kernel
theorem d_ST_plain_31 : decode c_ST_plain 31 = .ok (.getfield 110, 3) := by decide +kernel
theorem d_ST_plain_34 : decode c_ST_plain 34 = .ok (.iload_n 1, 1) := by decide +kernel
theorem d_ST_plain_35 : decode c_ST_plain 35 = .ok (.iaload, 1) := by decide +kernel
theorem d_ST_plain_36 : decode c_ST_plain 36 = .ok (.invokevirtual 196, 3) := by decide +kernel
theorem d_ST_plain_39 : decode c_ST_plain 39 = .ok (.ireturn, 1) := by decide +kernel
theorem d_ST_isWithin_0 : decode c_ST_isWithin 0 = .ok (.iload_n 0, 1) := by decide +kernel
theorem d_ST_isWithin_1 : decode c_ST_isWithin 1 = .ok (.iload_n 1, 1) := by decide +kernel
theorem d_ST_isWithin_2 : decode c_ST_isWithin 2 = .ok (.if_icmp .lt 12, 3) := by decide +kernel
theorem d_ST_isWithin_5 : decode c_ST_isWithin 5 = .ok (.iload_n 0, 1) := by decide +kernel
theorem d_ST_isWithin_6 : decode c_ST_isWithin 6 = .ok (.iload_n 2, 1) := by decide +kernel
theorem d_ST_isWithin_7 : decode c_ST_isWithin 7 = .ok (.if_icmp .gt 7, 3) := by decide +kernel
theorem d_ST_isWithin_10 : decode c_ST_isWithin 10 = .ok (.iconst 1, 1) := by decide +kernel
theorem d_ST_isWithin_11 : decode c_ST_isWithin 11 = .ok (.goto 4, 3) := by decide +kernel
theorem d_ST_isWithin_14 : decode c_ST_isWithin 14 = .ok (.iconst 0, 1) := by decide +kernel
theorem d_ST_isWithin_15 : decode c_ST_isWithin 15 = .ok (.ireturn, 1) := by decide +kernel
theorem d_ST_isDown_0 : decode c_ST_isDown 0 = .ok (.lload_n 0, 1) := by decide +kernel
theorem d_ST_isDown_1 : decode c_ST_isDown 1 = .ok (.lconst 1, 1) := by decide +kernel
theorem d_ST_isDown_2 : decode c_ST_isDown 2 = .ok (.lcmp, 1) := by decide +kernel
theorem d_ST_isDown_3 : decode c_ST_isDown 3 = .ok (.ifCond .lt 15, 3) := by decide +kernel
theorem d_ST_isDown_6 : decode c_ST_isDown 6 = .ok (.lload_n 0, 1) := by decide +kernel
theorem d_ST_isDown_7 : decode c_ST_isDown 7 = .ok (.ldc2_w 199, 3) := by decide +kernel
theorem d_ST_isDown_10 : decode c_ST_isDown 10 = .ok (.lcmp, 1) := by decide +kernel
theorem d_ST_isDown_11 : decode c_ST_isDown 11 = .ok (.ifCond .gt 7, 3) := by decide +kernel
theorem d_ST_isDown_14 : decode c_ST_isDown 14 = .ok (.iconst 1, 1) := by decide +kernel
theorem d_ST_isDown_15 : decode c_ST_isDown 15 = .ok (.goto 4, 3) := by decide +kernel
theorem d_ST_isDown_18 : decode c_ST_isDown 18 = .ok (.iconst 0, 1) := by decide +kernel
theorem d_ST_isDown_19 : decode c_ST_isDown 19 = .ok (.ireturn, 1) := by decide +kernel
theorem d_ST_isKind_0 : decode c_ST_isKind 0 = .ok (.iload_n 0, 1) := by decide +kernel
theorem d_ST_isKind_1 : decode c_ST_isKind 1 = .ok (.iconst 2, 1) := by decide +kernel
theorem d_ST_isKind_2 : decode c_ST_isKind 2 = .ok (.if_icmp .ne 11, 3) := by decide +kernel
theorem d_ST_isKind_5 : decode c_ST_isKind 5 = .ok (.iload_n 1, 1) := by decide +kernel
theorem d_ST_isKind_6 : decode c_ST_isKind 6 = .ok (.iconst 1, 1) := by decide +kernel
theorem d_ST_isKind_7 : decode c_ST_isKind 7 = .ok (.bipush 10, 2) := by decide +kernel
theorem d_ST_isKind_9 : decode c_ST_isKind 9 = .ok (.invokestatic 159, 3) := by decide +kernel
theorem d_ST_isKind_12 : decode c_ST_isKind 12 = .ok (.ireturn, 1) := by decide +kernel
theorem d_ST_isKind_13 : decode c_ST_isKind 13 = .ok (.iload_n 0, 1) := by decide +kernel
theorem d_ST_isKind_14 : decode c_ST_isKind 14 = .ok (.ifCond .eq 8, 3) := by decide +kernel
theorem d_ST_isKind_17 : decode c_ST_isKind 17 = .ok (.iload_n 0, 1) := by decide +kernel
theorem d_ST_isKind_18 : decode c_ST_isKind 18 = .ok (.iconst 1, 1) := by decide +kernel
theorem d_ST_isKind_19 : decode c_ST_isKind 19 = .ok (.if_icmp .ne 11, 3) := by decide +kernel
theorem d_ST_isKind_22 : decode c_ST_isKind 22 = .ok (.iload_n 1, 1) := by decide +kernel
theorem d_ST_isKind_23 : decode c_ST_isKind 23 = .ok (.ifCond .ne 7, 3) := by decide +kernel
theorem d_ST_isKind_26 : decode c_ST_isKind 26 = .ok (.iconst 1, 1) := by decide +kernel
theorem d_ST_isKind_27 : decode c_ST_isKind 27 = .ok (.goto 4, 3) := by decide +kernel
theorem d_ST_isKind_30 : decode c_ST_isKind 30 = .ok (.iconst 0, 1) := by decide +kernel
theorem d_ST_isKind_31 : decode c_ST_isKind 31 = .ok (.ireturn, 1) := by decide +kernel
theorem d_ST_countOfSets_0 : decode c_ST_countOfSets 0 = .ok (.iconst 1, 1) := by decide +kernel
theorem d_ST_countOfSets_1 : decode c_ST_countOfSets 1 = .ok (.iload_n 0, 1) := by decide +kernel
theorem d_ST_countOfSets_2 : decode c_ST_countOfSets 2 = .ok (.sipush 4095, 3) := by decide +kernel
theorem d_ST_countOfSets_5 : decode c_ST_countOfSets 5 = .ok (.iand, 1) := by decide +kernel
theorem d_ST_countOfSets_6 : decode c_ST_countOfSets 6 = .ok (.invokestatic 201, 3) := by decide +kernel
theorem d_ST_countOfSets_9 : decode c_ST_countOfSets 9 = .ok (.ishl, 1) := by decide +kernel
theorem d_ST_countOfSets_10 : decode c_ST_countOfSets 10 = .ok (.ireturn, 1) := by decide +kernel
theorem d_ST_nextSet_0 : decode c_ST_nextSet 0 = .ok (.iload_n 0, 1) := by decide +kernel
theorem d_ST_nextSet_1 : decode c_ST_nextSet 1 = .ok (.iload_n 1, 1) := by decide +kernel
theorem d_ST_nextSet_2 : decode c_ST_nextSet 2 = .ok (.isub, 1) := by decide +kernel
theorem d_ST_nextSet_3 : decode c_ST_nextSet 3 = .ok (.iload_n 1, 1) := by decide +kernel
theorem d_ST_nextSet_4 : decode c_ST_nextSet 4 = .ok (.iand, 1) := by decide +kernel
theorem d_ST_nextSet_5 : decode c_ST_nextSet 5 = .ok (.ireturn, 1) := by decide +kernel
theorem d_Fr_init_0 : decode c_Fr_init 0 = .ok (.aload_n 0, 1) := by decide +kernel
theorem d_Fr_init_1 : decode c_Fr_init 1 = .ok (.invokespecial 1, 3) := by decide +kernel
theorem d_Fr_init_4 : decode c_Fr_init 4 = .ok (.aload_n 0, 1) := by decide +kernel
theorem d_Fr_init_5 : decode c_Fr_init 5 = .ok (.lconst 0, 1) := by decide +kernel
theorem d_Fr_init_6 : decode c_Fr_init 6 = .ok (.putfield 7, 3) := by decide +kernel
theorem d_Fr_init_9 : decode c_Fr_init 9 = .ok (.aload_n 0, 1) := by decide +kernel
theorem d_Fr_init_10 : decode c_Fr_init 10 = .ok (.lconst 1, 1) := by decide +kernel
theorem d_Fr_init_11 : decode c_Fr_init 11 = .ok (.putfield 13, 3) := by decide +kernel
theorem d_Fr_init_14 : decode c_Fr_init 14 = .ok (.return_, 1) := by decide +kernel
theorem d_Fr_set_0 : decode c_Fr_set 0 = .ok (.lload_n 1, 1) := by decide +kernel
theorem d_Fr_set_1 : decode c_Fr_set 1 = .ok (.lload_n 3, 1) := by decide +kernel
theorem d_Fr_set_2 : decode c_Fr_set 2 = .ok (.invokestatic 16, 3) := by decide +kernel
theorem d_Fr_set_5 : decode c_Fr_set 5 = .ok (.lstore 5, 2) := by decide +kernel
theorem d_Fr_set_7 : decode c_Fr_set 7 = .ok (.lload 5, 2) := by decide +kernel
theorem d_Fr_set_9 : decode c_Fr_set 9 = .ok (.lconst 0, 1) := by decide +kernel
theorem d_Fr_set_10 : decode c_Fr_set 10 = .ok (.lcmp, 1) := by decide +kernel
theorem d_Fr_set_11 : decode c_Fr_set 11 = .ok (.ifCond .le 19, 3) := by decide +kernel
theorem d_Fr_set_14 : decode c_Fr_set 14 = .ok (.aload_n 0, 1) := by decide +kernel
theorem d_Fr_set_15 : decode c_Fr_set 15 = .ok (.lload_n 1, 1) := by decide +kernel
theorem d_Fr_set_16 : decode c_Fr_set 16 = .ok (.lload 5, 2) := by decide +kernel
theorem d_Fr_set_18 : decode c_Fr_set 18 = .ok (.ldiv, 1) := by decide +kernel
theorem d_Fr_set_19 : decode c_Fr_set 19 = .ok (.putfield 7, 3) := by decide +kernel
theorem d_Fr_set_22 : decode c_Fr_set 22 = .ok (.aload_n 0, 1) := by decide +kernel
theorem d_Fr_set_23 : decode c_Fr_set 23 = .ok (.lload_n 3, 1) := by decide +kernel
theorem d_Fr_set_24 : decode c_Fr_set 24 = .ok (.lload 5, 2) := by decide +kernel
theorem d_Fr_set_26 : decode c_Fr_set 26 = .ok (.ldiv, 1) := by decide +kernel
theorem d_Fr_set_27 : decode c_Fr_set 27 = .ok (.putfield 13, 3) := by decide +kernel
theorem d_Fr_set_30 : decode c_Fr_set 30 = .ok (.return_, 1) := by decide +kernel
theorem d_Fr_side_0 : decode c_Fr_side 0 = .ok (.iload_n 1, 1) := by decide +kernel
theorem d_Fr_side_1 : decode c_Fr_side 1 = .ok (.ifCond .ne 10, 3) := by decide +kernel
theorem d_Fr_side_4 : decode c_Fr_side 4 = .ok (.aload_n 0, 1) := by decide +kernel
theorem d_Fr_side_5 : decode c_Fr_side 5 = .ok (.getfield 7, 3) := by decide +kernel
theorem d_Fr_side_8 : decode c_Fr_side 8 = .ok (.goto 7, 3) := by decide +kernel
theorem d_Fr_side_11 : decode c_Fr_side 11 = .ok (.aload_n 0, 1) := by decide +kernel
theorem d_Fr_side_12 : decode c_Fr_side 12 = .ok (.getfield 13, 3) := by decide +kernel
theorem d_Fr_side_15 : decode c_Fr_side 15 = .ok (.lreturn, 1) := by decide +kernel
theorem d_Fr_commonDivisor_0 : decode c_Fr_commonDivisor 0 = .ok (.lload_n 0, 1) := by decide +kernel
theorem d_Fr_commonDivisor_1 : decode c_Fr_commonDivisor 1 = .ok (.lstore 4, 2) := by decide +kernel
theorem d_Fr_commonDivisor_3 : decode c_Fr_commonDivisor 3 = .ok (.lload_n 2, 1) := by decide +kernel
theorem d_Fr_commonDivisor_4 : decode c_Fr_commonDivisor 4 = .ok (.lstore 6, 2) := by decide +kernel
theorem d_Fr_commonDivisor_6 : decode c_Fr_commonDivisor 6 = .ok (.iconst 0, 1) := by decide +kernel
theorem d_Fr_commonDivisor_7 : decode c_Fr_commonDivisor 7 = .ok (.istore 8, 2) := by decide +kernel
theorem d_Fr_commonDivisor_9 : decode c_Fr_commonDivisor 9 = .ok (.iload 8, 2) := by decide +kernel
theorem d_Fr_commonDivisor_11 : decode c_Fr_commonDivisor 11 = .ok (.bipush 100, 2) := by decide +kernel
theorem d_Fr_commonDivisor_13 : decode c_Fr_commonDivisor 13 = .ok (.if_icmp .ge 31, 3) := by decide +kernel
theorem d_Fr_commonDivisor_16 : decode c_Fr_commonDivisor 16 = .ok (.lload 6, 2) := by decide +kernel
theorem d_Fr_commonDivisor_18 : decode c_Fr_commonDivisor 18 = .ok (.lconst 0, 1) := by decide +kernel
theorem d_Fr_commonDivisor_19 : decode c_Fr_commonDivisor 19 = .ok (.lcmp, 1) := by decide +kernel
theorem d_Fr_commonDivisor_20 : decode c_Fr_commonDivisor 20 = .ok (.ifCond .eq 24, 3) := by decide +kernel
theorem d_Fr_commonDivisor_23 : decode c_Fr_commonDivisor 23 = .ok (.lload 4, 2) := by decide +kernel
theorem d_Fr_commonDivisor_25 : decode c_Fr_commonDivisor 25 = .ok (.lload 6, 2) := by decide +kernel
theorem d_Fr_commonDivisor_27 : decode c_Fr_commonDivisor 27 = .ok (.lrem, 1) := by decide +kernel
theorem d_Fr_commonDivisor_28 : decode c_Fr_commonDivisor 28 = .ok (.lstore 9, 2) := by decide +kernel
theorem d_Fr_commonDivisor_30 : decode c_Fr_commonDivisor 30 = .ok (.lload 6, 2) := by decide +kernel
theorem d_Fr_commonDivisor_32 : decode c_Fr_commonDivisor 32 = .ok (.lstore 4, 2) := by decide +kernel
theorem d_Fr_commonDivisor_34 : decode c_Fr_commonDivisor 34 = .ok (.lload 9, 2) := by decide +kernel
theorem d_Fr_commonDivisor_36 : decode c_Fr_commonDivisor 36 = .ok (.lstore 6, 2) := by decide +kernel
theorem d_Fr_commonDivisor_38 : decode c_Fr_commonDivisor 38 = .ok (.iinc 8 1, 3) := by decide +kernel
theorem d_Fr_commonDivisor_41 : decode c_Fr_commonDivisor 41 = .ok (.goto (-32), 3) := by decide +kernel
theorem d_Fr_commonDivisor_44 : decode c_Fr_commonDivisor 44 = .ok (.lload 4, 2) := by decide +kernel
theorem d_Fr_commonDivisor_46 : decode c_Fr_commonDivisor 46 = .ok (.lreturn, 1) := by decide +kernel
theorem d_Ca_init_0 : decode c_Ca_init 0 = .ok (.aload_n 0, 1) := by decide +kernel
theorem d_Ca_init_1 : decode c_Ca_init 1 = .ok (.invokespecial 3, 3) := by decide +kernel
theorem d_Ca_init_4 : decode c_Ca_init 4 = .ok (.aload_n 0, 1) := by decide +kernel
theorem d_Ca_init_5 : decode c_Ca_init 5 = .ok (.iconst 0, 1) := by decide +kernel
theorem d_Ca_init_6 : decode c_Ca_init 6 = .ok (.putfield 9, 3) := by decide +kernel
theorem d_Ca_init_9 : decode c_Ca_init 9 = .ok (.aload_n 0, 1) := by decide +kernel
theorem d_Ca_init_10 : decode c_Ca_init 10 = .ok (.iconst 4, 1) := by decide +kernel
theorem d_Ca_init_11 : decode c_Ca_init 11 = .ok (.newarray .int, 2) := by decide +kernel
theorem d_Ca_init_13 : decode c_Ca_init 13 = .ok (.putfield 15, 3) := by decide +kernel
theorem d_Ca_init_16 : decode c_Ca_init 16 = .ok (.aload_n 0, 1) := by decide +kernel
theorem d_Ca_init_17 : decode c_Ca_init 17 = .ok (.iconst 4, 1) := by decide +kernel
theorem d_Ca_init_18 : decode c_Ca_init 18 = .ok (.newarray .long, 2) := by decide +kernel
theorem d_Ca_init_20 : decode c_Ca_init 20 = .ok (.putfield 19, 3) := by decide +kernel
theorem d_Ca_init_23 : decode c_Ca_init 23 = .ok (.aload_n 0, 1) := by decide +kernel
theorem d_Ca_init_24 : decode c_Ca_init 24 = .ok (.iconst 4, 1) := by decide +kernel
theorem d_Ca_init_25 : decode c_Ca_init 25 = .ok (.newarray .long, 2) := by decide +kernel
theorem d_Ca_init_27 : decode c_Ca_init 27 = .ok (.putfield 23, 3) := by decide +kernel
theorem d_Ca_init_30 : decode c_Ca_init 30 = .ok (.return_, 1) := by decide +kernel
theorem d_Ca_add_0 : decode c_Ca_add 0 = .ok (.aload_n 0, 1) := by decide +kernel
theorem d_Ca_add_1 : decode c_Ca_add 1 = .ok (.getfield 15, 3) := by decide +kernel
theorem d_Ca_add_4 : decode c_Ca_add 4 = .ok (.aload_n 0, 1) := by decide +kernel
theorem d_Ca_add_5 : decode c_Ca_add 5 = .ok (.getfield 9, 3) := by decide +kernel
theorem d_Ca_add_8 : decode c_Ca_add 8 = .ok (.iload_n 1, 1) := by decide +kernel
theorem d_Ca_add_9 : decode c_Ca_add 9 = .ok (.iastore, 1) := by decide +kernel
theorem d_Ca_add_10 : decode c_Ca_add 10 = .ok (.aload_n 0, 1) := by decide +kernel
theorem d_Ca_add_11 : decode c_Ca_add 11 = .ok (.getfield 19, 3) := by decide +kernel
theorem d_Ca_add_14 : decode c_Ca_add 14 = .ok (.aload_n 0, 1) := by decide +kernel
theorem d_Ca_add_15 : decode c_Ca_add 15 = .ok (.getfield 9, 3) := by decide +kernel
theorem d_Ca_add_18 : decode c_Ca_add 18 = .ok (.lload_n 2, 1) := by decide +kernel
theorem d_Ca_add_19 : decode c_Ca_add 19 = .ok (.lastore, 1) := by decide +kernel
theorem d_Ca_add_20 : decode c_Ca_add 20 = .ok (.aload_n 0, 1) := by decide +kernel
theorem d_Ca_add_21 : decode c_Ca_add 21 = .ok (.getfield 23, 3) := by decide +kernel
theorem d_Ca_add_24 : decode c_Ca_add 24 = .ok (.aload_n 0, 1) := by decide +kernel
theorem d_Ca_add_25 : decode c_Ca_add 25 = .ok (.getfield 9, 3) := by decide +kernel
theorem d_Ca_add_28 : decode c_Ca_add 28 = .ok (.lload 4, 2) := by decide +kernel
theorem d_Ca_add_30 : decode c_Ca_add 30 = .ok (.lastore, 1) := by decide +kernel
theorem d_Ca_add_31 : decode c_Ca_add 31 = .ok (.aload_n 0, 1) := by decide +kernel
theorem d_Ca_add_32 : decode c_Ca_add 32 = .ok (.dup, 1) := by decide +kernel
theorem d_Ca_add_33 : decode c_Ca_add 33 = .ok (.getfield 9, 3) := by decide +kernel
theorem d_Ca_add_36 : decode c_Ca_add 36 = .ok (.iconst 1, 1) := by decide +kernel
theorem d_Ca_add_37 : decode c_Ca_add 37 = .ok (.iadd, 1) := by decide +kernel
theorem d_Ca_add_38 : decode c_Ca_add 38 = .ok (.putfield 9, 3) := by decide +kernel
theorem d_Ca_add_41 : decode c_Ca_add 41 = .ok (.aload_n 0, 1) := by decide +kernel
theorem d_Ca_add_42 : decode c_Ca_add 42 = .ok (.getfield 9, 3) := by decide +kernel
theorem d_Ca_add_45 : decode c_Ca_add 45 = .ok (.ireturn, 1) := by decide +kernel
theorem d_Ca_touches_0 : decode c_Ca_touches 0 = .ok (.aload_n 0, 1) := by decide +kernel
theorem d_Ca_touches_1 : decode c_Ca_touches 1 = .ok (.getfield 15, 3) := by decide +kernel
theorem d_Ca_touches_4 : decode c_Ca_touches 4 = .ok (.iload_n 1, 1) := by decide +kernel
theorem d_Ca_touches_5 : decode c_Ca_touches 5 = .ok (.iaload, 1) := by decide +kernel
theorem d_Ca_touches_6 : decode c_Ca_touches 6 = .ok (.iload_n 2, 1) := by decide +kernel
theorem d_Ca_touches_7 : decode c_Ca_touches 7 = .ok (.iand, 1) := by decide +kernel
theorem d_Ca_touches_8 : decode c_Ca_touches 8 = .ok (.ifCond .eq 7, 3) := by decide +kernel
theorem d_Ca_touches_11 : decode c_Ca_touches 11 = .ok (.iconst 1, 1) := by decide +kernel
theorem d_Ca_touches_12 : decode c_Ca_touches 12 = .ok (.goto 4, 3) := by decide +kernel
theorem d_Ca_touches_15 : decode c_Ca_touches 15 = .ok (.iconst 0, 1) := by decide +kernel
theorem d_Ca_touches_16 : decode c_Ca_touches 16 = .ok (.ireturn, 1) := by decide +kernel
theorem d_Ca_countTouching_0 : decode c_Ca_countTouching 0 = .ok (.iconst 0, 1) := by decide +kernel
theorem d_Ca_countTouching_1 : decode c_Ca_countTouching 1 = .ok (.istore_n 2, 1) := by decide +kernel
theorem d_Ca_countTouching_2 : decode c_Ca_countTouching 2 = .ok (.iconst 0, 1) := by decide +kernel
theorem d_Ca_countTouching_3 : decode c_Ca_countTouching 3 = .ok (.istore_n 3, 1) := by decide +kernel
theorem d_Ca_countTouching_4 : decode c_Ca_countTouching 4 = .ok (.iload_n 3, 1) := by decide +kernel
theorem d_Ca_countTouching_5 : decode c_Ca_countTouching 5 = .ok (.aload_n 0, 1) := by decide +kernel
theorem d_Ca_countTouching_6 : decode c_Ca_countTouching 6 = .ok (.getfield 9, 3) := by decide +kernel
theorem d_Ca_countTouching_9 : decode c_Ca_countTouching 9 = .ok (.if_icmp .ge 21, 3) := by decide +kernel
theorem d_Ca_countTouching_12 : decode c_Ca_countTouching 12 = .ok (.aload_n 0, 1) := by decide +kernel
theorem d_Ca_countTouching_13 : decode c_Ca_countTouching 13 = .ok (.iload_n 3, 1) := by decide +kernel
theorem d_Ca_countTouching_14 : decode c_Ca_countTouching 14 = .ok (.iload_n 1, 1) := by decide +kernel
theorem d_Ca_countTouching_15 : decode c_Ca_countTouching 15 = .ok (.invokevirtual 26, 3) := by decide +kernel
theorem d_Ca_countTouching_18 : decode c_Ca_countTouching 18 = .ok (.ifCond .eq 6, 3) := by decide +kernel
theorem d_Ca_countTouching_21 : decode c_Ca_countTouching 21 = .ok (.iinc 2 1, 3) := by decide +kernel
theorem d_Ca_countTouching_24 : decode c_Ca_countTouching 24 = .ok (.iinc 3 1, 3) := by decide +kernel
theorem d_Ca_countTouching_27 : decode c_Ca_countTouching 27 = .ok (.goto (-23), 3) := by decide +kernel
theorem d_Ca_countTouching_30 : decode c_Ca_countTouching 30 = .ok (.iload_n 2, 1) := by decide +kernel
theorem d_Ca_countTouching_31 : decode c_Ca_countTouching 31 = .ok (.ireturn, 1) := by decide +kernel
theorem d_Cu_init_0 : decode c_Cu_init 0 = .ok (.aload_n 0, 1) := by decide +kernel
theorem d_Cu_init_1 : decode c_Cu_init 1 = .ok (.invokespecial 3, 3) := by decide +kernel
theorem d_Cu_init_4 : decode c_Cu_init 4 = .ok (.aload_n 0, 1) := by decide +kernel
theorem d_Cu_init_5 : decode c_Cu_init 5 = .ok (.iconst 0, 1) := by decide +kernel
theorem d_Cu_init_6 : decode c_Cu_init 6 = .ok (.putfield 9, 3) := by decide +kernel
theorem d_Cu_init_9 : decode c_Cu_init 9 = .ok (.aload_n 0, 1) := by decide +kernel
theorem d_Cu_init_10 : decode c_Cu_init 10 = .ok (.sipush 924, 3) := by decide +kernel
theorem d_Cu_init_13 : decode c_Cu_init 13 = .ok (.newarray .int, 2) := by decide +kernel
theorem d_Cu_init_15 : decode c_Cu_init 15 = .ok (.putfield 15, 3) := by decide +kernel
theorem d_Cu_init_18 : decode c_Cu_init 18 = .ok (.aload_n 0, 1) := by decide +kernel
theorem d_Cu_init_19 : decode c_Cu_init 19 = .ok (.sipush 924, 3) := by decide +kernel
theorem d_Cu_init_22 : decode c_Cu_init 22 = .ok (.newarray .int, 2) := by decide +kernel
theorem d_Cu_init_24 : decode c_Cu_init 24 = .ok (.putfield 19, 3) := by decide +kernel
theorem d_Cu_init_27 : decode c_Cu_init 27 = .ok (.return_, 1) := by decide +kernel
theorem d_Cu_clear_0 : decode c_Cu_clear 0 = .ok (.aload_n 0, 1) := by decide +kernel
theorem d_Cu_clear_1 : decode c_Cu_clear 1 = .ok (.iconst 0, 1) := by decide +kernel
theorem d_Cu_clear_2 : decode c_Cu_clear 2 = .ok (.putfield 9, 3) := by decide +kernel
theorem d_Cu_clear_5 : decode c_Cu_clear 5 = .ok (.return_, 1) := by decide +kernel
theorem d_Cu_tell_0 : decode c_Cu_tell 0 = .ok (.aload_n 0, 1) := by decide +kernel
theorem d_Cu_tell_1 : decode c_Cu_tell 1 = .ok (.aload_n 1, 1) := by decide +kernel
theorem d_Cu_tell_2 : decode c_Cu_tell 2 = .ok (.iload_n 2, 1) := by decide +kernel
theorem d_Cu_tell_3 : decode c_Cu_tell 3 = .ok (.iload_n 3, 1) := by decide +kernel
theorem d_Cu_tell_4 : decode c_Cu_tell 4 = .ok (.invokevirtual 22, 3) := by decide +kernel
theorem d_Cu_tell_7 : decode c_Cu_tell 7 = .ok (.istore 4, 2) := by decide +kernel
theorem d_Cu_tell_9 : decode c_Cu_tell 9 = .ok (.aload_n 0, 1) := by decide +kernel
theorem d_Cu_tell_10 : decode c_Cu_tell 10 = .ok (.iconst 0, 1) := by decide +kernel
theorem d_Cu_tell_11 : decode c_Cu_tell 11 = .ok (.putfield 9, 3) := by decide +kernel
theorem d_Cu_tell_14 : decode c_Cu_tell 14 = .ok (.iconst 0, 1) := by decide +kernel
theorem d_Cu_tell_15 : decode c_Cu_tell 15 = .ok (.istore 5, 2) := by decide +kernel
theorem d_Cu_tell_17 : decode c_Cu_tell 17 = .ok (.iload 5, 2) := by decide +kernel
theorem d_Cu_tell_19 : decode c_Cu_tell 19 = .ok (.bipush 12, 2) := by decide +kernel
theorem d_Cu_tell_21 : decode c_Cu_tell 21 = .ok (.if_icmp .gt 17, 3) := by decide +kernel
theorem d_Cu_tell_24 : decode c_Cu_tell 24 = .ok (.aload_n 0, 1) := by decide +kernel
theorem d_Cu_tell_25 : decode c_Cu_tell 25 = .ok (.iload 5, 2) := by decide +kernel
theorem d_Cu_tell_27 : decode c_Cu_tell 27 = .ok (.iload 4, 2) := by decide +kernel
theorem d_Cu_tell_29 : decode c_Cu_tell 29 = .ok (.invokevirtual 26, 3) := by decide +kernel
theorem d_Cu_tell_32 : decode c_Cu_tell 32 = .ok (.iinc 5 1, 3) := by decide +kernel
theorem d_Cu_tell_35 : decode c_Cu_tell 35 = .ok (.goto (-18), 3) := by decide +kernel
theorem d_Cu_tell_38 : decode c_Cu_tell 38 = .ok (.aload_n 0, 1) := by decide +kernel
theorem d_Cu_tell_39 : decode c_Cu_tell 39 = .ok (.getfield 9, 3) := by decide +kernel
theorem d_Cu_tell_42 : decode c_Cu_tell 42 = .ok (.ireturn, 1) := by decide +kernel
theorem d_Cu_find_0 : decode c_Cu_find 0 = .ok (.iconst 0, 1) := by decide +kernel
theorem d_Cu_find_1 : decode c_Cu_find 1 = .ok (.istore 4, 2) := by decide +kernel
theorem d_Cu_find_3 : decode c_Cu_find 3 = .ok (.iload_n 3, 1) := by decide +kernel
theorem d_Cu_find_4 : decode c_Cu_find 4 = .ok (.invokestatic 30, 3) := by decide +kernel
theorem d_Cu_find_7 : decode c_Cu_find 7 = .ok (.istore 5, 2) := by decide +kernel
theorem d_Cu_find_9 : decode c_Cu_find 9 = .ok (.iload_n 3, 1) := by decide +kernel
theorem d_Cu_find_10 : decode c_Cu_find 10 = .ok (.istore 6, 2) := by decide +kernel
theorem d_Cu_find_12 : decode c_Cu_find 12 = .ok (.iconst 0, 1) := by decide +kernel
theorem d_Cu_find_13 : decode c_Cu_find 13 = .ok (.istore 7, 2) := by decide +kernel
theorem d_Cu_find_15 : decode c_Cu_find 15 = .ok (.iload 7, 2) := by decide +kernel
theorem d_Cu_find_17 : decode c_Cu_find 17 = .ok (.iload 5, 2) := by decide +kernel
theorem d_Cu_find_19 : decode c_Cu_find 19 = .ok (.if_icmp .ge 47, 3) := by decide +kernel
theorem d_Cu_find_22 : decode c_Cu_find 22 = .ok (.aload_n 1, 1) := by decide +kernel
theorem d_Cu_find_23 : decode c_Cu_find 23 = .ok (.iload_n 2, 1) := by decide +kernel
theorem d_Cu_find_24 : decode c_Cu_find 24 = .ok (.iload 6, 2) := by decide +kernel
theorem d_Cu_find_26 : decode c_Cu_find 26 = .ok (.invokevirtual 34, 3) := by decide +kernel
theorem d_Cu_find_29 : decode c_Cu_find 29 = .ok (.ifCond .eq 23, 3) := by decide +kernel
theorem d_Cu_find_32 : decode c_Cu_find 32 = .ok (.iload 4, 2) := by decide +kernel
theorem d_Cu_find_34 : decode c_Cu_find 34 = .ok (.sipush 924, 3) := by decide +kernel
theorem d_Cu_find_37 : decode c_Cu_find 37 = .ok (.if_icmp .ge 15, 3) := by decide +kernel
theorem d_Cu_find_40 : decode c_Cu_find 40 = .ok (.aload_n 0, 1) := by decide +kernel
theorem d_Cu_find_41 : decode c_Cu_find 41 = .ok (.getfield 19, 3) := by decide +kernel
theorem d_Cu_find_44 : decode c_Cu_find 44 = .ok (.iload 4, 2) := by decide +kernel
theorem d_Cu_find_46 : decode c_Cu_find 46 = .ok (.iload 6, 2) := by decide +kernel
theorem d_Cu_find_48 : decode c_Cu_find 48 = .ok (.iastore, 1) := by decide +kernel
theorem d_Cu_find_49 : decode c_Cu_find 49 = .ok (.iinc 4 1, 3) := by decide +kernel
theorem d_Cu_find_52 : decode c_Cu_find 52 = .ok (.iload 6, 2) := by decide +kernel
theorem d_Cu_find_54 : decode c_Cu_find 54 = .ok (.iconst 1, 1) := by decide +kernel
theorem d_Cu_find_55 : decode c_Cu_find 55 = .ok (.isub, 1) := by decide +kernel
theorem d_Cu_find_56 : decode c_Cu_find 56 = .ok (.iload_n 3, 1) := by decide +kernel
theorem d_Cu_find_57 : decode c_Cu_find 57 = .ok (.iand, 1) := by decide +kernel
theorem d_Cu_find_58 : decode c_Cu_find 58 = .ok (.istore 6, 2) := by decide +kernel
theorem d_Cu_find_60 : decode c_Cu_find 60 = .ok (.iinc 7 1, 3) := by decide +kernel
theorem d_Cu_find_63 : decode c_Cu_find 63 = .ok (.goto (-48), 3) := by decide +kernel
theorem d_Cu_find_66 : decode c_Cu_find 66 = .ok (.iload 4, 2) := by decide +kernel
theorem d_Cu_find_68 : decode c_Cu_find 68 = .ok (.ireturn, 1) := by decide +kernel
theorem d_Cu_takeOfSize_0 : decode c_Cu_takeOfSize 0 = .ok (.iconst 0, 1) := by decide +kernel
theorem d_Cu_takeOfSize_1 : decode c_Cu_takeOfSize 1 = .ok (.istore_n 3, 1) := by decide +kernel
theorem d_Cu_takeOfSize_2 : decode c_Cu_takeOfSize 2 = .ok (.iload_n 3, 1) := by decide +kernel
theorem d_Cu_takeOfSize_3 : decode c_Cu_takeOfSize 3 = .ok (.iload_n 2, 1) := by decide +kernel
theorem d_Cu_takeOfSize_4 : decode c_Cu_takeOfSize 4 = .ok (.if_icmp .ge 57, 3) := by decide +kernel
theorem d_Cu_takeOfSize_7 : decode c_Cu_takeOfSize 7 = .ok (.aload_n 0, 1) := by decide +kernel
theorem d_Cu_takeOfSize_8 : decode c_Cu_takeOfSize 8 = .ok (.getfield 19, 3) := by decide +kernel
theorem d_Cu_takeOfSize_11 : decode c_Cu_takeOfSize 11 = .ok (.iload_n 3, 1) := by decide +kernel
theorem d_Cu_takeOfSize_12 : decode c_Cu_takeOfSize 12 = .ok (.iaload, 1) := by decide +kernel
theorem d_Cu_takeOfSize_13 : decode c_Cu_takeOfSize 13 = .ok (.invokestatic 40, 3) := by decide +kernel
theorem d_Cu_takeOfSize_16 : decode c_Cu_takeOfSize 16 = .ok (.iload_n 1, 1) := by decide +kernel
theorem d_Cu_takeOfSize_17 : decode c_Cu_takeOfSize 17 = .ok (.if_icmp .ne 38, 3) := by decide +kernel
theorem d_Cu_takeOfSize_20 : decode c_Cu_takeOfSize 20 = .ok (.aload_n 0, 1) := by decide +kernel
theorem d_Cu_takeOfSize_21 : decode c_Cu_takeOfSize 21 = .ok (.getfield 9, 3) := by decide +kernel
theorem d_Cu_takeOfSize_24 : decode c_Cu_takeOfSize 24 = .ok (.sipush 924, 3) := by decide +kernel
theorem d_Cu_takeOfSize_27 : decode c_Cu_takeOfSize 27 = .ok (.if_icmp .ge 28, 3) := by decide +kernel
theorem d_Cu_takeOfSize_30 : decode c_Cu_takeOfSize 30 = .ok (.aload_n 0, 1) := by decide +kernel
theorem d_Cu_takeOfSize_31 : decode c_Cu_takeOfSize 31 = .ok (.getfield 15, 3) := by decide +kernel
theorem d_Cu_takeOfSize_34 : decode c_Cu_takeOfSize 34 = .ok (.aload_n 0, 1) := by decide +kernel
theorem d_Cu_takeOfSize_35 : decode c_Cu_takeOfSize 35 = .ok (.getfield 9, 3) := by decide +kernel
theorem d_Cu_takeOfSize_38 : decode c_Cu_takeOfSize 38 = .ok (.aload_n 0, 1) := by decide +kernel
theorem d_Cu_takeOfSize_39 : decode c_Cu_takeOfSize 39 = .ok (.getfield 19, 3) := by decide +kernel
theorem d_Cu_takeOfSize_42 : decode c_Cu_takeOfSize 42 = .ok (.iload_n 3, 1) := by decide +kernel
theorem d_Cu_takeOfSize_43 : decode c_Cu_takeOfSize 43 = .ok (.iaload, 1) := by decide +kernel
theorem d_Cu_takeOfSize_44 : decode c_Cu_takeOfSize 44 = .ok (.iastore, 1) := by decide +kernel
theorem d_Cu_takeOfSize_45 : decode c_Cu_takeOfSize 45 = .ok (.aload_n 0, 1) := by decide +kernel
theorem d_Cu_takeOfSize_46 : decode c_Cu_takeOfSize 46 = .ok (.dup, 1) := by decide +kernel
theorem d_Cu_takeOfSize_47 : decode c_Cu_takeOfSize 47 = .ok (.getfield 9, 3) := by decide +kernel
theorem d_Cu_takeOfSize_50 : decode c_Cu_takeOfSize 50 = .ok (.iconst 1, 1) := by decide +kernel
theorem d_Cu_takeOfSize_51 : decode c_Cu_takeOfSize 51 = .ok (.iadd, 1) := by decide +kernel
theorem d_Cu_takeOfSize_52 : decode c_Cu_takeOfSize 52 = .ok (.putfield 9, 3) := by decide +kernel
theorem d_Cu_takeOfSize_55 : decode c_Cu_takeOfSize 55 = .ok (.iinc 3 1, 3) := by decide +kernel
theorem d_Cu_takeOfSize_58 : decode c_Cu_takeOfSize 58 = .ok (.goto (-56), 3) := by decide +kernel
theorem d_Cu_takeOfSize_61 : decode c_Cu_takeOfSize 61 = .ok (.return_, 1) := by decide +kernel
theorem d_Cu_eventIndex_0 : decode c_Cu_eventIndex 0 = .ok (.iload_n 1, 1) := by decide +kernel
theorem d_Cu_eventIndex_1 : decode c_Cu_eventIndex 1 = .ok (.ifCond .lt 15, 3) := by decide +kernel
theorem d_Cu_eventIndex_4 : decode c_Cu_eventIndex 4 = .ok (.iload_n 1, 1) := by decide +kernel
theorem d_Cu_eventIndex_5 : decode c_Cu_eventIndex 5 = .ok (.aload_n 0, 1) := by decide +kernel
theorem d_Cu_eventIndex_6 : decode c_Cu_eventIndex 6 = .ok (.getfield 9, 3) := by decide +kernel
theorem d_Cu_eventIndex_9 : decode c_Cu_eventIndex 9 = .ok (.if_icmp .ge 7, 3) := by decide +kernel
theorem d_Cu_eventIndex_12 : decode c_Cu_eventIndex 12 = .ok (.iload_n 2, 1) := by decide +kernel
theorem d_Cu_eventIndex_13 : decode c_Cu_eventIndex 13 = .ok (.ifCond .ge 5, 3) := by decide +kernel
theorem d_Cu_eventIndex_16 : decode c_Cu_eventIndex 16 = .ok (.iconst (-1), 1) := by decide +kernel
theorem d_Cu_eventIndex_17 : decode c_Cu_eventIndex 17 = .ok (.ireturn, 1) := by decide +kernel
theorem d_Cu_eventIndex_18 : decode c_Cu_eventIndex 18 = .ok (.iload_n 2, 1) := by decide +kernel
theorem d_Cu_eventIndex_19 : decode c_Cu_eventIndex 19 = .ok (.istore_n 3, 1) := by decide +kernel
theorem d_Cu_eventIndex_20 : decode c_Cu_eventIndex 20 = .ok (.iconst 0, 1) := by decide +kernel
theorem d_Cu_eventIndex_21 : decode c_Cu_eventIndex 21 = .ok (.istore 4, 2) := by decide +kernel
theorem d_Cu_eventIndex_23 : decode c_Cu_eventIndex 23 = .ok (.iload 4, 2) := by decide +kernel
theorem d_Cu_eventIndex_25 : decode c_Cu_eventIndex 25 = .ok (.bipush 12, 2) := by decide +kernel
theorem d_Cu_eventIndex_27 : decode c_Cu_eventIndex 27 = .ok (.if_icmp .ge 34, 3) := by decide +kernel
theorem d_Cu_eventIndex_30 : decode c_Cu_eventIndex 30 = .ok (.aload_n 0, 1) := by decide +kernel
theorem d_Cu_eventIndex_31 : decode c_Cu_eventIndex 31 = .ok (.getfield 15, 3) := by decide +kernel
theorem d_Cu_eventIndex_34 : decode c_Cu_eventIndex 34 = .ok (.iload_n 1, 1) := by decide +kernel
theorem d_Cu_eventIndex_35 : decode c_Cu_eventIndex 35 = .ok (.iaload, 1) := by decide +kernel
theorem d_Cu_eventIndex_36 : decode c_Cu_eventIndex 36 = .ok (.iload 4, 2) := by decide +kernel
theorem d_Cu_eventIndex_38 : decode c_Cu_eventIndex 38 = .ok (.invokestatic 45, 3) := by decide +kernel
theorem d_Cu_eventIndex_41 : decode c_Cu_eventIndex 41 = .ok (.iand, 1) := by decide +kernel
theorem d_Cu_eventIndex_42 : decode c_Cu_eventIndex 42 = .ok (.ifCond .eq 13, 3) := by decide +kernel
theorem d_Cu_eventIndex_45 : decode c_Cu_eventIndex 45 = .ok (.iload_n 3, 1) := by decide +kernel
theorem d_Cu_eventIndex_46 : decode c_Cu_eventIndex 46 = .ok (.ifCond .ne 6, 3) := by decide +kernel
theorem d_Cu_eventIndex_49 : decode c_Cu_eventIndex 49 = .ok (.iload 4, 2) := by decide +kernel
theorem d_Cu_eventIndex_51 : decode c_Cu_eventIndex 51 = .ok (.ireturn, 1) := by decide +kernel
theorem d_Cu_eventIndex_52 : decode c_Cu_eventIndex 52 = .ok (.iinc 3 (-1), 3) := by decide +kernel
theorem d_Cu_eventIndex_55 : decode c_Cu_eventIndex 55 = .ok (.iinc 4 1, 3) := by decide +kernel
theorem d_Cu_eventIndex_58 : decode c_Cu_eventIndex 58 = .ok (.goto (-35), 3) := by decide +kernel
theorem d_Cu_eventIndex_61 : decode c_Cu_eventIndex 61 = .ok (.iconst (-1), 1) := by decide +kernel
theorem d_Cu_eventIndex_62 : decode c_Cu_eventIndex 62 = .ok (.ireturn, 1) := by decide +kernel
theorem d_Ji_bitCount_0 : decode c_Ji_bitCount 0 = .ok (.iload_n 0, 1) := by decide +kernel
theorem d_Ji_bitCount_1 : decode c_Ji_bitCount 1 = .ok (.iload_n 0, 1) := by decide +kernel
theorem d_Ji_bitCount_2 : decode c_Ji_bitCount 2 = .ok (.iconst 1, 1) := by decide +kernel
theorem d_Ji_bitCount_3 : decode c_Ji_bitCount 3 = .ok (.iushr, 1) := by decide +kernel
theorem d_Ji_bitCount_4 : decode c_Ji_bitCount 4 = .ok (.ldc_w 265, 3) := by decide +kernel
theorem d_Ji_bitCount_7 : decode c_Ji_bitCount 7 = .ok (.iand, 1) := by decide +kernel
theorem d_Ji_bitCount_8 : decode c_Ji_bitCount 8 = .ok (.isub, 1) := by decide +kernel
theorem d_Ji_bitCount_9 : decode c_Ji_bitCount 9 = .ok (.istore_n 0, 1) := by decide +kernel
theorem d_Ji_bitCount_10 : decode c_Ji_bitCount 10 = .ok (.iload_n 0, 1) := by decide +kernel
theorem d_Ji_bitCount_11 : decode c_Ji_bitCount 11 = .ok (.ldc_w 266, 3) := by decide +kernel
theorem d_Ji_bitCount_14 : decode c_Ji_bitCount 14 = .ok (.iand, 1) := by decide +kernel
theorem d_Ji_bitCount_15 : decode c_Ji_bitCount 15 = .ok (.iload_n 0, 1) := by decide +kernel
theorem d_Ji_bitCount_16 : decode c_Ji_bitCount 16 = .ok (.iconst 2, 1) := by decide +kernel
theorem d_Ji_bitCount_17 : decode c_Ji_bitCount 17 = .ok (.iushr, 1) := by decide +kernel
theorem d_Ji_bitCount_18 : decode c_Ji_bitCount 18 = .ok (.ldc_w 266, 3) := by decide +kernel
theorem d_Ji_bitCount_21 : decode c_Ji_bitCount 21 = .ok (.iand, 1) := by decide +kernel
theorem d_Ji_bitCount_22 : decode c_Ji_bitCount 22 = .ok (.iadd, 1) := by decide +kernel
theorem d_Ji_bitCount_23 : decode c_Ji_bitCount 23 = .ok (.istore_n 0, 1) := by decide +kernel
theorem d_Ji_bitCount_24 : decode c_Ji_bitCount 24 = .ok (.iload_n 0, 1) := by decide +kernel
theorem d_Ji_bitCount_25 : decode c_Ji_bitCount 25 = .ok (.iload_n 0, 1) := by decide +kernel
theorem d_Ji_bitCount_26 : decode c_Ji_bitCount 26 = .ok (.iconst 4, 1) := by decide +kernel
theorem d_Ji_bitCount_27 : decode c_Ji_bitCount 27 = .ok (.iushr, 1) := by decide +kernel
theorem d_Ji_bitCount_28 : decode c_Ji_bitCount 28 = .ok (.iadd, 1) := by decide +kernel
theorem d_Ji_bitCount_29 : decode c_Ji_bitCount 29 = .ok (.ldc_w 267, 3) := by decide +kernel
theorem d_Ji_bitCount_32 : decode c_Ji_bitCount 32 = .ok (.iand, 1) := by decide +kernel
theorem d_Ji_bitCount_33 : decode c_Ji_bitCount 33 = .ok (.istore_n 0, 1) := by decide +kernel
theorem d_Ji_bitCount_34 : decode c_Ji_bitCount 34 = .ok (.iload_n 0, 1) := by decide +kernel
theorem d_Ji_bitCount_35 : decode c_Ji_bitCount 35 = .ok (.iload_n 0, 1) := by decide +kernel
theorem d_Ji_bitCount_36 : decode c_Ji_bitCount 36 = .ok (.bipush 8, 2) := by decide +kernel
theorem d_Ji_bitCount_38 : decode c_Ji_bitCount 38 = .ok (.iushr, 1) := by decide +kernel
theorem d_Ji_bitCount_39 : decode c_Ji_bitCount 39 = .ok (.iadd, 1) := by decide +kernel
theorem d_Ji_bitCount_40 : decode c_Ji_bitCount 40 = .ok (.istore_n 0, 1) := by decide +kernel
theorem d_Ji_bitCount_41 : decode c_Ji_bitCount 41 = .ok (.iload_n 0, 1) := by decide +kernel
theorem d_Ji_bitCount_42 : decode c_Ji_bitCount 42 = .ok (.iload_n 0, 1) := by decide +kernel
theorem d_Ji_bitCount_43 : decode c_Ji_bitCount 43 = .ok (.bipush 16, 2) := by decide +kernel
theorem d_Ji_bitCount_45 : decode c_Ji_bitCount 45 = .ok (.iushr, 1) := by decide +kernel
theorem d_Ji_bitCount_46 : decode c_Ji_bitCount 46 = .ok (.iadd, 1) := by decide +kernel
theorem d_Ji_bitCount_47 : decode c_Ji_bitCount 47 = .ok (.istore_n 0, 1) := by decide +kernel
theorem d_Ji_bitCount_48 : decode c_Ji_bitCount 48 = .ok (.iload_n 0, 1) := by decide +kernel
theorem d_Ji_bitCount_49 : decode c_Ji_bitCount 49 = .ok (.bipush 63, 2) := by decide +kernel
theorem d_Ji_bitCount_51 : decode c_Ji_bitCount 51 = .ok (.iand, 1) := by decide +kernel
theorem d_Ji_bitCount_52 : decode c_Ji_bitCount 52 = .ok (.ireturn, 1) := by decide +kernel
theorem d_Jl_bitCount_0 : decode c_Jl_bitCount 0 = .ok (.lload_n 0, 1) := by decide +kernel
theorem d_Jl_bitCount_1 : decode c_Jl_bitCount 1 = .ok (.lload_n 0, 1) := by decide +kernel
theorem d_Jl_bitCount_2 : decode c_Jl_bitCount 2 = .ok (.iconst 1, 1) := by decide +kernel
theorem d_Jl_bitCount_3 : decode c_Jl_bitCount 3 = .ok (.lushr, 1) := by decide +kernel
theorem d_Jl_bitCount_4 : decode c_Jl_bitCount 4 = .ok (.ldc2_w 314, 3) := by decide +kernel
theorem d_Jl_bitCount_7 : decode c_Jl_bitCount 7 = .ok (.land, 1) := by decide +kernel
theorem d_Jl_bitCount_8 : decode c_Jl_bitCount 8 = .ok (.lsub, 1) := by decide +kernel
theorem d_Jl_bitCount_9 : decode c_Jl_bitCount 9 = .ok (.lstore_n 0, 1) := by decide +kernel
theorem d_Jl_bitCount_10 : decode c_Jl_bitCount 10 = .ok (.lload_n 0, 1) := by decide +kernel
theorem d_Jl_bitCount_11 : decode c_Jl_bitCount 11 = .ok (.ldc2_w 316, 3) := by decide +kernel
theorem d_Jl_bitCount_14 : decode c_Jl_bitCount 14 = .ok (.land, 1) := by decide +kernel
theorem d_Jl_bitCount_15 : decode c_Jl_bitCount 15 = .ok (.lload_n 0, 1) := by decide +kernel
theorem d_Jl_bitCount_16 : decode c_Jl_bitCount 16 = .ok (.iconst 2, 1) := by decide +kernel
theorem d_Jl_bitCount_17 : decode c_Jl_bitCount 17 = .ok (.lushr, 1) := by decide +kernel
theorem d_Jl_bitCount_18 : decode c_Jl_bitCount 18 = .ok (.ldc2_w 316, 3) := by decide +kernel
theorem d_Jl_bitCount_21 : decode c_Jl_bitCount 21 = .ok (.land, 1) := by decide +kernel
theorem d_Jl_bitCount_22 : decode c_Jl_bitCount 22 = .ok (.ladd, 1) := by decide +kernel
theorem d_Jl_bitCount_23 : decode c_Jl_bitCount 23 = .ok (.lstore_n 0, 1) := by decide +kernel
theorem d_Jl_bitCount_24 : decode c_Jl_bitCount 24 = .ok (.lload_n 0, 1) := by decide +kernel
theorem d_Jl_bitCount_25 : decode c_Jl_bitCount 25 = .ok (.lload_n 0, 1) := by decide +kernel
theorem d_Jl_bitCount_26 : decode c_Jl_bitCount 26 = .ok (.iconst 4, 1) := by decide +kernel
theorem d_Jl_bitCount_27 : decode c_Jl_bitCount 27 = .ok (.lushr, 1) := by decide +kernel
theorem d_Jl_bitCount_28 : decode c_Jl_bitCount 28 = .ok (.ladd, 1) := by decide +kernel
theorem d_Jl_bitCount_29 : decode c_Jl_bitCount 29 = .ok (.ldc2_w 318, 3) := by decide +kernel
theorem d_Jl_bitCount_32 : decode c_Jl_bitCount 32 = .ok (.land, 1) := by decide +kernel
theorem d_Jl_bitCount_33 : decode c_Jl_bitCount 33 = .ok (.lstore_n 0, 1) := by decide +kernel
theorem d_Jl_bitCount_34 : decode c_Jl_bitCount 34 = .ok (.lload_n 0, 1) := by decide +kernel
theorem d_Jl_bitCount_35 : decode c_Jl_bitCount 35 = .ok (.lload_n 0, 1) := by decide +kernel
theorem d_Jl_bitCount_36 : decode c_Jl_bitCount 36 = .ok (.bipush 8, 2) := by decide +kernel
theorem d_Jl_bitCount_38 : decode c_Jl_bitCount 38 = .ok (.lushr, 1) := by decide +kernel
theorem d_Jl_bitCount_39 : decode c_Jl_bitCount 39 = .ok (.ladd, 1) := by decide +kernel
theorem d_Jl_bitCount_40 : decode c_Jl_bitCount 40 = .ok (.lstore_n 0, 1) := by decide +kernel
theorem d_Jl_bitCount_41 : decode c_Jl_bitCount 41 = .ok (.lload_n 0, 1) := by decide +kernel
theorem d_Jl_bitCount_42 : decode c_Jl_bitCount 42 = .ok (.lload_n 0, 1) := by decide +kernel
theorem d_Jl_bitCount_43 : decode c_Jl_bitCount 43 = .ok (.bipush 16, 2) := by decide +kernel
theorem d_Jl_bitCount_45 : decode c_Jl_bitCount 45 = .ok (.lushr, 1) := by decide +kernel
theorem d_Jl_bitCount_46 : decode c_Jl_bitCount 46 = .ok (.ladd, 1) := by decide +kernel
theorem d_Jl_bitCount_47 : decode c_Jl_bitCount 47 = .ok (.lstore_n 0, 1) := by decide +kernel
theorem d_Jl_bitCount_48 : decode c_Jl_bitCount 48 = .ok (.lload_n 0, 1) := by decide +kernel
theorem d_Jl_bitCount_49 : decode c_Jl_bitCount 49 = .ok (.lload_n 0, 1) := by decide +kernel
theorem d_Jl_bitCount_50 : decode c_Jl_bitCount 50 = .ok (.bipush 32, 2) := by decide +kernel
theorem d_Jl_bitCount_52 : decode c_Jl_bitCount 52 = .ok (.lushr, 1) := by decide +kernel
theorem d_Jl_bitCount_53 : decode c_Jl_bitCount 53 = .ok (.ladd, 1) := by decide +kernel
theorem d_Jl_bitCount_54 : decode c_Jl_bitCount 54 = .ok (.lstore_n 0, 1) := by decide +kernel
theorem d_Jl_bitCount_55 : decode c_Jl_bitCount 55 = .ok (.lload_n 0, 1) := by decide +kernel
theorem d_Jl_bitCount_56 : decode c_Jl_bitCount 56 = .ok (.l2i, 1) := by decide +kernel
theorem d_Jl_bitCount_57 : decode c_Jl_bitCount 57 = .ok (.bipush 127, 2) := by decide +kernel
theorem d_Jl_bitCount_59 : decode c_Jl_bitCount 59 = .ok (.iand, 1) := by decide +kernel
theorem d_Jl_bitCount_60 : decode c_Jl_bitCount 60 = .ok (.ireturn, 1) := by decide +kernel
