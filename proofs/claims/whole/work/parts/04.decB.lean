theorem d_No_init_0 : decode c_No_init 0 = .ok (.aload_n 0, 1) := by decide +kernel
theorem d_No_init_1 : decode c_No_init 1 = .ok (.invokespecial 3, 3) := by decide +kernel
theorem d_No_init_4 : decode c_No_init 4 = .ok (.aload_n 0, 1) := by decide +kernel
theorem d_No_init_5 : decode c_No_init 5 = .ok (.iconst 0, 1) := by decide +kernel
theorem d_No_init_6 : decode c_No_init 6 = .ok (.putfield 9, 3) := by decide +kernel
theorem d_No_init_9 : decode c_No_init 9 = .ok (.aload_n 0, 1) := by decide +kernel
theorem d_No_init_10 : decode c_No_init 10 = .ok (.iconst 0, 1) := by decide +kernel
theorem d_No_init_11 : decode c_No_init 11 = .ok (.putfield 15, 3) := by decide +kernel
theorem d_No_init_14 : decode c_No_init 14 = .ok (.aload_n 0, 1) := by decide +kernel
theorem d_No_init_15 : decode c_No_init 15 = .ok (.iconst 0, 1) := by decide +kernel
theorem d_No_init_16 : decode c_No_init 16 = .ok (.putfield 18, 3) := by decide +kernel
theorem d_No_init_19 : decode c_No_init 19 = .ok (.aload_n 0, 1) := by decide +kernel
theorem d_No_init_20 : decode c_No_init 20 = .ok (.bipush 33, 2) := by decide +kernel
theorem d_No_init_22 : decode c_No_init 22 = .ok (.newarray .int, 2) := by decide +kernel
theorem d_No_init_24 : decode c_No_init 24 = .ok (.putfield 21, 3) := by decide +kernel
theorem d_No_init_27 : decode c_No_init 27 = .ok (.aload_n 0, 1) := by decide +kernel
theorem d_No_init_28 : decode c_No_init 28 = .ok (.bipush 33, 2) := by decide +kernel
theorem d_No_init_30 : decode c_No_init 30 = .ok (.newarray .int, 2) := by decide +kernel
theorem d_No_init_32 : decode c_No_init 32 = .ok (.putfield 25, 3) := by decide +kernel
theorem d_No_init_35 : decode c_No_init 35 = .ok (.aload_n 0, 1) := by decide +kernel
theorem d_No_init_36 : decode c_No_init 36 = .ok (.bipush 33, 2) := by decide +kernel
theorem d_No_init_38 : decode c_No_init 38 = .ok (.newarray .long, 2) := by decide +kernel
theorem d_No_init_40 : decode c_No_init 40 = .ok (.putfield 28, 3) := by decide +kernel
theorem d_No_init_43 : decode c_No_init 43 = .ok (.aload_n 0, 1) := by decide +kernel
theorem d_No_init_44 : decode c_No_init 44 = .ok (.bipush 33, 2) := by decide +kernel
theorem d_No_init_46 : decode c_No_init 46 = .ok (.newarray .long, 2) := by decide +kernel
theorem d_No_init_48 : decode c_No_init 48 = .ok (.putfield 32, 3) := by decide +kernel
theorem d_No_init_51 : decode c_No_init 51 = .ok (.aload_n 0, 1) := by decide +kernel
theorem d_No_init_52 : decode c_No_init 52 = .ok (.bipush 12, 2) := by decide +kernel
theorem d_No_init_54 : decode c_No_init 54 = .ok (.newarray .int, 2) := by decide +kernel
theorem d_No_init_56 : decode c_No_init 56 = .ok (.putfield 35, 3) := by decide +kernel
theorem d_No_init_59 : decode c_No_init 59 = .ok (.aload_n 0, 1) := by decide +kernel
theorem d_No_init_60 : decode c_No_init 60 = .ok (.bipush 33, 2) := by decide +kernel
theorem d_No_init_62 : decode c_No_init 62 = .ok (.bipush 10, 2) := by decide +kernel
theorem d_No_init_64 : decode c_No_init 64 = .ok (.multianewarray 38 2, 4) := by decide +kernel
theorem d_No_init_68 : decode c_No_init 68 = .ok (.putfield 40, 3) := by decide +kernel
theorem d_No_init_71 : decode c_No_init 71 = .ok (.aload_n 0, 1) := by decide +kernel
theorem d_No_init_72 : decode c_No_init 72 = .ok (.bipush 33, 2) := by decide +kernel
theorem d_No_init_74 : decode c_No_init 74 = .ok (.newarray .int, 2) := by decide +kernel
theorem d_No_init_76 : decode c_No_init 76 = .ok (.putfield 43, 3) := by decide +kernel
theorem d_No_init_79 : decode c_No_init 79 = .ok (.aload_n 0, 1) := by decide +kernel
theorem d_No_init_80 : decode c_No_init 80 = .ok (.bipush 33, 2) := by decide +kernel
theorem d_No_init_82 : decode c_No_init 82 = .ok (.newarray .long, 2) := by decide +kernel
theorem d_No_init_84 : decode c_No_init 84 = .ok (.putfield 46, 3) := by decide +kernel
theorem d_No_init_87 : decode c_No_init 87 = .ok (.aload_n 0, 1) := by decide +kernel
theorem d_No_init_88 : decode c_No_init 88 = .ok (.bipush 33, 2) := by decide +kernel
theorem d_No_init_90 : decode c_No_init 90 = .ok (.newarray .int, 2) := by decide +kernel
theorem d_No_init_92 : decode c_No_init 92 = .ok (.putfield 49, 3) := by decide +kernel
theorem d_No_init_95 : decode c_No_init 95 = .ok (.aload_n 0, 1) := by decide +kernel
theorem d_No_init_96 : decode c_No_init 96 = .ok (.bipush 20, 2) := by decide +kernel
theorem d_No_init_98 : decode c_No_init 98 = .ok (.newarray .int, 2) := by decide +kernel
theorem d_No_init_100 : decode c_No_init 100 = .ok (.putfield 52, 3) := by decide +kernel
theorem d_No_init_103 : decode c_No_init 103 = .ok (.return_, 1) := by decide +kernel
theorem d_No_isNode_0 : decode c_No_isNode 0 = .ok (.iload_n 1, 1) := by decide +kernel
theorem d_No_isNode_1 : decode c_No_isNode 1 = .ok (.iconst 1, 1) := by decide +kernel
theorem d_No_isNode_2 : decode c_No_isNode 2 = .ok (.if_icmp .lt 15, 3) := by decide +kernel
theorem d_No_isNode_5 : decode c_No_isNode 5 = .ok (.iload_n 1, 1) := by decide +kernel
theorem d_No_isNode_6 : decode c_No_isNode 6 = .ok (.aload_n 0, 1) := by decide +kernel
theorem d_No_isNode_7 : decode c_No_isNode 7 = .ok (.getfield 9, 3) := by decide +kernel
theorem d_No_isNode_10 : decode c_No_isNode 10 = .ok (.if_icmp .gt 7, 3) := by decide +kernel
theorem d_No_isNode_13 : decode c_No_isNode 13 = .ok (.iconst 1, 1) := by decide +kernel
theorem d_No_isNode_14 : decode c_No_isNode 14 = .ok (.goto 4, 3) := by decide +kernel
theorem d_No_isNode_17 : decode c_No_isNode 17 = .ok (.iconst 0, 1) := by decide +kernel
theorem d_No_isNode_18 : decode c_No_isNode 18 = .ok (.ireturn, 1) := by decide +kernel
theorem d_No_isEvent_0 : decode c_No_isEvent 0 = .ok (.aload_n 0, 1) := by decide +kernel
theorem d_No_isEvent_1 : decode c_No_isEvent 1 = .ok (.iload_n 1, 1) := by decide +kernel
theorem d_No_isEvent_2 : decode c_No_isEvent 2 = .ok (.invokevirtual 55, 3) := by decide +kernel
theorem d_No_isEvent_5 : decode c_No_isEvent 5 = .ok (.ifCond .eq 17, 3) := by decide +kernel
theorem d_No_isEvent_8 : decode c_No_isEvent 8 = .ok (.aload_n 0, 1) := by decide +kernel
theorem d_No_isEvent_9 : decode c_No_isEvent 9 = .ok (.getfield 21, 3) := by decide +kernel
theorem d_No_isEvent_12 : decode c_No_isEvent 12 = .ok (.iload_n 1, 1) := by decide +kernel
theorem d_No_isEvent_13 : decode c_No_isEvent 13 = .ok (.iaload, 1) := by decide +kernel
theorem d_No_isEvent_14 : decode c_No_isEvent 14 = .ok (.iconst (-1), 1) := by decide +kernel
theorem d_No_isEvent_15 : decode c_No_isEvent 15 = .ok (.if_icmp .ne 7, 3) := by decide +kernel
theorem d_No_isEvent_18 : decode c_No_isEvent 18 = .ok (.iconst 1, 1) := by decide +kernel
theorem d_No_isEvent_19 : decode c_No_isEvent 19 = .ok (.goto 4, 3) := by decide +kernel
theorem d_No_isEvent_22 : decode c_No_isEvent 22 = .ok (.iconst 0, 1) := by decide +kernel
theorem d_No_isEvent_23 : decode c_No_isEvent 23 = .ok (.ireturn, 1) := by decide +kernel
theorem d_No_isGate_0 : decode c_No_isGate 0 = .ok (.aload_n 0, 1) := by decide +kernel
theorem d_No_isGate_1 : decode c_No_isGate 1 = .ok (.iload_n 1, 1) := by decide +kernel
theorem d_No_isGate_2 : decode c_No_isGate 2 = .ok (.invokevirtual 55, 3) := by decide +kernel
theorem d_No_isGate_5 : decode c_No_isGate 5 = .ok (.ifCond .eq 17, 3) := by decide +kernel
theorem d_No_isGate_8 : decode c_No_isGate 8 = .ok (.aload_n 0, 1) := by decide +kernel
theorem d_No_isGate_9 : decode c_No_isGate 9 = .ok (.getfield 21, 3) := by decide +kernel
theorem d_No_isGate_12 : decode c_No_isGate 12 = .ok (.iload_n 1, 1) := by decide +kernel
theorem d_No_isGate_13 : decode c_No_isGate 13 = .ok (.iaload, 1) := by decide +kernel
theorem d_No_isGate_14 : decode c_No_isGate 14 = .ok (.iconst (-1), 1) := by decide +kernel
theorem d_No_isGate_15 : decode c_No_isGate 15 = .ok (.if_icmp .eq 7, 3) := by decide +kernel
theorem d_No_isGate_18 : decode c_No_isGate 18 = .ok (.iconst 1, 1) := by decide +kernel
theorem d_No_isGate_19 : decode c_No_isGate 19 = .ok (.goto 4, 3) := by decide +kernel
theorem d_No_isGate_22 : decode c_No_isGate 22 = .ok (.iconst 0, 1) := by decide +kernel
theorem d_No_isGate_23 : decode c_No_isGate 23 = .ok (.ireturn, 1) := by decide +kernel
theorem d_No_addEvent_0 : decode c_No_addEvent 0 = .ok (.aload_n 0, 1) := by decide +kernel
theorem d_No_addEvent_1 : decode c_No_addEvent 1 = .ok (.dup, 1) := by decide +kernel
theorem d_No_addEvent_2 : decode c_No_addEvent 2 = .ok (.getfield 9, 3) := by decide +kernel
theorem d_No_addEvent_5 : decode c_No_addEvent 5 = .ok (.iconst 1, 1) := by decide +kernel
theorem d_No_addEvent_6 : decode c_No_addEvent 6 = .ok (.iadd, 1) := by decide +kernel
theorem d_No_addEvent_7 : decode c_No_addEvent 7 = .ok (.putfield 9, 3) := by decide +kernel
theorem d_No_addEvent_10 : decode c_No_addEvent 10 = .ok (.aload_n 0, 1) := by decide +kernel
theorem d_No_addEvent_11 : decode c_No_addEvent 11 = .ok (.getfield 21, 3) := by decide +kernel
theorem d_No_addEvent_14 : decode c_No_addEvent 14 = .ok (.aload_n 0, 1) := by decide +kernel
theorem d_No_addEvent_15 : decode c_No_addEvent 15 = .ok (.getfield 9, 3) := by decide +kernel
theorem d_No_addEvent_18 : decode c_No_addEvent 18 = .ok (.iconst (-1), 1) := by decide +kernel
theorem d_No_addEvent_19 : decode c_No_addEvent 19 = .ok (.iastore, 1) := by decide +kernel
theorem d_No_addEvent_20 : decode c_No_addEvent 20 = .ok (.aload_n 0, 1) := by decide +kernel
theorem d_No_addEvent_21 : decode c_No_addEvent 21 = .ok (.getfield 28, 3) := by decide +kernel
theorem d_No_addEvent_24 : decode c_No_addEvent 24 = .ok (.aload_n 0, 1) := by decide +kernel
theorem d_No_addEvent_25 : decode c_No_addEvent 25 = .ok (.getfield 9, 3) := by decide +kernel
theorem d_No_addEvent_28 : decode c_No_addEvent 28 = .ok (.lload_n 1, 1) := by decide +kernel
theorem d_No_addEvent_29 : decode c_No_addEvent 29 = .ok (.lastore, 1) := by decide +kernel
theorem d_No_addEvent_30 : decode c_No_addEvent 30 = .ok (.aload_n 0, 1) := by decide +kernel
theorem d_No_addEvent_31 : decode c_No_addEvent 31 = .ok (.getfield 32, 3) := by decide +kernel
theorem d_No_addEvent_34 : decode c_No_addEvent 34 = .ok (.aload_n 0, 1) := by decide +kernel
theorem d_No_addEvent_35 : decode c_No_addEvent 35 = .ok (.getfield 9, 3) := by decide +kernel
theorem d_No_addEvent_38 : decode c_No_addEvent 38 = .ok (.lload_n 3, 1) := by decide +kernel
theorem d_No_addEvent_39 : decode c_No_addEvent 39 = .ok (.lastore, 1) := by decide +kernel
theorem d_No_addEvent_40 : decode c_No_addEvent 40 = .ok (.aload_n 0, 1) := by decide +kernel
theorem d_No_addEvent_41 : decode c_No_addEvent 41 = .ok (.getfield 35, 3) := by decide +kernel
theorem d_No_addEvent_44 : decode c_No_addEvent 44 = .ok (.aload_n 0, 1) := by decide +kernel
theorem d_No_addEvent_45 : decode c_No_addEvent 45 = .ok (.getfield 15, 3) := by decide +kernel
theorem d_No_addEvent_48 : decode c_No_addEvent 48 = .ok (.aload_n 0, 1) := by decide +kernel
theorem d_No_addEvent_49 : decode c_No_addEvent 49 = .ok (.getfield 9, 3) := by decide +kernel
theorem d_No_addEvent_52 : decode c_No_addEvent 52 = .ok (.iastore, 1) := by decide +kernel
theorem d_No_addEvent_53 : decode c_No_addEvent 53 = .ok (.aload_n 0, 1) := by decide +kernel
theorem d_No_addEvent_54 : decode c_No_addEvent 54 = .ok (.getfield 49, 3) := by decide +kernel
theorem d_No_addEvent_57 : decode c_No_addEvent 57 = .ok (.aload_n 0, 1) := by decide +kernel
theorem d_No_addEvent_58 : decode c_No_addEvent 58 = .ok (.getfield 9, 3) := by decide +kernel
theorem d_No_addEvent_61 : decode c_No_addEvent 61 = .ok (.aload_n 0, 1) := by decide +kernel
theorem d_No_addEvent_62 : decode c_No_addEvent 62 = .ok (.getfield 15, 3) := by decide +kernel
theorem d_No_addEvent_65 : decode c_No_addEvent 65 = .ok (.invokestatic 59, 3) := by decide +kernel
theorem d_No_addEvent_68 : decode c_No_addEvent 68 = .ok (.iastore, 1) := by decide +kernel
theorem d_No_addEvent_69 : decode c_No_addEvent 69 = .ok (.aload_n 0, 1) := by decide +kernel
theorem d_No_addEvent_70 : decode c_No_addEvent 70 = .ok (.dup, 1) := by decide +kernel
theorem d_No_addEvent_71 : decode c_No_addEvent 71 = .ok (.getfield 15, 3) := by decide +kernel
theorem d_No_addEvent_74 : decode c_No_addEvent 74 = .ok (.iconst 1, 1) := by decide +kernel
theorem d_No_addEvent_75 : decode c_No_addEvent 75 = .ok (.iadd, 1) := by decide +kernel
theorem d_No_addEvent_76 : decode c_No_addEvent 76 = .ok (.putfield 15, 3) := by decide +kernel
theorem d_No_addEvent_79 : decode c_No_addEvent 79 = .ok (.aload_n 0, 1) := by decide +kernel
theorem d_No_addEvent_80 : decode c_No_addEvent 80 = .ok (.getfield 9, 3) := by decide +kernel
theorem d_No_addEvent_83 : decode c_No_addEvent 83 = .ok (.ireturn, 1) := by decide +kernel
theorem d_No_addGate_0 : decode c_No_addGate 0 = .ok (.aload_n 0, 1) := by decide +kernel
theorem d_No_addGate_1 : decode c_No_addGate 1 = .ok (.dup, 1) := by decide +kernel
theorem d_No_addGate_2 : decode c_No_addGate 2 = .ok (.getfield 9, 3) := by decide +kernel
theorem d_No_addGate_5 : decode c_No_addGate 5 = .ok (.iconst 1, 1) := by decide +kernel
theorem d_No_addGate_6 : decode c_No_addGate 6 = .ok (.iadd, 1) := by decide +kernel
theorem d_No_addGate_7 : decode c_No_addGate 7 = .ok (.putfield 9, 3) := by decide +kernel
theorem d_No_addGate_10 : decode c_No_addGate 10 = .ok (.aload_n 0, 1) := by decide +kernel
theorem d_No_addGate_11 : decode c_No_addGate 11 = .ok (.getfield 21, 3) := by decide +kernel
theorem d_No_addGate_14 : decode c_No_addGate 14 = .ok (.aload_n 0, 1) := by decide +kernel
theorem d_No_addGate_15 : decode c_No_addGate 15 = .ok (.getfield 9, 3) := by decide +kernel
theorem d_No_addGate_18 : decode c_No_addGate 18 = .ok (.iload_n 1, 1) := by decide +kernel
theorem d_No_addGate_19 : decode c_No_addGate 19 = .ok (.iastore, 1) := by decide +kernel
theorem d_No_addGate_20 : decode c_No_addGate 20 = .ok (.aload_n 0, 1) := by decide +kernel
theorem d_No_addGate_21 : decode c_No_addGate 21 = .ok (.getfield 25, 3) := by decide +kernel
theorem d_No_addGate_24 : decode c_No_addGate 24 = .ok (.aload_n 0, 1) := by decide +kernel
theorem d_No_addGate_25 : decode c_No_addGate 25 = .ok (.getfield 9, 3) := by decide +kernel
theorem d_No_addGate_28 : decode c_No_addGate 28 = .ok (.iload_n 2, 1) := by decide +kernel
theorem d_No_addGate_29 : decode c_No_addGate 29 = .ok (.iastore, 1) := by decide +kernel
theorem d_No_addGate_30 : decode c_No_addGate 30 = .ok (.aload_n 0, 1) := by decide +kernel
theorem d_No_addGate_31 : decode c_No_addGate 31 = .ok (.dup, 1) := by decide +kernel
theorem d_No_addGate_32 : decode c_No_addGate 32 = .ok (.getfield 18, 3) := by decide +kernel
theorem d_No_addGate_35 : decode c_No_addGate 35 = .ok (.iconst 1, 1) := by decide +kernel
theorem d_No_addGate_36 : decode c_No_addGate 36 = .ok (.iadd, 1) := by decide +kernel
theorem d_No_addGate_37 : decode c_No_addGate 37 = .ok (.putfield 18, 3) := by decide +kernel
theorem d_No_addGate_40 : decode c_No_addGate 40 = .ok (.aload_n 0, 1) := by decide +kernel
theorem d_No_addGate_41 : decode c_No_addGate 41 = .ok (.getfield 9, 3) := by decide +kernel
theorem d_No_addGate_44 : decode c_No_addGate 44 = .ok (.ireturn, 1) := by decide +kernel
theorem d_No_eventBit_0 : decode c_No_eventBit 0 = .ok (.iconst 1, 1) := by decide +kernel
theorem d_No_eventBit_1 : decode c_No_eventBit 1 = .ok (.bipush 11, 2) := by decide +kernel
theorem d_No_eventBit_3 : decode c_No_eventBit 3 = .ok (.iload_n 0, 1) := by decide +kernel
theorem d_No_eventBit_4 : decode c_No_eventBit 4 = .ok (.isub, 1) := by decide +kernel
theorem d_No_eventBit_5 : decode c_No_eventBit 5 = .ok (.ishl, 1) := by decide +kernel
theorem d_No_eventBit_6 : decode c_No_eventBit 6 = .ok (.ireturn, 1) := by decide +kernel
theorem d_No_isBelow_0 : decode c_No_isBelow 0 = .ok (.iconst 0, 1) := by decide +kernel
theorem d_No_isBelow_1 : decode c_No_isBelow 1 = .ok (.istore_n 3, 1) := by decide +kernel
theorem d_No_isBelow_2 : decode c_No_isBelow 2 = .ok (.iload_n 3, 1) := by decide +kernel
theorem d_No_isBelow_3 : decode c_No_isBelow 3 = .ok (.aload_n 0, 1) := by decide +kernel
theorem d_No_isBelow_4 : decode c_No_isBelow 4 = .ok (.getfield 43, 3) := by decide +kernel
theorem d_No_isBelow_7 : decode c_No_isBelow 7 = .ok (.iload_n 2, 1) := by decide +kernel
theorem d_No_isBelow_8 : decode c_No_isBelow 8 = .ok (.iaload, 1) := by decide +kernel
theorem d_No_isBelow_9 : decode c_No_isBelow 9 = .ok (.if_icmp .ge 23, 3) := by decide +kernel
theorem d_No_isBelow_12 : decode c_No_isBelow 12 = .ok (.aload_n 0, 1) := by decide +kernel
theorem d_No_isBelow_13 : decode c_No_isBelow 13 = .ok (.getfield 40, 3) := by decide +kernel
theorem d_No_isBelow_16 : decode c_No_isBelow 16 = .ok (.iload_n 2, 1) := by decide +kernel
theorem d_No_isBelow_17 : decode c_No_isBelow 17 = .ok (.aaload, 1) := by decide +kernel
theorem d_No_isBelow_18 : decode c_No_isBelow 18 = .ok (.iload_n 3, 1) := by decide +kernel
theorem d_No_isBelow_19 : decode c_No_isBelow 19 = .ok (.iaload, 1) := by decide +kernel
theorem d_No_isBelow_20 : decode c_No_isBelow 20 = .ok (.iload_n 1, 1) := by decide +kernel
theorem d_No_isBelow_21 : decode c_No_isBelow 21 = .ok (.if_icmp .ne 5, 3) := by decide +kernel
theorem d_No_isBelow_24 : decode c_No_isBelow 24 = .ok (.iconst 1, 1) := by decide +kernel
theorem d_No_isBelow_25 : decode c_No_isBelow 25 = .ok (.ireturn, 1) := by decide +kernel
theorem d_No_isBelow_26 : decode c_No_isBelow 26 = .ok (.iinc 3 1, 3) := by decide +kernel
theorem d_No_isBelow_29 : decode c_No_isBelow 29 = .ok (.goto (-27), 3) := by decide +kernel
theorem d_No_isBelow_32 : decode c_No_isBelow 32 = .ok (.iconst 0, 1) := by decide +kernel
theorem d_No_isBelow_33 : decode c_No_isBelow 33 = .ok (.ireturn, 1) := by decide +kernel
theorem d_No_isUnder_0 : decode c_No_isUnder 0 = .ok (.aload_n 0, 1) := by decide +kernel
theorem d_No_isUnder_1 : decode c_No_isUnder 1 = .ok (.getfield 46, 3) := by decide +kernel
theorem d_No_isUnder_4 : decode c_No_isUnder 4 = .ok (.iload_n 2, 1) := by decide +kernel
theorem d_No_isUnder_5 : decode c_No_isUnder 5 = .ok (.laload, 1) := by decide +kernel
theorem d_No_isUnder_6 : decode c_No_isUnder 6 = .ok (.lconst 1, 1) := by decide +kernel
theorem d_No_isUnder_7 : decode c_No_isUnder 7 = .ok (.iload_n 1, 1) := by decide +kernel
theorem d_No_isUnder_8 : decode c_No_isUnder 8 = .ok (.lshl, 1) := by decide +kernel
theorem d_No_isUnder_9 : decode c_No_isUnder 9 = .ok (.land, 1) := by decide +kernel
theorem d_No_isUnder_10 : decode c_No_isUnder 10 = .ok (.lconst 0, 1) := by decide +kernel
theorem d_No_isUnder_11 : decode c_No_isUnder 11 = .ok (.lcmp, 1) := by decide +kernel
theorem d_No_isUnder_12 : decode c_No_isUnder 12 = .ok (.ifCond .eq 7, 3) := by decide +kernel
theorem d_No_isUnder_15 : decode c_No_isUnder 15 = .ok (.iconst 1, 1) := by decide +kernel
theorem d_No_isUnder_16 : decode c_No_isUnder 16 = .ok (.goto 4, 3) := by decide +kernel
theorem d_No_isUnder_19 : decode c_No_isUnder 19 = .ok (.iconst 0, 1) := by decide +kernel
theorem d_No_isUnder_20 : decode c_No_isUnder 20 = .ok (.ireturn, 1) := by decide +kernel
theorem d_No_putBelow_0 : decode c_No_putBelow 0 = .ok (.aload_n 0, 1) := by decide +kernel
theorem d_No_putBelow_1 : decode c_No_putBelow 1 = .ok (.getfield 40, 3) := by decide +kernel
theorem d_No_putBelow_4 : decode c_No_putBelow 4 = .ok (.iload_n 2, 1) := by decide +kernel
theorem d_No_putBelow_5 : decode c_No_putBelow 5 = .ok (.aaload, 1) := by decide +kernel
theorem d_No_putBelow_6 : decode c_No_putBelow 6 = .ok (.aload_n 0, 1) := by decide +kernel
theorem d_No_putBelow_7 : decode c_No_putBelow 7 = .ok (.getfield 43, 3) := by decide +kernel
theorem d_No_putBelow_10 : decode c_No_putBelow 10 = .ok (.iload_n 2, 1) := by decide +kernel
theorem d_No_putBelow_11 : decode c_No_putBelow 11 = .ok (.iaload, 1) := by decide +kernel
theorem d_No_putBelow_12 : decode c_No_putBelow 12 = .ok (.iload_n 1, 1) := by decide +kernel
theorem d_No_putBelow_13 : decode c_No_putBelow 13 = .ok (.iastore, 1) := by decide +kernel
theorem d_No_putBelow_14 : decode c_No_putBelow 14 = .ok (.aload_n 0, 1) := by decide +kernel
theorem d_No_putBelow_15 : decode c_No_putBelow 15 = .ok (.getfield 43, 3) := by decide +kernel
theorem d_No_putBelow_18 : decode c_No_putBelow 18 = .ok (.iload_n 2, 1) := by decide +kernel
theorem d_No_putBelow_19 : decode c_No_putBelow 19 = .ok (.dup2, 1) := by decide +kernel
theorem d_No_putBelow_20 : decode c_No_putBelow 20 = .ok (.iaload, 1) := by decide +kernel
theorem d_No_putBelow_21 : decode c_No_putBelow 21 = .ok (.iconst 1, 1) := by decide +kernel
theorem d_No_putBelow_22 : decode c_No_putBelow 22 = .ok (.iadd, 1) := by decide +kernel
theorem d_No_putBelow_23 : decode c_No_putBelow 23 = .ok (.iastore, 1) := by decide +kernel
theorem d_No_putBelow_24 : decode c_No_putBelow 24 = .ok (.aload_n 0, 1) := by decide +kernel
theorem d_No_putBelow_25 : decode c_No_putBelow 25 = .ok (.getfield 46, 3) := by decide +kernel
theorem d_No_putBelow_28 : decode c_No_putBelow 28 = .ok (.iload_n 1, 1) := by decide +kernel
theorem d_No_putBelow_29 : decode c_No_putBelow 29 = .ok (.laload, 1) := by decide +kernel
theorem d_No_putBelow_30 : decode c_No_putBelow 30 = .ok (.lconst 1, 1) := by decide +kernel
theorem d_No_putBelow_31 : decode c_No_putBelow 31 = .ok (.iload_n 1, 1) := by decide +kernel
theorem d_No_putBelow_32 : decode c_No_putBelow 32 = .ok (.lshl, 1) := by decide +kernel
theorem d_No_putBelow_33 : decode c_No_putBelow 33 = .ok (.lor, 1) := by decide +kernel
theorem d_No_putBelow_34 : decode c_No_putBelow 34 = .ok (.lstore_n 3, 1) := by decide +kernel
theorem d_No_putBelow_35 : decode c_No_putBelow 35 = .ok (.iconst 1, 1) := by decide +kernel
theorem d_No_putBelow_36 : decode c_No_putBelow 36 = .ok (.istore 5, 2) := by decide +kernel
theorem d_No_putBelow_38 : decode c_No_putBelow 38 = .ok (.iload 5, 2) := by decide +kernel
theorem d_No_putBelow_40 : decode c_No_putBelow 40 = .ok (.aload_n 0, 1) := by decide +kernel
theorem d_No_putBelow_41 : decode c_No_putBelow 41 = .ok (.getfield 9, 3) := by decide +kernel
theorem d_No_putBelow_44 : decode c_No_putBelow 44 = .ok (.if_icmp .gt 52, 3) := by decide +kernel
theorem d_No_putBelow_47 : decode c_No_putBelow 47 = .ok (.iload 5, 2) := by decide +kernel
theorem d_No_putBelow_49 : decode c_No_putBelow 49 = .ok (.iload_n 2, 1) := by decide +kernel
theorem d_No_putBelow_50 : decode c_No_putBelow 50 = .ok (.if_icmp .eq 13, 3) := by decide +kernel
theorem d_No_putBelow_53 : decode c_No_putBelow 53 = .ok (.aload_n 0, 1) := by decide +kernel
theorem d_No_putBelow_54 : decode c_No_putBelow 54 = .ok (.iload_n 2, 1) := by decide +kernel
theorem d_No_putBelow_55 : decode c_No_putBelow 55 = .ok (.iload 5, 2) := by decide +kernel
theorem d_No_putBelow_57 : decode c_No_putBelow 57 = .ok (.invokevirtual 63, 3) := by decide +kernel
theorem d_No_putBelow_60 : decode c_No_putBelow 60 = .ok (.ifCond .eq 30, 3) := by decide +kernel
theorem d_No_putBelow_63 : decode c_No_putBelow 63 = .ok (.aload_n 0, 1) := by decide +kernel
theorem d_No_putBelow_64 : decode c_No_putBelow 64 = .ok (.getfield 46, 3) := by decide +kernel
theorem d_No_putBelow_67 : decode c_No_putBelow 67 = .ok (.iload 5, 2) := by decide +kernel
theorem d_No_putBelow_69 : decode c_No_putBelow 69 = .ok (.dup2, 1) := by decide +kernel
theorem d_No_putBelow_70 : decode c_No_putBelow 70 = .ok (.laload, 1) := by decide +kernel
theorem d_No_putBelow_71 : decode c_No_putBelow 71 = .ok (.lload_n 3, 1) := by decide +kernel
theorem d_No_putBelow_72 : decode c_No_putBelow 72 = .ok (.lor, 1) := by decide +kernel
theorem d_No_putBelow_73 : decode c_No_putBelow 73 = .ok (.lastore, 1) := by decide +kernel
theorem d_No_putBelow_74 : decode c_No_putBelow 74 = .ok (.aload_n 0, 1) := by decide +kernel
theorem d_No_putBelow_75 : decode c_No_putBelow 75 = .ok (.getfield 49, 3) := by decide +kernel
theorem d_No_putBelow_78 : decode c_No_putBelow 78 = .ok (.iload 5, 2) := by decide +kernel
theorem d_No_putBelow_80 : decode c_No_putBelow 80 = .ok (.dup2, 1) := by decide +kernel
theorem d_No_putBelow_81 : decode c_No_putBelow 81 = .ok (.iaload, 1) := by decide +kernel
theorem d_No_putBelow_82 : decode c_No_putBelow 82 = .ok (.aload_n 0, 1) := by decide +kernel
theorem d_No_putBelow_83 : decode c_No_putBelow 83 = .ok (.getfield 49, 3) := by decide +kernel
theorem d_No_putBelow_86 : decode c_No_putBelow 86 = .ok (.iload_n 1, 1) := by decide +kernel
theorem d_No_putBelow_87 : decode c_No_putBelow 87 = .ok (.iaload, 1) := by decide +kernel
theorem d_No_putBelow_88 : decode c_No_putBelow 88 = .ok (.ior, 1) := by decide +kernel
theorem d_No_putBelow_89 : decode c_No_putBelow 89 = .ok (.iastore, 1) := by decide +kernel
theorem d_No_putBelow_90 : decode c_No_putBelow 90 = .ok (.iinc 5 1, 3) := by decide +kernel
theorem d_No_putBelow_93 : decode c_No_putBelow 93 = .ok (.goto (-55), 3) := by decide +kernel
theorem d_No_putBelow_96 : decode c_No_putBelow 96 = .ok (.return_, 1) := by decide +kernel
theorem d_No_lineUp_0 : decode c_No_lineUp 0 = .ok (.iconst 0, 1) := by decide +kernel
theorem d_No_lineUp_1 : decode c_No_lineUp 1 = .ok (.istore_n 2, 1) := by decide +kernel
theorem d_No_lineUp_2 : decode c_No_lineUp 2 = .ok (.iconst 0, 1) := by decide +kernel
theorem d_No_lineUp_3 : decode c_No_lineUp 3 = .ok (.istore_n 3, 1) := by decide +kernel
theorem d_No_lineUp_4 : decode c_No_lineUp 4 = .ok (.iload_n 3, 1) := by decide +kernel
theorem d_No_lineUp_5 : decode c_No_lineUp 5 = .ok (.bipush 32, 2) := by decide +kernel
theorem d_No_lineUp_7 : decode c_No_lineUp 7 = .ok (.if_icmp .gt 95, 3) := by decide +kernel
theorem d_No_lineUp_10 : decode c_No_lineUp 10 = .ok (.iconst 1, 1) := by decide +kernel
theorem d_No_lineUp_11 : decode c_No_lineUp 11 = .ok (.istore 4, 2) := by decide +kernel
theorem d_No_lineUp_13 : decode c_No_lineUp 13 = .ok (.iload 4, 2) := by decide +kernel
theorem d_No_lineUp_15 : decode c_No_lineUp 15 = .ok (.aload_n 0, 1) := by decide +kernel
theorem d_No_lineUp_16 : decode c_No_lineUp 16 = .ok (.getfield 9, 3) := by decide +kernel
theorem d_No_lineUp_19 : decode c_No_lineUp 19 = .ok (.if_icmp .gt 77, 3) := by decide +kernel
theorem d_No_lineUp_22 : decode c_No_lineUp 22 = .ok (.iload 4, 2) := by decide +kernel
theorem d_No_lineUp_24 : decode c_No_lineUp 24 = .ok (.iload_n 1, 1) := by decide +kernel
theorem d_No_lineUp_25 : decode c_No_lineUp 25 = .ok (.if_icmp .eq 13, 3) := by decide +kernel
theorem d_No_lineUp_28 : decode c_No_lineUp 28 = .ok (.aload_n 0, 1) := by decide +kernel
theorem d_No_lineUp_29 : decode c_No_lineUp 29 = .ok (.iload 4, 2) := by decide +kernel
theorem d_No_lineUp_31 : decode c_No_lineUp 31 = .ok (.iload_n 1, 1) := by decide +kernel
theorem d_No_lineUp_32 : decode c_No_lineUp 32 = .ok (.invokevirtual 63, 3) := by decide +kernel
theorem d_No_lineUp_35 : decode c_No_lineUp 35 = .ok (.ifCond .eq 7, 3) := by decide +kernel
theorem d_No_lineUp_38 : decode c_No_lineUp 38 = .ok (.iconst 1, 1) := by decide +kernel
theorem d_No_lineUp_39 : decode c_No_lineUp 39 = .ok (.goto 4, 3) := by decide +kernel
theorem d_No_lineUp_42 : decode c_No_lineUp 42 = .ok (.iconst 0, 1) := by decide +kernel
theorem d_No_lineUp_43 : decode c_No_lineUp 43 = .ok (.istore 5, 2) := by decide +kernel
theorem d_No_lineUp_45 : decode c_No_lineUp 45 = .ok (.iload 5, 2) := by decide +kernel
theorem d_No_lineUp_47 : decode c_No_lineUp 47 = .ok (.ifCond .eq 43, 3) := by decide +kernel
theorem d_No_lineUp_50 : decode c_No_lineUp 50 = .ok (.aload_n 0, 1) := by decide +kernel
theorem d_No_lineUp_51 : decode c_No_lineUp 51 = .ok (.iload 4, 2) := by decide +kernel
theorem d_No_lineUp_53 : decode c_No_lineUp 53 = .ok (.invokevirtual 67, 3) := by decide +kernel
theorem d_No_lineUp_56 : decode c_No_lineUp 56 = .ok (.ifCond .eq 34, 3) := by decide +kernel
theorem d_No_lineUp_59 : decode c_No_lineUp 59 = .ok (.aload_n 0, 1) := by decide +kernel
theorem d_No_lineUp_60 : decode c_No_lineUp 60 = .ok (.getfield 46, 3) := by decide +kernel
theorem d_No_lineUp_63 : decode c_No_lineUp 63 = .ok (.iload 4, 2) := by decide +kernel
theorem d_No_lineUp_65 : decode c_No_lineUp 65 = .ok (.laload, 1) := by decide +kernel
theorem d_No_lineUp_66 : decode c_No_lineUp 66 = .ok (.invokestatic 70, 3) := by decide +kernel
theorem d_No_lineUp_69 : decode c_No_lineUp 69 = .ok (.iload_n 3, 1) := by decide +kernel
theorem d_No_lineUp_70 : decode c_No_lineUp 70 = .ok (.if_icmp .ne 20, 3) := by decide +kernel
theorem d_No_lineUp_73 : decode c_No_lineUp 73 = .ok (.iload_n 2, 1) := by decide +kernel
theorem d_No_lineUp_74 : decode c_No_lineUp 74 = .ok (.bipush 20, 2) := by decide +kernel
theorem d_No_lineUp_76 : decode c_No_lineUp 76 = .ok (.if_icmp .ge 14, 3) := by decide +kernel
theorem d_No_lineUp_79 : decode c_No_lineUp 79 = .ok (.aload_n 0, 1) := by decide +kernel
theorem d_No_lineUp_80 : decode c_No_lineUp 80 = .ok (.getfield 52, 3) := by decide +kernel
theorem d_No_lineUp_83 : decode c_No_lineUp 83 = .ok (.iload_n 2, 1) := by decide +kernel
theorem d_No_lineUp_84 : decode c_No_lineUp 84 = .ok (.iload 4, 2) := by decide +kernel
theorem d_No_lineUp_86 : decode c_No_lineUp 86 = .ok (.iastore, 1) := by decide +kernel
theorem d_No_lineUp_87 : decode c_No_lineUp 87 = .ok (.iinc 2 1, 3) := by decide +kernel
theorem d_No_lineUp_90 : decode c_No_lineUp 90 = .ok (.iinc 4 1, 3) := by decide +kernel
theorem d_No_lineUp_93 : decode c_No_lineUp 93 = .ok (.goto (-80), 3) := by decide +kernel
theorem d_No_lineUp_96 : decode c_No_lineUp 96 = .ok (.iinc 3 1, 3) := by decide +kernel
theorem d_No_lineUp_99 : decode c_No_lineUp 99 = .ok (.goto (-95), 3) := by decide +kernel
theorem d_No_lineUp_102 : decode c_No_lineUp 102 = .ok (.iload_n 2, 1) := by decide +kernel
theorem d_No_lineUp_103 : decode c_No_lineUp 103 = .ok (.ireturn, 1) := by decide +kernel
theorem d_Tr_init_0 : decode c_Tr_init 0 = .ok (.aload_n 0, 1) := by decide +kernel
theorem d_Tr_init_1 : decode c_Tr_init 1 = .ok (.invokespecial 3, 3) := by decide +kernel
theorem d_Tr_init_4 : decode c_Tr_init 4 = .ok (.aload_n 0, 1) := by decide +kernel
theorem d_Tr_init_5 : decode c_Tr_init 5 = .ok (.bipush 33, 2) := by decide +kernel
theorem d_Tr_init_7 : decode c_Tr_init 7 = .ok (.bipush 64, 2) := by decide +kernel
theorem d_Tr_init_9 : decode c_Tr_init 9 = .ok (.multianewarray 9 2, 4) := by decide +kernel
theorem d_Tr_init_13 : decode c_Tr_init 13 = .ok (.putfield 11, 3) := by decide +kernel
theorem d_Tr_init_16 : decode c_Tr_init 16 = .ok (.aload_n 0, 1) := by decide +kernel
theorem d_Tr_init_17 : decode c_Tr_init 17 = .ok (.aload_n 1, 1) := by decide +kernel
theorem d_Tr_init_18 : decode c_Tr_init 18 = .ok (.putfield 16, 3) := by decide +kernel
theorem d_Tr_init_21 : decode c_Tr_init 21 = .ok (.return_, 1) := by decide +kernel
theorem d_Tr_fillEvent_0 : decode c_Tr_fillEvent 0 = .ok (.aload_n 0, 1) := by decide +kernel
theorem d_Tr_fillEvent_1 : decode c_Tr_fillEvent 1 = .ok (.getfield 16, 3) := by decide +kernel
theorem d_Tr_fillEvent_4 : decode c_Tr_fillEvent 4 = .ok (.getfield 20, 3) := by decide +kernel
theorem d_Tr_fillEvent_7 : decode c_Tr_fillEvent 7 = .ok (.iload_n 1, 1) := by decide +kernel
theorem d_Tr_fillEvent_8 : decode c_Tr_fillEvent 8 = .ok (.iaload, 1) := by decide +kernel
theorem d_Tr_fillEvent_9 : decode c_Tr_fillEvent 9 = .ok (.istore_n 2, 1) := by decide +kernel
theorem d_Tr_fillEvent_10 : decode c_Tr_fillEvent 10 = .ok (.iconst 0, 1) := by decide +kernel
theorem d_Tr_fillEvent_11 : decode c_Tr_fillEvent 11 = .ok (.istore_n 3, 1) := by decide +kernel
theorem d_Tr_fillEvent_12 : decode c_Tr_fillEvent 12 = .ok (.iload_n 3, 1) := by decide +kernel
theorem d_Tr_fillEvent_13 : decode c_Tr_fillEvent 13 = .ok (.bipush 64, 2) := by decide +kernel
theorem d_Tr_fillEvent_15 : decode c_Tr_fillEvent 15 = .ok (.if_icmp .ge 22, 3) := by decide +kernel
theorem d_Tr_fillEvent_18 : decode c_Tr_fillEvent 18 = .ok (.aload_n 0, 1) := by decide +kernel
theorem d_Tr_fillEvent_19 : decode c_Tr_fillEvent 19 = .ok (.getfield 11, 3) := by decide +kernel
theorem d_Tr_fillEvent_22 : decode c_Tr_fillEvent 22 = .ok (.iload_n 1, 1) := by decide +kernel
theorem d_Tr_fillEvent_23 : decode c_Tr_fillEvent 23 = .ok (.aaload, 1) := by decide +kernel
theorem d_Tr_fillEvent_24 : decode c_Tr_fillEvent 24 = .ok (.iload_n 3, 1) := by decide +kernel
theorem d_Tr_fillEvent_25 : decode c_Tr_fillEvent 25 = .ok (.iload_n 2, 1) := by decide +kernel
theorem d_Tr_fillEvent_26 : decode c_Tr_fillEvent 26 = .ok (.iload_n 3, 1) := by decide +kernel
theorem d_Tr_fillEvent_27 : decode c_Tr_fillEvent 27 = .ok (.invokestatic 26, 3) := by decide +kernel
theorem d_Tr_fillEvent_30 : decode c_Tr_fillEvent 30 = .ok (.lastore, 1) := by decide +kernel
theorem d_Tr_fillEvent_31 : decode c_Tr_fillEvent 31 = .ok (.iinc 3 1, 3) := by decide +kernel
theorem d_Tr_fillEvent_34 : decode c_Tr_fillEvent 34 = .ok (.goto (-22), 3) := by decide +kernel
theorem d_Tr_fillEvent_37 : decode c_Tr_fillEvent 37 = .ok (.return_, 1) := by decide +kernel
theorem d_Tr_eventWord_0 : decode c_Tr_eventWord 0 = .ok (.iconst 0, 1) := by decide +kernel
theorem d_Tr_eventWord_1 : decode c_Tr_eventWord 1 = .ok (.istore_n 2, 1) := by decide +kernel
theorem d_Tr_eventWord_2 : decode c_Tr_eventWord 2 = .ok (.iload_n 2, 1) := by decide +kernel
theorem d_Tr_eventWord_3 : decode c_Tr_eventWord 3 = .ok (.bipush 6, 2) := by decide +kernel
theorem d_Tr_eventWord_5 : decode c_Tr_eventWord 5 = .ok (.if_icmp .ge 22, 3) := by decide +kernel
theorem d_Tr_eventWord_8 : decode c_Tr_eventWord 8 = .ok (.iload_n 0, 1) := by decide +kernel
theorem d_Tr_eventWord_9 : decode c_Tr_eventWord 9 = .ok (.iconst 1, 1) := by decide +kernel
theorem d_Tr_eventWord_10 : decode c_Tr_eventWord 10 = .ok (.iload_n 2, 1) := by decide +kernel
theorem d_Tr_eventWord_11 : decode c_Tr_eventWord 11 = .ok (.ishl, 1) := by decide +kernel
theorem d_Tr_eventWord_12 : decode c_Tr_eventWord 12 = .ok (.if_icmp .ne 9, 3) := by decide +kernel
theorem d_Tr_eventWord_15 : decode c_Tr_eventWord 15 = .ok (.getstatic 30, 3) := by decide +kernel
theorem d_Tr_eventWord_18 : decode c_Tr_eventWord 18 = .ok (.iload_n 2, 1) := by decide +kernel
theorem d_Tr_eventWord_19 : decode c_Tr_eventWord 19 = .ok (.laload, 1) := by decide +kernel
theorem d_Tr_eventWord_20 : decode c_Tr_eventWord 20 = .ok (.lreturn, 1) := by decide +kernel
theorem d_Tr_eventWord_21 : decode c_Tr_eventWord 21 = .ok (.iinc 2 1, 3) := by decide +kernel
theorem d_Tr_eventWord_24 : decode c_Tr_eventWord 24 = .ok (.goto (-22), 3) := by decide +kernel
theorem d_Tr_eventWord_27 : decode c_Tr_eventWord 27 = .ok (.iload_n 1, 1) := by decide +kernel
theorem d_Tr_eventWord_28 : decode c_Tr_eventWord 28 = .ok (.iload_n 0, 1) := by decide +kernel
theorem d_Tr_eventWord_29 : decode c_Tr_eventWord 29 = .ok (.bipush 6, 2) := by decide +kernel
theorem d_Tr_eventWord_31 : decode c_Tr_eventWord 31 = .ok (.ishr, 1) := by decide +kernel
theorem d_Tr_eventWord_32 : decode c_Tr_eventWord 32 = .ok (.iand, 1) := by decide +kernel
theorem d_Tr_eventWord_33 : decode c_Tr_eventWord 33 = .ok (.ifCond .eq 9, 3) := by decide +kernel
theorem d_Tr_eventWord_36 : decode c_Tr_eventWord 36 = .ok (.ldc2_w 34, 3) := by decide +kernel
theorem d_Tr_eventWord_39 : decode c_Tr_eventWord 39 = .ok (.goto 4, 3) := by decide +kernel
theorem d_Tr_eventWord_42 : decode c_Tr_eventWord 42 = .ok (.lconst 0, 1) := by decide +kernel
theorem d_Tr_eventWord_43 : decode c_Tr_eventWord 43 = .ok (.lreturn, 1) := by decide +kernel
theorem d_Tr_fillGates_0 : decode c_Tr_fillGates 0 = .ok (.aload_n 0, 1) := by decide +kernel
theorem d_Tr_fillGates_1 : decode c_Tr_fillGates 1 = .ok (.getfield 16, 3) := by decide +kernel
theorem d_Tr_fillGates_4 : decode c_Tr_fillGates 4 = .ok (.getfield 20, 3) := by decide +kernel
theorem d_Tr_fillGates_7 : decode c_Tr_fillGates 7 = .ok (.iload_n 1, 1) := by decide +kernel
theorem d_Tr_fillGates_8 : decode c_Tr_fillGates 8 = .ok (.iaload, 1) := by decide +kernel
theorem d_Tr_fillGates_9 : decode c_Tr_fillGates 9 = .ok (.bipush 6, 2) := by decide +kernel
theorem d_Tr_fillGates_11 : decode c_Tr_fillGates 11 = .ok (.ishr, 1) := by decide +kernel
theorem d_Tr_fillGates_12 : decode c_Tr_fillGates 12 = .ok (.istore_n 2, 1) := by decide +kernel
theorem d_Tr_fillGates_13 : decode c_Tr_fillGates 13 = .ok (.aload_n 0, 1) := by decide +kernel
theorem d_Tr_fillGates_14 : decode c_Tr_fillGates 14 = .ok (.getfield 16, 3) := by decide +kernel
theorem d_Tr_fillGates_17 : decode c_Tr_fillGates 17 = .ok (.iload_n 1, 1) := by decide +kernel
theorem d_Tr_fillGates_18 : decode c_Tr_fillGates 18 = .ok (.invokevirtual 36, 3) := by decide +kernel
theorem d_Tr_fillGates_21 : decode c_Tr_fillGates 21 = .ok (.istore_n 3, 1) := by decide +kernel
theorem d_Tr_fillGates_22 : decode c_Tr_fillGates 22 = .ok (.iconst 0, 1) := by decide +kernel
theorem d_Tr_fillGates_23 : decode c_Tr_fillGates 23 = .ok (.istore 4, 2) := by decide +kernel
theorem d_Tr_fillGates_25 : decode c_Tr_fillGates 25 = .ok (.iload 4, 2) := by decide +kernel
theorem d_Tr_fillGates_27 : decode c_Tr_fillGates 27 = .ok (.iload_n 3, 1) := by decide +kernel
theorem d_Tr_fillGates_28 : decode c_Tr_fillGates 28 = .ok (.if_icmp .ge 24, 3) := by decide +kernel
theorem d_Tr_fillGates_31 : decode c_Tr_fillGates 31 = .ok (.aload_n 0, 1) := by decide +kernel
theorem d_Tr_fillGates_32 : decode c_Tr_fillGates 32 = .ok (.aload_n 0, 1) := by decide +kernel
theorem d_Tr_fillGates_33 : decode c_Tr_fillGates 33 = .ok (.getfield 16, 3) := by decide +kernel
theorem d_Tr_fillGates_36 : decode c_Tr_fillGates 36 = .ok (.getfield 40, 3) := by decide +kernel
theorem d_Tr_fillGates_39 : decode c_Tr_fillGates 39 = .ok (.iload 4, 2) := by decide +kernel
theorem d_Tr_fillGates_41 : decode c_Tr_fillGates 41 = .ok (.iaload, 1) := by decide +kernel
theorem d_Tr_fillGates_42 : decode c_Tr_fillGates 42 = .ok (.iload_n 2, 1) := by decide +kernel
theorem d_Tr_fillGates_43 : decode c_Tr_fillGates 43 = .ok (.invokevirtual 43, 3) := by decide +kernel
theorem d_Tr_fillGates_46 : decode c_Tr_fillGates 46 = .ok (.iinc 4 1, 3) := by decide +kernel
theorem d_Tr_fillGates_49 : decode c_Tr_fillGates 49 = .ok (.goto (-24), 3) := by decide +kernel
theorem d_Tr_fillGates_52 : decode c_Tr_fillGates 52 = .ok (.return_, 1) := by decide +kernel
theorem d_Tr_fillGate_0 : decode c_Tr_fillGate 0 = .ok (.iconst 0, 1) := by decide +kernel
theorem d_Tr_fillGate_1 : decode c_Tr_fillGate 1 = .ok (.istore_n 3, 1) := by decide +kernel
theorem d_Tr_fillGate_2 : decode c_Tr_fillGate 2 = .ok (.iload_n 3, 1) := by decide +kernel
theorem d_Tr_fillGate_3 : decode c_Tr_fillGate 3 = .ok (.bipush 64, 2) := by decide +kernel
theorem d_Tr_fillGate_5 : decode c_Tr_fillGate 5 = .ok (.if_icmp .ge 30, 3) := by decide +kernel
theorem d_Tr_fillGate_8 : decode c_Tr_fillGate 8 = .ok (.iload_n 3, 1) := by decide +kernel
theorem d_Tr_fillGate_9 : decode c_Tr_fillGate 9 = .ok (.iload_n 2, 1) := by decide +kernel
theorem d_Tr_fillGate_10 : decode c_Tr_fillGate 10 = .ok (.iand, 1) := by decide +kernel
theorem d_Tr_fillGate_11 : decode c_Tr_fillGate 11 = .ok (.iload_n 3, 1) := by decide +kernel
theorem d_Tr_fillGate_12 : decode c_Tr_fillGate 12 = .ok (.if_icmp .ne 17, 3) := by decide +kernel
theorem d_Tr_fillGate_15 : decode c_Tr_fillGate 15 = .ok (.aload_n 0, 1) := by decide +kernel
theorem d_Tr_fillGate_16 : decode c_Tr_fillGate 16 = .ok (.getfield 11, 3) := by decide +kernel
theorem d_Tr_fillGate_19 : decode c_Tr_fillGate 19 = .ok (.iload_n 1, 1) := by decide +kernel
theorem d_Tr_fillGate_20 : decode c_Tr_fillGate 20 = .ok (.aaload, 1) := by decide +kernel
theorem d_Tr_fillGate_21 : decode c_Tr_fillGate 21 = .ok (.iload_n 3, 1) := by decide +kernel
theorem d_Tr_fillGate_22 : decode c_Tr_fillGate 22 = .ok (.aload_n 0, 1) := by decide +kernel
theorem d_Tr_fillGate_23 : decode c_Tr_fillGate 23 = .ok (.iload_n 1, 1) := by decide +kernel
theorem d_Tr_fillGate_24 : decode c_Tr_fillGate 24 = .ok (.iload_n 3, 1) := by decide +kernel
theorem d_Tr_fillGate_25 : decode c_Tr_fillGate 25 = .ok (.invokevirtual 47, 3) := by decide +kernel
theorem d_Tr_fillGate_28 : decode c_Tr_fillGate 28 = .ok (.lastore, 1) := by decide +kernel
theorem d_Tr_fillGate_29 : decode c_Tr_fillGate 29 = .ok (.iinc 3 1, 3) := by decide +kernel
theorem d_Tr_fillGate_32 : decode c_Tr_fillGate 32 = .ok (.goto (-30), 3) := by decide +kernel
theorem d_Tr_fillGate_35 : decode c_Tr_fillGate 35 = .ok (.return_, 1) := by decide +kernel
theorem d_Tr_gateWord_0 : decode c_Tr_gateWord 0 = .ok (.aload_n 0, 1) := by decide +kernel
theorem d_Tr_gateWord_1 : decode c_Tr_gateWord 1 = .ok (.getfield 16, 3) := by decide +kernel
theorem d_Tr_gateWord_4 : decode c_Tr_gateWord 4 = .ok (.getfield 50, 3) := by decide +kernel
theorem d_Tr_gateWord_7 : decode c_Tr_gateWord 7 = .ok (.iload_n 1, 1) := by decide +kernel
theorem d_Tr_gateWord_8 : decode c_Tr_gateWord 8 = .ok (.iaload, 1) := by decide +kernel
theorem d_Tr_gateWord_9 : decode c_Tr_gateWord 9 = .ok (.lookupswitch 41 #[(0, 27), (1, 34)], 27) := by decide +kernel
theorem d_Tr_gateWord_36 : decode c_Tr_gateWord 36 = .ok (.aload_n 0, 1) := by decide +kernel
theorem d_Tr_gateWord_37 : decode c_Tr_gateWord 37 = .ok (.iload_n 1, 1) := by decide +kernel
theorem d_Tr_gateWord_38 : decode c_Tr_gateWord 38 = .ok (.iload_n 2, 1) := by decide +kernel
theorem d_Tr_gateWord_39 : decode c_Tr_gateWord 39 = .ok (.invokevirtual 53, 3) := by decide +kernel
theorem d_Tr_gateWord_42 : decode c_Tr_gateWord 42 = .ok (.lreturn, 1) := by decide +kernel
theorem d_Tr_gateWord_43 : decode c_Tr_gateWord 43 = .ok (.aload_n 0, 1) := by decide +kernel
theorem d_Tr_gateWord_44 : decode c_Tr_gateWord 44 = .ok (.iload_n 1, 1) := by decide +kernel
theorem d_Tr_gateWord_45 : decode c_Tr_gateWord 45 = .ok (.iload_n 2, 1) := by decide +kernel
theorem d_Tr_gateWord_46 : decode c_Tr_gateWord 46 = .ok (.invokevirtual 56, 3) := by decide +kernel
theorem d_Tr_gateWord_49 : decode c_Tr_gateWord 49 = .ok (.lreturn, 1) := by decide +kernel
theorem d_Tr_gateWord_50 : decode c_Tr_gateWord 50 = .ok (.aload_n 0, 1) := by decide +kernel
theorem d_Tr_gateWord_51 : decode c_Tr_gateWord 51 = .ok (.iload_n 1, 1) := by decide +kernel
theorem d_Tr_gateWord_52 : decode c_Tr_gateWord 52 = .ok (.iload_n 2, 1) := by decide +kernel
theorem d_Tr_gateWord_53 : decode c_Tr_gateWord 53 = .ok (.invokevirtual 59, 3) := by decide +kernel
theorem d_Tr_gateWord_56 : decode c_Tr_gateWord 56 = .ok (.lreturn, 1) := by decide +kernel
theorem d_Tr_allOf_0 : decode c_Tr_allOf 0 = .ok (.ldc2_w 34, 3) := by decide +kernel
theorem d_Tr_allOf_3 : decode c_Tr_allOf 3 = .ok (.lstore_n 3, 1) := by decide +kernel
theorem d_Tr_allOf_4 : decode c_Tr_allOf 4 = .ok (.iconst 0, 1) := by decide +kernel
theorem d_Tr_allOf_5 : decode c_Tr_allOf 5 = .ok (.istore 5, 2) := by decide +kernel
theorem d_Tr_allOf_7 : decode c_Tr_allOf 7 = .ok (.iload 5, 2) := by decide +kernel
theorem d_Tr_allOf_9 : decode c_Tr_allOf 9 = .ok (.aload_n 0, 1) := by decide +kernel
theorem d_Tr_allOf_10 : decode c_Tr_allOf 10 = .ok (.getfield 16, 3) := by decide +kernel
theorem d_Tr_allOf_13 : decode c_Tr_allOf 13 = .ok (.getfield 62, 3) := by decide +kernel
theorem d_Tr_allOf_16 : decode c_Tr_allOf 16 = .ok (.iload_n 1, 1) := by decide +kernel
theorem d_Tr_allOf_17 : decode c_Tr_allOf 17 = .ok (.iaload, 1) := by decide +kernel
theorem d_Tr_allOf_18 : decode c_Tr_allOf 18 = .ok (.if_icmp .ge 31, 3) := by decide +kernel
theorem d_Tr_allOf_21 : decode c_Tr_allOf 21 = .ok (.lload_n 3, 1) := by decide +kernel
theorem d_Tr_allOf_22 : decode c_Tr_allOf 22 = .ok (.aload_n 0, 1) := by decide +kernel
theorem d_Tr_allOf_23 : decode c_Tr_allOf 23 = .ok (.getfield 11, 3) := by decide +kernel
theorem d_Tr_allOf_26 : decode c_Tr_allOf 26 = .ok (.aload_n 0, 1) := by decide +kernel
theorem d_Tr_allOf_27 : decode c_Tr_allOf 27 = .ok (.getfield 16, 3) := by decide +kernel
theorem d_Tr_allOf_30 : decode c_Tr_allOf 30 = .ok (.getfield 65, 3) := by decide +kernel
theorem d_Tr_allOf_33 : decode c_Tr_allOf 33 = .ok (.iload_n 1, 1) := by decide +kernel
theorem d_Tr_allOf_34 : decode c_Tr_allOf 34 = .ok (.aaload, 1) := by decide +kernel
theorem d_Tr_allOf_35 : decode c_Tr_allOf 35 = .ok (.iload 5, 2) := by decide +kernel
theorem d_Tr_allOf_37 : decode c_Tr_allOf 37 = .ok (.iaload, 1) := by decide +kernel
theorem d_Tr_allOf_38 : decode c_Tr_allOf 38 = .ok (.aaload, 1) := by decide +kernel
theorem d_Tr_allOf_39 : decode c_Tr_allOf 39 = .ok (.iload_n 2, 1) := by decide +kernel
theorem d_Tr_allOf_40 : decode c_Tr_allOf 40 = .ok (.laload, 1) := by decide +kernel
theorem d_Tr_allOf_41 : decode c_Tr_allOf 41 = .ok (.land, 1) := by decide +kernel
theorem d_Tr_allOf_42 : decode c_Tr_allOf 42 = .ok (.lstore_n 3, 1) := by decide +kernel
theorem d_Tr_allOf_43 : decode c_Tr_allOf 43 = .ok (.iinc 5 1, 3) := by decide +kernel
theorem d_Tr_allOf_46 : decode c_Tr_allOf 46 = .ok (.goto (-39), 3) := by decide +kernel
theorem d_Tr_allOf_49 : decode c_Tr_allOf 49 = .ok (.lload_n 3, 1) := by decide +kernel
theorem d_Tr_allOf_50 : decode c_Tr_allOf 50 = .ok (.lreturn, 1) := by decide +kernel
theorem d_Tr_anyOf_0 : decode c_Tr_anyOf 0 = .ok (.lconst 0, 1) := by decide +kernel
theorem d_Tr_anyOf_1 : decode c_Tr_anyOf 1 = .ok (.lstore_n 3, 1) := by decide +kernel
theorem d_Tr_anyOf_2 : decode c_Tr_anyOf 2 = .ok (.iconst 0, 1) := by decide +kernel
theorem d_Tr_anyOf_3 : decode c_Tr_anyOf 3 = .ok (.istore 5, 2) := by decide +kernel
theorem d_Tr_anyOf_5 : decode c_Tr_anyOf 5 = .ok (.iload 5, 2) := by decide +kernel
theorem d_Tr_anyOf_7 : decode c_Tr_anyOf 7 = .ok (.aload_n 0, 1) := by decide +kernel
theorem d_Tr_anyOf_8 : decode c_Tr_anyOf 8 = .ok (.getfield 16, 3) := by decide +kernel
theorem d_Tr_anyOf_11 : decode c_Tr_anyOf 11 = .ok (.getfield 62, 3) := by decide +kernel
theorem d_Tr_anyOf_14 : decode c_Tr_anyOf 14 = .ok (.iload_n 1, 1) := by decide +kernel
theorem d_Tr_anyOf_15 : decode c_Tr_anyOf 15 = .ok (.iaload, 1) := by decide +kernel
theorem d_Tr_anyOf_16 : decode c_Tr_anyOf 16 = .ok (.if_icmp .ge 31, 3) := by decide +kernel
theorem d_Tr_anyOf_19 : decode c_Tr_anyOf 19 = .ok (.lload_n 3, 1) := by decide +kernel
theorem d_Tr_anyOf_20 : decode c_Tr_anyOf 20 = .ok (.aload_n 0, 1) := by decide +kernel
theorem d_Tr_anyOf_21 : decode c_Tr_anyOf 21 = .ok (.getfield 11, 3) := by decide +kernel
theorem d_Tr_anyOf_24 : decode c_Tr_anyOf 24 = .ok (.aload_n 0, 1) := by decide +kernel
theorem d_Tr_anyOf_25 : decode c_Tr_anyOf 25 = .ok (.getfield 16, 3) := by decide +kernel
theorem d_Tr_anyOf_28 : decode c_Tr_anyOf 28 = .ok (.getfield 65, 3) := by decide +kernel
theorem d_Tr_anyOf_31 : decode c_Tr_anyOf 31 = .ok (.iload_n 1, 1) := by decide +kernel
theorem d_Tr_anyOf_32 : decode c_Tr_anyOf 32 = .ok (.aaload, 1) := by decide +kernel
theorem d_Tr_anyOf_33 : decode c_Tr_anyOf 33 = .ok (.iload 5, 2) := by decide +kernel
theorem d_Tr_anyOf_35 : decode c_Tr_anyOf 35 = .ok (.iaload, 1) := by decide +kernel
theorem d_Tr_anyOf_36 : decode c_Tr_anyOf 36 = .ok (.aaload, 1) := by decide +kernel
theorem d_Tr_anyOf_37 : decode c_Tr_anyOf 37 = .ok (.iload_n 2, 1) := by decide +kernel
theorem d_Tr_anyOf_38 : decode c_Tr_anyOf 38 = .ok (.laload, 1) := by decide +kernel
theorem d_Tr_anyOf_39 : decode c_Tr_anyOf 39 = .ok (.lor, 1) := by decide +kernel
theorem d_Tr_anyOf_40 : decode c_Tr_anyOf 40 = .ok (.lstore_n 3, 1) := by decide +kernel
theorem d_Tr_anyOf_41 : decode c_Tr_anyOf 41 = .ok (.iinc 5 1, 3) := by decide +kernel
theorem d_Tr_anyOf_44 : decode c_Tr_anyOf 44 = .ok (.goto (-39), 3) := by decide +kernel
theorem d_Tr_anyOf_47 : decode c_Tr_anyOf 47 = .ok (.lload_n 3, 1) := by decide +kernel
theorem d_Tr_anyOf_48 : decode c_Tr_anyOf 48 = .ok (.lreturn, 1) := by decide +kernel
theorem d_Tr_votesOf_0 : decode c_Tr_votesOf 0 = .ok (.lconst 0, 1) := by decide +kernel
theorem d_Tr_votesOf_1 : decode c_Tr_votesOf 1 = .ok (.lstore_n 3, 1) := by decide +kernel
theorem d_Tr_votesOf_2 : decode c_Tr_votesOf 2 = .ok (.lconst 0, 1) := by decide +kernel
theorem d_Tr_votesOf_3 : decode c_Tr_votesOf 3 = .ok (.lstore 5, 2) := by decide +kernel
theorem d_Tr_votesOf_5 : decode c_Tr_votesOf 5 = .ok (.lconst 0, 1) := by decide +kernel
theorem d_Tr_votesOf_6 : decode c_Tr_votesOf 6 = .ok (.lstore 7, 2) := by decide +kernel
theorem d_Tr_votesOf_8 : decode c_Tr_votesOf 8 = .ok (.lconst 0, 1) := by decide +kernel
theorem d_Tr_votesOf_9 : decode c_Tr_votesOf 9 = .ok (.lstore 9, 2) := by decide +kernel
theorem d_Tr_votesOf_11 : decode c_Tr_votesOf 11 = .ok (.iconst 0, 1) := by decide +kernel
theorem d_Tr_votesOf_12 : decode c_Tr_votesOf 12 = .ok (.istore 11, 2) := by decide +kernel
theorem d_Tr_votesOf_14 : decode c_Tr_votesOf 14 = .ok (.iload 11, 2) := by decide +kernel
theorem d_Tr_votesOf_16 : decode c_Tr_votesOf 16 = .ok (.aload_n 0, 1) := by decide +kernel
theorem d_Tr_votesOf_17 : decode c_Tr_votesOf 17 = .ok (.getfield 16, 3) := by decide +kernel
theorem d_Tr_votesOf_20 : decode c_Tr_votesOf 20 = .ok (.getfield 62, 3) := by decide +kernel
theorem d_Tr_votesOf_23 : decode c_Tr_votesOf 23 = .ok (.iload_n 1, 1) := by decide +kernel
theorem d_Tr_votesOf_24 : decode c_Tr_votesOf 24 = .ok (.iaload, 1) := by decide +kernel
theorem d_Tr_votesOf_25 : decode c_Tr_votesOf 25 = .ok (.if_icmp .ge 76, 3) := by decide +kernel
theorem d_Tr_votesOf_28 : decode c_Tr_votesOf 28 = .ok (.aload_n 0, 1) := by decide +kernel
theorem d_Tr_votesOf_29 : decode c_Tr_votesOf 29 = .ok (.getfield 11, 3) := by decide +kernel
theorem d_Tr_votesOf_32 : decode c_Tr_votesOf 32 = .ok (.aload_n 0, 1) := by decide +kernel
theorem d_Tr_votesOf_33 : decode c_Tr_votesOf 33 = .ok (.getfield 16, 3) := by decide +kernel
theorem d_Tr_votesOf_36 : decode c_Tr_votesOf 36 = .ok (.getfield 65, 3) := by decide +kernel
theorem d_Tr_votesOf_39 : decode c_Tr_votesOf 39 = .ok (.iload_n 1, 1) := by decide +kernel
theorem d_Tr_votesOf_40 : decode c_Tr_votesOf 40 = .ok (.aaload, 1) := by decide +kernel
theorem d_Tr_votesOf_41 : decode c_Tr_votesOf 41 = .ok (.iload 11, 2) := by decide +kernel
theorem d_Tr_votesOf_43 : decode c_Tr_votesOf 43 = .ok (.iaload, 1) := by decide +kernel
theorem d_Tr_votesOf_44 : decode c_Tr_votesOf 44 = .ok (.aaload, 1) := by decide +kernel
theorem d_Tr_votesOf_45 : decode c_Tr_votesOf 45 = .ok (.iload_n 2, 1) := by decide +kernel
theorem d_Tr_votesOf_46 : decode c_Tr_votesOf 46 = .ok (.laload, 1) := by decide +kernel
theorem d_Tr_votesOf_47 : decode c_Tr_votesOf 47 = .ok (.lstore 12, 2) := by decide +kernel
theorem d_Tr_votesOf_49 : decode c_Tr_votesOf 49 = .ok (.lload_n 3, 1) := by decide +kernel
theorem d_Tr_votesOf_50 : decode c_Tr_votesOf 50 = .ok (.lload 12, 2) := by decide +kernel
theorem d_Tr_votesOf_52 : decode c_Tr_votesOf 52 = .ok (.land, 1) := by decide +kernel
theorem d_Tr_votesOf_53 : decode c_Tr_votesOf 53 = .ok (.lstore 14, 2) := by decide +kernel
theorem d_Tr_votesOf_55 : decode c_Tr_votesOf 55 = .ok (.lload 5, 2) := by decide +kernel
theorem d_Tr_votesOf_57 : decode c_Tr_votesOf 57 = .ok (.lload 14, 2) := by decide +kernel
theorem d_Tr_votesOf_59 : decode c_Tr_votesOf 59 = .ok (.land, 1) := by decide +kernel
theorem d_Tr_votesOf_60 : decode c_Tr_votesOf 60 = .ok (.lstore 16, 2) := by decide +kernel
theorem d_Tr_votesOf_62 : decode c_Tr_votesOf 62 = .ok (.lload 7, 2) := by decide +kernel
theorem d_Tr_votesOf_64 : decode c_Tr_votesOf 64 = .ok (.lload 16, 2) := by decide +kernel
theorem d_Tr_votesOf_66 : decode c_Tr_votesOf 66 = .ok (.land, 1) := by decide +kernel
theorem d_Tr_votesOf_67 : decode c_Tr_votesOf 67 = .ok (.lstore 18, 2) := by decide +kernel
theorem d_Tr_votesOf_69 : decode c_Tr_votesOf 69 = .ok (.lload_n 3, 1) := by decide +kernel
theorem d_Tr_votesOf_70 : decode c_Tr_votesOf 70 = .ok (.lload 12, 2) := by decide +kernel
theorem d_Tr_votesOf_72 : decode c_Tr_votesOf 72 = .ok (.lxor, 1) := by decide +kernel
theorem d_Tr_votesOf_73 : decode c_Tr_votesOf 73 = .ok (.lstore_n 3, 1) := by decide +kernel
theorem d_Tr_votesOf_74 : decode c_Tr_votesOf 74 = .ok (.lload 5, 2) := by decide +kernel
theorem d_Tr_votesOf_76 : decode c_Tr_votesOf 76 = .ok (.lload 14, 2) := by decide +kernel
theorem d_Tr_votesOf_78 : decode c_Tr_votesOf 78 = .ok (.lxor, 1) := by decide +kernel
theorem d_Tr_votesOf_79 : decode c_Tr_votesOf 79 = .ok (.lstore 5, 2) := by decide +kernel
theorem d_Tr_votesOf_81 : decode c_Tr_votesOf 81 = .ok (.lload 7, 2) := by decide +kernel
theorem d_Tr_votesOf_83 : decode c_Tr_votesOf 83 = .ok (.lload 16, 2) := by decide +kernel
theorem d_Tr_votesOf_85 : decode c_Tr_votesOf 85 = .ok (.lxor, 1) := by decide +kernel
theorem d_Tr_votesOf_86 : decode c_Tr_votesOf 86 = .ok (.lstore 7, 2) := by decide +kernel
theorem d_Tr_votesOf_88 : decode c_Tr_votesOf 88 = .ok (.lload 9, 2) := by decide +kernel
theorem d_Tr_votesOf_90 : decode c_Tr_votesOf 90 = .ok (.lload 18, 2) := by decide +kernel
theorem d_Tr_votesOf_92 : decode c_Tr_votesOf 92 = .ok (.lxor, 1) := by decide +kernel
theorem d_Tr_votesOf_93 : decode c_Tr_votesOf 93 = .ok (.lstore 9, 2) := by decide +kernel
theorem d_Tr_votesOf_95 : decode c_Tr_votesOf 95 = .ok (.iinc 11 1, 3) := by decide +kernel
theorem d_Tr_votesOf_98 : decode c_Tr_votesOf 98 = .ok (.goto (-84), 3) := by decide +kernel
theorem d_Tr_votesOf_101 : decode c_Tr_votesOf 101 = .ok (.aload_n 0, 1) := by decide +kernel
theorem d_Tr_votesOf_102 : decode c_Tr_votesOf 102 = .ok (.getfield 16, 3) := by decide +kernel
theorem d_Tr_votesOf_105 : decode c_Tr_votesOf 105 = .ok (.getfield 69, 3) := by decide +kernel
theorem d_Tr_votesOf_108 : decode c_Tr_votesOf 108 = .ok (.iload_n 1, 1) := by decide +kernel
theorem d_Tr_votesOf_109 : decode c_Tr_votesOf 109 = .ok (.iaload, 1) := by decide +kernel
theorem d_Tr_votesOf_110 : decode c_Tr_votesOf 110 = .ok (.istore 11, 2) := by decide +kernel
theorem d_Tr_votesOf_112 : decode c_Tr_votesOf 112 = .ok (.iload 11, 2) := by decide +kernel
theorem d_Tr_votesOf_114 : decode c_Tr_votesOf 114 = .ok (.lload_n 3, 1) := by decide +kernel
theorem d_Tr_votesOf_115 : decode c_Tr_votesOf 115 = .ok (.ldc2_w 34, 3) := by decide +kernel
theorem d_Tr_votesOf_118 : decode c_Tr_votesOf 118 = .ok (.invokestatic 72, 3) := by decide +kernel
theorem d_Tr_votesOf_121 : decode c_Tr_votesOf 121 = .ok (.lstore 12, 2) := by decide +kernel
theorem d_Tr_votesOf_123 : decode c_Tr_votesOf 123 = .ok (.iload 11, 2) := by decide +kernel
theorem d_Tr_votesOf_125 : decode c_Tr_votesOf 125 = .ok (.iconst 1, 1) := by decide +kernel
theorem d_Tr_votesOf_126 : decode c_Tr_votesOf 126 = .ok (.ishr, 1) := by decide +kernel
theorem d_Tr_votesOf_127 : decode c_Tr_votesOf 127 = .ok (.lload 5, 2) := by decide +kernel
theorem d_Tr_votesOf_129 : decode c_Tr_votesOf 129 = .ok (.lload 12, 2) := by decide +kernel
theorem d_Tr_votesOf_131 : decode c_Tr_votesOf 131 = .ok (.invokestatic 72, 3) := by decide +kernel
theorem d_Tr_votesOf_134 : decode c_Tr_votesOf 134 = .ok (.lstore 12, 2) := by decide +kernel
theorem d_Tr_votesOf_136 : decode c_Tr_votesOf 136 = .ok (.iload 11, 2) := by decide +kernel
theorem d_Tr_votesOf_138 : decode c_Tr_votesOf 138 = .ok (.iconst 2, 1) := by decide +kernel
theorem d_Tr_votesOf_139 : decode c_Tr_votesOf 139 = .ok (.ishr, 1) := by decide +kernel
theorem d_Tr_votesOf_140 : decode c_Tr_votesOf 140 = .ok (.lload 7, 2) := by decide +kernel
theorem d_Tr_votesOf_142 : decode c_Tr_votesOf 142 = .ok (.lload 12, 2) := by decide +kernel
theorem d_Tr_votesOf_144 : decode c_Tr_votesOf 144 = .ok (.invokestatic 72, 3) := by decide +kernel
theorem d_Tr_votesOf_147 : decode c_Tr_votesOf 147 = .ok (.lstore 12, 2) := by decide +kernel
theorem d_Tr_votesOf_149 : decode c_Tr_votesOf 149 = .ok (.iload 11, 2) := by decide +kernel
theorem d_Tr_votesOf_151 : decode c_Tr_votesOf 151 = .ok (.iconst 3, 1) := by decide +kernel
theorem d_Tr_votesOf_152 : decode c_Tr_votesOf 152 = .ok (.ishr, 1) := by decide +kernel
theorem d_Tr_votesOf_153 : decode c_Tr_votesOf 153 = .ok (.lload 9, 2) := by decide +kernel
theorem d_Tr_votesOf_155 : decode c_Tr_votesOf 155 = .ok (.lload 12, 2) := by decide +kernel
theorem d_Tr_votesOf_157 : decode c_Tr_votesOf 157 = .ok (.invokestatic 72, 3) := by decide +kernel
theorem d_Tr_votesOf_160 : decode c_Tr_votesOf 160 = .ok (.lreturn, 1) := by decide +kernel
theorem d_Tr_withDigit_0 : decode c_Tr_withDigit 0 = .ok (.iload_n 0, 1) := by decide +kernel
theorem d_Tr_withDigit_1 : decode c_Tr_withDigit 1 = .ok (.iconst 1, 1) := by decide +kernel
theorem d_Tr_withDigit_2 : decode c_Tr_withDigit 2 = .ok (.iand, 1) := by decide +kernel
theorem d_Tr_withDigit_3 : decode c_Tr_withDigit 3 = .ok (.ifCond .eq 9, 3) := by decide +kernel
theorem d_Tr_withDigit_6 : decode c_Tr_withDigit 6 = .ok (.lload_n 1, 1) := by decide +kernel
theorem d_Tr_withDigit_7 : decode c_Tr_withDigit 7 = .ok (.lload_n 3, 1) := by decide +kernel
theorem d_Tr_withDigit_8 : decode c_Tr_withDigit 8 = .ok (.land, 1) := by decide +kernel
theorem d_Tr_withDigit_9 : decode c_Tr_withDigit 9 = .ok (.goto 6, 3) := by decide +kernel
theorem d_Tr_withDigit_12 : decode c_Tr_withDigit 12 = .ok (.lload_n 1, 1) := by decide +kernel
theorem d_Tr_withDigit_13 : decode c_Tr_withDigit 13 = .ok (.lload_n 3, 1) := by decide +kernel
theorem d_Tr_withDigit_14 : decode c_Tr_withDigit 14 = .ok (.lor, 1) := by decide +kernel
theorem d_Tr_withDigit_15 : decode c_Tr_withDigit 15 = .ok (.lreturn, 1) := by decide +kernel
theorem d_Tr_isTrue_0 : decode c_Tr_isTrue 0 = .ok (.iload_n 2, 1) := by decide +kernel
theorem d_Tr_isTrue_1 : decode c_Tr_isTrue 1 = .ok (.bipush 6, 2) := by decide +kernel
theorem d_Tr_isTrue_3 : decode c_Tr_isTrue 3 = .ok (.ishr, 1) := by decide +kernel
theorem d_Tr_isTrue_4 : decode c_Tr_isTrue 4 = .ok (.bipush 63, 2) := by decide +kernel
theorem d_Tr_isTrue_6 : decode c_Tr_isTrue 6 = .ok (.iand, 1) := by decide +kernel
theorem d_Tr_isTrue_7 : decode c_Tr_isTrue 7 = .ok (.istore_n 3, 1) := by decide +kernel
theorem d_Tr_isTrue_8 : decode c_Tr_isTrue 8 = .ok (.aload_n 0, 1) := by decide +kernel
theorem d_Tr_isTrue_9 : decode c_Tr_isTrue 9 = .ok (.getfield 11, 3) := by decide +kernel
theorem d_Tr_isTrue_12 : decode c_Tr_isTrue 12 = .ok (.iload_n 1, 1) := by decide +kernel
theorem d_Tr_isTrue_13 : decode c_Tr_isTrue 13 = .ok (.aaload, 1) := by decide +kernel
theorem d_Tr_isTrue_14 : decode c_Tr_isTrue 14 = .ok (.iload_n 3, 1) := by decide +kernel
theorem d_Tr_isTrue_15 : decode c_Tr_isTrue 15 = .ok (.laload, 1) := by decide +kernel
theorem d_Tr_isTrue_16 : decode c_Tr_isTrue 16 = .ok (.iload_n 2, 1) := by decide +kernel
theorem d_Tr_isTrue_17 : decode c_Tr_isTrue 17 = .ok (.bipush 63, 2) := by decide +kernel
theorem d_Tr_isTrue_19 : decode c_Tr_isTrue 19 = .ok (.iand, 1) := by decide +kernel
theorem d_Tr_isTrue_20 : decode c_Tr_isTrue 20 = .ok (.lushr, 1) := by decide +kernel
theorem d_Tr_isTrue_21 : decode c_Tr_isTrue 21 = .ok (.lconst 1, 1) := by decide +kernel
theorem d_Tr_isTrue_22 : decode c_Tr_isTrue 22 = .ok (.land, 1) := by decide +kernel
theorem d_Tr_isTrue_23 : decode c_Tr_isTrue 23 = .ok (.lconst 0, 1) := by decide +kernel
theorem d_Tr_isTrue_24 : decode c_Tr_isTrue 24 = .ok (.lcmp, 1) := by decide +kernel
theorem d_Tr_isTrue_25 : decode c_Tr_isTrue 25 = .ok (.ifCond .eq 7, 3) := by decide +kernel
theorem d_Tr_isTrue_28 : decode c_Tr_isTrue 28 = .ok (.iconst 1, 1) := by decide +kernel
theorem d_Tr_isTrue_29 : decode c_Tr_isTrue 29 = .ok (.goto 4, 3) := by decide +kernel
theorem d_Tr_isTrue_32 : decode c_Tr_isTrue 32 = .ok (.iconst 0, 1) := by decide +kernel
theorem d_Tr_isTrue_33 : decode c_Tr_isTrue 33 = .ok (.ireturn, 1) := by decide +kernel
theorem d_Tr_countTrue_0 : decode c_Tr_countTrue 0 = .ok (.iload_n 2, 1) := by decide +kernel
theorem d_Tr_countTrue_1 : decode c_Tr_countTrue 1 = .ok (.invokestatic 76, 3) := by decide +kernel
theorem d_Tr_countTrue_4 : decode c_Tr_countTrue 4 = .ok (.istore_n 3, 1) := by decide +kernel
theorem d_Tr_countTrue_5 : decode c_Tr_countTrue 5 = .ok (.iconst 0, 1) := by decide +kernel
theorem d_Tr_countTrue_6 : decode c_Tr_countTrue 6 = .ok (.istore 4, 2) := by decide +kernel
theorem d_Tr_countTrue_8 : decode c_Tr_countTrue 8 = .ok (.iconst 0, 1) := by decide +kernel
theorem d_Tr_countTrue_9 : decode c_Tr_countTrue 9 = .ok (.istore 5, 2) := by decide +kernel
theorem d_Tr_countTrue_11 : decode c_Tr_countTrue 11 = .ok (.iconst 0, 1) := by decide +kernel
theorem d_Tr_countTrue_12 : decode c_Tr_countTrue 12 = .ok (.istore 6, 2) := by decide +kernel
theorem d_Tr_countTrue_14 : decode c_Tr_countTrue 14 = .ok (.iload 6, 2) := by decide +kernel
theorem d_Tr_countTrue_16 : decode c_Tr_countTrue 16 = .ok (.iload_n 3, 1) := by decide +kernel
theorem d_Tr_countTrue_17 : decode c_Tr_countTrue 17 = .ok (.if_icmp .ge 30, 3) := by decide +kernel
theorem d_Tr_countTrue_20 : decode c_Tr_countTrue 20 = .ok (.aload_n 0, 1) := by decide +kernel
theorem d_Tr_countTrue_21 : decode c_Tr_countTrue 21 = .ok (.iload_n 1, 1) := by decide +kernel
theorem d_Tr_countTrue_22 : decode c_Tr_countTrue 22 = .ok (.iload 4, 2) := by decide +kernel
theorem d_Tr_countTrue_24 : decode c_Tr_countTrue 24 = .ok (.invokevirtual 79, 3) := by decide +kernel
theorem d_Tr_countTrue_27 : decode c_Tr_countTrue 27 = .ok (.ifCond .eq 6, 3) := by decide +kernel
theorem d_Tr_countTrue_30 : decode c_Tr_countTrue 30 = .ok (.iinc 5 1, 3) := by decide +kernel
theorem d_Tr_countTrue_33 : decode c_Tr_countTrue 33 = .ok (.iload 4, 2) := by decide +kernel
theorem d_Tr_countTrue_35 : decode c_Tr_countTrue 35 = .ok (.iload_n 2, 1) := by decide +kernel
theorem d_Tr_countTrue_36 : decode c_Tr_countTrue 36 = .ok (.invokestatic 83, 3) := by decide +kernel
theorem d_Tr_countTrue_39 : decode c_Tr_countTrue 39 = .ok (.istore 4, 2) := by decide +kernel
theorem d_Tr_countTrue_41 : decode c_Tr_countTrue 41 = .ok (.iinc 6 1, 3) := by decide +kernel
theorem d_Tr_countTrue_44 : decode c_Tr_countTrue 44 = .ok (.goto (-30), 3) := by decide +kernel
theorem d_Tr_countTrue_47 : decode c_Tr_countTrue 47 = .ok (.iload 5, 2) := by decide +kernel
theorem d_Tr_countTrue_49 : decode c_Tr_countTrue 49 = .ok (.ireturn, 1) := by decide +kernel
theorem d_Tr_isMinimal_0 : decode c_Tr_isMinimal 0 = .ok (.aload_n 0, 1) := by decide +kernel
theorem d_Tr_isMinimal_1 : decode c_Tr_isMinimal 1 = .ok (.iload_n 1, 1) := by decide +kernel
theorem d_Tr_isMinimal_2 : decode c_Tr_isMinimal 2 = .ok (.iload_n 2, 1) := by decide +kernel
theorem d_Tr_isMinimal_3 : decode c_Tr_isMinimal 3 = .ok (.invokevirtual 79, 3) := by decide +kernel
theorem d_Tr_isMinimal_6 : decode c_Tr_isMinimal 6 = .ok (.ifCond .ne 5, 3) := by decide +kernel
theorem d_Tr_isMinimal_9 : decode c_Tr_isMinimal 9 = .ok (.iconst 0, 1) := by decide +kernel
theorem d_Tr_isMinimal_10 : decode c_Tr_isMinimal 10 = .ok (.ireturn, 1) := by decide +kernel
theorem d_Tr_isMinimal_11 : decode c_Tr_isMinimal 11 = .ok (.iconst 1, 1) := by decide +kernel
theorem d_Tr_isMinimal_12 : decode c_Tr_isMinimal 12 = .ok (.istore_n 3, 1) := by decide +kernel
theorem d_Tr_isMinimal_13 : decode c_Tr_isMinimal 13 = .ok (.iload_n 3, 1) := by decide +kernel
theorem d_Tr_isMinimal_14 : decode c_Tr_isMinimal 14 = .ok (.sipush 4096, 3) := by decide +kernel
theorem d_Tr_isMinimal_17 : decode c_Tr_isMinimal 17 = .ok (.if_icmp .ge 29, 3) := by decide +kernel
theorem d_Tr_isMinimal_20 : decode c_Tr_isMinimal 20 = .ok (.iload_n 2, 1) := by decide +kernel
theorem d_Tr_isMinimal_21 : decode c_Tr_isMinimal 21 = .ok (.iload_n 3, 1) := by decide +kernel
theorem d_Tr_isMinimal_22 : decode c_Tr_isMinimal 22 = .ok (.iand, 1) := by decide +kernel
theorem d_Tr_isMinimal_23 : decode c_Tr_isMinimal 23 = .ok (.ifCond .eq 16, 3) := by decide +kernel
theorem d_Tr_isMinimal_26 : decode c_Tr_isMinimal 26 = .ok (.aload_n 0, 1) := by decide +kernel
theorem d_Tr_isMinimal_27 : decode c_Tr_isMinimal 27 = .ok (.iload_n 1, 1) := by decide +kernel
theorem d_Tr_isMinimal_28 : decode c_Tr_isMinimal 28 = .ok (.iload_n 2, 1) := by decide +kernel
theorem d_Tr_isMinimal_29 : decode c_Tr_isMinimal 29 = .ok (.iload_n 3, 1) := by decide +kernel
theorem d_Tr_isMinimal_30 : decode c_Tr_isMinimal 30 = .ok (.ixor, 1) := by decide +kernel
theorem d_Tr_isMinimal_31 : decode c_Tr_isMinimal 31 = .ok (.invokevirtual 79, 3) := by decide +kernel
theorem d_Tr_isMinimal_34 : decode c_Tr_isMinimal 34 = .ok (.ifCond .eq 5, 3) := by decide +kernel
theorem d_Tr_isMinimal_37 : decode c_Tr_isMinimal 37 = .ok (.iconst 0, 1) := by decide +kernel
theorem d_Tr_isMinimal_38 : decode c_Tr_isMinimal 38 = .ok (.ireturn, 1) := by decide +kernel
theorem d_Tr_isMinimal_39 : decode c_Tr_isMinimal 39 = .ok (.iload_n 3, 1) := by decide +kernel
theorem d_Tr_isMinimal_40 : decode c_Tr_isMinimal 40 = .ok (.iconst 1, 1) := by decide +kernel
theorem d_Tr_isMinimal_41 : decode c_Tr_isMinimal 41 = .ok (.ishl, 1) := by decide +kernel
theorem d_Tr_isMinimal_42 : decode c_Tr_isMinimal 42 = .ok (.istore_n 3, 1) := by decide +kernel
theorem d_Tr_isMinimal_43 : decode c_Tr_isMinimal 43 = .ok (.goto (-30), 3) := by decide +kernel
theorem d_Tr_isMinimal_46 : decode c_Tr_isMinimal 46 = .ok (.iconst 1, 1) := by decide +kernel
theorem d_Tr_isMinimal_47 : decode c_Tr_isMinimal 47 = .ok (.ireturn, 1) := by decide +kernel
