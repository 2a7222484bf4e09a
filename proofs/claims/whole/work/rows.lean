section
-- ===== PART A: goes FIRST, ahead of the names: the tables' words, and 'selects' of the private methods out of them =====
/-- a private method of a class that the tables say can be made, by its rows of tables_1 -/
def lw_okq (q : MethodName × Nat) : Prop := (q.1.cls ≠ "java/lang/invoke/MethodHandle" ∧ q.1.cls ≠ "java/lang/invoke/VarHandle") ∧ Cond.instantiable q.1.cls q.2 ∈ tables_1 ∧ Cond.privateMethod q.1 ∈ tables_1 ∧ Cond.instanceMethod q.1 ∈ tables_1
theorem lw_p0 : lw_okq (⟨"SafetyTrees$Truth", "fillGate", "(II)V"⟩, 2) := ⟨⟨by decide +kernel, by decide +kernel⟩, List.mem_of_getElem? (i := 97) (by decide +kernel), List.mem_of_getElem? (i := 343) (by decide +kernel), List.mem_of_getElem? (i := 344) (by decide +kernel)⟩
theorem lw_p1 : lw_okq (⟨"SafetyTrees$Truth", "gateWord", "(II)J"⟩, 2) := ⟨⟨by decide +kernel, by decide +kernel⟩, List.mem_of_getElem? (i := 97) (by decide +kernel), List.mem_of_getElem? (i := 347) (by decide +kernel), List.mem_of_getElem? (i := 348) (by decide +kernel)⟩
theorem lw_p2 : lw_okq (⟨"SafetyTrees$Truth", "allOf", "(II)J"⟩, 2) := ⟨⟨by decide +kernel, by decide +kernel⟩, List.mem_of_getElem? (i := 97) (by decide +kernel), List.mem_of_getElem? (i := 351) (by decide +kernel), List.mem_of_getElem? (i := 352) (by decide +kernel)⟩
theorem lw_p3 : lw_okq (⟨"SafetyTrees$Truth", "anyOf", "(II)J"⟩, 2) := ⟨⟨by decide +kernel, by decide +kernel⟩, List.mem_of_getElem? (i := 97) (by decide +kernel), List.mem_of_getElem? (i := 355) (by decide +kernel), List.mem_of_getElem? (i := 356) (by decide +kernel)⟩
theorem lw_p4 : lw_okq (⟨"SafetyTrees$Truth", "votesOf", "(II)J"⟩, 2) := ⟨⟨by decide +kernel, by decide +kernel⟩, List.mem_of_getElem? (i := 97) (by decide +kernel), List.mem_of_getElem? (i := 359) (by decide +kernel), List.mem_of_getElem? (i := 360) (by decide +kernel)⟩
theorem lw_p5 : lw_okq (⟨"SafetyTrees$Cuts", "find", "(LSafetyTrees$Truth;II)I"⟩, 3) := ⟨⟨by decide +kernel, by decide +kernel⟩, List.mem_of_getElem? (i := 136) (by decide +kernel), List.mem_of_getElem? (i := 370) (by decide +kernel), List.mem_of_getElem? (i := 371) (by decide +kernel)⟩
theorem lw_p6 : lw_okq (⟨"SafetyTrees$Cuts", "takeOfSize", "(II)V"⟩, 3) := ⟨⟨by decide +kernel, by decide +kernel⟩, List.mem_of_getElem? (i := 136) (by decide +kernel), List.mem_of_getElem? (i := 383) (by decide +kernel), List.mem_of_getElem? (i := 384) (by decide +kernel)⟩
theorem lw_p7 : lw_okq (⟨"SafetyTrees$Odds", "workExactly", "(II)V"⟩, 7) := ⟨⟨by decide +kernel, by decide +kernel⟩, List.mem_of_getElem? (i := 152) (by decide +kernel), List.mem_of_getElem? (i := 415) (by decide +kernel), List.mem_of_getElem? (i := 416) (by decide +kernel)⟩
theorem lw_p8 : lw_okq (⟨"SafetyTrees$Odds", "weighSets", "(II)V"⟩, 7) := ⟨⟨by decide +kernel, by decide +kernel⟩, List.mem_of_getElem? (i := 152) (by decide +kernel), List.mem_of_getElem? (i := 420) (by decide +kernel), List.mem_of_getElem? (i := 421) (by decide +kernel)⟩
theorem lw_p9 : lw_okq (⟨"SafetyTrees$Odds", "mix", "(IIJJ)V"⟩, 7) := ⟨⟨by decide +kernel, by decide +kernel⟩, List.mem_of_getElem? (i := 152) (by decide +kernel), List.mem_of_getElem? (i := 430) (by decide +kernel), List.mem_of_getElem? (i := 431) (by decide +kernel)⟩
theorem lw_p10 : lw_okq (⟨"SafetyTrees$Odds", "workBound", "(I)V"⟩, 7) := ⟨⟨by decide +kernel, by decide +kernel⟩, List.mem_of_getElem? (i := 152) (by decide +kernel), List.mem_of_getElem? (i := 441) (by decide +kernel), List.mem_of_getElem? (i := 442) (by decide +kernel)⟩
theorem lw_p11 : lw_okq (⟨"SafetyTrees$Odds", "eventBound", "(I)J"⟩, 7) := ⟨⟨by decide +kernel, by decide +kernel⟩, List.mem_of_getElem? (i := 152) (by decide +kernel), List.mem_of_getElem? (i := 445) (by decide +kernel), List.mem_of_getElem? (i := 446) (by decide +kernel)⟩
theorem lw_p12 : lw_okq (⟨"SafetyTrees$Odds", "gateBound", "(I)J"⟩, 7) := ⟨⟨by decide +kernel, by decide +kernel⟩, List.mem_of_getElem? (i := 152) (by decide +kernel), List.mem_of_getElem? (i := 457) (by decide +kernel), List.mem_of_getElem? (i := 458) (by decide +kernel)⟩
theorem lw_p13 : lw_okq (⟨"SafetyTrees$Goals", "isGoalOpen", "(I)Z"⟩, 6) := ⟨⟨by decide +kernel, by decide +kernel⟩, List.mem_of_getElem? (i := 195) (by decide +kernel), List.mem_of_getElem? (i := 513) (by decide +kernel), List.mem_of_getElem? (i := 514) (by decide +kernel)⟩
theorem lw_p14 : lw_okq (⟨"SafetyTrees$Goals", "isPartOpen", "(I)Z"⟩, 6) := ⟨⟨by decide +kernel, by decide +kernel⟩, List.mem_of_getElem? (i := 195) (by decide +kernel), List.mem_of_getElem? (i := 517) (by decide +kernel), List.mem_of_getElem? (i := 518) (by decide +kernel)⟩
theorem lw_p15 : lw_okq (⟨"java/lang/Throwable", "fillInStackTrace", "(I)Ljava/lang/Throwable;"⟩, 6) := ⟨⟨by decide +kernel, by decide +kernel⟩, List.mem_of_getElem? (i := 584) (by decide +kernel), List.mem_of_getElem? (i := 582) (by decide +kernel), List.mem_of_getElem? (i := 583) (by decide +kernel)⟩
def lw_privs_1 : List (MethodName × Nat) := [(⟨"SafetyTrees$Truth", "fillGate", "(II)V"⟩, 2), (⟨"SafetyTrees$Truth", "gateWord", "(II)J"⟩, 2), (⟨"SafetyTrees$Truth", "allOf", "(II)J"⟩, 2), (⟨"SafetyTrees$Truth", "anyOf", "(II)J"⟩, 2), (⟨"SafetyTrees$Truth", "votesOf", "(II)J"⟩, 2), (⟨"SafetyTrees$Cuts", "find", "(LSafetyTrees$Truth;II)I"⟩, 3), (⟨"SafetyTrees$Cuts", "takeOfSize", "(II)V"⟩, 3), (⟨"SafetyTrees$Odds", "workExactly", "(II)V"⟩, 7), (⟨"SafetyTrees$Odds", "weighSets", "(II)V"⟩, 7), (⟨"SafetyTrees$Odds", "mix", "(IIJJ)V"⟩, 7), (⟨"SafetyTrees$Odds", "workBound", "(I)V"⟩, 7), (⟨"SafetyTrees$Odds", "eventBound", "(I)J"⟩, 7), (⟨"SafetyTrees$Odds", "gateBound", "(I)J"⟩, 7), (⟨"SafetyTrees$Goals", "isGoalOpen", "(I)Z"⟩, 6), (⟨"SafetyTrees$Goals", "isPartOpen", "(I)Z"⟩, 6), (⟨"java/lang/Throwable", "fillInStackTrace", "(I)Ljava/lang/Throwable;"⟩, 6)]
theorem lw_r1 : ∀ q ∈ lw_privs_1, lw_okq q := List.forall_mem_cons.mpr ⟨lw_p0, List.forall_mem_cons.mpr ⟨lw_p1, List.forall_mem_cons.mpr ⟨lw_p2, List.forall_mem_cons.mpr ⟨lw_p3, List.forall_mem_cons.mpr ⟨lw_p4, List.forall_mem_cons.mpr ⟨lw_p5, List.forall_mem_cons.mpr ⟨lw_p6, List.forall_mem_cons.mpr ⟨lw_p7, List.forall_mem_cons.mpr ⟨lw_p8, List.forall_mem_cons.mpr ⟨lw_p9, List.forall_mem_cons.mpr ⟨lw_p10, List.forall_mem_cons.mpr ⟨lw_p11, List.forall_mem_cons.mpr ⟨lw_p12, List.forall_mem_cons.mpr ⟨lw_p13, List.forall_mem_cons.mpr ⟨lw_p14, List.forall_mem_cons.mpr ⟨lw_p15, fun _ h => absurd h List.not_mem_nil⟩⟩⟩⟩⟩⟩⟩⟩⟩⟩⟩⟩⟩⟩⟩⟩
theorem lw_p16 : lw_okq (⟨"SafetyTreesModel", "isGate", "(I)Z"⟩, 35) := ⟨⟨by decide +kernel, by decide +kernel⟩, List.mem_of_getElem? (i := 616) (by decide +kernel), List.mem_of_getElem? (i := 750) (by decide +kernel), List.mem_of_getElem? (i := 751) (by decide +kernel)⟩
theorem lw_p17 : lw_okq (⟨"SafetyTreesModel", "mark", "(I)V"⟩, 35) := ⟨⟨by decide +kernel, by decide +kernel⟩, List.mem_of_getElem? (i := 616) (by decide +kernel), List.mem_of_getElem? (i := 754) (by decide +kernel), List.mem_of_getElem? (i := 755) (by decide +kernel)⟩
theorem lw_p18 : lw_okq (⟨"SafetyTreesModel", "prepare", "(I)V"⟩, 35) := ⟨⟨by decide +kernel, by decide +kernel⟩, List.mem_of_getElem? (i := 616) (by decide +kernel), List.mem_of_getElem? (i := 762) (by decide +kernel), List.mem_of_getElem? (i := 763) (by decide +kernel)⟩
theorem lw_p19 : lw_okq (⟨"SafetyTreesModel", "isReady", "(I)Z"⟩, 35) := ⟨⟨by decide +kernel, by decide +kernel⟩, List.mem_of_getElem? (i := 616) (by decide +kernel), List.mem_of_getElem? (i := 766) (by decide +kernel), List.mem_of_getElem? (i := 767) (by decide +kernel)⟩
theorem lw_p20 : lw_okq (⟨"SafetyTreesModel", "tryAll", "(I)V"⟩, 35) := ⟨⟨by decide +kernel, by decide +kernel⟩, List.mem_of_getElem? (i := 616) (by decide +kernel), List.mem_of_getElem? (i := 770) (by decide +kernel), List.mem_of_getElem? (i := 771) (by decide +kernel)⟩
theorem lw_p21 : lw_okq (⟨"SafetyTreesModel", "bit", "(I)I"⟩, 35) := ⟨⟨by decide +kernel, by decide +kernel⟩, List.mem_of_getElem? (i := 616) (by decide +kernel), List.mem_of_getElem? (i := 774) (by decide +kernel), List.mem_of_getElem? (i := 775) (by decide +kernel)⟩
theorem lw_p22 : lw_okq (⟨"SafetyTreesModel", "isMinimal", "(I)Z"⟩, 35) := ⟨⟨by decide +kernel, by decide +kernel⟩, List.mem_of_getElem? (i := 616) (by decide +kernel), List.mem_of_getElem? (i := 781) (by decide +kernel), List.mem_of_getElem? (i := 782) (by decide +kernel)⟩
theorem lw_p23 : lw_okq (⟨"SafetyTreesModel", "exactChance", "(II)J"⟩, 35) := ⟨⟨by decide +kernel, by decide +kernel⟩, List.mem_of_getElem? (i := 616) (by decide +kernel), List.mem_of_getElem? (i := 798) (by decide +kernel), List.mem_of_getElem? (i := 799) (by decide +kernel)⟩
theorem lw_p24 : lw_okq (⟨"SafetyTreesModel", "spread", "(IJJ)V"⟩, 35) := ⟨⟨by decide +kernel, by decide +kernel⟩, List.mem_of_getElem? (i := 616) (by decide +kernel), List.mem_of_getElem? (i := 802) (by decide +kernel), List.mem_of_getElem? (i := 803) (by decide +kernel)⟩
theorem lw_p25 : lw_okq (⟨"SafetyTreesModel", "bitsOf", "(I)I"⟩, 35) := ⟨⟨by decide +kernel, by decide +kernel⟩, List.mem_of_getElem? (i := 616) (by decide +kernel), List.mem_of_getElem? (i := 806) (by decide +kernel), List.mem_of_getElem? (i := 807) (by decide +kernel)⟩
theorem lw_p26 : lw_okq (⟨"SafetyTreesModel", "boundChance", "(II)J"⟩, 35) := ⟨⟨by decide +kernel, by decide +kernel⟩, List.mem_of_getElem? (i := 616) (by decide +kernel), List.mem_of_getElem? (i := 816) (by decide +kernel), List.mem_of_getElem? (i := 817) (by decide +kernel)⟩
theorem lw_p27 : lw_okq (⟨"SafetyTreesModel", "boundOfEvent", "(I)I"⟩, 35) := ⟨⟨by decide +kernel, by decide +kernel⟩, List.mem_of_getElem? (i := 616) (by decide +kernel), List.mem_of_getElem? (i := 820) (by decide +kernel), List.mem_of_getElem? (i := 821) (by decide +kernel)⟩
theorem lw_p28 : lw_okq (⟨"SafetyTreesModel", "isEvent", "(I)Z"⟩, 35) := ⟨⟨by decide +kernel, by decide +kernel⟩, List.mem_of_getElem? (i := 616) (by decide +kernel), List.mem_of_getElem? (i := 833) (by decide +kernel), List.mem_of_getElem? (i := 834) (by decide +kernel)⟩
theorem lw_p29 : lw_okq (⟨"SafetyTreesModel", "rowsOf", "(IIZ)I"⟩, 35) := ⟨⟨by decide +kernel, by decide +kernel⟩, List.mem_of_getElem? (i := 616) (by decide +kernel), List.mem_of_getElem? (i := 856) (by decide +kernel), List.mem_of_getElem? (i := 857) (by decide +kernel)⟩
def lw_privs_2 : List (MethodName × Nat) := [(⟨"SafetyTreesModel", "isGate", "(I)Z"⟩, 35), (⟨"SafetyTreesModel", "mark", "(I)V"⟩, 35), (⟨"SafetyTreesModel", "prepare", "(I)V"⟩, 35), (⟨"SafetyTreesModel", "isReady", "(I)Z"⟩, 35), (⟨"SafetyTreesModel", "tryAll", "(I)V"⟩, 35), (⟨"SafetyTreesModel", "bit", "(I)I"⟩, 35), (⟨"SafetyTreesModel", "isMinimal", "(I)Z"⟩, 35), (⟨"SafetyTreesModel", "exactChance", "(II)J"⟩, 35), (⟨"SafetyTreesModel", "spread", "(IJJ)V"⟩, 35), (⟨"SafetyTreesModel", "bitsOf", "(I)I"⟩, 35), (⟨"SafetyTreesModel", "boundChance", "(II)J"⟩, 35), (⟨"SafetyTreesModel", "boundOfEvent", "(I)I"⟩, 35), (⟨"SafetyTreesModel", "isEvent", "(I)Z"⟩, 35), (⟨"SafetyTreesModel", "rowsOf", "(IIZ)I"⟩, 35)]
theorem lw_r2 : ∀ q ∈ lw_privs_2, lw_okq q := List.forall_mem_cons.mpr ⟨lw_p16, List.forall_mem_cons.mpr ⟨lw_p17, List.forall_mem_cons.mpr ⟨lw_p18, List.forall_mem_cons.mpr ⟨lw_p19, List.forall_mem_cons.mpr ⟨lw_p20, List.forall_mem_cons.mpr ⟨lw_p21, List.forall_mem_cons.mpr ⟨lw_p22, List.forall_mem_cons.mpr ⟨lw_p23, List.forall_mem_cons.mpr ⟨lw_p24, List.forall_mem_cons.mpr ⟨lw_p25, List.forall_mem_cons.mpr ⟨lw_p26, List.forall_mem_cons.mpr ⟨lw_p27, List.forall_mem_cons.mpr ⟨lw_p28, List.forall_mem_cons.mpr ⟨lw_p29, fun _ h => absurd h List.not_mem_nil⟩⟩⟩⟩⟩⟩⟩⟩⟩⟩⟩⟩⟩⟩
def lw_privs : List (MethodName × Nat) := lw_privs_1 ++ (lw_privs_2)
def lw_tbl : List Cond := k2_sels lw_privs ++ tables_1
theorem lw_privs_ok : ∀ q ∈ lw_privs, lw_okq q := by
  show ∀ q ∈ lw_privs_1 ++ (lw_privs_2), lw_okq q
  exact List.forall_mem_append.mpr ⟨lw_r1, lw_r2⟩
end
section
def R_ST : String := "SafetyTrees"
abbrev c_ST_init : ByteArray := prog_1_method_1_code
def y_ST_init : MethodName := ⟨R_ST, "<init>", "()V"⟩
abbrev c_ST_event : ByteArray := prog_1_method_2_code
def y_ST_event : MethodName := ⟨R_ST, "event", "(JJ)I"⟩
abbrev c_ST_gate : ByteArray := prog_1_method_3_code
def y_ST_gate : MethodName := ⟨R_ST, "gate", "(II)I"⟩
abbrev c_ST_below : ByteArray := prog_1_method_4_code
def y_ST_below : MethodName := ⟨R_ST, "below", "(II)I"⟩
abbrev c_ST_cuts : ByteArray := prog_1_method_5_code
def y_ST_cuts : MethodName := ⟨R_ST, "cuts", "(IJ)I"⟩
abbrev c_ST_cut : ByteArray := prog_1_method_6_code
def y_ST_cut : MethodName := ⟨R_ST, "cut", "(II)I"⟩
abbrev c_ST_chance : ByteArray := prog_1_method_7_code
def y_ST_chance : MethodName := ⟨R_ST, "chance", "(II)J"⟩
abbrev c_ST_exact : ByteArray := prog_1_method_8_code
def y_ST_exact : MethodName := ⟨R_ST, "exact", "()Z"⟩
abbrev c_ST_common : ByteArray := prog_1_method_9_code
def y_ST_common : MethodName := ⟨R_ST, "common", "(IIJJ)I"⟩
abbrev c_ST_grade : ByteArray := prog_1_method_10_code
def y_ST_grade : MethodName := ⟨R_ST, "grade", "(III)I"⟩
abbrev c_ST_goal : ByteArray := prog_1_method_11_code
def y_ST_goal : MethodName := ⟨R_ST, "goal", "(I)I"⟩
abbrev c_ST_trace : ByteArray := prog_1_method_12_code
def y_ST_trace : MethodName := ⟨R_ST, "trace", "(III)I"⟩
abbrev c_ST_open : ByteArray := prog_1_method_13_code
def y_ST_open : MethodName := ⟨R_ST, "open", "(I)I"⟩
abbrev c_ST_cover : ByteArray := prog_1_method_14_code
def y_ST_cover : MethodName := ⟨R_ST, "cover", "(II)J"⟩
abbrev c_ST_plain : ByteArray := prog_1_method_15_code
def y_ST_plain : MethodName := ⟨R_ST, "plain", "(I)I"⟩
abbrev c_ST_isWithin : ByteArray := prog_1_method_16_code
def y_ST_isWithin : MethodName := ⟨R_ST, "isWithin", "(III)Z"⟩
abbrev c_ST_isDown : ByteArray := prog_1_method_17_code
def y_ST_isDown : MethodName := ⟨R_ST, "isDown", "(J)Z"⟩
abbrev c_ST_isKind : ByteArray := prog_1_method_18_code
def y_ST_isKind : MethodName := ⟨R_ST, "isKind", "(II)Z"⟩
abbrev c_ST_countOfSets : ByteArray := prog_1_method_19_code
def y_ST_countOfSets : MethodName := ⟨R_ST, "countOfSets", "(I)I"⟩
abbrev c_ST_nextSet : ByteArray := prog_1_method_20_code
def y_ST_nextSet : MethodName := ⟨R_ST, "nextSet", "(II)I"⟩
def R_No : String := "SafetyTrees$Nodes"
abbrev c_No_init : ByteArray := prog_6_method_1_code
def y_No_init : MethodName := ⟨R_No, "<init>", "()V"⟩
abbrev c_No_isNode : ByteArray := prog_6_method_2_code
def y_No_isNode : MethodName := ⟨R_No, "isNode", "(I)Z"⟩
abbrev c_No_isEvent : ByteArray := prog_6_method_3_code
def y_No_isEvent : MethodName := ⟨R_No, "isEvent", "(I)Z"⟩
abbrev c_No_isGate : ByteArray := prog_6_method_4_code
def y_No_isGate : MethodName := ⟨R_No, "isGate", "(I)Z"⟩
abbrev c_No_addEvent : ByteArray := prog_6_method_5_code
def y_No_addEvent : MethodName := ⟨R_No, "addEvent", "(JJ)I"⟩
abbrev c_No_addGate : ByteArray := prog_6_method_6_code
def y_No_addGate : MethodName := ⟨R_No, "addGate", "(II)I"⟩
abbrev c_No_eventBit : ByteArray := prog_6_method_7_code
def y_No_eventBit : MethodName := ⟨R_No, "eventBit", "(I)I"⟩
abbrev c_No_isBelow : ByteArray := prog_6_method_8_code
def y_No_isBelow : MethodName := ⟨R_No, "isBelow", "(II)Z"⟩
abbrev c_No_isUnder : ByteArray := prog_6_method_9_code
def y_No_isUnder : MethodName := ⟨R_No, "isUnder", "(II)Z"⟩
abbrev c_No_putBelow : ByteArray := prog_6_method_10_code
def y_No_putBelow : MethodName := ⟨R_No, "putBelow", "(II)V"⟩
abbrev c_No_lineUp : ByteArray := prog_6_method_11_code
def y_No_lineUp : MethodName := ⟨R_No, "lineUp", "(I)I"⟩
def R_Tr : String := "SafetyTrees$Truth"
abbrev c_Tr_init : ByteArray := prog_8_method_1_code
def y_Tr_init : MethodName := ⟨R_Tr, "<init>", "(LSafetyTrees$Nodes;)V"⟩
abbrev c_Tr_fillEvent : ByteArray := prog_8_method_2_code
def y_Tr_fillEvent : MethodName := ⟨R_Tr, "fillEvent", "(I)V"⟩
abbrev c_Tr_eventWord : ByteArray := prog_8_method_3_code
def y_Tr_eventWord : MethodName := ⟨R_Tr, "eventWord", "(II)J"⟩
abbrev c_Tr_fillGates : ByteArray := prog_8_method_4_code
def y_Tr_fillGates : MethodName := ⟨R_Tr, "fillGates", "(I)V"⟩
abbrev c_Tr_fillGate : ByteArray := prog_8_method_5_code
def y_Tr_fillGate : MethodName := ⟨R_Tr, "fillGate", "(II)V"⟩
abbrev c_Tr_gateWord : ByteArray := prog_8_method_6_code
def y_Tr_gateWord : MethodName := ⟨R_Tr, "gateWord", "(II)J"⟩
abbrev c_Tr_allOf : ByteArray := prog_8_method_7_code
def y_Tr_allOf : MethodName := ⟨R_Tr, "allOf", "(II)J"⟩
abbrev c_Tr_anyOf : ByteArray := prog_8_method_8_code
def y_Tr_anyOf : MethodName := ⟨R_Tr, "anyOf", "(II)J"⟩
abbrev c_Tr_votesOf : ByteArray := prog_8_method_9_code
def y_Tr_votesOf : MethodName := ⟨R_Tr, "votesOf", "(II)J"⟩
abbrev c_Tr_withDigit : ByteArray := prog_8_method_10_code
def y_Tr_withDigit : MethodName := ⟨R_Tr, "withDigit", "(IJJ)J"⟩
abbrev c_Tr_isTrue : ByteArray := prog_8_method_11_code
def y_Tr_isTrue : MethodName := ⟨R_Tr, "isTrue", "(II)Z"⟩
abbrev c_Tr_countTrue : ByteArray := prog_8_method_12_code
def y_Tr_countTrue : MethodName := ⟨R_Tr, "countTrue", "(II)I"⟩
abbrev c_Tr_isMinimal : ByteArray := prog_8_method_13_code
def y_Tr_isMinimal : MethodName := ⟨R_Tr, "isMinimal", "(II)Z"⟩
def R_Ca : String := "SafetyTrees$Causes"
abbrev c_Ca_init : ByteArray := prog_2_method_1_code
def y_Ca_init : MethodName := ⟨R_Ca, "<init>", "()V"⟩
abbrev c_Ca_add : ByteArray := prog_2_method_2_code
def y_Ca_add : MethodName := ⟨R_Ca, "add", "(IJJ)I"⟩
abbrev c_Ca_touches : ByteArray := prog_2_method_3_code
def y_Ca_touches : MethodName := ⟨R_Ca, "touches", "(II)Z"⟩
abbrev c_Ca_countTouching : ByteArray := prog_2_method_4_code
def y_Ca_countTouching : MethodName := ⟨R_Ca, "countTouching", "(I)I"⟩
def R_Cu : String := "SafetyTrees$Cuts"
abbrev c_Cu_init : ByteArray := prog_3_method_1_code
def y_Cu_init : MethodName := ⟨R_Cu, "<init>", "()V"⟩
abbrev c_Cu_clear : ByteArray := prog_3_method_2_code
def y_Cu_clear : MethodName := ⟨R_Cu, "clear", "()V"⟩
abbrev c_Cu_tell : ByteArray := prog_3_method_3_code
def y_Cu_tell : MethodName := ⟨R_Cu, "tell", "(LSafetyTrees$Truth;II)I"⟩
abbrev c_Cu_find : ByteArray := prog_3_method_4_code
def y_Cu_find : MethodName := ⟨R_Cu, "find", "(LSafetyTrees$Truth;II)I"⟩
abbrev c_Cu_takeOfSize : ByteArray := prog_3_method_5_code
def y_Cu_takeOfSize : MethodName := ⟨R_Cu, "takeOfSize", "(II)V"⟩
abbrev c_Cu_eventIndex : ByteArray := prog_3_method_6_code
def y_Cu_eventIndex : MethodName := ⟨R_Cu, "eventIndex", "(II)I"⟩
def R_Od : String := "SafetyTrees$Odds"
abbrev c_Od_init : ByteArray := prog_7_method_1_code
def y_Od_init : MethodName := ⟨R_Od, "<init>", "(LSafetyTrees$Nodes;LSafetyTrees$Truth;LSafetyTrees$Causes;)V"⟩
abbrev c_Od_work : ByteArray := prog_7_method_2_code
def y_Od_work : MethodName := ⟨R_Od, "work", "(I)V"⟩
abbrev c_Od_workExactly : ByteArray := prog_7_method_3_code
def y_Od_workExactly : MethodName := ⟨R_Od, "workExactly", "(II)V"⟩
abbrev c_Od_weighSets : ByteArray := prog_7_method_4_code
def y_Od_weighSets : MethodName := ⟨R_Od, "weighSets", "(II)V"⟩
abbrev c_Od_mix : ByteArray := prog_7_method_5_code
def y_Od_mix : MethodName := ⟨R_Od, "mix", "(IIJJ)V"⟩
abbrev c_Od_workBound : ByteArray := prog_7_method_6_code
def y_Od_workBound : MethodName := ⟨R_Od, "workBound", "(I)V"⟩
abbrev c_Od_eventBound : ByteArray := prog_7_method_7_code
def y_Od_eventBound : MethodName := ⟨R_Od, "eventBound", "(I)J"⟩
abbrev c_Od_inParts : ByteArray := prog_7_method_8_code
def y_Od_inParts : MethodName := ⟨R_Od, "inParts", "(JJ)J"⟩
abbrev c_Od_gateBound : ByteArray := prog_7_method_9_code
def y_Od_gateBound : MethodName := ⟨R_Od, "gateBound", "(I)J"⟩
def R_Go : String := "SafetyTrees$Goals"
abbrev c_Go_init : ByteArray := prog_5_method_1_code
def y_Go_init : MethodName := ⟨R_Go, "<init>", "()V"⟩
abbrev c_Go_add : ByteArray := prog_5_method_2_code
def y_Go_add : MethodName := ⟨R_Go, "add", "(I)I"⟩
abbrev c_Go_addRow : ByteArray := prog_5_method_3_code
def y_Go_addRow : MethodName := ⟨R_Go, "addRow", "(III)I"⟩
abbrev c_Go_hasRow : ByteArray := prog_5_method_4_code
def y_Go_hasRow : MethodName := ⟨R_Go, "hasRow", "(III)Z"⟩
abbrev c_Go_rowsOfPart : ByteArray := prog_5_method_5_code
def y_Go_rowsOfPart : MethodName := ⟨R_Go, "rowsOfPart", "(I)I"⟩
abbrev c_Go_testedRowsOfPart : ByteArray := prog_5_method_6_code
def y_Go_testedRowsOfPart : MethodName := ⟨R_Go, "testedRowsOfPart", "(I)I"⟩
abbrev c_Go_findOpen : ByteArray := prog_5_method_7_code
def y_Go_findOpen : MethodName := ⟨R_Go, "findOpen", "(I)I"⟩
abbrev c_Go_isGoalOpen : ByteArray := prog_5_method_8_code
def y_Go_isGoalOpen : MethodName := ⟨R_Go, "isGoalOpen", "(I)Z"⟩
abbrev c_Go_isPartOpen : ByteArray := prog_5_method_9_code
def y_Go_isPartOpen : MethodName := ⟨R_Go, "isPartOpen", "(I)Z"⟩
def R_Fr : String := "SafetyTrees$Fraction"
abbrev c_Fr_init : ByteArray := prog_4_method_1_code
def y_Fr_init : MethodName := ⟨R_Fr, "<init>", "()V"⟩
abbrev c_Fr_set : ByteArray := prog_4_method_2_code
def y_Fr_set : MethodName := ⟨R_Fr, "set", "(JJ)V"⟩
abbrev c_Fr_side : ByteArray := prog_4_method_3_code
def y_Fr_side : MethodName := ⟨R_Fr, "side", "(I)J"⟩
abbrev c_Fr_commonDivisor : ByteArray := prog_4_method_4_code
def y_Fr_commonDivisor : MethodName := ⟨R_Fr, "commonDivisor", "(JJ)J"⟩
def R_Mo : String := "SafetyTreesModel"
abbrev c_Mo_init : ByteArray := prog_10_method_1_code
def y_Mo_init : MethodName := ⟨R_Mo, "<init>", "()V"⟩
abbrev c_Mo_thrown : ByteArray := prog_10_method_2_code
def y_Mo_thrown : MethodName := ⟨R_Mo, "thrown", "()I"⟩
abbrev c_Mo_isIn : ByteArray := prog_10_method_3_code
def y_Mo_isIn : MethodName := ⟨R_Mo, "isIn", "(JJJ)Z"⟩
abbrev c_Mo_isGate : ByteArray := prog_10_method_4_code
def y_Mo_isGate : MethodName := ⟨R_Mo, "isGate", "(I)Z"⟩
abbrev c_Mo_isEvent : ByteArray := prog_10_method_5_code
def y_Mo_isEvent : MethodName := ⟨R_Mo, "isEvent", "(I)Z"⟩
abbrev c_Mo_event : ByteArray := prog_10_method_6_code
def y_Mo_event : MethodName := ⟨R_Mo, "event", "(JJ)I"⟩
abbrev c_Mo_gate : ByteArray := prog_10_method_7_code
def y_Mo_gate : MethodName := ⟨R_Mo, "gate", "(II)I"⟩
abbrev c_Mo_mark : ByteArray := prog_10_method_8_code
def y_Mo_mark : MethodName := ⟨R_Mo, "mark", "(I)V"⟩
abbrev c_Mo_below : ByteArray := prog_10_method_9_code
def y_Mo_below : MethodName := ⟨R_Mo, "below", "(II)I"⟩
abbrev c_Mo_prepare : ByteArray := prog_10_method_10_code
def y_Mo_prepare : MethodName := ⟨R_Mo, "prepare", "(I)V"⟩
abbrev c_Mo_isReady : ByteArray := prog_10_method_11_code
def y_Mo_isReady : MethodName := ⟨R_Mo, "isReady", "(I)Z"⟩
abbrev c_Mo_bit : ByteArray := prog_10_method_12_code
def y_Mo_bit : MethodName := ⟨R_Mo, "bit", "(I)I"⟩
abbrev c_Mo_tryAll : ByteArray := prog_10_method_13_code
def y_Mo_tryAll : MethodName := ⟨R_Mo, "tryAll", "(I)V"⟩
abbrev c_Mo_ones : ByteArray := prog_10_method_14_code
def y_Mo_ones : MethodName := ⟨R_Mo, "ones", "(I)I"⟩
abbrev c_Mo_isMinimal : ByteArray := prog_10_method_15_code
def y_Mo_isMinimal : MethodName := ⟨R_Mo, "isMinimal", "(I)Z"⟩
abbrev c_Mo_cuts : ByteArray := prog_10_method_16_code
def y_Mo_cuts : MethodName := ⟨R_Mo, "cuts", "(IJ)I"⟩
abbrev c_Mo_cut : ByteArray := prog_10_method_17_code
def y_Mo_cut : MethodName := ⟨R_Mo, "cut", "(II)I"⟩
abbrev c_Mo_plain : ByteArray := prog_10_method_18_code
def y_Mo_plain : MethodName := ⟨R_Mo, "plain", "(I)I"⟩
abbrev c_Mo_gcd : ByteArray := prog_10_method_19_code
def y_Mo_gcd : MethodName := ⟨R_Mo, "gcd", "(JJ)J"⟩
abbrev c_Mo_lowest : ByteArray := prog_10_method_20_code
def y_Mo_lowest : MethodName := ⟨R_Mo, "lowest", "(JJI)J"⟩
abbrev c_Mo_bitsOf : ByteArray := prog_10_method_21_code
def y_Mo_bitsOf : MethodName := ⟨R_Mo, "bitsOf", "(I)I"⟩
abbrev c_Mo_exactChance : ByteArray := prog_10_method_22_code
def y_Mo_exactChance : MethodName := ⟨R_Mo, "exactChance", "(II)J"⟩
abbrev c_Mo_spread : ByteArray := prog_10_method_23_code
def y_Mo_spread : MethodName := ⟨R_Mo, "spread", "(IJJ)V"⟩
abbrev c_Mo_boundOfEvent : ByteArray := prog_10_method_24_code
def y_Mo_boundOfEvent : MethodName := ⟨R_Mo, "boundOfEvent", "(I)I"⟩
abbrev c_Mo_boundChance : ByteArray := prog_10_method_25_code
def y_Mo_boundChance : MethodName := ⟨R_Mo, "boundChance", "(II)J"⟩
abbrev c_Mo_chance : ByteArray := prog_10_method_26_code
def y_Mo_chance : MethodName := ⟨R_Mo, "chance", "(II)J"⟩
abbrev c_Mo_exact : ByteArray := prog_10_method_27_code
def y_Mo_exact : MethodName := ⟨R_Mo, "exact", "()Z"⟩
abbrev c_Mo_common : ByteArray := prog_10_method_28_code
def y_Mo_common : MethodName := ⟨R_Mo, "common", "(IIJJ)I"⟩
abbrev c_Mo_grade : ByteArray := prog_10_method_29_code
def y_Mo_grade : MethodName := ⟨R_Mo, "grade", "(III)I"⟩
abbrev c_Mo_goal : ByteArray := prog_10_method_30_code
def y_Mo_goal : MethodName := ⟨R_Mo, "goal", "(I)I"⟩
abbrev c_Mo_trace : ByteArray := prog_10_method_31_code
def y_Mo_trace : MethodName := ⟨R_Mo, "trace", "(III)I"⟩
abbrev c_Mo_rowsOf : ByteArray := prog_10_method_32_code
def y_Mo_rowsOf : MethodName := ⟨R_Mo, "rowsOf", "(IIZ)I"⟩
abbrev c_Mo_open : ByteArray := prog_10_method_33_code
def y_Mo_open : MethodName := ⟨R_Mo, "open", "(I)I"⟩
abbrev c_Mo_cover : ByteArray := prog_10_method_34_code
def y_Mo_cover : MethodName := ⟨R_Mo, "cover", "(II)J"⟩
def R_Lw : String := "SafetyTreesLaw"
def R_Ji : String := "java/lang/Integer"
abbrev c_Ji_bitCount : ByteArray := prog_13_method_49_code
def y_Ji_bitCount : MethodName := ⟨R_Ji, "bitCount", "(I)I"⟩
def R_Jl : String := "java/lang/Long"
abbrev c_Jl_bitCount : ByteArray := prog_14_method_50_code
def y_Jl_bitCount : MethodName := ⟨R_Jl, "bitCount", "(J)I"⟩
def R_Jm : String := "java/lang/Math"
abbrev c_Jm_min : ByteArray := prog_15_method_70_code
def y_Jm_min : MethodName := ⟨R_Jm, "min", "(JJ)J"⟩
def F_ST : u_T := fun k => match k with
  | 0 => ("SafetyTrees", "nodes", "LSafetyTrees$Nodes;", true)
  | 1 => ("SafetyTrees", "truth", "LSafetyTrees$Truth;", true)
  | 2 => ("SafetyTrees", "causes", "LSafetyTrees$Causes;", true)
  | 3 => ("SafetyTrees", "told", "LSafetyTrees$Cuts;", true)
  | 4 => ("SafetyTrees", "odds", "LSafetyTrees$Odds;", true)
  | 5 => ("SafetyTrees", "goals", "LSafetyTrees$Goals;", true)
  | _ => ("SafetyTrees", "share", "LSafetyTrees$Fraction;", true)
def t_ST : Nat → FieldType := fun k => match k with
  | 0 => .object "SafetyTrees$Nodes"
  | 1 => .object "SafetyTrees$Truth"
  | 2 => .object "SafetyTrees$Causes"
  | 3 => .object "SafetyTrees$Cuts"
  | 4 => .object "SafetyTrees$Odds"
  | 5 => .object "SafetyTrees$Goals"
  | _ => .object "SafetyTrees$Fraction"
theorem n_ST : ∀ a, a < 7 → ∀ b, b < 7 → a ≠ b → (F_ST a).2.1 ≠ (F_ST b).2.1 := by decide +kernel
theorem t_ST_ok : ∀ k, k < 7 → parseFieldDescriptor (F_ST k).2.2.1 = some (t_ST k) := by decide +kernel
def F_No : u_T := fun k => match k with
  | 0 => ("SafetyTrees$Nodes", "count", "I", false)
  | 1 => ("SafetyTrees$Nodes", "events", "I", false)
  | 2 => ("SafetyTrees$Nodes", "gates", "I", false)
  | 3 => ("SafetyTrees$Nodes", "kind", "[I", true)
  | 4 => ("SafetyTrees$Nodes", "votes", "[I", true)
  | 5 => ("SafetyTrees$Nodes", "up", "[J", true)
  | 6 => ("SafetyTrees$Nodes", "down", "[J", true)
  | 7 => ("SafetyTrees$Nodes", "eventNumber", "[I", true)
  | 8 => ("SafetyTrees$Nodes", "belowRow", "[[I", true)
  | 9 => ("SafetyTrees$Nodes", "belowCount", "[I", true)
  | 10 => ("SafetyTrees$Nodes", "nodesUnder", "[J", true)
  | 11 => ("SafetyTrees$Nodes", "eventsUnder", "[I", true)
  | _ => ("SafetyTrees$Nodes", "line", "[I", true)
def t_No : Nat → FieldType := fun k => match k with
  | 0 => .int
  | 1 => .int
  | 2 => .int
  | 3 => .array .int
  | 4 => .array .int
  | 5 => .array .long
  | 6 => .array .long
  | 7 => .array .int
  | 8 => .array (.array .int)
  | 9 => .array .int
  | 10 => .array .long
  | 11 => .array .int
  | _ => .array .int
theorem n_No : ∀ a, a < 13 → ∀ b, b < 13 → a ≠ b → (F_No a).2.1 ≠ (F_No b).2.1 := by decide +kernel
theorem t_No_ok : ∀ k, k < 13 → parseFieldDescriptor (F_No k).2.2.1 = some (t_No k) := by decide +kernel
def F_Tr : u_T := fun k => match k with
  | 0 => ("SafetyTrees$Truth", "nodes", "LSafetyTrees$Nodes;", true)
  | _ => ("SafetyTrees$Truth", "table", "[[J", true)
def t_Tr : Nat → FieldType := fun k => match k with
  | 0 => .object "SafetyTrees$Nodes"
  | _ => .array (.array .long)
theorem n_Tr : ∀ a, a < 2 → ∀ b, b < 2 → a ≠ b → (F_Tr a).2.1 ≠ (F_Tr b).2.1 := by decide +kernel
theorem t_Tr_ok : ∀ k, k < 2 → parseFieldDescriptor (F_Tr k).2.2.1 = some (t_Tr k) := by decide +kernel
def F_Ca : u_T := fun k => match k with
  | 0 => ("SafetyTrees$Causes", "count", "I", false)
  | 1 => ("SafetyTrees$Causes", "pair", "[I", true)
  | 2 => ("SafetyTrees$Causes", "up", "[J", true)
  | _ => ("SafetyTrees$Causes", "down", "[J", true)
def t_Ca : Nat → FieldType := fun k => match k with
  | 0 => .int
  | 1 => .array .int
  | 2 => .array .long
  | _ => .array .long
theorem n_Ca : ∀ a, a < 4 → ∀ b, b < 4 → a ≠ b → (F_Ca a).2.1 ≠ (F_Ca b).2.1 := by decide +kernel
theorem t_Ca_ok : ∀ k, k < 4 → parseFieldDescriptor (F_Ca k).2.2.1 = some (t_Ca k) := by decide +kernel
def F_Cu : u_T := fun k => match k with
  | 0 => ("SafetyTrees$Cuts", "count", "I", false)
  | 1 => ("SafetyTrees$Cuts", "sets", "[I", true)
  | _ => ("SafetyTrees$Cuts", "found", "[I", true)
def t_Cu : Nat → FieldType := fun k => match k with
  | 0 => .int
  | 1 => .array .int
  | _ => .array .int
theorem n_Cu : ∀ a, a < 3 → ∀ b, b < 3 → a ≠ b → (F_Cu a).2.1 ≠ (F_Cu b).2.1 := by decide +kernel
theorem t_Cu_ok : ∀ k, k < 3 → parseFieldDescriptor (F_Cu k).2.2.1 = some (t_Cu k) := by decide +kernel
def F_Od : u_T := fun k => match k with
  | 0 => ("SafetyTrees$Odds", "nodes", "LSafetyTrees$Nodes;", true)
  | 1 => ("SafetyTrees$Odds", "truth", "LSafetyTrees$Truth;", true)
  | 2 => ("SafetyTrees$Odds", "causes", "LSafetyTrees$Causes;", true)
  | 3 => ("SafetyTrees$Odds", "result", "LSafetyTrees$Fraction;", true)
  | 4 => ("SafetyTrees$Odds", "isExact", "Z", false)
  | 5 => ("SafetyTrees$Odds", "weights", "[J", true)
  | _ => ("SafetyTrees$Odds", "bounds", "[J", true)
def t_Od : Nat → FieldType := fun k => match k with
  | 0 => .object "SafetyTrees$Nodes"
  | 1 => .object "SafetyTrees$Truth"
  | 2 => .object "SafetyTrees$Causes"
  | 3 => .object "SafetyTrees$Fraction"
  | 4 => .boolean
  | 5 => .array .long
  | _ => .array .long
theorem n_Od : ∀ a, a < 7 → ∀ b, b < 7 → a ≠ b → (F_Od a).2.1 ≠ (F_Od b).2.1 := by decide +kernel
theorem t_Od_ok : ∀ k, k < 7 → parseFieldDescriptor (F_Od k).2.2.1 = some (t_Od k) := by decide +kernel
def F_Go : u_T := fun k => match k with
  | 0 => ("SafetyTrees$Goals", "count", "I", false)
  | 1 => ("SafetyTrees$Goals", "rows", "I", false)
  | 2 => ("SafetyTrees$Goals", "classOf", "[I", true)
  | 3 => ("SafetyTrees$Goals", "goalOf", "[I", true)
  | 4 => ("SafetyTrees$Goals", "partOf", "[I", true)
  | _ => ("SafetyTrees$Goals", "testOf", "[I", true)
def t_Go : Nat → FieldType := fun k => match k with
  | 0 => .int
  | 1 => .int
  | 2 => .array .int
  | 3 => .array .int
  | 4 => .array .int
  | _ => .array .int
theorem n_Go : ∀ a, a < 6 → ∀ b, b < 6 → a ≠ b → (F_Go a).2.1 ≠ (F_Go b).2.1 := by decide +kernel
theorem t_Go_ok : ∀ k, k < 6 → parseFieldDescriptor (F_Go k).2.2.1 = some (t_Go k) := by decide +kernel
def F_Fr : u_T := fun k => match k with
  | 0 => ("SafetyTrees$Fraction", "above", "J", false)
  | _ => ("SafetyTrees$Fraction", "beneath", "J", false)
def t_Fr : Nat → FieldType := fun k => match k with
  | 0 => .long
  | _ => .long
theorem n_Fr : ∀ a, a < 2 → ∀ b, b < 2 → a ≠ b → (F_Fr a).2.1 ≠ (F_Fr b).2.1 := by decide +kernel
theorem t_Fr_ok : ∀ k, k < 2 → parseFieldDescriptor (F_Fr k).2.2.1 = some (t_Fr k) := by decide +kernel
def F_Mo : u_T := fun k => match k with
  | 0 => ("SafetyTreesModel", "fault", "I", false)
  | 1 => ("SafetyTreesModel", "nodes", "I", false)
  | 2 => ("SafetyTreesModel", "events", "I", false)
  | 3 => ("SafetyTreesModel", "gates", "I", false)
  | 4 => ("SafetyTreesModel", "kind", "[I", true)
  | 5 => ("SafetyTreesModel", "votes", "[I", true)
  | 6 => ("SafetyTreesModel", "up", "[I", true)
  | 7 => ("SafetyTreesModel", "down", "[I", true)
  | 8 => ("SafetyTreesModel", "size", "[I", true)
  | 9 => ("SafetyTreesModel", "below", "[I", true)
  | 10 => ("SafetyTreesModel", "commons", "I", false)
  | 11 => ("SafetyTreesModel", "commonOne", "[I", true)
  | 12 => ("SafetyTreesModel", "commonOther", "[I", true)
  | 13 => ("SafetyTreesModel", "commonUp", "[I", true)
  | 14 => ("SafetyTreesModel", "commonDown", "[I", true)
  | 15 => ("SafetyTreesModel", "wasExact", "Z", false)
  | 16 => ("SafetyTreesModel", "under", "[Z", true)
  | 17 => ("SafetyTreesModel", "many", "I", false)
  | 18 => ("SafetyTreesModel", "eventAt", "[I", true)
  | 19 => ("SafetyTreesModel", "ordered", "I", false)
  | 20 => ("SafetyTreesModel", "order", "[I", true)
  | 21 => ("SafetyTreesModel", "done", "[Z", true)
  | 22 => ("SafetyTreesModel", "value", "[I", true)
  | 23 => ("SafetyTreesModel", "holds", "[Z", true)
  | 24 => ("SafetyTreesModel", "weight", "[J", true)
  | 25 => ("SafetyTreesModel", "cutMany", "I", false)
  | 26 => ("SafetyTreesModel", "cutOf", "[I", true)
  | 27 => ("SafetyTreesModel", "toldEvents", "[I", true)
  | 28 => ("SafetyTreesModel", "toldMany", "I", false)
  | 29 => ("SafetyTreesModel", "goals", "I", false)
  | 30 => ("SafetyTreesModel", "cls", "[I", true)
  | 31 => ("SafetyTreesModel", "rows", "I", false)
  | 32 => ("SafetyTreesModel", "rowGoal", "[I", true)
  | 33 => ("SafetyTreesModel", "rowPart", "[I", true)
  | _ => ("SafetyTreesModel", "rowTest", "[I", true)
def t_Mo : Nat → FieldType := fun k => match k with
  | 0 => .int
  | 1 => .int
  | 2 => .int
  | 3 => .int
  | 4 => .array .int
  | 5 => .array .int
  | 6 => .array .int
  | 7 => .array .int
  | 8 => .array .int
  | 9 => .array .int
  | 10 => .int
  | 11 => .array .int
  | 12 => .array .int
  | 13 => .array .int
  | 14 => .array .int
  | 15 => .boolean
  | 16 => .array .boolean
  | 17 => .int
  | 18 => .array .int
  | 19 => .int
  | 20 => .array .int
  | 21 => .array .boolean
  | 22 => .array .int
  | 23 => .array .boolean
  | 24 => .array .long
  | 25 => .int
  | 26 => .array .int
  | 27 => .array .int
  | 28 => .int
  | 29 => .int
  | 30 => .array .int
  | 31 => .int
  | 32 => .array .int
  | 33 => .array .int
  | _ => .array .int
theorem n_Mo : ∀ a, a < 35 → ∀ b, b < 35 → a ≠ b → (F_Mo a).2.1 ≠ (F_Mo b).2.1 := by decide +kernel
theorem t_Mo_ok : ∀ k, k < 35 → parseFieldDescriptor (F_Mo k).2.2.1 = some (t_Mo k) := by decide +kernel
abbrev vwCl : List vw_C := [(R_ST, F_ST, 7), (R_No, F_No, 13), (R_Tr, F_Tr, 2), (R_Ca, F_Ca, 4), (R_Cu, F_Cu, 3), (R_Od, F_Od, 7), (R_Go, F_Go, 6), (R_Fr, F_Fr, 2), (R_Mo, F_Mo, 35)]
/-- the tables' words that hold in every state of the run -/
def tblG : List Cond := lw_tbl.filter goodWord
theorem tg_r {w : Cond} {i : Nat} (h : tables_1[i]? = some w) (hg : goodWord w = true) : w ∈ tblG := List.mem_filter.mpr ⟨List.mem_append_right _ (List.mem_of_getElem? h), hg⟩
theorem tg_l {w : Cond} {i : Nat} (h : (k2_sels lw_privs)[i]? = some w) (hg : goodWord w = true) : w ∈ tblG := List.mem_filter.mpr ⟨List.mem_append_left _ (List.mem_of_getElem? h), hg⟩
/-- the words on private members of nest mates: not among the good ones, so each contract bears them -/
def isNest : Cond → Bool
  | .fieldLinkNest .. => true
  | .methodLinkNest .. => true
  | _ => false
def tblN : List Cond := tables_1.filter isNest
theorem tn_r {w : Cond} {i : Nat} (h : tables_1[i]? = some w) (hg : isNest w = true) : w ∈ tblN := List.mem_filter.mpr ⟨List.mem_of_getElem? h, hg⟩
def nst (U : State) : Prop := ∀ w ∈ tblN, va_Nw w U
theorem nst.warm {s U : State} (hW : s.WarmedH U.vm) (h : nst s) : nst U := fun w hw => by
  have h1 := h w hw
  have h2 := (List.mem_filter.mp hw).2
  cases w <;> first | exact va_Nw.warmF hW h1 | exact va_Nw.warmM hW h1 | exact absurd h2 (by simp [isNest])
theorem nst.same {u U : State} (e : u.vm = U.vm) (h : nst u) : nst U := fun w hw => by
  have h1 := h w hw
  have h2 := (List.mem_filter.mp hw).2
  cases w <;> first | exact va_Nw.same rfl e h1 | exact absurd h2 (by simp [isNest])
theorem nst.of {args : Array Value} {s : State} (h : ∀ w ∈ tables_1, w.before args s = true) : nst s := fun w hw => by
  have h1 := h w (List.mem_filter.mp hw).1
  have h2 := (List.mem_filter.mp hw).2
  cases w <;> first | exact va_Nw.of rfl h1 | exact absurd h2 (by simp [isNest])
end
section
theorem tw_0 : (Jvm.Cond.initialized "SafetyTreesLaw") ∈ tblG := tg_r (i := 0) (by decide +kernel) (by decide +kernel)
theorem tw_1 : (Jvm.Cond.initialized "SafetyTrees") ∈ tblG := tg_r (i := 1) (by decide +kernel) (by decide +kernel)
theorem tw_2 : (Jvm.Cond.initialized "SafetyTrees$Nodes") ∈ tblG := tg_r (i := 2) (by decide +kernel) (by decide +kernel)
theorem tw_3 : (Jvm.Cond.initialized "SafetyTrees$Truth") ∈ tblG := tg_r (i := 3) (by decide +kernel) (by decide +kernel)
theorem tw_4 : (Jvm.Cond.initialized "SafetyTrees$Causes") ∈ tblG := tg_r (i := 4) (by decide +kernel) (by decide +kernel)
theorem tw_5 : (Jvm.Cond.initialized "SafetyTrees$Cuts") ∈ tblG := tg_r (i := 5) (by decide +kernel) (by decide +kernel)
theorem tw_6 : (Jvm.Cond.initialized "SafetyTrees$Odds") ∈ tblG := tg_r (i := 6) (by decide +kernel) (by decide +kernel)
theorem tw_7 : (Jvm.Cond.initialized "SafetyTrees$Fraction") ∈ tblG := tg_r (i := 7) (by decide +kernel) (by decide +kernel)
theorem tw_8 : (Jvm.Cond.initialized "SafetyTrees$Goals") ∈ tblG := tg_r (i := 8) (by decide +kernel) (by decide +kernel)
theorem tw_9 : (Jvm.Cond.initialized "SafetyTreesModel") ∈ tblG := tg_r (i := 9) (by decide +kernel) (by decide +kernel)
theorem tw_10 : (Jvm.Cond.initialized "java/lang/Integer") ∈ tblG := tg_r (i := 10) (by decide +kernel) (by decide +kernel)
theorem tw_11 : (Jvm.Cond.initialized "java/lang/Long") ∈ tblG := tg_r (i := 11) (by decide +kernel) (by decide +kernel)
theorem tw_12 : (Jvm.Cond.initialized "java/lang/Math") ∈ tblG := tg_r (i := 12) (by decide +kernel) (by decide +kernel)
theorem tw_13 : (Jvm.Cond.initialized "java/lang/Throwable") ∈ tblG := tg_r (i := 13) (by decide +kernel) (by decide +kernel)
theorem tw_14 : (Jvm.Cond.initialized "java/lang/Exception") ∈ tblG := tg_r (i := 14) (by decide +kernel) (by decide +kernel)
theorem tw_15 : (Jvm.Cond.initialized "java/lang/RuntimeException") ∈ tblG := tg_r (i := 15) (by decide +kernel) (by decide +kernel)
theorem tw_16 : (Jvm.Cond.initialized "java/lang/ArithmeticException") ∈ tblG := tg_r (i := 16) (by decide +kernel) (by decide +kernel)
theorem tw_17 : (Jvm.Cond.classLink "SafetyTreesLaw" (8 : Nat) "SafetyTrees") ∈ tblG := tg_r (i := 17) (by decide +kernel) (by decide +kernel)
theorem tw_18 : (Jvm.Cond.instantiable "SafetyTrees" (7 : Nat)) ∈ tblG := tg_r (i := 18) (by decide +kernel) (by decide +kernel)
theorem tw_19 : (Jvm.Cond.methodLink "SafetyTreesLaw" (15 : Nat) ({ cls := "SafetyTrees", name := "<init>", desc := "()V" } : Jvm.MethodName)) ∈ tblG := tg_r (i := 19) (by decide +kernel) (by decide +kernel)
theorem tw_20 : (Jvm.Cond.instanceMethod ({ cls := "SafetyTrees", name := "<init>", desc := "()V" } : Jvm.MethodName)) ∈ tblG := tg_r (i := 20) (by decide +kernel) (by decide +kernel)
theorem tw_21 : (Jvm.Cond.code ({ cls := "SafetyTrees", name := "<init>", desc := "()V" } : Jvm.MethodName) prog_1_method_1_code (1 : Nat) (Option.none : Option Jvm.ClassFile.FieldType)) ∈ tblG := tg_r (i := 21) (by decide +kernel) (by decide +kernel)
theorem tw_22 : (Jvm.Cond.methodLink "SafetyTrees" (3 : Nat) ({ cls := "java/lang/Object", name := "<init>", desc := "()V" } : Jvm.MethodName)) ∈ tblG := tg_r (i := 22) (by decide +kernel) (by decide +kernel)
theorem tw_23 : (Jvm.Cond.instanceMethod ({ cls := "java/lang/Object", name := "<init>", desc := "()V" } : Jvm.MethodName)) ∈ tblG := tg_r (i := 23) (by decide +kernel) (by decide +kernel)
theorem tw_24 : (Jvm.Cond.code ({ cls := "java/lang/Object", name := "<init>", desc := "()V" } : Jvm.MethodName) object_method_1_code (1 : Nat) (Option.none : Option Jvm.ClassFile.FieldType)) ∈ tblG := tg_r (i := 24) (by decide +kernel) (by decide +kernel)
theorem tw_25 : (Jvm.Cond.classLink "SafetyTrees" (9 : Nat) "SafetyTrees$Nodes") ∈ tblG := tg_r (i := 25) (by decide +kernel) (by decide +kernel)
theorem tw_26 : (Jvm.Cond.instantiable "SafetyTrees$Nodes" (13 : Nat)) ∈ tblG := tg_r (i := 26) (by decide +kernel) (by decide +kernel)
theorem tw_27 : (Jvm.Cond.methodLinkNest "SafetyTrees" (11 : Nat) ({ cls := "SafetyTrees$Nodes", name := "<init>", desc := "()V" } : Jvm.MethodName) "SafetyTrees") ∈ tblN := tn_r (i := 27) (by decide +kernel) (by decide +kernel)
theorem tw_28 : (Jvm.Cond.instanceMethod ({ cls := "SafetyTrees$Nodes", name := "<init>", desc := "()V" } : Jvm.MethodName)) ∈ tblG := tg_r (i := 28) (by decide +kernel) (by decide +kernel)
theorem tw_29 : (Jvm.Cond.code ({ cls := "SafetyTrees$Nodes", name := "<init>", desc := "()V" } : Jvm.MethodName) prog_6_method_1_code (1 : Nat) (Option.none : Option Jvm.ClassFile.FieldType)) ∈ tblG := tg_r (i := 29) (by decide +kernel) (by decide +kernel)
theorem tw_30 : (Jvm.Cond.methodLink "SafetyTrees$Nodes" (3 : Nat) ({ cls := "java/lang/Object", name := "<init>", desc := "()V" } : Jvm.MethodName)) ∈ tblG := tg_r (i := 30) (by decide +kernel) (by decide +kernel)
theorem tw_31 : (Jvm.Cond.classLink "SafetyTrees$Nodes" (38 : Nat) "[[I") ∈ tblG := tg_r (i := 31) (by decide +kernel) (by decide +kernel)
theorem tw_33 : (Jvm.Cond.fieldLink "SafetyTrees$Nodes" (9 : Nat) "SafetyTrees$Nodes" "count" "I") ∈ tblG := tg_r (i := 33) (by decide +kernel) (by decide +kernel)
theorem tw_34 : (Jvm.Cond.fieldLink "SafetyTrees$Nodes" (15 : Nat) "SafetyTrees$Nodes" "events" "I") ∈ tblG := tg_r (i := 34) (by decide +kernel) (by decide +kernel)
theorem tw_35 : (Jvm.Cond.fieldLinkNest "SafetyTrees" (66 : Nat) "SafetyTrees$Nodes" "events" "I" "SafetyTrees") ∈ tblN := tn_r (i := 35) (by decide +kernel) (by decide +kernel)
theorem tw_36 : (Jvm.Cond.fieldLinkNest "SafetyTrees$Odds" (95 : Nat) "SafetyTrees$Nodes" "events" "I" "SafetyTrees") ∈ tblN := tn_r (i := 36) (by decide +kernel) (by decide +kernel)
theorem tw_37 : (Jvm.Cond.fieldLink "SafetyTrees$Nodes" (18 : Nat) "SafetyTrees$Nodes" "gates" "I") ∈ tblG := tg_r (i := 37) (by decide +kernel) (by decide +kernel)
theorem tw_38 : (Jvm.Cond.fieldLinkNest "SafetyTrees" (82 : Nat) "SafetyTrees$Nodes" "gates" "I" "SafetyTrees") ∈ tblN := tn_r (i := 38) (by decide +kernel) (by decide +kernel)
theorem tw_39 : (Jvm.Cond.fieldLink "SafetyTrees$Nodes" (21 : Nat) "SafetyTrees$Nodes" "kind" "[I") ∈ tblG := tg_r (i := 39) (by decide +kernel) (by decide +kernel)
theorem tw_40 : (Jvm.Cond.fieldLinkNest "SafetyTrees$Truth" (50 : Nat) "SafetyTrees$Nodes" "kind" "[I" "SafetyTrees") ∈ tblN := tn_r (i := 40) (by decide +kernel) (by decide +kernel)
theorem tw_41 : (Jvm.Cond.fieldLinkNest "SafetyTrees$Odds" (148 : Nat) "SafetyTrees$Nodes" "kind" "[I" "SafetyTrees") ∈ tblN := tn_r (i := 41) (by decide +kernel) (by decide +kernel)
theorem tw_42 : (Jvm.Cond.fieldLink "SafetyTrees$Nodes" (25 : Nat) "SafetyTrees$Nodes" "votes" "[I") ∈ tblG := tg_r (i := 42) (by decide +kernel) (by decide +kernel)
theorem tw_43 : (Jvm.Cond.fieldLinkNest "SafetyTrees$Odds" (151 : Nat) "SafetyTrees$Nodes" "votes" "[I" "SafetyTrees") ∈ tblN := tn_r (i := 43) (by decide +kernel) (by decide +kernel)
theorem tw_44 : (Jvm.Cond.fieldLinkNest "SafetyTrees$Truth" (69 : Nat) "SafetyTrees$Nodes" "votes" "[I" "SafetyTrees") ∈ tblN := tn_r (i := 44) (by decide +kernel) (by decide +kernel)
theorem tw_45 : (Jvm.Cond.fieldLink "SafetyTrees$Nodes" (28 : Nat) "SafetyTrees$Nodes" "up" "[J") ∈ tblG := tg_r (i := 45) (by decide +kernel) (by decide +kernel)
theorem tw_46 : (Jvm.Cond.fieldLinkNest "SafetyTrees$Odds" (101 : Nat) "SafetyTrees$Nodes" "up" "[J" "SafetyTrees") ∈ tblN := tn_r (i := 46) (by decide +kernel) (by decide +kernel)
theorem tw_47 : (Jvm.Cond.fieldLink "SafetyTrees$Nodes" (32 : Nat) "SafetyTrees$Nodes" "down" "[J") ∈ tblG := tg_r (i := 47) (by decide +kernel) (by decide +kernel)
theorem tw_48 : (Jvm.Cond.fieldLinkNest "SafetyTrees$Odds" (102 : Nat) "SafetyTrees$Nodes" "down" "[J" "SafetyTrees") ∈ tblN := tn_r (i := 48) (by decide +kernel) (by decide +kernel)
theorem tw_49 : (Jvm.Cond.fieldLink "SafetyTrees$Nodes" (35 : Nat) "SafetyTrees$Nodes" "eventNumber" "[I") ∈ tblG := tg_r (i := 49) (by decide +kernel) (by decide +kernel)
theorem tw_50 : (Jvm.Cond.fieldLinkNest "SafetyTrees$Odds" (98 : Nat) "SafetyTrees$Nodes" "eventNumber" "[I" "SafetyTrees") ∈ tblN := tn_r (i := 50) (by decide +kernel) (by decide +kernel)
theorem tw_51 : (Jvm.Cond.fieldLinkNest "SafetyTrees" (130 : Nat) "SafetyTrees$Nodes" "eventNumber" "[I" "SafetyTrees") ∈ tblN := tn_r (i := 51) (by decide +kernel) (by decide +kernel)
theorem tw_52 : (Jvm.Cond.fieldLink "SafetyTrees$Nodes" (40 : Nat) "SafetyTrees$Nodes" "belowRow" "[[I") ∈ tblG := tg_r (i := 52) (by decide +kernel) (by decide +kernel)
theorem tw_53 : (Jvm.Cond.fieldLinkNest "SafetyTrees$Truth" (65 : Nat) "SafetyTrees$Nodes" "belowRow" "[[I" "SafetyTrees") ∈ tblN := tn_r (i := 53) (by decide +kernel) (by decide +kernel)
theorem tw_54 : (Jvm.Cond.fieldLinkNest "SafetyTrees$Odds" (144 : Nat) "SafetyTrees$Nodes" "belowRow" "[[I" "SafetyTrees") ∈ tblN := tn_r (i := 54) (by decide +kernel) (by decide +kernel)
theorem tw_55 : (Jvm.Cond.fieldLink "SafetyTrees$Nodes" (43 : Nat) "SafetyTrees$Nodes" "belowCount" "[I") ∈ tblG := tg_r (i := 55) (by decide +kernel) (by decide +kernel)
theorem tw_56 : (Jvm.Cond.fieldLinkNest "SafetyTrees" (99 : Nat) "SafetyTrees$Nodes" "belowCount" "[I" "SafetyTrees") ∈ tblN := tn_r (i := 56) (by decide +kernel) (by decide +kernel)
theorem tw_57 : (Jvm.Cond.fieldLinkNest "SafetyTrees$Truth" (62 : Nat) "SafetyTrees$Nodes" "belowCount" "[I" "SafetyTrees") ∈ tblN := tn_r (i := 57) (by decide +kernel) (by decide +kernel)
theorem tw_58 : (Jvm.Cond.fieldLinkNest "SafetyTrees$Odds" (141 : Nat) "SafetyTrees$Nodes" "belowCount" "[I" "SafetyTrees") ∈ tblN := tn_r (i := 58) (by decide +kernel) (by decide +kernel)
theorem tw_59 : (Jvm.Cond.fieldLink "SafetyTrees$Nodes" (46 : Nat) "SafetyTrees$Nodes" "nodesUnder" "[J") ∈ tblG := tg_r (i := 59) (by decide +kernel) (by decide +kernel)
theorem tw_60 : (Jvm.Cond.fieldLink "SafetyTrees$Nodes" (49 : Nat) "SafetyTrees$Nodes" "eventsUnder" "[I") ∈ tblG := tg_r (i := 60) (by decide +kernel) (by decide +kernel)
theorem tw_61 : (Jvm.Cond.fieldLinkNest "SafetyTrees$Truth" (20 : Nat) "SafetyTrees$Nodes" "eventsUnder" "[I" "SafetyTrees") ∈ tblN := tn_r (i := 61) (by decide +kernel) (by decide +kernel)
theorem tw_62 : (Jvm.Cond.fieldLinkNest "SafetyTrees$Odds" (41 : Nat) "SafetyTrees$Nodes" "eventsUnder" "[I" "SafetyTrees") ∈ tblN := tn_r (i := 62) (by decide +kernel) (by decide +kernel)
theorem tw_63 : (Jvm.Cond.fieldLinkNest "SafetyTrees" (110 : Nat) "SafetyTrees$Nodes" "eventsUnder" "[I" "SafetyTrees") ∈ tblN := tn_r (i := 63) (by decide +kernel) (by decide +kernel)
theorem tw_64 : (Jvm.Cond.fieldLink "SafetyTrees$Nodes" (52 : Nat) "SafetyTrees$Nodes" "line" "[I") ∈ tblG := tg_r (i := 64) (by decide +kernel) (by decide +kernel)
theorem tw_65 : (Jvm.Cond.fieldLinkNest "SafetyTrees$Truth" (40 : Nat) "SafetyTrees$Nodes" "line" "[I" "SafetyTrees") ∈ tblN := tn_r (i := 65) (by decide +kernel) (by decide +kernel)
theorem tw_66 : (Jvm.Cond.fieldLinkNest "SafetyTrees$Odds" (124 : Nat) "SafetyTrees$Nodes" "line" "[I" "SafetyTrees") ∈ tblN := tn_r (i := 66) (by decide +kernel) (by decide +kernel)
theorem tw_67 : (Jvm.Cond.lays "SafetyTrees$Nodes" "SafetyTrees$Nodes" "count" "I") ∈ tblG := tg_r (i := 67) (by decide +kernel) (by decide +kernel)
theorem tw_69 : (Jvm.Cond.lays "SafetyTrees$Nodes" "SafetyTrees$Nodes" "events" "I") ∈ tblG := tg_r (i := 69) (by decide +kernel) (by decide +kernel)
theorem tw_71 : (Jvm.Cond.lays "SafetyTrees$Nodes" "SafetyTrees$Nodes" "gates" "I") ∈ tblG := tg_r (i := 71) (by decide +kernel) (by decide +kernel)
theorem tw_73 : (Jvm.Cond.laysFinal "SafetyTrees$Nodes" "SafetyTrees$Nodes" "kind" "[I") ∈ tblG := tg_r (i := 73) (by decide +kernel) (by decide +kernel)
theorem tw_75 : (Jvm.Cond.laysFinal "SafetyTrees$Nodes" "SafetyTrees$Nodes" "votes" "[I") ∈ tblG := tg_r (i := 75) (by decide +kernel) (by decide +kernel)
theorem tw_77 : (Jvm.Cond.laysFinal "SafetyTrees$Nodes" "SafetyTrees$Nodes" "up" "[J") ∈ tblG := tg_r (i := 77) (by decide +kernel) (by decide +kernel)
theorem tw_79 : (Jvm.Cond.laysFinal "SafetyTrees$Nodes" "SafetyTrees$Nodes" "down" "[J") ∈ tblG := tg_r (i := 79) (by decide +kernel) (by decide +kernel)
theorem tw_81 : (Jvm.Cond.laysFinal "SafetyTrees$Nodes" "SafetyTrees$Nodes" "eventNumber" "[I") ∈ tblG := tg_r (i := 81) (by decide +kernel) (by decide +kernel)
theorem tw_83 : (Jvm.Cond.laysFinal "SafetyTrees$Nodes" "SafetyTrees$Nodes" "belowRow" "[[I") ∈ tblG := tg_r (i := 83) (by decide +kernel) (by decide +kernel)
theorem tw_85 : (Jvm.Cond.laysFinal "SafetyTrees$Nodes" "SafetyTrees$Nodes" "belowCount" "[I") ∈ tblG := tg_r (i := 85) (by decide +kernel) (by decide +kernel)
theorem tw_87 : (Jvm.Cond.laysFinal "SafetyTrees$Nodes" "SafetyTrees$Nodes" "nodesUnder" "[J") ∈ tblG := tg_r (i := 87) (by decide +kernel) (by decide +kernel)
theorem tw_89 : (Jvm.Cond.laysFinal "SafetyTrees$Nodes" "SafetyTrees$Nodes" "eventsUnder" "[I") ∈ tblG := tg_r (i := 89) (by decide +kernel) (by decide +kernel)
theorem tw_91 : (Jvm.Cond.laysFinal "SafetyTrees$Nodes" "SafetyTrees$Nodes" "line" "[I") ∈ tblG := tg_r (i := 91) (by decide +kernel) (by decide +kernel)
theorem tw_94 : (Jvm.Cond.arrayClass Jvm.ClassFile.FieldType.int) ∈ tblG := tg_r (i := 94) (by decide +kernel) (by decide +kernel)
theorem tw_95 : (Jvm.Cond.arrayClass Jvm.ClassFile.FieldType.long) ∈ tblG := tg_r (i := 95) (by decide +kernel) (by decide +kernel)
theorem tw_96 : (Jvm.Cond.classLink "SafetyTrees" (16 : Nat) "SafetyTrees$Truth") ∈ tblG := tg_r (i := 96) (by decide +kernel) (by decide +kernel)
theorem tw_97 : (Jvm.Cond.instantiable "SafetyTrees$Truth" (2 : Nat)) ∈ tblG := tg_r (i := 97) (by decide +kernel) (by decide +kernel)
theorem tw_98 : (Jvm.Cond.methodLink "SafetyTrees" (18 : Nat) ({ cls := "SafetyTrees$Truth", name := "<init>", desc := "(LSafetyTrees$Nodes;)V" } : Jvm.MethodName)) ∈ tblG := tg_r (i := 98) (by decide +kernel) (by decide +kernel)
theorem tw_99 : (Jvm.Cond.instanceMethod ({ cls := "SafetyTrees$Truth", name := "<init>", desc := "(LSafetyTrees$Nodes;)V" } : Jvm.MethodName)) ∈ tblG := tg_r (i := 99) (by decide +kernel) (by decide +kernel)
theorem tw_100 : (Jvm.Cond.code ({ cls := "SafetyTrees$Truth", name := "<init>", desc := "(LSafetyTrees$Nodes;)V" } : Jvm.MethodName) prog_8_method_1_code (2 : Nat) (Option.none : Option Jvm.ClassFile.FieldType)) ∈ tblG := tg_r (i := 100) (by decide +kernel) (by decide +kernel)
theorem tw_101 : (Jvm.Cond.methodLink "SafetyTrees$Truth" (3 : Nat) ({ cls := "java/lang/Object", name := "<init>", desc := "()V" } : Jvm.MethodName)) ∈ tblG := tg_r (i := 101) (by decide +kernel) (by decide +kernel)
theorem tw_102 : (Jvm.Cond.classLink "SafetyTrees$Truth" (9 : Nat) "[[J") ∈ tblG := tg_r (i := 102) (by decide +kernel) (by decide +kernel)
theorem tw_104 : (Jvm.Cond.fieldLink "SafetyTrees$Truth" (16 : Nat) "SafetyTrees$Truth" "nodes" "LSafetyTrees$Nodes;") ∈ tblG := tg_r (i := 104) (by decide +kernel) (by decide +kernel)
theorem tw_105 : (Jvm.Cond.fieldLink "SafetyTrees$Truth" (11 : Nat) "SafetyTrees$Truth" "table" "[[J") ∈ tblG := tg_r (i := 105) (by decide +kernel) (by decide +kernel)
theorem tw_106 : (Jvm.Cond.laysFinal "SafetyTrees$Truth" "SafetyTrees$Truth" "nodes" "LSafetyTrees$Nodes;") ∈ tblG := tg_r (i := 106) (by decide +kernel) (by decide +kernel)
theorem tw_108 : (Jvm.Cond.laysFinal "SafetyTrees$Truth" "SafetyTrees$Truth" "table" "[[J") ∈ tblG := tg_r (i := 108) (by decide +kernel) (by decide +kernel)
theorem tw_111 : (Jvm.Cond.classLink "SafetyTrees" (25 : Nat) "SafetyTrees$Causes") ∈ tblG := tg_r (i := 111) (by decide +kernel) (by decide +kernel)
theorem tw_112 : (Jvm.Cond.instantiable "SafetyTrees$Causes" (4 : Nat)) ∈ tblG := tg_r (i := 112) (by decide +kernel) (by decide +kernel)
theorem tw_113 : (Jvm.Cond.methodLinkNest "SafetyTrees" (27 : Nat) ({ cls := "SafetyTrees$Causes", name := "<init>", desc := "()V" } : Jvm.MethodName) "SafetyTrees") ∈ tblN := tn_r (i := 113) (by decide +kernel) (by decide +kernel)
theorem tw_114 : (Jvm.Cond.instanceMethod ({ cls := "SafetyTrees$Causes", name := "<init>", desc := "()V" } : Jvm.MethodName)) ∈ tblG := tg_r (i := 114) (by decide +kernel) (by decide +kernel)
theorem tw_115 : (Jvm.Cond.code ({ cls := "SafetyTrees$Causes", name := "<init>", desc := "()V" } : Jvm.MethodName) prog_2_method_1_code (1 : Nat) (Option.none : Option Jvm.ClassFile.FieldType)) ∈ tblG := tg_r (i := 115) (by decide +kernel) (by decide +kernel)
theorem tw_116 : (Jvm.Cond.methodLink "SafetyTrees$Causes" (3 : Nat) ({ cls := "java/lang/Object", name := "<init>", desc := "()V" } : Jvm.MethodName)) ∈ tblG := tg_r (i := 116) (by decide +kernel) (by decide +kernel)
theorem tw_117 : (Jvm.Cond.fieldLink "SafetyTrees$Causes" (9 : Nat) "SafetyTrees$Causes" "count" "I") ∈ tblG := tg_r (i := 117) (by decide +kernel) (by decide +kernel)
theorem tw_118 : (Jvm.Cond.fieldLinkNest "SafetyTrees$Odds" (74 : Nat) "SafetyTrees$Causes" "count" "I" "SafetyTrees") ∈ tblN := tn_r (i := 118) (by decide +kernel) (by decide +kernel)
theorem tw_119 : (Jvm.Cond.fieldLinkNest "SafetyTrees" (152 : Nat) "SafetyTrees$Causes" "count" "I" "SafetyTrees") ∈ tblN := tn_r (i := 119) (by decide +kernel) (by decide +kernel)
theorem tw_120 : (Jvm.Cond.fieldLink "SafetyTrees$Causes" (15 : Nat) "SafetyTrees$Causes" "pair" "[I") ∈ tblG := tg_r (i := 120) (by decide +kernel) (by decide +kernel)
theorem tw_121 : (Jvm.Cond.fieldLinkNest "SafetyTrees$Odds" (82 : Nat) "SafetyTrees$Causes" "pair" "[I" "SafetyTrees") ∈ tblN := tn_r (i := 121) (by decide +kernel) (by decide +kernel)
theorem tw_122 : (Jvm.Cond.fieldLink "SafetyTrees$Causes" (19 : Nat) "SafetyTrees$Causes" "up" "[J") ∈ tblG := tg_r (i := 122) (by decide +kernel) (by decide +kernel)
theorem tw_123 : (Jvm.Cond.fieldLinkNest "SafetyTrees$Odds" (85 : Nat) "SafetyTrees$Causes" "up" "[J" "SafetyTrees") ∈ tblN := tn_r (i := 123) (by decide +kernel) (by decide +kernel)
theorem tw_124 : (Jvm.Cond.fieldLink "SafetyTrees$Causes" (23 : Nat) "SafetyTrees$Causes" "down" "[J") ∈ tblG := tg_r (i := 124) (by decide +kernel) (by decide +kernel)
theorem tw_125 : (Jvm.Cond.fieldLinkNest "SafetyTrees$Odds" (88 : Nat) "SafetyTrees$Causes" "down" "[J" "SafetyTrees") ∈ tblN := tn_r (i := 125) (by decide +kernel) (by decide +kernel)
theorem tw_126 : (Jvm.Cond.lays "SafetyTrees$Causes" "SafetyTrees$Causes" "count" "I") ∈ tblG := tg_r (i := 126) (by decide +kernel) (by decide +kernel)
theorem tw_128 : (Jvm.Cond.laysFinal "SafetyTrees$Causes" "SafetyTrees$Causes" "pair" "[I") ∈ tblG := tg_r (i := 128) (by decide +kernel) (by decide +kernel)
theorem tw_130 : (Jvm.Cond.laysFinal "SafetyTrees$Causes" "SafetyTrees$Causes" "up" "[J") ∈ tblG := tg_r (i := 130) (by decide +kernel) (by decide +kernel)
theorem tw_132 : (Jvm.Cond.laysFinal "SafetyTrees$Causes" "SafetyTrees$Causes" "down" "[J") ∈ tblG := tg_r (i := 132) (by decide +kernel) (by decide +kernel)
theorem tw_135 : (Jvm.Cond.classLink "SafetyTrees" (32 : Nat) "SafetyTrees$Cuts") ∈ tblG := tg_r (i := 135) (by decide +kernel) (by decide +kernel)
theorem tw_136 : (Jvm.Cond.instantiable "SafetyTrees$Cuts" (3 : Nat)) ∈ tblG := tg_r (i := 136) (by decide +kernel) (by decide +kernel)
theorem tw_137 : (Jvm.Cond.methodLinkNest "SafetyTrees" (34 : Nat) ({ cls := "SafetyTrees$Cuts", name := "<init>", desc := "()V" } : Jvm.MethodName) "SafetyTrees") ∈ tblN := tn_r (i := 137) (by decide +kernel) (by decide +kernel)
theorem tw_138 : (Jvm.Cond.instanceMethod ({ cls := "SafetyTrees$Cuts", name := "<init>", desc := "()V" } : Jvm.MethodName)) ∈ tblG := tg_r (i := 138) (by decide +kernel) (by decide +kernel)
theorem tw_139 : (Jvm.Cond.code ({ cls := "SafetyTrees$Cuts", name := "<init>", desc := "()V" } : Jvm.MethodName) prog_3_method_1_code (1 : Nat) (Option.none : Option Jvm.ClassFile.FieldType)) ∈ tblG := tg_r (i := 139) (by decide +kernel) (by decide +kernel)
theorem tw_140 : (Jvm.Cond.methodLink "SafetyTrees$Cuts" (3 : Nat) ({ cls := "java/lang/Object", name := "<init>", desc := "()V" } : Jvm.MethodName)) ∈ tblG := tg_r (i := 140) (by decide +kernel) (by decide +kernel)
theorem tw_141 : (Jvm.Cond.fieldLink "SafetyTrees$Cuts" (9 : Nat) "SafetyTrees$Cuts" "count" "I") ∈ tblG := tg_r (i := 141) (by decide +kernel) (by decide +kernel)
theorem tw_142 : (Jvm.Cond.fieldLink "SafetyTrees$Cuts" (15 : Nat) "SafetyTrees$Cuts" "sets" "[I") ∈ tblG := tg_r (i := 142) (by decide +kernel) (by decide +kernel)
theorem tw_143 : (Jvm.Cond.fieldLink "SafetyTrees$Cuts" (19 : Nat) "SafetyTrees$Cuts" "found" "[I") ∈ tblG := tg_r (i := 143) (by decide +kernel) (by decide +kernel)
theorem tw_144 : (Jvm.Cond.lays "SafetyTrees$Cuts" "SafetyTrees$Cuts" "count" "I") ∈ tblG := tg_r (i := 144) (by decide +kernel) (by decide +kernel)
theorem tw_146 : (Jvm.Cond.laysFinal "SafetyTrees$Cuts" "SafetyTrees$Cuts" "sets" "[I") ∈ tblG := tg_r (i := 146) (by decide +kernel) (by decide +kernel)
theorem tw_148 : (Jvm.Cond.laysFinal "SafetyTrees$Cuts" "SafetyTrees$Cuts" "found" "[I") ∈ tblG := tg_r (i := 148) (by decide +kernel) (by decide +kernel)
theorem tw_151 : (Jvm.Cond.classLink "SafetyTrees" (39 : Nat) "SafetyTrees$Odds") ∈ tblG := tg_r (i := 151) (by decide +kernel) (by decide +kernel)
theorem tw_152 : (Jvm.Cond.instantiable "SafetyTrees$Odds" (7 : Nat)) ∈ tblG := tg_r (i := 152) (by decide +kernel) (by decide +kernel)
theorem tw_153 : (Jvm.Cond.methodLink "SafetyTrees" (41 : Nat) ({ cls := "SafetyTrees$Odds", name := "<init>", desc := "(LSafetyTrees$Nodes;LSafetyTrees$Truth;LSafetyTrees$Causes;)V" } : Jvm.MethodName)) ∈ tblG := tg_r (i := 153) (by decide +kernel) (by decide +kernel)
theorem tw_154 : (Jvm.Cond.instanceMethod ({ cls := "SafetyTrees$Odds", name := "<init>", desc := "(LSafetyTrees$Nodes;LSafetyTrees$Truth;LSafetyTrees$Causes;)V" } : Jvm.MethodName)) ∈ tblG := tg_r (i := 154) (by decide +kernel) (by decide +kernel)
theorem tw_155 : (Jvm.Cond.code ({ cls := "SafetyTrees$Odds", name := "<init>", desc := "(LSafetyTrees$Nodes;LSafetyTrees$Truth;LSafetyTrees$Causes;)V" } : Jvm.MethodName) prog_7_method_1_code (4 : Nat) (Option.none : Option Jvm.ClassFile.FieldType)) ∈ tblG := tg_r (i := 155) (by decide +kernel) (by decide +kernel)
theorem tw_156 : (Jvm.Cond.methodLink "SafetyTrees$Odds" (3 : Nat) ({ cls := "java/lang/Object", name := "<init>", desc := "()V" } : Jvm.MethodName)) ∈ tblG := tg_r (i := 156) (by decide +kernel) (by decide +kernel)
theorem tw_157 : (Jvm.Cond.classLink "SafetyTrees$Odds" (9 : Nat) "SafetyTrees$Fraction") ∈ tblG := tg_r (i := 157) (by decide +kernel) (by decide +kernel)
theorem tw_158 : (Jvm.Cond.instantiable "SafetyTrees$Fraction" (2 : Nat)) ∈ tblG := tg_r (i := 158) (by decide +kernel) (by decide +kernel)
theorem tw_159 : (Jvm.Cond.methodLinkNest "SafetyTrees$Odds" (11 : Nat) ({ cls := "SafetyTrees$Fraction", name := "<init>", desc := "()V" } : Jvm.MethodName) "SafetyTrees") ∈ tblN := tn_r (i := 159) (by decide +kernel) (by decide +kernel)
theorem tw_160 : (Jvm.Cond.instanceMethod ({ cls := "SafetyTrees$Fraction", name := "<init>", desc := "()V" } : Jvm.MethodName)) ∈ tblG := tg_r (i := 160) (by decide +kernel) (by decide +kernel)
theorem tw_161 : (Jvm.Cond.code ({ cls := "SafetyTrees$Fraction", name := "<init>", desc := "()V" } : Jvm.MethodName) prog_4_method_1_code (1 : Nat) (Option.none : Option Jvm.ClassFile.FieldType)) ∈ tblG := tg_r (i := 161) (by decide +kernel) (by decide +kernel)
theorem tw_162 : (Jvm.Cond.methodLink "SafetyTrees$Fraction" (1 : Nat) ({ cls := "java/lang/Object", name := "<init>", desc := "()V" } : Jvm.MethodName)) ∈ tblG := tg_r (i := 162) (by decide +kernel) (by decide +kernel)
theorem tw_163 : (Jvm.Cond.fieldLink "SafetyTrees$Fraction" (7 : Nat) "SafetyTrees$Fraction" "above" "J") ∈ tblG := tg_r (i := 163) (by decide +kernel) (by decide +kernel)
theorem tw_164 : (Jvm.Cond.fieldLink "SafetyTrees$Fraction" (13 : Nat) "SafetyTrees$Fraction" "beneath" "J") ∈ tblG := tg_r (i := 164) (by decide +kernel) (by decide +kernel)
theorem tw_165 : (Jvm.Cond.lays "SafetyTrees$Fraction" "SafetyTrees$Fraction" "above" "J") ∈ tblG := tg_r (i := 165) (by decide +kernel) (by decide +kernel)
theorem tw_167 : (Jvm.Cond.lays "SafetyTrees$Fraction" "SafetyTrees$Fraction" "beneath" "J") ∈ tblG := tg_r (i := 167) (by decide +kernel) (by decide +kernel)
theorem tw_170 : (Jvm.Cond.fieldLink "SafetyTrees$Odds" (29 : Nat) "SafetyTrees$Odds" "nodes" "LSafetyTrees$Nodes;") ∈ tblG := tg_r (i := 170) (by decide +kernel) (by decide +kernel)
theorem tw_171 : (Jvm.Cond.fieldLink "SafetyTrees$Odds" (33 : Nat) "SafetyTrees$Odds" "truth" "LSafetyTrees$Truth;") ∈ tblG := tg_r (i := 171) (by decide +kernel) (by decide +kernel)
theorem tw_172 : (Jvm.Cond.fieldLink "SafetyTrees$Odds" (37 : Nat) "SafetyTrees$Odds" "causes" "LSafetyTrees$Causes;") ∈ tblG := tg_r (i := 172) (by decide +kernel) (by decide +kernel)
theorem tw_173 : (Jvm.Cond.fieldLink "SafetyTrees$Odds" (12 : Nat) "SafetyTrees$Odds" "result" "LSafetyTrees$Fraction;") ∈ tblG := tg_r (i := 173) (by decide +kernel) (by decide +kernel)
theorem tw_174 : (Jvm.Cond.fieldLinkNest "SafetyTrees" (138 : Nat) "SafetyTrees$Odds" "result" "LSafetyTrees$Fraction;" "SafetyTrees") ∈ tblN := tn_r (i := 174) (by decide +kernel) (by decide +kernel)
theorem tw_175 : (Jvm.Cond.fieldLink "SafetyTrees$Odds" (18 : Nat) "SafetyTrees$Odds" "isExact" "Z") ∈ tblG := tg_r (i := 175) (by decide +kernel) (by decide +kernel)
theorem tw_176 : (Jvm.Cond.fieldLinkNest "SafetyTrees" (145 : Nat) "SafetyTrees$Odds" "isExact" "Z" "SafetyTrees") ∈ tblN := tn_r (i := 176) (by decide +kernel) (by decide +kernel)
theorem tw_177 : (Jvm.Cond.fieldLink "SafetyTrees$Odds" (22 : Nat) "SafetyTrees$Odds" "weights" "[J") ∈ tblG := tg_r (i := 177) (by decide +kernel) (by decide +kernel)
theorem tw_178 : (Jvm.Cond.fieldLink "SafetyTrees$Odds" (26 : Nat) "SafetyTrees$Odds" "bounds" "[J") ∈ tblG := tg_r (i := 178) (by decide +kernel) (by decide +kernel)
theorem tw_179 : (Jvm.Cond.laysFinal "SafetyTrees$Odds" "SafetyTrees$Odds" "nodes" "LSafetyTrees$Nodes;") ∈ tblG := tg_r (i := 179) (by decide +kernel) (by decide +kernel)
theorem tw_181 : (Jvm.Cond.laysFinal "SafetyTrees$Odds" "SafetyTrees$Odds" "truth" "LSafetyTrees$Truth;") ∈ tblG := tg_r (i := 181) (by decide +kernel) (by decide +kernel)
theorem tw_183 : (Jvm.Cond.laysFinal "SafetyTrees$Odds" "SafetyTrees$Odds" "causes" "LSafetyTrees$Causes;") ∈ tblG := tg_r (i := 183) (by decide +kernel) (by decide +kernel)
theorem tw_185 : (Jvm.Cond.laysFinal "SafetyTrees$Odds" "SafetyTrees$Odds" "result" "LSafetyTrees$Fraction;") ∈ tblG := tg_r (i := 185) (by decide +kernel) (by decide +kernel)
theorem tw_187 : (Jvm.Cond.lays "SafetyTrees$Odds" "SafetyTrees$Odds" "isExact" "Z") ∈ tblG := tg_r (i := 187) (by decide +kernel) (by decide +kernel)
theorem tw_189 : (Jvm.Cond.laysFinal "SafetyTrees$Odds" "SafetyTrees$Odds" "weights" "[J") ∈ tblG := tg_r (i := 189) (by decide +kernel) (by decide +kernel)
theorem tw_191 : (Jvm.Cond.laysFinal "SafetyTrees$Odds" "SafetyTrees$Odds" "bounds" "[J") ∈ tblG := tg_r (i := 191) (by decide +kernel) (by decide +kernel)
theorem tw_194 : (Jvm.Cond.classLink "SafetyTrees" (48 : Nat) "SafetyTrees$Goals") ∈ tblG := tg_r (i := 194) (by decide +kernel) (by decide +kernel)
theorem tw_195 : (Jvm.Cond.instantiable "SafetyTrees$Goals" (6 : Nat)) ∈ tblG := tg_r (i := 195) (by decide +kernel) (by decide +kernel)
theorem tw_196 : (Jvm.Cond.methodLinkNest "SafetyTrees" (50 : Nat) ({ cls := "SafetyTrees$Goals", name := "<init>", desc := "()V" } : Jvm.MethodName) "SafetyTrees") ∈ tblN := tn_r (i := 196) (by decide +kernel) (by decide +kernel)
theorem tw_197 : (Jvm.Cond.instanceMethod ({ cls := "SafetyTrees$Goals", name := "<init>", desc := "()V" } : Jvm.MethodName)) ∈ tblG := tg_r (i := 197) (by decide +kernel) (by decide +kernel)
theorem tw_198 : (Jvm.Cond.code ({ cls := "SafetyTrees$Goals", name := "<init>", desc := "()V" } : Jvm.MethodName) prog_5_method_1_code (1 : Nat) (Option.none : Option Jvm.ClassFile.FieldType)) ∈ tblG := tg_r (i := 198) (by decide +kernel) (by decide +kernel)
theorem tw_199 : (Jvm.Cond.methodLink "SafetyTrees$Goals" (3 : Nat) ({ cls := "java/lang/Object", name := "<init>", desc := "()V" } : Jvm.MethodName)) ∈ tblG := tg_r (i := 199) (by decide +kernel) (by decide +kernel)
theorem tw_200 : (Jvm.Cond.fieldLink "SafetyTrees$Goals" (9 : Nat) "SafetyTrees$Goals" "count" "I") ∈ tblG := tg_r (i := 200) (by decide +kernel) (by decide +kernel)
theorem tw_201 : (Jvm.Cond.fieldLinkNest "SafetyTrees" (163 : Nat) "SafetyTrees$Goals" "count" "I" "SafetyTrees") ∈ tblN := tn_r (i := 201) (by decide +kernel) (by decide +kernel)
theorem tw_202 : (Jvm.Cond.fieldLink "SafetyTrees$Goals" (15 : Nat) "SafetyTrees$Goals" "rows" "I") ∈ tblG := tg_r (i := 202) (by decide +kernel) (by decide +kernel)
theorem tw_203 : (Jvm.Cond.fieldLinkNest "SafetyTrees" (169 : Nat) "SafetyTrees$Goals" "rows" "I" "SafetyTrees") ∈ tblN := tn_r (i := 203) (by decide +kernel) (by decide +kernel)
theorem tw_204 : (Jvm.Cond.fieldLink "SafetyTrees$Goals" (18 : Nat) "SafetyTrees$Goals" "classOf" "[I") ∈ tblG := tg_r (i := 204) (by decide +kernel) (by decide +kernel)
theorem tw_205 : (Jvm.Cond.fieldLink "SafetyTrees$Goals" (22 : Nat) "SafetyTrees$Goals" "goalOf" "[I") ∈ tblG := tg_r (i := 205) (by decide +kernel) (by decide +kernel)
theorem tw_206 : (Jvm.Cond.fieldLink "SafetyTrees$Goals" (25 : Nat) "SafetyTrees$Goals" "partOf" "[I") ∈ tblG := tg_r (i := 206) (by decide +kernel) (by decide +kernel)
theorem tw_207 : (Jvm.Cond.fieldLink "SafetyTrees$Goals" (28 : Nat) "SafetyTrees$Goals" "testOf" "[I") ∈ tblG := tg_r (i := 207) (by decide +kernel) (by decide +kernel)
theorem tw_208 : (Jvm.Cond.lays "SafetyTrees$Goals" "SafetyTrees$Goals" "count" "I") ∈ tblG := tg_r (i := 208) (by decide +kernel) (by decide +kernel)
theorem tw_210 : (Jvm.Cond.lays "SafetyTrees$Goals" "SafetyTrees$Goals" "rows" "I") ∈ tblG := tg_r (i := 210) (by decide +kernel) (by decide +kernel)
theorem tw_212 : (Jvm.Cond.laysFinal "SafetyTrees$Goals" "SafetyTrees$Goals" "classOf" "[I") ∈ tblG := tg_r (i := 212) (by decide +kernel) (by decide +kernel)
theorem tw_214 : (Jvm.Cond.laysFinal "SafetyTrees$Goals" "SafetyTrees$Goals" "goalOf" "[I") ∈ tblG := tg_r (i := 214) (by decide +kernel) (by decide +kernel)
theorem tw_216 : (Jvm.Cond.laysFinal "SafetyTrees$Goals" "SafetyTrees$Goals" "partOf" "[I") ∈ tblG := tg_r (i := 216) (by decide +kernel) (by decide +kernel)
theorem tw_218 : (Jvm.Cond.laysFinal "SafetyTrees$Goals" "SafetyTrees$Goals" "testOf" "[I") ∈ tblG := tg_r (i := 218) (by decide +kernel) (by decide +kernel)
theorem tw_221 : (Jvm.Cond.classLink "SafetyTrees" (55 : Nat) "SafetyTrees$Fraction") ∈ tblG := tg_r (i := 221) (by decide +kernel) (by decide +kernel)
theorem tw_222 : (Jvm.Cond.methodLinkNest "SafetyTrees" (57 : Nat) ({ cls := "SafetyTrees$Fraction", name := "<init>", desc := "()V" } : Jvm.MethodName) "SafetyTrees") ∈ tblN := tn_r (i := 222) (by decide +kernel) (by decide +kernel)
theorem tw_223 : (Jvm.Cond.fieldLink "SafetyTrees" (12 : Nat) "SafetyTrees" "nodes" "LSafetyTrees$Nodes;") ∈ tblG := tg_r (i := 223) (by decide +kernel) (by decide +kernel)
theorem tw_224 : (Jvm.Cond.fieldLink "SafetyTrees" (21 : Nat) "SafetyTrees" "truth" "LSafetyTrees$Truth;") ∈ tblG := tg_r (i := 224) (by decide +kernel) (by decide +kernel)
theorem tw_225 : (Jvm.Cond.fieldLink "SafetyTrees" (28 : Nat) "SafetyTrees" "causes" "LSafetyTrees$Causes;") ∈ tblG := tg_r (i := 225) (by decide +kernel) (by decide +kernel)
theorem tw_226 : (Jvm.Cond.fieldLink "SafetyTrees" (35 : Nat) "SafetyTrees" "told" "LSafetyTrees$Cuts;") ∈ tblG := tg_r (i := 226) (by decide +kernel) (by decide +kernel)
theorem tw_227 : (Jvm.Cond.fieldLink "SafetyTrees" (44 : Nat) "SafetyTrees" "odds" "LSafetyTrees$Odds;") ∈ tblG := tg_r (i := 227) (by decide +kernel) (by decide +kernel)
theorem tw_228 : (Jvm.Cond.fieldLink "SafetyTrees" (51 : Nat) "SafetyTrees" "goals" "LSafetyTrees$Goals;") ∈ tblG := tg_r (i := 228) (by decide +kernel) (by decide +kernel)
theorem tw_229 : (Jvm.Cond.fieldLink "SafetyTrees" (58 : Nat) "SafetyTrees" "share" "LSafetyTrees$Fraction;") ∈ tblG := tg_r (i := 229) (by decide +kernel) (by decide +kernel)
theorem tw_230 : (Jvm.Cond.laysFinal "SafetyTrees" "SafetyTrees" "nodes" "LSafetyTrees$Nodes;") ∈ tblG := tg_r (i := 230) (by decide +kernel) (by decide +kernel)
theorem tw_232 : (Jvm.Cond.laysFinal "SafetyTrees" "SafetyTrees" "truth" "LSafetyTrees$Truth;") ∈ tblG := tg_r (i := 232) (by decide +kernel) (by decide +kernel)
theorem tw_234 : (Jvm.Cond.laysFinal "SafetyTrees" "SafetyTrees" "causes" "LSafetyTrees$Causes;") ∈ tblG := tg_r (i := 234) (by decide +kernel) (by decide +kernel)
theorem tw_236 : (Jvm.Cond.laysFinal "SafetyTrees" "SafetyTrees" "told" "LSafetyTrees$Cuts;") ∈ tblG := tg_r (i := 236) (by decide +kernel) (by decide +kernel)
theorem tw_238 : (Jvm.Cond.laysFinal "SafetyTrees" "SafetyTrees" "odds" "LSafetyTrees$Odds;") ∈ tblG := tg_r (i := 238) (by decide +kernel) (by decide +kernel)
theorem tw_240 : (Jvm.Cond.laysFinal "SafetyTrees" "SafetyTrees" "goals" "LSafetyTrees$Goals;") ∈ tblG := tg_r (i := 240) (by decide +kernel) (by decide +kernel)
theorem tw_242 : (Jvm.Cond.laysFinal "SafetyTrees" "SafetyTrees" "share" "LSafetyTrees$Fraction;") ∈ tblG := tg_r (i := 242) (by decide +kernel) (by decide +kernel)
theorem tw_245 : (Jvm.Cond.methodLink "SafetyTreesLaw" (21 : Nat) ({ cls := "SafetyTrees", name := "event", desc := "(JJ)I" } : Jvm.MethodName)) ∈ tblG := tg_r (i := 245) (by decide +kernel) (by decide +kernel)
theorem tw_246 : (Jvm.Cond.instanceMethod ({ cls := "SafetyTrees", name := "event", desc := "(JJ)I" } : Jvm.MethodName)) ∈ tblG := tg_r (i := 246) (by decide +kernel) (by decide +kernel)
theorem tw_247 : (Jvm.Cond.selects "SafetyTrees" ({ cls := "SafetyTrees", name := "event", desc := "(JJ)I" } : Jvm.MethodName) ({ cls := "SafetyTrees", name := "event", desc := "(JJ)I" } : Jvm.MethodName)) ∈ tblG := tg_r (i := 247) (by decide +kernel) (by decide +kernel)
theorem tw_248 : (Jvm.Cond.code ({ cls := "SafetyTrees", name := "event", desc := "(JJ)I" } : Jvm.MethodName) prog_1_method_2_code (6 : Nat) (Option.some Jvm.ClassFile.FieldType.int)) ∈ tblG := tg_r (i := 248) (by decide +kernel) (by decide +kernel)
theorem tw_249 : (Jvm.Cond.methodLink "SafetyTrees" (62 : Nat) ({ cls := "SafetyTrees", name := "isDown", desc := "(J)Z" } : Jvm.MethodName)) ∈ tblG := tg_r (i := 249) (by decide +kernel) (by decide +kernel)
theorem tw_250 : (Jvm.Cond.static ({ cls := "SafetyTrees", name := "isDown", desc := "(J)Z" } : Jvm.MethodName)) ∈ tblG := tg_r (i := 250) (by decide +kernel) (by decide +kernel)
theorem tw_251 : (Jvm.Cond.code ({ cls := "SafetyTrees", name := "isDown", desc := "(J)Z" } : Jvm.MethodName) prog_1_method_17_code (2 : Nat) (Option.some Jvm.ClassFile.FieldType.boolean)) ∈ tblG := tg_r (i := 251) (by decide +kernel) (by decide +kernel)
theorem tw_252 : (Jvm.Cond.constantLong "SafetyTrees" (199 : Nat) (10 : Int64)) ∈ tblG := tg_r (i := 252) (by decide +kernel) (by decide +kernel)
theorem tw_253 : (Jvm.Cond.methodLink "SafetyTrees" (70 : Nat) ({ cls := "SafetyTrees$Nodes", name := "addEvent", desc := "(JJ)I" } : Jvm.MethodName)) ∈ tblG := tg_r (i := 253) (by decide +kernel) (by decide +kernel)
theorem tw_254 : (Jvm.Cond.instanceMethod ({ cls := "SafetyTrees$Nodes", name := "addEvent", desc := "(JJ)I" } : Jvm.MethodName)) ∈ tblG := tg_r (i := 254) (by decide +kernel) (by decide +kernel)
theorem tw_255 : (Jvm.Cond.selects "SafetyTrees$Nodes" ({ cls := "SafetyTrees$Nodes", name := "addEvent", desc := "(JJ)I" } : Jvm.MethodName) ({ cls := "SafetyTrees$Nodes", name := "addEvent", desc := "(JJ)I" } : Jvm.MethodName)) ∈ tblG := tg_r (i := 255) (by decide +kernel) (by decide +kernel)
theorem tw_256 : (Jvm.Cond.code ({ cls := "SafetyTrees$Nodes", name := "addEvent", desc := "(JJ)I" } : Jvm.MethodName) prog_6_method_5_code (5 : Nat) (Option.some Jvm.ClassFile.FieldType.int)) ∈ tblG := tg_r (i := 256) (by decide +kernel) (by decide +kernel)
theorem tw_257 : (Jvm.Cond.methodLink "SafetyTrees$Nodes" (59 : Nat) ({ cls := "SafetyTrees$Nodes", name := "eventBit", desc := "(I)I" } : Jvm.MethodName)) ∈ tblG := tg_r (i := 257) (by decide +kernel) (by decide +kernel)
theorem tw_258 : (Jvm.Cond.static ({ cls := "SafetyTrees$Nodes", name := "eventBit", desc := "(I)I" } : Jvm.MethodName)) ∈ tblG := tg_r (i := 258) (by decide +kernel) (by decide +kernel)
theorem tw_259 : (Jvm.Cond.code ({ cls := "SafetyTrees$Nodes", name := "eventBit", desc := "(I)I" } : Jvm.MethodName) prog_6_method_7_code (1 : Nat) (Option.some Jvm.ClassFile.FieldType.int)) ∈ tblG := tg_r (i := 259) (by decide +kernel) (by decide +kernel)
theorem tw_260 : (Jvm.Cond.methodLink "SafetyTrees" (74 : Nat) ({ cls := "SafetyTrees$Truth", name := "fillEvent", desc := "(I)V" } : Jvm.MethodName)) ∈ tblG := tg_r (i := 260) (by decide +kernel) (by decide +kernel)
theorem tw_261 : (Jvm.Cond.instanceMethod ({ cls := "SafetyTrees$Truth", name := "fillEvent", desc := "(I)V" } : Jvm.MethodName)) ∈ tblG := tg_r (i := 261) (by decide +kernel) (by decide +kernel)
theorem tw_262 : (Jvm.Cond.selects "SafetyTrees$Truth" ({ cls := "SafetyTrees$Truth", name := "fillEvent", desc := "(I)V" } : Jvm.MethodName) ({ cls := "SafetyTrees$Truth", name := "fillEvent", desc := "(I)V" } : Jvm.MethodName)) ∈ tblG := tg_r (i := 262) (by decide +kernel) (by decide +kernel)
theorem tw_263 : (Jvm.Cond.code ({ cls := "SafetyTrees$Truth", name := "fillEvent", desc := "(I)V" } : Jvm.MethodName) prog_8_method_2_code (4 : Nat) (Option.none : Option Jvm.ClassFile.FieldType)) ∈ tblG := tg_r (i := 263) (by decide +kernel) (by decide +kernel)
theorem tw_264 : (Jvm.Cond.methodLink "SafetyTrees$Truth" (26 : Nat) ({ cls := "SafetyTrees$Truth", name := "eventWord", desc := "(II)J" } : Jvm.MethodName)) ∈ tblG := tg_r (i := 264) (by decide +kernel) (by decide +kernel)
theorem tw_265 : (Jvm.Cond.static ({ cls := "SafetyTrees$Truth", name := "eventWord", desc := "(II)J" } : Jvm.MethodName)) ∈ tblG := tg_r (i := 265) (by decide +kernel) (by decide +kernel)
theorem tw_266 : (Jvm.Cond.code ({ cls := "SafetyTrees$Truth", name := "eventWord", desc := "(II)J" } : Jvm.MethodName) prog_8_method_3_code (3 : Nat) (Option.some Jvm.ClassFile.FieldType.long)) ∈ tblG := tg_r (i := 266) (by decide +kernel) (by decide +kernel)
theorem tw_267 : (Jvm.Cond.fieldLink "SafetyTrees$Truth" (30 : Nat) "SafetyTrees$Truth" "PATTERNS" "[J") ∈ tblG := tg_r (i := 267) (by decide +kernel) (by decide +kernel)
theorem tw_269 : (Jvm.Cond.constantLong "SafetyTrees$Truth" (34 : Nat) (-1 : Int64)) ∈ tblG := tg_r (i := 269) (by decide +kernel) (by decide +kernel)
theorem tw_270 : (Jvm.Cond.methodLink "SafetyTreesLaw" (26 : Nat) ({ cls := "SafetyTrees", name := "gate", desc := "(II)I" } : Jvm.MethodName)) ∈ tblG := tg_r (i := 270) (by decide +kernel) (by decide +kernel)
theorem tw_271 : (Jvm.Cond.instanceMethod ({ cls := "SafetyTrees", name := "gate", desc := "(II)I" } : Jvm.MethodName)) ∈ tblG := tg_r (i := 271) (by decide +kernel) (by decide +kernel)
theorem tw_272 : (Jvm.Cond.selects "SafetyTrees" ({ cls := "SafetyTrees", name := "gate", desc := "(II)I" } : Jvm.MethodName) ({ cls := "SafetyTrees", name := "gate", desc := "(II)I" } : Jvm.MethodName)) ∈ tblG := tg_r (i := 272) (by decide +kernel) (by decide +kernel)
theorem tw_273 : (Jvm.Cond.code ({ cls := "SafetyTrees", name := "gate", desc := "(II)I" } : Jvm.MethodName) prog_1_method_3_code (3 : Nat) (Option.some Jvm.ClassFile.FieldType.int)) ∈ tblG := tg_r (i := 273) (by decide +kernel) (by decide +kernel)
theorem tw_274 : (Jvm.Cond.methodLink "SafetyTrees" (78 : Nat) ({ cls := "SafetyTrees", name := "isKind", desc := "(II)Z" } : Jvm.MethodName)) ∈ tblG := tg_r (i := 274) (by decide +kernel) (by decide +kernel)
theorem tw_275 : (Jvm.Cond.static ({ cls := "SafetyTrees", name := "isKind", desc := "(II)Z" } : Jvm.MethodName)) ∈ tblG := tg_r (i := 275) (by decide +kernel) (by decide +kernel)
theorem tw_276 : (Jvm.Cond.code ({ cls := "SafetyTrees", name := "isKind", desc := "(II)Z" } : Jvm.MethodName) prog_1_method_18_code (2 : Nat) (Option.some Jvm.ClassFile.FieldType.boolean)) ∈ tblG := tg_r (i := 276) (by decide +kernel) (by decide +kernel)
theorem tw_277 : (Jvm.Cond.methodLink "SafetyTrees" (159 : Nat) ({ cls := "SafetyTrees", name := "isWithin", desc := "(III)Z" } : Jvm.MethodName)) ∈ tblG := tg_r (i := 277) (by decide +kernel) (by decide +kernel)
theorem tw_278 : (Jvm.Cond.static ({ cls := "SafetyTrees", name := "isWithin", desc := "(III)Z" } : Jvm.MethodName)) ∈ tblG := tg_r (i := 278) (by decide +kernel) (by decide +kernel)
theorem tw_279 : (Jvm.Cond.code ({ cls := "SafetyTrees", name := "isWithin", desc := "(III)Z" } : Jvm.MethodName) prog_1_method_16_code (3 : Nat) (Option.some Jvm.ClassFile.FieldType.boolean)) ∈ tblG := tg_r (i := 279) (by decide +kernel) (by decide +kernel)
theorem tw_280 : (Jvm.Cond.methodLink "SafetyTrees" (85 : Nat) ({ cls := "SafetyTrees$Nodes", name := "addGate", desc := "(II)I" } : Jvm.MethodName)) ∈ tblG := tg_r (i := 280) (by decide +kernel) (by decide +kernel)
theorem tw_281 : (Jvm.Cond.instanceMethod ({ cls := "SafetyTrees$Nodes", name := "addGate", desc := "(II)I" } : Jvm.MethodName)) ∈ tblG := tg_r (i := 281) (by decide +kernel) (by decide +kernel)
theorem tw_282 : (Jvm.Cond.selects "SafetyTrees$Nodes" ({ cls := "SafetyTrees$Nodes", name := "addGate", desc := "(II)I" } : Jvm.MethodName) ({ cls := "SafetyTrees$Nodes", name := "addGate", desc := "(II)I" } : Jvm.MethodName)) ∈ tblG := tg_r (i := 282) (by decide +kernel) (by decide +kernel)
theorem tw_283 : (Jvm.Cond.code ({ cls := "SafetyTrees$Nodes", name := "addGate", desc := "(II)I" } : Jvm.MethodName) prog_6_method_6_code (3 : Nat) (Option.some Jvm.ClassFile.FieldType.int)) ∈ tblG := tg_r (i := 283) (by decide +kernel) (by decide +kernel)
theorem tw_284 : (Jvm.Cond.methodLink "SafetyTreesLaw" (31 : Nat) ({ cls := "SafetyTrees", name := "below", desc := "(II)I" } : Jvm.MethodName)) ∈ tblG := tg_r (i := 284) (by decide +kernel) (by decide +kernel)
theorem tw_285 : (Jvm.Cond.instanceMethod ({ cls := "SafetyTrees", name := "below", desc := "(II)I" } : Jvm.MethodName)) ∈ tblG := tg_r (i := 285) (by decide +kernel) (by decide +kernel)
theorem tw_286 : (Jvm.Cond.selects "SafetyTrees" ({ cls := "SafetyTrees", name := "below", desc := "(II)I" } : Jvm.MethodName) ({ cls := "SafetyTrees", name := "below", desc := "(II)I" } : Jvm.MethodName)) ∈ tblG := tg_r (i := 286) (by decide +kernel) (by decide +kernel)
theorem tw_287 : (Jvm.Cond.code ({ cls := "SafetyTrees", name := "below", desc := "(II)I" } : Jvm.MethodName) prog_1_method_4_code (3 : Nat) (Option.some Jvm.ClassFile.FieldType.int)) ∈ tblG := tg_r (i := 287) (by decide +kernel) (by decide +kernel)
theorem tw_288 : (Jvm.Cond.methodLink "SafetyTrees" (89 : Nat) ({ cls := "SafetyTrees$Nodes", name := "isGate", desc := "(I)Z" } : Jvm.MethodName)) ∈ tblG := tg_r (i := 288) (by decide +kernel) (by decide +kernel)
theorem tw_289 : (Jvm.Cond.instanceMethod ({ cls := "SafetyTrees$Nodes", name := "isGate", desc := "(I)Z" } : Jvm.MethodName)) ∈ tblG := tg_r (i := 289) (by decide +kernel) (by decide +kernel)
theorem tw_290 : (Jvm.Cond.selects "SafetyTrees$Nodes" ({ cls := "SafetyTrees$Nodes", name := "isGate", desc := "(I)Z" } : Jvm.MethodName) ({ cls := "SafetyTrees$Nodes", name := "isGate", desc := "(I)Z" } : Jvm.MethodName)) ∈ tblG := tg_r (i := 290) (by decide +kernel) (by decide +kernel)
theorem tw_291 : (Jvm.Cond.code ({ cls := "SafetyTrees$Nodes", name := "isGate", desc := "(I)Z" } : Jvm.MethodName) prog_6_method_4_code (2 : Nat) (Option.some Jvm.ClassFile.FieldType.boolean)) ∈ tblG := tg_r (i := 291) (by decide +kernel) (by decide +kernel)
theorem tw_292 : (Jvm.Cond.methodLink "SafetyTrees$Nodes" (55 : Nat) ({ cls := "SafetyTrees$Nodes", name := "isNode", desc := "(I)Z" } : Jvm.MethodName)) ∈ tblG := tg_r (i := 292) (by decide +kernel) (by decide +kernel)
theorem tw_293 : (Jvm.Cond.instanceMethod ({ cls := "SafetyTrees$Nodes", name := "isNode", desc := "(I)Z" } : Jvm.MethodName)) ∈ tblG := tg_r (i := 293) (by decide +kernel) (by decide +kernel)
theorem tw_294 : (Jvm.Cond.selects "SafetyTrees$Nodes" ({ cls := "SafetyTrees$Nodes", name := "isNode", desc := "(I)Z" } : Jvm.MethodName) ({ cls := "SafetyTrees$Nodes", name := "isNode", desc := "(I)Z" } : Jvm.MethodName)) ∈ tblG := tg_r (i := 294) (by decide +kernel) (by decide +kernel)
theorem tw_295 : (Jvm.Cond.code ({ cls := "SafetyTrees$Nodes", name := "isNode", desc := "(I)Z" } : Jvm.MethodName) prog_6_method_2_code (2 : Nat) (Option.some Jvm.ClassFile.FieldType.boolean)) ∈ tblG := tg_r (i := 295) (by decide +kernel) (by decide +kernel)
theorem tw_296 : (Jvm.Cond.methodLink "SafetyTrees" (93 : Nat) ({ cls := "SafetyTrees$Nodes", name := "isNode", desc := "(I)Z" } : Jvm.MethodName)) ∈ tblG := tg_r (i := 296) (by decide +kernel) (by decide +kernel)
theorem tw_297 : (Jvm.Cond.methodLink "SafetyTrees" (96 : Nat) ({ cls := "SafetyTrees$Nodes", name := "isBelow", desc := "(II)Z" } : Jvm.MethodName)) ∈ tblG := tg_r (i := 297) (by decide +kernel) (by decide +kernel)
theorem tw_298 : (Jvm.Cond.instanceMethod ({ cls := "SafetyTrees$Nodes", name := "isBelow", desc := "(II)Z" } : Jvm.MethodName)) ∈ tblG := tg_r (i := 298) (by decide +kernel) (by decide +kernel)
theorem tw_299 : (Jvm.Cond.selects "SafetyTrees$Nodes" ({ cls := "SafetyTrees$Nodes", name := "isBelow", desc := "(II)Z" } : Jvm.MethodName) ({ cls := "SafetyTrees$Nodes", name := "isBelow", desc := "(II)Z" } : Jvm.MethodName)) ∈ tblG := tg_r (i := 299) (by decide +kernel) (by decide +kernel)
theorem tw_300 : (Jvm.Cond.code ({ cls := "SafetyTrees$Nodes", name := "isBelow", desc := "(II)Z" } : Jvm.MethodName) prog_6_method_8_code (4 : Nat) (Option.some Jvm.ClassFile.FieldType.boolean)) ∈ tblG := tg_r (i := 300) (by decide +kernel) (by decide +kernel)
theorem tw_301 : (Jvm.Cond.methodLink "SafetyTrees" (103 : Nat) ({ cls := "SafetyTrees$Nodes", name := "isUnder", desc := "(II)Z" } : Jvm.MethodName)) ∈ tblG := tg_r (i := 301) (by decide +kernel) (by decide +kernel)
theorem tw_302 : (Jvm.Cond.instanceMethod ({ cls := "SafetyTrees$Nodes", name := "isUnder", desc := "(II)Z" } : Jvm.MethodName)) ∈ tblG := tg_r (i := 302) (by decide +kernel) (by decide +kernel)
theorem tw_303 : (Jvm.Cond.selects "SafetyTrees$Nodes" ({ cls := "SafetyTrees$Nodes", name := "isUnder", desc := "(II)Z" } : Jvm.MethodName) ({ cls := "SafetyTrees$Nodes", name := "isUnder", desc := "(II)Z" } : Jvm.MethodName)) ∈ tblG := tg_r (i := 303) (by decide +kernel) (by decide +kernel)
theorem tw_304 : (Jvm.Cond.code ({ cls := "SafetyTrees$Nodes", name := "isUnder", desc := "(II)Z" } : Jvm.MethodName) prog_6_method_9_code (3 : Nat) (Option.some Jvm.ClassFile.FieldType.boolean)) ∈ tblG := tg_r (i := 304) (by decide +kernel) (by decide +kernel)
theorem tw_305 : (Jvm.Cond.methodLink "SafetyTrees" (106 : Nat) ({ cls := "SafetyTrees$Nodes", name := "putBelow", desc := "(II)V" } : Jvm.MethodName)) ∈ tblG := tg_r (i := 305) (by decide +kernel) (by decide +kernel)
theorem tw_306 : (Jvm.Cond.instanceMethod ({ cls := "SafetyTrees$Nodes", name := "putBelow", desc := "(II)V" } : Jvm.MethodName)) ∈ tblG := tg_r (i := 306) (by decide +kernel) (by decide +kernel)
theorem tw_307 : (Jvm.Cond.selects "SafetyTrees$Nodes" ({ cls := "SafetyTrees$Nodes", name := "putBelow", desc := "(II)V" } : Jvm.MethodName) ({ cls := "SafetyTrees$Nodes", name := "putBelow", desc := "(II)V" } : Jvm.MethodName)) ∈ tblG := tg_r (i := 307) (by decide +kernel) (by decide +kernel)
theorem tw_308 : (Jvm.Cond.code ({ cls := "SafetyTrees$Nodes", name := "putBelow", desc := "(II)V" } : Jvm.MethodName) prog_6_method_10_code (6 : Nat) (Option.none : Option Jvm.ClassFile.FieldType)) ∈ tblG := tg_r (i := 308) (by decide +kernel) (by decide +kernel)
theorem tw_309 : (Jvm.Cond.methodLink "SafetyTrees$Nodes" (63 : Nat) ({ cls := "SafetyTrees$Nodes", name := "isUnder", desc := "(II)Z" } : Jvm.MethodName)) ∈ tblG := tg_r (i := 309) (by decide +kernel) (by decide +kernel)
theorem tw_310 : (Jvm.Cond.methodLink "SafetyTreesLaw" (35 : Nat) ({ cls := "SafetyTrees", name := "cuts", desc := "(IJ)I" } : Jvm.MethodName)) ∈ tblG := tg_r (i := 310) (by decide +kernel) (by decide +kernel)
theorem tw_311 : (Jvm.Cond.instanceMethod ({ cls := "SafetyTrees", name := "cuts", desc := "(IJ)I" } : Jvm.MethodName)) ∈ tblG := tg_r (i := 311) (by decide +kernel) (by decide +kernel)
theorem tw_312 : (Jvm.Cond.selects "SafetyTrees" ({ cls := "SafetyTrees", name := "cuts", desc := "(IJ)I" } : Jvm.MethodName) ({ cls := "SafetyTrees", name := "cuts", desc := "(IJ)I" } : Jvm.MethodName)) ∈ tblG := tg_r (i := 312) (by decide +kernel) (by decide +kernel)
theorem tw_313 : (Jvm.Cond.code ({ cls := "SafetyTrees", name := "cuts", desc := "(IJ)I" } : Jvm.MethodName) prog_1_method_5_code (5 : Nat) (Option.some Jvm.ClassFile.FieldType.int)) ∈ tblG := tg_r (i := 313) (by decide +kernel) (by decide +kernel)
theorem tw_314 : (Jvm.Cond.methodLink "SafetyTrees" (113 : Nat) ({ cls := "SafetyTrees", name := "countOfSets", desc := "(I)I" } : Jvm.MethodName)) ∈ tblG := tg_r (i := 314) (by decide +kernel) (by decide +kernel)
theorem tw_315 : (Jvm.Cond.static ({ cls := "SafetyTrees", name := "countOfSets", desc := "(I)I" } : Jvm.MethodName)) ∈ tblG := tg_r (i := 315) (by decide +kernel) (by decide +kernel)
theorem tw_316 : (Jvm.Cond.code ({ cls := "SafetyTrees", name := "countOfSets", desc := "(I)I" } : Jvm.MethodName) prog_1_method_19_code (1 : Nat) (Option.some Jvm.ClassFile.FieldType.int)) ∈ tblG := tg_r (i := 316) (by decide +kernel) (by decide +kernel)
theorem tw_317 : (Jvm.Cond.methodLink "SafetyTrees" (201 : Nat) ({ cls := "java/lang/Integer", name := "bitCount", desc := "(I)I" } : Jvm.MethodName)) ∈ tblG := tg_r (i := 317) (by decide +kernel) (by decide +kernel)
theorem tw_318 : (Jvm.Cond.static ({ cls := "java/lang/Integer", name := "bitCount", desc := "(I)I" } : Jvm.MethodName)) ∈ tblG := tg_r (i := 318) (by decide +kernel) (by decide +kernel)
theorem tw_319 : (Jvm.Cond.code ({ cls := "java/lang/Integer", name := "bitCount", desc := "(I)I" } : Jvm.MethodName) prog_13_method_49_code (1 : Nat) (Option.some Jvm.ClassFile.FieldType.int)) ∈ tblG := tg_r (i := 319) (by decide +kernel) (by decide +kernel)
theorem tw_320 : (Jvm.Cond.constant "java/lang/Integer" (265 : Nat) (1431655765 : Int32)) ∈ tblG := tg_r (i := 320) (by decide +kernel) (by decide +kernel)
theorem tw_321 : (Jvm.Cond.constant "java/lang/Integer" (266 : Nat) (858993459 : Int32)) ∈ tblG := tg_r (i := 321) (by decide +kernel) (by decide +kernel)
theorem tw_322 : (Jvm.Cond.constant "java/lang/Integer" (267 : Nat) (252645135 : Int32)) ∈ tblG := tg_r (i := 322) (by decide +kernel) (by decide +kernel)
theorem tw_323 : (Jvm.Cond.methodLink "SafetyTrees" (117 : Nat) ({ cls := "SafetyTrees$Cuts", name := "clear", desc := "()V" } : Jvm.MethodName)) ∈ tblG := tg_r (i := 323) (by decide +kernel) (by decide +kernel)
theorem tw_324 : (Jvm.Cond.instanceMethod ({ cls := "SafetyTrees$Cuts", name := "clear", desc := "()V" } : Jvm.MethodName)) ∈ tblG := tg_r (i := 324) (by decide +kernel) (by decide +kernel)
theorem tw_325 : (Jvm.Cond.selects "SafetyTrees$Cuts" ({ cls := "SafetyTrees$Cuts", name := "clear", desc := "()V" } : Jvm.MethodName) ({ cls := "SafetyTrees$Cuts", name := "clear", desc := "()V" } : Jvm.MethodName)) ∈ tblG := tg_r (i := 325) (by decide +kernel) (by decide +kernel)
theorem tw_326 : (Jvm.Cond.code ({ cls := "SafetyTrees$Cuts", name := "clear", desc := "()V" } : Jvm.MethodName) prog_3_method_2_code (1 : Nat) (Option.none : Option Jvm.ClassFile.FieldType)) ∈ tblG := tg_r (i := 326) (by decide +kernel) (by decide +kernel)
theorem tw_327 : (Jvm.Cond.methodLink "SafetyTrees" (120 : Nat) ({ cls := "SafetyTrees$Truth", name := "fillGates", desc := "(I)V" } : Jvm.MethodName)) ∈ tblG := tg_r (i := 327) (by decide +kernel) (by decide +kernel)
theorem tw_328 : (Jvm.Cond.instanceMethod ({ cls := "SafetyTrees$Truth", name := "fillGates", desc := "(I)V" } : Jvm.MethodName)) ∈ tblG := tg_r (i := 328) (by decide +kernel) (by decide +kernel)
theorem tw_329 : (Jvm.Cond.selects "SafetyTrees$Truth" ({ cls := "SafetyTrees$Truth", name := "fillGates", desc := "(I)V" } : Jvm.MethodName) ({ cls := "SafetyTrees$Truth", name := "fillGates", desc := "(I)V" } : Jvm.MethodName)) ∈ tblG := tg_r (i := 329) (by decide +kernel) (by decide +kernel)
theorem tw_330 : (Jvm.Cond.code ({ cls := "SafetyTrees$Truth", name := "fillGates", desc := "(I)V" } : Jvm.MethodName) prog_8_method_4_code (5 : Nat) (Option.none : Option Jvm.ClassFile.FieldType)) ∈ tblG := tg_r (i := 330) (by decide +kernel) (by decide +kernel)
theorem tw_331 : (Jvm.Cond.methodLink "SafetyTrees$Truth" (36 : Nat) ({ cls := "SafetyTrees$Nodes", name := "lineUp", desc := "(I)I" } : Jvm.MethodName)) ∈ tblG := tg_r (i := 331) (by decide +kernel) (by decide +kernel)
theorem tw_332 : (Jvm.Cond.instanceMethod ({ cls := "SafetyTrees$Nodes", name := "lineUp", desc := "(I)I" } : Jvm.MethodName)) ∈ tblG := tg_r (i := 332) (by decide +kernel) (by decide +kernel)
theorem tw_333 : (Jvm.Cond.selects "SafetyTrees$Nodes" ({ cls := "SafetyTrees$Nodes", name := "lineUp", desc := "(I)I" } : Jvm.MethodName) ({ cls := "SafetyTrees$Nodes", name := "lineUp", desc := "(I)I" } : Jvm.MethodName)) ∈ tblG := tg_r (i := 333) (by decide +kernel) (by decide +kernel)
theorem tw_334 : (Jvm.Cond.code ({ cls := "SafetyTrees$Nodes", name := "lineUp", desc := "(I)I" } : Jvm.MethodName) prog_6_method_11_code (6 : Nat) (Option.some Jvm.ClassFile.FieldType.int)) ∈ tblG := tg_r (i := 334) (by decide +kernel) (by decide +kernel)
theorem tw_335 : (Jvm.Cond.methodLink "SafetyTrees$Nodes" (67 : Nat) ({ cls := "SafetyTrees$Nodes", name := "isGate", desc := "(I)Z" } : Jvm.MethodName)) ∈ tblG := tg_r (i := 335) (by decide +kernel) (by decide +kernel)
theorem tw_336 : (Jvm.Cond.methodLink "SafetyTrees$Nodes" (70 : Nat) ({ cls := "java/lang/Long", name := "bitCount", desc := "(J)I" } : Jvm.MethodName)) ∈ tblG := tg_r (i := 336) (by decide +kernel) (by decide +kernel)
theorem tw_337 : (Jvm.Cond.static ({ cls := "java/lang/Long", name := "bitCount", desc := "(J)I" } : Jvm.MethodName)) ∈ tblG := tg_r (i := 337) (by decide +kernel) (by decide +kernel)
theorem tw_338 : (Jvm.Cond.code ({ cls := "java/lang/Long", name := "bitCount", desc := "(J)I" } : Jvm.MethodName) prog_14_method_50_code (2 : Nat) (Option.some Jvm.ClassFile.FieldType.int)) ∈ tblG := tg_r (i := 338) (by decide +kernel) (by decide +kernel)
theorem tw_339 : (Jvm.Cond.constantLong "java/lang/Long" (314 : Nat) (6148914691236517205 : Int64)) ∈ tblG := tg_r (i := 339) (by decide +kernel) (by decide +kernel)
theorem tw_340 : (Jvm.Cond.constantLong "java/lang/Long" (316 : Nat) (3689348814741910323 : Int64)) ∈ tblG := tg_r (i := 340) (by decide +kernel) (by decide +kernel)
theorem tw_341 : (Jvm.Cond.constantLong "java/lang/Long" (318 : Nat) (1085102592571150095 : Int64)) ∈ tblG := tg_r (i := 341) (by decide +kernel) (by decide +kernel)
theorem tw_342 : (Jvm.Cond.methodLink "SafetyTrees$Truth" (43 : Nat) ({ cls := "SafetyTrees$Truth", name := "fillGate", desc := "(II)V" } : Jvm.MethodName)) ∈ tblG := tg_r (i := 342) (by decide +kernel) (by decide +kernel)
theorem tw_344 : (Jvm.Cond.instanceMethod ({ cls := "SafetyTrees$Truth", name := "fillGate", desc := "(II)V" } : Jvm.MethodName)) ∈ tblG := tg_r (i := 344) (by decide +kernel) (by decide +kernel)
theorem tw_345 : (Jvm.Cond.code ({ cls := "SafetyTrees$Truth", name := "fillGate", desc := "(II)V" } : Jvm.MethodName) prog_8_method_5_code (4 : Nat) (Option.none : Option Jvm.ClassFile.FieldType)) ∈ tblG := tg_r (i := 345) (by decide +kernel) (by decide +kernel)
theorem tw_346 : (Jvm.Cond.methodLink "SafetyTrees$Truth" (47 : Nat) ({ cls := "SafetyTrees$Truth", name := "gateWord", desc := "(II)J" } : Jvm.MethodName)) ∈ tblG := tg_r (i := 346) (by decide +kernel) (by decide +kernel)
theorem tw_348 : (Jvm.Cond.instanceMethod ({ cls := "SafetyTrees$Truth", name := "gateWord", desc := "(II)J" } : Jvm.MethodName)) ∈ tblG := tg_r (i := 348) (by decide +kernel) (by decide +kernel)
theorem tw_349 : (Jvm.Cond.code ({ cls := "SafetyTrees$Truth", name := "gateWord", desc := "(II)J" } : Jvm.MethodName) prog_8_method_6_code (3 : Nat) (Option.some Jvm.ClassFile.FieldType.long)) ∈ tblG := tg_r (i := 349) (by decide +kernel) (by decide +kernel)
theorem tw_350 : (Jvm.Cond.methodLink "SafetyTrees$Truth" (53 : Nat) ({ cls := "SafetyTrees$Truth", name := "allOf", desc := "(II)J" } : Jvm.MethodName)) ∈ tblG := tg_r (i := 350) (by decide +kernel) (by decide +kernel)
theorem tw_352 : (Jvm.Cond.instanceMethod ({ cls := "SafetyTrees$Truth", name := "allOf", desc := "(II)J" } : Jvm.MethodName)) ∈ tblG := tg_r (i := 352) (by decide +kernel) (by decide +kernel)
theorem tw_353 : (Jvm.Cond.code ({ cls := "SafetyTrees$Truth", name := "allOf", desc := "(II)J" } : Jvm.MethodName) prog_8_method_7_code (6 : Nat) (Option.some Jvm.ClassFile.FieldType.long)) ∈ tblG := tg_r (i := 353) (by decide +kernel) (by decide +kernel)
theorem tw_354 : (Jvm.Cond.methodLink "SafetyTrees$Truth" (56 : Nat) ({ cls := "SafetyTrees$Truth", name := "anyOf", desc := "(II)J" } : Jvm.MethodName)) ∈ tblG := tg_r (i := 354) (by decide +kernel) (by decide +kernel)
theorem tw_356 : (Jvm.Cond.instanceMethod ({ cls := "SafetyTrees$Truth", name := "anyOf", desc := "(II)J" } : Jvm.MethodName)) ∈ tblG := tg_r (i := 356) (by decide +kernel) (by decide +kernel)
theorem tw_357 : (Jvm.Cond.code ({ cls := "SafetyTrees$Truth", name := "anyOf", desc := "(II)J" } : Jvm.MethodName) prog_8_method_8_code (6 : Nat) (Option.some Jvm.ClassFile.FieldType.long)) ∈ tblG := tg_r (i := 357) (by decide +kernel) (by decide +kernel)
theorem tw_358 : (Jvm.Cond.methodLink "SafetyTrees$Truth" (59 : Nat) ({ cls := "SafetyTrees$Truth", name := "votesOf", desc := "(II)J" } : Jvm.MethodName)) ∈ tblG := tg_r (i := 358) (by decide +kernel) (by decide +kernel)
theorem tw_360 : (Jvm.Cond.instanceMethod ({ cls := "SafetyTrees$Truth", name := "votesOf", desc := "(II)J" } : Jvm.MethodName)) ∈ tblG := tg_r (i := 360) (by decide +kernel) (by decide +kernel)
theorem tw_361 : (Jvm.Cond.code ({ cls := "SafetyTrees$Truth", name := "votesOf", desc := "(II)J" } : Jvm.MethodName) prog_8_method_9_code (20 : Nat) (Option.some Jvm.ClassFile.FieldType.long)) ∈ tblG := tg_r (i := 361) (by decide +kernel) (by decide +kernel)
theorem tw_362 : (Jvm.Cond.methodLink "SafetyTrees$Truth" (72 : Nat) ({ cls := "SafetyTrees$Truth", name := "withDigit", desc := "(IJJ)J" } : Jvm.MethodName)) ∈ tblG := tg_r (i := 362) (by decide +kernel) (by decide +kernel)
theorem tw_363 : (Jvm.Cond.static ({ cls := "SafetyTrees$Truth", name := "withDigit", desc := "(IJJ)J" } : Jvm.MethodName)) ∈ tblG := tg_r (i := 363) (by decide +kernel) (by decide +kernel)
theorem tw_364 : (Jvm.Cond.code ({ cls := "SafetyTrees$Truth", name := "withDigit", desc := "(IJJ)J" } : Jvm.MethodName) prog_8_method_10_code (5 : Nat) (Option.some Jvm.ClassFile.FieldType.long)) ∈ tblG := tg_r (i := 364) (by decide +kernel) (by decide +kernel)
theorem tw_365 : (Jvm.Cond.methodLink "SafetyTrees" (123 : Nat) ({ cls := "SafetyTrees$Cuts", name := "tell", desc := "(LSafetyTrees$Truth;II)I" } : Jvm.MethodName)) ∈ tblG := tg_r (i := 365) (by decide +kernel) (by decide +kernel)
theorem tw_366 : (Jvm.Cond.instanceMethod ({ cls := "SafetyTrees$Cuts", name := "tell", desc := "(LSafetyTrees$Truth;II)I" } : Jvm.MethodName)) ∈ tblG := tg_r (i := 366) (by decide +kernel) (by decide +kernel)
theorem tw_367 : (Jvm.Cond.selects "SafetyTrees$Cuts" ({ cls := "SafetyTrees$Cuts", name := "tell", desc := "(LSafetyTrees$Truth;II)I" } : Jvm.MethodName) ({ cls := "SafetyTrees$Cuts", name := "tell", desc := "(LSafetyTrees$Truth;II)I" } : Jvm.MethodName)) ∈ tblG := tg_r (i := 367) (by decide +kernel) (by decide +kernel)
theorem tw_368 : (Jvm.Cond.code ({ cls := "SafetyTrees$Cuts", name := "tell", desc := "(LSafetyTrees$Truth;II)I" } : Jvm.MethodName) prog_3_method_3_code (6 : Nat) (Option.some Jvm.ClassFile.FieldType.int)) ∈ tblG := tg_r (i := 368) (by decide +kernel) (by decide +kernel)
theorem tw_369 : (Jvm.Cond.methodLink "SafetyTrees$Cuts" (22 : Nat) ({ cls := "SafetyTrees$Cuts", name := "find", desc := "(LSafetyTrees$Truth;II)I" } : Jvm.MethodName)) ∈ tblG := tg_r (i := 369) (by decide +kernel) (by decide +kernel)
theorem tw_371 : (Jvm.Cond.instanceMethod ({ cls := "SafetyTrees$Cuts", name := "find", desc := "(LSafetyTrees$Truth;II)I" } : Jvm.MethodName)) ∈ tblG := tg_r (i := 371) (by decide +kernel) (by decide +kernel)
theorem tw_372 : (Jvm.Cond.code ({ cls := "SafetyTrees$Cuts", name := "find", desc := "(LSafetyTrees$Truth;II)I" } : Jvm.MethodName) prog_3_method_4_code (8 : Nat) (Option.some Jvm.ClassFile.FieldType.int)) ∈ tblG := tg_r (i := 372) (by decide +kernel) (by decide +kernel)
theorem tw_373 : (Jvm.Cond.methodLinkNest "SafetyTrees$Cuts" (30 : Nat) ({ cls := "SafetyTrees", name := "countOfSets", desc := "(I)I" } : Jvm.MethodName) "SafetyTrees") ∈ tblN := tn_r (i := 373) (by decide +kernel) (by decide +kernel)
theorem tw_374 : (Jvm.Cond.methodLink "SafetyTrees$Cuts" (34 : Nat) ({ cls := "SafetyTrees$Truth", name := "isMinimal", desc := "(II)Z" } : Jvm.MethodName)) ∈ tblG := tg_r (i := 374) (by decide +kernel) (by decide +kernel)
theorem tw_375 : (Jvm.Cond.instanceMethod ({ cls := "SafetyTrees$Truth", name := "isMinimal", desc := "(II)Z" } : Jvm.MethodName)) ∈ tblG := tg_r (i := 375) (by decide +kernel) (by decide +kernel)
theorem tw_376 : (Jvm.Cond.selects "SafetyTrees$Truth" ({ cls := "SafetyTrees$Truth", name := "isMinimal", desc := "(II)Z" } : Jvm.MethodName) ({ cls := "SafetyTrees$Truth", name := "isMinimal", desc := "(II)Z" } : Jvm.MethodName)) ∈ tblG := tg_r (i := 376) (by decide +kernel) (by decide +kernel)
theorem tw_377 : (Jvm.Cond.code ({ cls := "SafetyTrees$Truth", name := "isMinimal", desc := "(II)Z" } : Jvm.MethodName) prog_8_method_13_code (4 : Nat) (Option.some Jvm.ClassFile.FieldType.boolean)) ∈ tblG := tg_r (i := 377) (by decide +kernel) (by decide +kernel)
theorem tw_378 : (Jvm.Cond.methodLink "SafetyTrees$Truth" (79 : Nat) ({ cls := "SafetyTrees$Truth", name := "isTrue", desc := "(II)Z" } : Jvm.MethodName)) ∈ tblG := tg_r (i := 378) (by decide +kernel) (by decide +kernel)
theorem tw_379 : (Jvm.Cond.instanceMethod ({ cls := "SafetyTrees$Truth", name := "isTrue", desc := "(II)Z" } : Jvm.MethodName)) ∈ tblG := tg_r (i := 379) (by decide +kernel) (by decide +kernel)
theorem tw_380 : (Jvm.Cond.selects "SafetyTrees$Truth" ({ cls := "SafetyTrees$Truth", name := "isTrue", desc := "(II)Z" } : Jvm.MethodName) ({ cls := "SafetyTrees$Truth", name := "isTrue", desc := "(II)Z" } : Jvm.MethodName)) ∈ tblG := tg_r (i := 380) (by decide +kernel) (by decide +kernel)
theorem tw_381 : (Jvm.Cond.code ({ cls := "SafetyTrees$Truth", name := "isTrue", desc := "(II)Z" } : Jvm.MethodName) prog_8_method_11_code (4 : Nat) (Option.some Jvm.ClassFile.FieldType.boolean)) ∈ tblG := tg_r (i := 381) (by decide +kernel) (by decide +kernel)
theorem tw_382 : (Jvm.Cond.methodLink "SafetyTrees$Cuts" (26 : Nat) ({ cls := "SafetyTrees$Cuts", name := "takeOfSize", desc := "(II)V" } : Jvm.MethodName)) ∈ tblG := tg_r (i := 382) (by decide +kernel) (by decide +kernel)
theorem tw_384 : (Jvm.Cond.instanceMethod ({ cls := "SafetyTrees$Cuts", name := "takeOfSize", desc := "(II)V" } : Jvm.MethodName)) ∈ tblG := tg_r (i := 384) (by decide +kernel) (by decide +kernel)
theorem tw_385 : (Jvm.Cond.code ({ cls := "SafetyTrees$Cuts", name := "takeOfSize", desc := "(II)V" } : Jvm.MethodName) prog_3_method_5_code (4 : Nat) (Option.none : Option Jvm.ClassFile.FieldType)) ∈ tblG := tg_r (i := 385) (by decide +kernel) (by decide +kernel)
theorem tw_386 : (Jvm.Cond.methodLink "SafetyTrees$Cuts" (40 : Nat) ({ cls := "java/lang/Integer", name := "bitCount", desc := "(I)I" } : Jvm.MethodName)) ∈ tblG := tg_r (i := 386) (by decide +kernel) (by decide +kernel)
theorem tw_387 : (Jvm.Cond.methodLink "SafetyTreesLaw" (40 : Nat) ({ cls := "SafetyTrees", name := "cut", desc := "(II)I" } : Jvm.MethodName)) ∈ tblG := tg_r (i := 387) (by decide +kernel) (by decide +kernel)
theorem tw_388 : (Jvm.Cond.instanceMethod ({ cls := "SafetyTrees", name := "cut", desc := "(II)I" } : Jvm.MethodName)) ∈ tblG := tg_r (i := 388) (by decide +kernel) (by decide +kernel)
theorem tw_389 : (Jvm.Cond.selects "SafetyTrees" ({ cls := "SafetyTrees", name := "cut", desc := "(II)I" } : Jvm.MethodName) ({ cls := "SafetyTrees", name := "cut", desc := "(II)I" } : Jvm.MethodName)) ∈ tblG := tg_r (i := 389) (by decide +kernel) (by decide +kernel)
theorem tw_390 : (Jvm.Cond.code ({ cls := "SafetyTrees", name := "cut", desc := "(II)I" } : Jvm.MethodName) prog_1_method_6_code (4 : Nat) (Option.some Jvm.ClassFile.FieldType.int)) ∈ tblG := tg_r (i := 390) (by decide +kernel) (by decide +kernel)
theorem tw_391 : (Jvm.Cond.methodLink "SafetyTrees" (127 : Nat) ({ cls := "SafetyTrees$Cuts", name := "eventIndex", desc := "(II)I" } : Jvm.MethodName)) ∈ tblG := tg_r (i := 391) (by decide +kernel) (by decide +kernel)
theorem tw_392 : (Jvm.Cond.instanceMethod ({ cls := "SafetyTrees$Cuts", name := "eventIndex", desc := "(II)I" } : Jvm.MethodName)) ∈ tblG := tg_r (i := 392) (by decide +kernel) (by decide +kernel)
theorem tw_393 : (Jvm.Cond.selects "SafetyTrees$Cuts" ({ cls := "SafetyTrees$Cuts", name := "eventIndex", desc := "(II)I" } : Jvm.MethodName) ({ cls := "SafetyTrees$Cuts", name := "eventIndex", desc := "(II)I" } : Jvm.MethodName)) ∈ tblG := tg_r (i := 393) (by decide +kernel) (by decide +kernel)
theorem tw_394 : (Jvm.Cond.code ({ cls := "SafetyTrees$Cuts", name := "eventIndex", desc := "(II)I" } : Jvm.MethodName) prog_3_method_6_code (5 : Nat) (Option.some Jvm.ClassFile.FieldType.int)) ∈ tblG := tg_r (i := 394) (by decide +kernel) (by decide +kernel)
theorem tw_395 : (Jvm.Cond.methodLink "SafetyTrees$Cuts" (45 : Nat) ({ cls := "SafetyTrees$Nodes", name := "eventBit", desc := "(I)I" } : Jvm.MethodName)) ∈ tblG := tg_r (i := 395) (by decide +kernel) (by decide +kernel)
theorem tw_396 : (Jvm.Cond.methodLink "SafetyTreesLaw" (44 : Nat) ({ cls := "SafetyTrees", name := "chance", desc := "(II)J" } : Jvm.MethodName)) ∈ tblG := tg_r (i := 396) (by decide +kernel) (by decide +kernel)
theorem tw_397 : (Jvm.Cond.instanceMethod ({ cls := "SafetyTrees", name := "chance", desc := "(II)J" } : Jvm.MethodName)) ∈ tblG := tg_r (i := 397) (by decide +kernel) (by decide +kernel)
theorem tw_398 : (Jvm.Cond.selects "SafetyTrees" ({ cls := "SafetyTrees", name := "chance", desc := "(II)J" } : Jvm.MethodName) ({ cls := "SafetyTrees", name := "chance", desc := "(II)J" } : Jvm.MethodName)) ∈ tblG := tg_r (i := 398) (by decide +kernel) (by decide +kernel)
theorem tw_399 : (Jvm.Cond.code ({ cls := "SafetyTrees", name := "chance", desc := "(II)J" } : Jvm.MethodName) prog_1_method_7_code (3 : Nat) (Option.some Jvm.ClassFile.FieldType.long)) ∈ tblG := tg_r (i := 399) (by decide +kernel) (by decide +kernel)
theorem tw_400 : (Jvm.Cond.constantLong "SafetyTrees" (133 : Nat) (-1 : Int64)) ∈ tblG := tg_r (i := 400) (by decide +kernel) (by decide +kernel)
theorem tw_401 : (Jvm.Cond.methodLink "SafetyTrees" (135 : Nat) ({ cls := "SafetyTrees$Odds", name := "work", desc := "(I)V" } : Jvm.MethodName)) ∈ tblG := tg_r (i := 401) (by decide +kernel) (by decide +kernel)
theorem tw_402 : (Jvm.Cond.instanceMethod ({ cls := "SafetyTrees$Odds", name := "work", desc := "(I)V" } : Jvm.MethodName)) ∈ tblG := tg_r (i := 402) (by decide +kernel) (by decide +kernel)
theorem tw_403 : (Jvm.Cond.selects "SafetyTrees$Odds" ({ cls := "SafetyTrees$Odds", name := "work", desc := "(I)V" } : Jvm.MethodName) ({ cls := "SafetyTrees$Odds", name := "work", desc := "(I)V" } : Jvm.MethodName)) ∈ tblG := tg_r (i := 403) (by decide +kernel) (by decide +kernel)
theorem tw_404 : (Jvm.Cond.code ({ cls := "SafetyTrees$Odds", name := "work", desc := "(I)V" } : Jvm.MethodName) prog_7_method_2_code (3 : Nat) (Option.none : Option Jvm.ClassFile.FieldType)) ∈ tblG := tg_r (i := 404) (by decide +kernel) (by decide +kernel)
theorem tw_405 : (Jvm.Cond.methodLink "SafetyTrees$Odds" (47 : Nat) ({ cls := "java/lang/Integer", name := "bitCount", desc := "(I)I" } : Jvm.MethodName)) ∈ tblG := tg_r (i := 405) (by decide +kernel) (by decide +kernel)
theorem tw_406 : (Jvm.Cond.methodLink "SafetyTrees$Odds" (53 : Nat) ({ cls := "SafetyTrees$Causes", name := "countTouching", desc := "(I)I" } : Jvm.MethodName)) ∈ tblG := tg_r (i := 406) (by decide +kernel) (by decide +kernel)
theorem tw_407 : (Jvm.Cond.instanceMethod ({ cls := "SafetyTrees$Causes", name := "countTouching", desc := "(I)I" } : Jvm.MethodName)) ∈ tblG := tg_r (i := 407) (by decide +kernel) (by decide +kernel)
theorem tw_408 : (Jvm.Cond.selects "SafetyTrees$Causes" ({ cls := "SafetyTrees$Causes", name := "countTouching", desc := "(I)I" } : Jvm.MethodName) ({ cls := "SafetyTrees$Causes", name := "countTouching", desc := "(I)I" } : Jvm.MethodName)) ∈ tblG := tg_r (i := 408) (by decide +kernel) (by decide +kernel)
theorem tw_409 : (Jvm.Cond.code ({ cls := "SafetyTrees$Causes", name := "countTouching", desc := "(I)I" } : Jvm.MethodName) prog_2_method_4_code (4 : Nat) (Option.some Jvm.ClassFile.FieldType.int)) ∈ tblG := tg_r (i := 409) (by decide +kernel) (by decide +kernel)
theorem tw_410 : (Jvm.Cond.methodLink "SafetyTrees$Causes" (26 : Nat) ({ cls := "SafetyTrees$Causes", name := "touches", desc := "(II)Z" } : Jvm.MethodName)) ∈ tblG := tg_r (i := 410) (by decide +kernel) (by decide +kernel)
theorem tw_411 : (Jvm.Cond.instanceMethod ({ cls := "SafetyTrees$Causes", name := "touches", desc := "(II)Z" } : Jvm.MethodName)) ∈ tblG := tg_r (i := 411) (by decide +kernel) (by decide +kernel)
theorem tw_412 : (Jvm.Cond.selects "SafetyTrees$Causes" ({ cls := "SafetyTrees$Causes", name := "touches", desc := "(II)Z" } : Jvm.MethodName) ({ cls := "SafetyTrees$Causes", name := "touches", desc := "(II)Z" } : Jvm.MethodName)) ∈ tblG := tg_r (i := 412) (by decide +kernel) (by decide +kernel)
theorem tw_413 : (Jvm.Cond.code ({ cls := "SafetyTrees$Causes", name := "touches", desc := "(II)Z" } : Jvm.MethodName) prog_2_method_3_code (3 : Nat) (Option.some Jvm.ClassFile.FieldType.boolean)) ∈ tblG := tg_r (i := 413) (by decide +kernel) (by decide +kernel)
theorem tw_414 : (Jvm.Cond.methodLink "SafetyTrees$Odds" (58 : Nat) ({ cls := "SafetyTrees$Odds", name := "workExactly", desc := "(II)V" } : Jvm.MethodName)) ∈ tblG := tg_r (i := 414) (by decide +kernel) (by decide +kernel)
theorem tw_416 : (Jvm.Cond.instanceMethod ({ cls := "SafetyTrees$Odds", name := "workExactly", desc := "(II)V" } : Jvm.MethodName)) ∈ tblG := tg_r (i := 416) (by decide +kernel) (by decide +kernel)
theorem tw_417 : (Jvm.Cond.code ({ cls := "SafetyTrees$Odds", name := "workExactly", desc := "(II)V" } : Jvm.MethodName) prog_7_method_3_code (9 : Nat) (Option.none : Option Jvm.ClassFile.FieldType)) ∈ tblG := tg_r (i := 417) (by decide +kernel) (by decide +kernel)
theorem tw_418 : (Jvm.Cond.methodLink "SafetyTrees$Odds" (66 : Nat) ({ cls := "SafetyTrees$Truth", name := "fillGates", desc := "(I)V" } : Jvm.MethodName)) ∈ tblG := tg_r (i := 418) (by decide +kernel) (by decide +kernel)
theorem tw_419 : (Jvm.Cond.methodLink "SafetyTrees$Odds" (71 : Nat) ({ cls := "SafetyTrees$Odds", name := "weighSets", desc := "(II)V" } : Jvm.MethodName)) ∈ tblG := tg_r (i := 419) (by decide +kernel) (by decide +kernel)
theorem tw_421 : (Jvm.Cond.instanceMethod ({ cls := "SafetyTrees$Odds", name := "weighSets", desc := "(II)V" } : Jvm.MethodName)) ∈ tblG := tg_r (i := 421) (by decide +kernel) (by decide +kernel)
theorem tw_422 : (Jvm.Cond.code ({ cls := "SafetyTrees$Odds", name := "weighSets", desc := "(II)V" } : Jvm.MethodName) prog_7_method_4_code (6 : Nat) (Option.none : Option Jvm.ClassFile.FieldType)) ∈ tblG := tg_r (i := 422) (by decide +kernel) (by decide +kernel)
theorem tw_423 : (Jvm.Cond.methodLinkNest "SafetyTrees$Odds" (107 : Nat) ({ cls := "SafetyTrees", name := "countOfSets", desc := "(I)I" } : Jvm.MethodName) "SafetyTrees") ∈ tblN := tn_r (i := 423) (by decide +kernel) (by decide +kernel)
theorem tw_424 : (Jvm.Cond.methodLink "SafetyTrees$Odds" (110 : Nat) ({ cls := "SafetyTrees$Truth", name := "isTrue", desc := "(II)Z" } : Jvm.MethodName)) ∈ tblG := tg_r (i := 424) (by decide +kernel) (by decide +kernel)
theorem tw_425 : (Jvm.Cond.methodLinkNest "SafetyTrees$Odds" (113 : Nat) ({ cls := "SafetyTrees", name := "nextSet", desc := "(II)I" } : Jvm.MethodName) "SafetyTrees") ∈ tblN := tn_r (i := 425) (by decide +kernel) (by decide +kernel)
theorem tw_426 : (Jvm.Cond.static ({ cls := "SafetyTrees", name := "nextSet", desc := "(II)I" } : Jvm.MethodName)) ∈ tblG := tg_r (i := 426) (by decide +kernel) (by decide +kernel)
theorem tw_427 : (Jvm.Cond.code ({ cls := "SafetyTrees", name := "nextSet", desc := "(II)I" } : Jvm.MethodName) prog_1_method_20_code (2 : Nat) (Option.some Jvm.ClassFile.FieldType.int)) ∈ tblG := tg_r (i := 427) (by decide +kernel) (by decide +kernel)
theorem tw_428 : (Jvm.Cond.methodLink "SafetyTrees$Odds" (78 : Nat) ({ cls := "SafetyTrees$Causes", name := "touches", desc := "(II)Z" } : Jvm.MethodName)) ∈ tblG := tg_r (i := 428) (by decide +kernel) (by decide +kernel)
theorem tw_429 : (Jvm.Cond.methodLink "SafetyTrees$Odds" (91 : Nat) ({ cls := "SafetyTrees$Odds", name := "mix", desc := "(IIJJ)V" } : Jvm.MethodName)) ∈ tblG := tg_r (i := 429) (by decide +kernel) (by decide +kernel)
theorem tw_431 : (Jvm.Cond.instanceMethod ({ cls := "SafetyTrees$Odds", name := "mix", desc := "(IIJJ)V" } : Jvm.MethodName)) ∈ tblG := tg_r (i := 431) (by decide +kernel) (by decide +kernel)
theorem tw_432 : (Jvm.Cond.code ({ cls := "SafetyTrees$Odds", name := "mix", desc := "(IIJJ)V" } : Jvm.MethodName) prog_7_method_5_code (10 : Nat) (Option.none : Option Jvm.ClassFile.FieldType)) ∈ tblG := tg_r (i := 432) (by decide +kernel) (by decide +kernel)
theorem tw_433 : (Jvm.Cond.methodLink "SafetyTrees$Odds" (103 : Nat) ({ cls := "SafetyTrees$Fraction", name := "set", desc := "(JJ)V" } : Jvm.MethodName)) ∈ tblG := tg_r (i := 433) (by decide +kernel) (by decide +kernel)
theorem tw_434 : (Jvm.Cond.instanceMethod ({ cls := "SafetyTrees$Fraction", name := "set", desc := "(JJ)V" } : Jvm.MethodName)) ∈ tblG := tg_r (i := 434) (by decide +kernel) (by decide +kernel)
theorem tw_435 : (Jvm.Cond.selects "SafetyTrees$Fraction" ({ cls := "SafetyTrees$Fraction", name := "set", desc := "(JJ)V" } : Jvm.MethodName) ({ cls := "SafetyTrees$Fraction", name := "set", desc := "(JJ)V" } : Jvm.MethodName)) ∈ tblG := tg_r (i := 435) (by decide +kernel) (by decide +kernel)
theorem tw_436 : (Jvm.Cond.code ({ cls := "SafetyTrees$Fraction", name := "set", desc := "(JJ)V" } : Jvm.MethodName) prog_4_method_2_code (7 : Nat) (Option.none : Option Jvm.ClassFile.FieldType)) ∈ tblG := tg_r (i := 436) (by decide +kernel) (by decide +kernel)
theorem tw_437 : (Jvm.Cond.methodLink "SafetyTrees$Fraction" (16 : Nat) ({ cls := "SafetyTrees$Fraction", name := "commonDivisor", desc := "(JJ)J" } : Jvm.MethodName)) ∈ tblG := tg_r (i := 437) (by decide +kernel) (by decide +kernel)
theorem tw_438 : (Jvm.Cond.static ({ cls := "SafetyTrees$Fraction", name := "commonDivisor", desc := "(JJ)J" } : Jvm.MethodName)) ∈ tblG := tg_r (i := 438) (by decide +kernel) (by decide +kernel)
theorem tw_439 : (Jvm.Cond.code ({ cls := "SafetyTrees$Fraction", name := "commonDivisor", desc := "(JJ)J" } : Jvm.MethodName) prog_4_method_4_code (11 : Nat) (Option.some Jvm.ClassFile.FieldType.long)) ∈ tblG := tg_r (i := 439) (by decide +kernel) (by decide +kernel)
end
section
theorem tw_440 : (Jvm.Cond.methodLink "SafetyTrees$Odds" (62 : Nat) ({ cls := "SafetyTrees$Odds", name := "workBound", desc := "(I)V" } : Jvm.MethodName)) ∈ tblG := tg_r (i := 440) (by decide +kernel) (by decide +kernel)
theorem tw_442 : (Jvm.Cond.instanceMethod ({ cls := "SafetyTrees$Odds", name := "workBound", desc := "(I)V" } : Jvm.MethodName)) ∈ tblG := tg_r (i := 442) (by decide +kernel) (by decide +kernel)
theorem tw_443 : (Jvm.Cond.code ({ cls := "SafetyTrees$Odds", name := "workBound", desc := "(I)V" } : Jvm.MethodName) prog_7_method_6_code (4 : Nat) (Option.none : Option Jvm.ClassFile.FieldType)) ∈ tblG := tg_r (i := 443) (by decide +kernel) (by decide +kernel)
theorem tw_444 : (Jvm.Cond.methodLink "SafetyTrees$Odds" (117 : Nat) ({ cls := "SafetyTrees$Odds", name := "eventBound", desc := "(I)J" } : Jvm.MethodName)) ∈ tblG := tg_r (i := 444) (by decide +kernel) (by decide +kernel)
theorem tw_446 : (Jvm.Cond.instanceMethod ({ cls := "SafetyTrees$Odds", name := "eventBound", desc := "(I)J" } : Jvm.MethodName)) ∈ tblG := tg_r (i := 446) (by decide +kernel) (by decide +kernel)
theorem tw_447 : (Jvm.Cond.code ({ cls := "SafetyTrees$Odds", name := "eventBound", desc := "(I)J" } : Jvm.MethodName) prog_7_method_7_code (5 : Nat) (Option.some Jvm.ClassFile.FieldType.long)) ∈ tblG := tg_r (i := 447) (by decide +kernel) (by decide +kernel)
theorem tw_448 : (Jvm.Cond.methodLink "SafetyTrees$Odds" (132 : Nat) ({ cls := "SafetyTrees$Odds", name := "inParts", desc := "(JJ)J" } : Jvm.MethodName)) ∈ tblG := tg_r (i := 448) (by decide +kernel) (by decide +kernel)
theorem tw_449 : (Jvm.Cond.static ({ cls := "SafetyTrees$Odds", name := "inParts", desc := "(JJ)J" } : Jvm.MethodName)) ∈ tblG := tg_r (i := 449) (by decide +kernel) (by decide +kernel)
theorem tw_450 : (Jvm.Cond.code ({ cls := "SafetyTrees$Odds", name := "inParts", desc := "(JJ)J" } : Jvm.MethodName) prog_7_method_8_code (4 : Nat) (Option.some Jvm.ClassFile.FieldType.long)) ∈ tblG := tg_r (i := 450) (by decide +kernel) (by decide +kernel)
theorem tw_451 : (Jvm.Cond.constantLong "SafetyTrees$Odds" (130 : Nat) (2520 : Int64)) ∈ tblG := tg_r (i := 451) (by decide +kernel) (by decide +kernel)
theorem tw_452 : (Jvm.Cond.methodLink "SafetyTrees$Odds" (136 : Nat) ({ cls := "java/lang/Math", name := "min", desc := "(JJ)J" } : Jvm.MethodName)) ∈ tblG := tg_r (i := 452) (by decide +kernel) (by decide +kernel)
theorem tw_453 : (Jvm.Cond.static ({ cls := "java/lang/Math", name := "min", desc := "(JJ)J" } : Jvm.MethodName)) ∈ tblG := tg_r (i := 453) (by decide +kernel) (by decide +kernel)
theorem tw_454 : (Jvm.Cond.code ({ cls := "java/lang/Math", name := "min", desc := "(JJ)J" } : Jvm.MethodName) prog_15_method_70_code (4 : Nat) (Option.some Jvm.ClassFile.FieldType.long)) ∈ tblG := tg_r (i := 454) (by decide +kernel) (by decide +kernel)
theorem tw_455 : (Jvm.Cond.methodLink "SafetyTrees$Odds" (121 : Nat) ({ cls := "SafetyTrees$Nodes", name := "lineUp", desc := "(I)I" } : Jvm.MethodName)) ∈ tblG := tg_r (i := 455) (by decide +kernel) (by decide +kernel)
theorem tw_456 : (Jvm.Cond.methodLink "SafetyTrees$Odds" (127 : Nat) ({ cls := "SafetyTrees$Odds", name := "gateBound", desc := "(I)J" } : Jvm.MethodName)) ∈ tblG := tg_r (i := 456) (by decide +kernel) (by decide +kernel)
theorem tw_458 : (Jvm.Cond.instanceMethod ({ cls := "SafetyTrees$Odds", name := "gateBound", desc := "(I)J" } : Jvm.MethodName)) ∈ tblG := tg_r (i := 458) (by decide +kernel) (by decide +kernel)
theorem tw_459 : (Jvm.Cond.code ({ cls := "SafetyTrees$Odds", name := "gateBound", desc := "(I)J" } : Jvm.MethodName) prog_7_method_9_code (9 : Nat) (Option.some Jvm.ClassFile.FieldType.long)) ∈ tblG := tg_r (i := 459) (by decide +kernel) (by decide +kernel)
theorem tw_460 : (Jvm.Cond.methodLink "SafetyTrees" (141 : Nat) ({ cls := "SafetyTrees$Fraction", name := "side", desc := "(I)J" } : Jvm.MethodName)) ∈ tblG := tg_r (i := 460) (by decide +kernel) (by decide +kernel)
theorem tw_461 : (Jvm.Cond.instanceMethod ({ cls := "SafetyTrees$Fraction", name := "side", desc := "(I)J" } : Jvm.MethodName)) ∈ tblG := tg_r (i := 461) (by decide +kernel) (by decide +kernel)
theorem tw_462 : (Jvm.Cond.selects "SafetyTrees$Fraction" ({ cls := "SafetyTrees$Fraction", name := "side", desc := "(I)J" } : Jvm.MethodName) ({ cls := "SafetyTrees$Fraction", name := "side", desc := "(I)J" } : Jvm.MethodName)) ∈ tblG := tg_r (i := 462) (by decide +kernel) (by decide +kernel)
theorem tw_463 : (Jvm.Cond.code ({ cls := "SafetyTrees$Fraction", name := "side", desc := "(I)J" } : Jvm.MethodName) prog_4_method_3_code (2 : Nat) (Option.some Jvm.ClassFile.FieldType.long)) ∈ tblG := tg_r (i := 463) (by decide +kernel) (by decide +kernel)
theorem tw_464 : (Jvm.Cond.methodLink "SafetyTreesLaw" (48 : Nat) ({ cls := "SafetyTrees", name := "exact", desc := "()Z" } : Jvm.MethodName)) ∈ tblG := tg_r (i := 464) (by decide +kernel) (by decide +kernel)
theorem tw_465 : (Jvm.Cond.instanceMethod ({ cls := "SafetyTrees", name := "exact", desc := "()Z" } : Jvm.MethodName)) ∈ tblG := tg_r (i := 465) (by decide +kernel) (by decide +kernel)
theorem tw_466 : (Jvm.Cond.selects "SafetyTrees" ({ cls := "SafetyTrees", name := "exact", desc := "()Z" } : Jvm.MethodName) ({ cls := "SafetyTrees", name := "exact", desc := "()Z" } : Jvm.MethodName)) ∈ tblG := tg_r (i := 466) (by decide +kernel) (by decide +kernel)
theorem tw_467 : (Jvm.Cond.code ({ cls := "SafetyTrees", name := "exact", desc := "()Z" } : Jvm.MethodName) prog_1_method_8_code (1 : Nat) (Option.some Jvm.ClassFile.FieldType.boolean)) ∈ tblG := tg_r (i := 467) (by decide +kernel) (by decide +kernel)
theorem tw_468 : (Jvm.Cond.methodLink "SafetyTreesLaw" (53 : Nat) ({ cls := "SafetyTrees", name := "common", desc := "(IIJJ)I" } : Jvm.MethodName)) ∈ tblG := tg_r (i := 468) (by decide +kernel) (by decide +kernel)
theorem tw_469 : (Jvm.Cond.instanceMethod ({ cls := "SafetyTrees", name := "common", desc := "(IIJJ)I" } : Jvm.MethodName)) ∈ tblG := tg_r (i := 469) (by decide +kernel) (by decide +kernel)
theorem tw_470 : (Jvm.Cond.selects "SafetyTrees" ({ cls := "SafetyTrees", name := "common", desc := "(IIJJ)I" } : Jvm.MethodName) ({ cls := "SafetyTrees", name := "common", desc := "(IIJJ)I" } : Jvm.MethodName)) ∈ tblG := tg_r (i := 470) (by decide +kernel) (by decide +kernel)
theorem tw_471 : (Jvm.Cond.code ({ cls := "SafetyTrees", name := "common", desc := "(IIJJ)I" } : Jvm.MethodName) prog_1_method_9_code (7 : Nat) (Option.some Jvm.ClassFile.FieldType.int)) ∈ tblG := tg_r (i := 471) (by decide +kernel) (by decide +kernel)
theorem tw_472 : (Jvm.Cond.methodLink "SafetyTrees" (149 : Nat) ({ cls := "SafetyTrees$Nodes", name := "isEvent", desc := "(I)Z" } : Jvm.MethodName)) ∈ tblG := tg_r (i := 472) (by decide +kernel) (by decide +kernel)
theorem tw_473 : (Jvm.Cond.instanceMethod ({ cls := "SafetyTrees$Nodes", name := "isEvent", desc := "(I)Z" } : Jvm.MethodName)) ∈ tblG := tg_r (i := 473) (by decide +kernel) (by decide +kernel)
theorem tw_474 : (Jvm.Cond.selects "SafetyTrees$Nodes" ({ cls := "SafetyTrees$Nodes", name := "isEvent", desc := "(I)Z" } : Jvm.MethodName) ({ cls := "SafetyTrees$Nodes", name := "isEvent", desc := "(I)Z" } : Jvm.MethodName)) ∈ tblG := tg_r (i := 474) (by decide +kernel) (by decide +kernel)
theorem tw_475 : (Jvm.Cond.code ({ cls := "SafetyTrees$Nodes", name := "isEvent", desc := "(I)Z" } : Jvm.MethodName) prog_6_method_3_code (2 : Nat) (Option.some Jvm.ClassFile.FieldType.boolean)) ∈ tblG := tg_r (i := 475) (by decide +kernel) (by decide +kernel)
theorem tw_476 : (Jvm.Cond.methodLink "SafetyTrees" (155 : Nat) ({ cls := "SafetyTrees$Causes", name := "add", desc := "(IJJ)I" } : Jvm.MethodName)) ∈ tblG := tg_r (i := 476) (by decide +kernel) (by decide +kernel)
theorem tw_477 : (Jvm.Cond.instanceMethod ({ cls := "SafetyTrees$Causes", name := "add", desc := "(IJJ)I" } : Jvm.MethodName)) ∈ tblG := tg_r (i := 477) (by decide +kernel) (by decide +kernel)
theorem tw_478 : (Jvm.Cond.selects "SafetyTrees$Causes" ({ cls := "SafetyTrees$Causes", name := "add", desc := "(IJJ)I" } : Jvm.MethodName) ({ cls := "SafetyTrees$Causes", name := "add", desc := "(IJJ)I" } : Jvm.MethodName)) ∈ tblG := tg_r (i := 478) (by decide +kernel) (by decide +kernel)
theorem tw_479 : (Jvm.Cond.code ({ cls := "SafetyTrees$Causes", name := "add", desc := "(IJJ)I" } : Jvm.MethodName) prog_2_method_2_code (6 : Nat) (Option.some Jvm.ClassFile.FieldType.int)) ∈ tblG := tg_r (i := 479) (by decide +kernel) (by decide +kernel)
theorem tw_480 : (Jvm.Cond.methodLink "SafetyTreesLaw" (58 : Nat) ({ cls := "SafetyTrees", name := "grade", desc := "(III)I" } : Jvm.MethodName)) ∈ tblG := tg_r (i := 480) (by decide +kernel) (by decide +kernel)
theorem tw_481 : (Jvm.Cond.instanceMethod ({ cls := "SafetyTrees", name := "grade", desc := "(III)I" } : Jvm.MethodName)) ∈ tblG := tg_r (i := 481) (by decide +kernel) (by decide +kernel)
theorem tw_482 : (Jvm.Cond.selects "SafetyTrees" ({ cls := "SafetyTrees", name := "grade", desc := "(III)I" } : Jvm.MethodName) ({ cls := "SafetyTrees", name := "grade", desc := "(III)I" } : Jvm.MethodName)) ∈ tblG := tg_r (i := 482) (by decide +kernel) (by decide +kernel)
theorem tw_483 : (Jvm.Cond.code ({ cls := "SafetyTrees", name := "grade", desc := "(III)I" } : Jvm.MethodName) prog_1_method_10_code (5 : Nat) (Option.some Jvm.ClassFile.FieldType.int)) ∈ tblG := tg_r (i := 483) (by decide +kernel) (by decide +kernel)
theorem tw_484 : (Jvm.Cond.methodLink "SafetyTreesLaw" (63 : Nat) ({ cls := "SafetyTrees", name := "goal", desc := "(I)I" } : Jvm.MethodName)) ∈ tblG := tg_r (i := 484) (by decide +kernel) (by decide +kernel)
theorem tw_485 : (Jvm.Cond.instanceMethod ({ cls := "SafetyTrees", name := "goal", desc := "(I)I" } : Jvm.MethodName)) ∈ tblG := tg_r (i := 485) (by decide +kernel) (by decide +kernel)
theorem tw_486 : (Jvm.Cond.selects "SafetyTrees" ({ cls := "SafetyTrees", name := "goal", desc := "(I)I" } : Jvm.MethodName) ({ cls := "SafetyTrees", name := "goal", desc := "(I)I" } : Jvm.MethodName)) ∈ tblG := tg_r (i := 486) (by decide +kernel) (by decide +kernel)
theorem tw_487 : (Jvm.Cond.code ({ cls := "SafetyTrees", name := "goal", desc := "(I)I" } : Jvm.MethodName) prog_1_method_11_code (2 : Nat) (Option.some Jvm.ClassFile.FieldType.int)) ∈ tblG := tg_r (i := 487) (by decide +kernel) (by decide +kernel)
theorem tw_488 : (Jvm.Cond.methodLink "SafetyTrees" (164 : Nat) ({ cls := "SafetyTrees$Goals", name := "add", desc := "(I)I" } : Jvm.MethodName)) ∈ tblG := tg_r (i := 488) (by decide +kernel) (by decide +kernel)
theorem tw_489 : (Jvm.Cond.instanceMethod ({ cls := "SafetyTrees$Goals", name := "add", desc := "(I)I" } : Jvm.MethodName)) ∈ tblG := tg_r (i := 489) (by decide +kernel) (by decide +kernel)
theorem tw_490 : (Jvm.Cond.selects "SafetyTrees$Goals" ({ cls := "SafetyTrees$Goals", name := "add", desc := "(I)I" } : Jvm.MethodName) ({ cls := "SafetyTrees$Goals", name := "add", desc := "(I)I" } : Jvm.MethodName)) ∈ tblG := tg_r (i := 490) (by decide +kernel) (by decide +kernel)
theorem tw_491 : (Jvm.Cond.code ({ cls := "SafetyTrees$Goals", name := "add", desc := "(I)I" } : Jvm.MethodName) prog_5_method_2_code (2 : Nat) (Option.some Jvm.ClassFile.FieldType.int)) ∈ tblG := tg_r (i := 491) (by decide +kernel) (by decide +kernel)
theorem tw_492 : (Jvm.Cond.methodLink "SafetyTreesLaw" (68 : Nat) ({ cls := "SafetyTrees", name := "trace", desc := "(III)I" } : Jvm.MethodName)) ∈ tblG := tg_r (i := 492) (by decide +kernel) (by decide +kernel)
theorem tw_493 : (Jvm.Cond.instanceMethod ({ cls := "SafetyTrees", name := "trace", desc := "(III)I" } : Jvm.MethodName)) ∈ tblG := tg_r (i := 493) (by decide +kernel) (by decide +kernel)
theorem tw_494 : (Jvm.Cond.selects "SafetyTrees" ({ cls := "SafetyTrees", name := "trace", desc := "(III)I" } : Jvm.MethodName) ({ cls := "SafetyTrees", name := "trace", desc := "(III)I" } : Jvm.MethodName)) ∈ tblG := tg_r (i := 494) (by decide +kernel) (by decide +kernel)
theorem tw_495 : (Jvm.Cond.code ({ cls := "SafetyTrees", name := "trace", desc := "(III)I" } : Jvm.MethodName) prog_1_method_12_code (4 : Nat) (Option.some Jvm.ClassFile.FieldType.int)) ∈ tblG := tg_r (i := 495) (by decide +kernel) (by decide +kernel)
theorem tw_496 : (Jvm.Cond.methodLink "SafetyTrees" (166 : Nat) ({ cls := "SafetyTrees$Goals", name := "hasRow", desc := "(III)Z" } : Jvm.MethodName)) ∈ tblG := tg_r (i := 496) (by decide +kernel) (by decide +kernel)
theorem tw_497 : (Jvm.Cond.instanceMethod ({ cls := "SafetyTrees$Goals", name := "hasRow", desc := "(III)Z" } : Jvm.MethodName)) ∈ tblG := tg_r (i := 497) (by decide +kernel) (by decide +kernel)
theorem tw_498 : (Jvm.Cond.selects "SafetyTrees$Goals" ({ cls := "SafetyTrees$Goals", name := "hasRow", desc := "(III)Z" } : Jvm.MethodName) ({ cls := "SafetyTrees$Goals", name := "hasRow", desc := "(III)Z" } : Jvm.MethodName)) ∈ tblG := tg_r (i := 498) (by decide +kernel) (by decide +kernel)
theorem tw_499 : (Jvm.Cond.code ({ cls := "SafetyTrees$Goals", name := "hasRow", desc := "(III)Z" } : Jvm.MethodName) prog_5_method_4_code (5 : Nat) (Option.some Jvm.ClassFile.FieldType.boolean)) ∈ tblG := tg_r (i := 499) (by decide +kernel) (by decide +kernel)
theorem tw_500 : (Jvm.Cond.methodLink "SafetyTrees" (172 : Nat) ({ cls := "SafetyTrees$Goals", name := "addRow", desc := "(III)I" } : Jvm.MethodName)) ∈ tblG := tg_r (i := 500) (by decide +kernel) (by decide +kernel)
theorem tw_501 : (Jvm.Cond.instanceMethod ({ cls := "SafetyTrees$Goals", name := "addRow", desc := "(III)I" } : Jvm.MethodName)) ∈ tblG := tg_r (i := 501) (by decide +kernel) (by decide +kernel)
theorem tw_502 : (Jvm.Cond.selects "SafetyTrees$Goals" ({ cls := "SafetyTrees$Goals", name := "addRow", desc := "(III)I" } : Jvm.MethodName) ({ cls := "SafetyTrees$Goals", name := "addRow", desc := "(III)I" } : Jvm.MethodName)) ∈ tblG := tg_r (i := 502) (by decide +kernel) (by decide +kernel)
theorem tw_503 : (Jvm.Cond.code ({ cls := "SafetyTrees$Goals", name := "addRow", desc := "(III)I" } : Jvm.MethodName) prog_5_method_3_code (4 : Nat) (Option.some Jvm.ClassFile.FieldType.int)) ∈ tblG := tg_r (i := 503) (by decide +kernel) (by decide +kernel)
theorem tw_504 : (Jvm.Cond.methodLink "SafetyTreesLaw" (72 : Nat) ({ cls := "SafetyTrees", name := "open", desc := "(I)I" } : Jvm.MethodName)) ∈ tblG := tg_r (i := 504) (by decide +kernel) (by decide +kernel)
theorem tw_505 : (Jvm.Cond.instanceMethod ({ cls := "SafetyTrees", name := "open", desc := "(I)I" } : Jvm.MethodName)) ∈ tblG := tg_r (i := 505) (by decide +kernel) (by decide +kernel)
theorem tw_506 : (Jvm.Cond.selects "SafetyTrees" ({ cls := "SafetyTrees", name := "open", desc := "(I)I" } : Jvm.MethodName) ({ cls := "SafetyTrees", name := "open", desc := "(I)I" } : Jvm.MethodName)) ∈ tblG := tg_r (i := 506) (by decide +kernel) (by decide +kernel)
theorem tw_507 : (Jvm.Cond.code ({ cls := "SafetyTrees", name := "open", desc := "(I)I" } : Jvm.MethodName) prog_1_method_13_code (2 : Nat) (Option.some Jvm.ClassFile.FieldType.int)) ∈ tblG := tg_r (i := 507) (by decide +kernel) (by decide +kernel)
theorem tw_508 : (Jvm.Cond.methodLink "SafetyTrees" (176 : Nat) ({ cls := "SafetyTrees$Goals", name := "findOpen", desc := "(I)I" } : Jvm.MethodName)) ∈ tblG := tg_r (i := 508) (by decide +kernel) (by decide +kernel)
theorem tw_509 : (Jvm.Cond.instanceMethod ({ cls := "SafetyTrees$Goals", name := "findOpen", desc := "(I)I" } : Jvm.MethodName)) ∈ tblG := tg_r (i := 509) (by decide +kernel) (by decide +kernel)
theorem tw_510 : (Jvm.Cond.selects "SafetyTrees$Goals" ({ cls := "SafetyTrees$Goals", name := "findOpen", desc := "(I)I" } : Jvm.MethodName) ({ cls := "SafetyTrees$Goals", name := "findOpen", desc := "(I)I" } : Jvm.MethodName)) ∈ tblG := tg_r (i := 510) (by decide +kernel) (by decide +kernel)
theorem tw_511 : (Jvm.Cond.code ({ cls := "SafetyTrees$Goals", name := "findOpen", desc := "(I)I" } : Jvm.MethodName) prog_5_method_7_code (4 : Nat) (Option.some Jvm.ClassFile.FieldType.int)) ∈ tblG := tg_r (i := 511) (by decide +kernel) (by decide +kernel)
theorem tw_512 : (Jvm.Cond.methodLink "SafetyTrees$Goals" (31 : Nat) ({ cls := "SafetyTrees$Goals", name := "isGoalOpen", desc := "(I)Z" } : Jvm.MethodName)) ∈ tblG := tg_r (i := 512) (by decide +kernel) (by decide +kernel)
theorem tw_514 : (Jvm.Cond.instanceMethod ({ cls := "SafetyTrees$Goals", name := "isGoalOpen", desc := "(I)Z" } : Jvm.MethodName)) ∈ tblG := tg_r (i := 514) (by decide +kernel) (by decide +kernel)
theorem tw_515 : (Jvm.Cond.code ({ cls := "SafetyTrees$Goals", name := "isGoalOpen", desc := "(I)Z" } : Jvm.MethodName) prog_5_method_8_code (3 : Nat) (Option.some Jvm.ClassFile.FieldType.boolean)) ∈ tblG := tg_r (i := 515) (by decide +kernel) (by decide +kernel)
theorem tw_516 : (Jvm.Cond.methodLink "SafetyTrees$Goals" (35 : Nat) ({ cls := "SafetyTrees$Goals", name := "isPartOpen", desc := "(I)Z" } : Jvm.MethodName)) ∈ tblG := tg_r (i := 516) (by decide +kernel) (by decide +kernel)
theorem tw_518 : (Jvm.Cond.instanceMethod ({ cls := "SafetyTrees$Goals", name := "isPartOpen", desc := "(I)Z" } : Jvm.MethodName)) ∈ tblG := tg_r (i := 518) (by decide +kernel) (by decide +kernel)
theorem tw_519 : (Jvm.Cond.code ({ cls := "SafetyTrees$Goals", name := "isPartOpen", desc := "(I)Z" } : Jvm.MethodName) prog_5_method_9_code (2 : Nat) (Option.some Jvm.ClassFile.FieldType.boolean)) ∈ tblG := tg_r (i := 519) (by decide +kernel) (by decide +kernel)
theorem tw_520 : (Jvm.Cond.methodLink "SafetyTrees$Goals" (38 : Nat) ({ cls := "SafetyTrees$Goals", name := "rowsOfPart", desc := "(I)I" } : Jvm.MethodName)) ∈ tblG := tg_r (i := 520) (by decide +kernel) (by decide +kernel)
theorem tw_521 : (Jvm.Cond.instanceMethod ({ cls := "SafetyTrees$Goals", name := "rowsOfPart", desc := "(I)I" } : Jvm.MethodName)) ∈ tblG := tg_r (i := 521) (by decide +kernel) (by decide +kernel)
theorem tw_522 : (Jvm.Cond.selects "SafetyTrees$Goals" ({ cls := "SafetyTrees$Goals", name := "rowsOfPart", desc := "(I)I" } : Jvm.MethodName) ({ cls := "SafetyTrees$Goals", name := "rowsOfPart", desc := "(I)I" } : Jvm.MethodName)) ∈ tblG := tg_r (i := 522) (by decide +kernel) (by decide +kernel)
theorem tw_523 : (Jvm.Cond.code ({ cls := "SafetyTrees$Goals", name := "rowsOfPart", desc := "(I)I" } : Jvm.MethodName) prog_5_method_5_code (4 : Nat) (Option.some Jvm.ClassFile.FieldType.int)) ∈ tblG := tg_r (i := 523) (by decide +kernel) (by decide +kernel)
theorem tw_524 : (Jvm.Cond.methodLink "SafetyTrees$Goals" (42 : Nat) ({ cls := "SafetyTrees$Goals", name := "testedRowsOfPart", desc := "(I)I" } : Jvm.MethodName)) ∈ tblG := tg_r (i := 524) (by decide +kernel) (by decide +kernel)
theorem tw_525 : (Jvm.Cond.instanceMethod ({ cls := "SafetyTrees$Goals", name := "testedRowsOfPart", desc := "(I)I" } : Jvm.MethodName)) ∈ tblG := tg_r (i := 525) (by decide +kernel) (by decide +kernel)
theorem tw_526 : (Jvm.Cond.selects "SafetyTrees$Goals" ({ cls := "SafetyTrees$Goals", name := "testedRowsOfPart", desc := "(I)I" } : Jvm.MethodName) ({ cls := "SafetyTrees$Goals", name := "testedRowsOfPart", desc := "(I)I" } : Jvm.MethodName)) ∈ tblG := tg_r (i := 526) (by decide +kernel) (by decide +kernel)
theorem tw_527 : (Jvm.Cond.code ({ cls := "SafetyTrees$Goals", name := "testedRowsOfPart", desc := "(I)I" } : Jvm.MethodName) prog_5_method_6_code (4 : Nat) (Option.some Jvm.ClassFile.FieldType.int)) ∈ tblG := tg_r (i := 527) (by decide +kernel) (by decide +kernel)
theorem tw_528 : (Jvm.Cond.methodLink "SafetyTreesLaw" (86 : Nat) ({ cls := "SafetyTrees", name := "plain", desc := "(I)I" } : Jvm.MethodName)) ∈ tblG := tg_r (i := 528) (by decide +kernel) (by decide +kernel)
theorem tw_529 : (Jvm.Cond.instanceMethod ({ cls := "SafetyTrees", name := "plain", desc := "(I)I" } : Jvm.MethodName)) ∈ tblG := tg_r (i := 529) (by decide +kernel) (by decide +kernel)
theorem tw_530 : (Jvm.Cond.selects "SafetyTrees" ({ cls := "SafetyTrees", name := "plain", desc := "(I)I" } : Jvm.MethodName) ({ cls := "SafetyTrees", name := "plain", desc := "(I)I" } : Jvm.MethodName)) ∈ tblG := tg_r (i := 530) (by decide +kernel) (by decide +kernel)
theorem tw_531 : (Jvm.Cond.code ({ cls := "SafetyTrees", name := "plain", desc := "(I)I" } : Jvm.MethodName) prog_1_method_15_code (2 : Nat) (Option.some Jvm.ClassFile.FieldType.int)) ∈ tblG := tg_r (i := 531) (by decide +kernel) (by decide +kernel)
theorem tw_532 : (Jvm.Cond.methodLink "SafetyTrees" (196 : Nat) ({ cls := "SafetyTrees$Truth", name := "countTrue", desc := "(II)I" } : Jvm.MethodName)) ∈ tblG := tg_r (i := 532) (by decide +kernel) (by decide +kernel)
theorem tw_533 : (Jvm.Cond.instanceMethod ({ cls := "SafetyTrees$Truth", name := "countTrue", desc := "(II)I" } : Jvm.MethodName)) ∈ tblG := tg_r (i := 533) (by decide +kernel) (by decide +kernel)
theorem tw_534 : (Jvm.Cond.selects "SafetyTrees$Truth" ({ cls := "SafetyTrees$Truth", name := "countTrue", desc := "(II)I" } : Jvm.MethodName) ({ cls := "SafetyTrees$Truth", name := "countTrue", desc := "(II)I" } : Jvm.MethodName)) ∈ tblG := tg_r (i := 534) (by decide +kernel) (by decide +kernel)
theorem tw_535 : (Jvm.Cond.code ({ cls := "SafetyTrees$Truth", name := "countTrue", desc := "(II)I" } : Jvm.MethodName) prog_8_method_12_code (7 : Nat) (Option.some Jvm.ClassFile.FieldType.int)) ∈ tblG := tg_r (i := 535) (by decide +kernel) (by decide +kernel)
theorem tw_536 : (Jvm.Cond.methodLinkNest "SafetyTrees$Truth" (76 : Nat) ({ cls := "SafetyTrees", name := "countOfSets", desc := "(I)I" } : Jvm.MethodName) "SafetyTrees") ∈ tblN := tn_r (i := 536) (by decide +kernel) (by decide +kernel)
theorem tw_537 : (Jvm.Cond.methodLinkNest "SafetyTrees$Truth" (83 : Nat) ({ cls := "SafetyTrees", name := "nextSet", desc := "(II)I" } : Jvm.MethodName) "SafetyTrees") ∈ tblN := tn_r (i := 537) (by decide +kernel) (by decide +kernel)
theorem tw_538 : (Jvm.Cond.methodLink "SafetyTreesLaw" (76 : Nat) ({ cls := "SafetyTreesLaw", name := "cover", desc := "(LSafetyTrees;II[J)I" } : Jvm.MethodName)) ∈ tblG := tg_r (i := 538) (by decide +kernel) (by decide +kernel)
theorem tw_539 : (Jvm.Cond.static ({ cls := "SafetyTreesLaw", name := "cover", desc := "(LSafetyTrees;II[J)I" } : Jvm.MethodName)) ∈ tblG := tg_r (i := 539) (by decide +kernel) (by decide +kernel)
theorem tw_541 : (Jvm.Cond.classLink "SafetyTreesLaw" (13 : Nat) "java/lang/ArithmeticException") ∈ tblG := tg_r (i := 541) (by decide +kernel) (by decide +kernel)
theorem tw_542 : (Jvm.Cond.methodLink "SafetyTreesLaw" (7 : Nat) ({ cls := "SafetyTrees", name := "cover", desc := "(II)J" } : Jvm.MethodName)) ∈ tblG := tg_r (i := 542) (by decide +kernel) (by decide +kernel)
theorem tw_543 : (Jvm.Cond.instanceMethod ({ cls := "SafetyTrees", name := "cover", desc := "(II)J" } : Jvm.MethodName)) ∈ tblG := tg_r (i := 543) (by decide +kernel) (by decide +kernel)
theorem tw_544 : (Jvm.Cond.selects "SafetyTrees" ({ cls := "SafetyTrees", name := "cover", desc := "(II)J" } : Jvm.MethodName) ({ cls := "SafetyTrees", name := "cover", desc := "(II)J" } : Jvm.MethodName)) ∈ tblG := tg_r (i := 544) (by decide +kernel) (by decide +kernel)
theorem tw_545 : (Jvm.Cond.code ({ cls := "SafetyTrees", name := "cover", desc := "(II)J" } : Jvm.MethodName) prog_1_method_14_code (4 : Nat) (Option.some Jvm.ClassFile.FieldType.long)) ∈ tblG := tg_r (i := 545) (by decide +kernel) (by decide +kernel)
theorem tw_546 : (Jvm.Cond.methodLink "SafetyTrees" (179 : Nat) ({ cls := "SafetyTrees$Goals", name := "rowsOfPart", desc := "(I)I" } : Jvm.MethodName)) ∈ tblG := tg_r (i := 546) (by decide +kernel) (by decide +kernel)
theorem tw_547 : (Jvm.Cond.classLink "SafetyTrees" (182 : Nat) "java/lang/ArithmeticException") ∈ tblG := tg_r (i := 547) (by decide +kernel) (by decide +kernel)
theorem tw_548 : (Jvm.Cond.instantiable "java/lang/ArithmeticException" (6 : Nat)) ∈ tblG := tg_r (i := 548) (by decide +kernel) (by decide +kernel)
theorem tw_556 : (Jvm.Cond.selects "java/lang/ArithmeticException" ({ cls := "java/lang/Throwable", name := "fillInStackTrace", desc := "(I)Ljava/lang/Throwable;" } : Jvm.MethodName) ({ cls := "java/lang/Throwable", name := "fillInStackTrace", desc := "(I)Ljava/lang/Throwable;" } : Jvm.MethodName)) ∈ tblG := tg_r (i := 556) (by decide +kernel) (by decide +kernel)
theorem tw_557 : (Jvm.Cond.selects "java/lang/ArithmeticException" ({ cls := "java/lang/Throwable", name := "fillInStackTrace", desc := "()Ljava/lang/Throwable;" } : Jvm.MethodName) ({ cls := "java/lang/Throwable", name := "fillInStackTrace", desc := "()Ljava/lang/Throwable;" } : Jvm.MethodName)) ∈ tblG := tg_r (i := 557) (by decide +kernel) (by decide +kernel)
theorem tw_558 : (Jvm.Cond.lays "java/lang/ArithmeticException" "java/lang/Throwable" "cause" "Ljava/lang/Throwable;") ∈ tblG := tg_r (i := 558) (by decide +kernel) (by decide +kernel)
theorem tw_559 : (Jvm.Cond.lays "java/lang/Throwable" "java/lang/Throwable" "cause" "Ljava/lang/Throwable;") ∈ tblG := tg_r (i := 559) (by decide +kernel) (by decide +kernel)
theorem tw_560 : (Jvm.Cond.lays "java/lang/ArithmeticException" "java/lang/Throwable" "stackTrace" "[Ljava/lang/StackTraceElement;") ∈ tblG := tg_r (i := 560) (by decide +kernel) (by decide +kernel)
theorem tw_561 : (Jvm.Cond.lays "java/lang/Throwable" "java/lang/Throwable" "stackTrace" "[Ljava/lang/StackTraceElement;") ∈ tblG := tg_r (i := 561) (by decide +kernel) (by decide +kernel)
theorem tw_562 : (Jvm.Cond.lays "java/lang/ArithmeticException" "java/lang/Throwable" "suppressedExceptions" "Ljava/util/List;") ∈ tblG := tg_r (i := 562) (by decide +kernel) (by decide +kernel)
theorem tw_563 : (Jvm.Cond.lays "java/lang/Throwable" "java/lang/Throwable" "suppressedExceptions" "Ljava/util/List;") ∈ tblG := tg_r (i := 563) (by decide +kernel) (by decide +kernel)
theorem tw_564 : (Jvm.Cond.lays "java/lang/ArithmeticException" "java/lang/Throwable" "detailMessage" "Ljava/lang/String;") ∈ tblG := tg_r (i := 564) (by decide +kernel) (by decide +kernel)
theorem tw_565 : (Jvm.Cond.lays "java/lang/Throwable" "java/lang/Throwable" "detailMessage" "Ljava/lang/String;") ∈ tblG := tg_r (i := 565) (by decide +kernel) (by decide +kernel)
theorem tw_566 : (Jvm.Cond.lays "java/lang/ArithmeticException" "java/lang/Throwable" "backtrace" "Ljava/lang/Object;") ∈ tblG := tg_r (i := 566) (by decide +kernel) (by decide +kernel)
theorem tw_567 : (Jvm.Cond.lays "java/lang/Throwable" "java/lang/Throwable" "backtrace" "Ljava/lang/Object;") ∈ tblG := tg_r (i := 567) (by decide +kernel) (by decide +kernel)
theorem tw_568 : (Jvm.Cond.fieldLink "java/lang/Throwable" (198 : Nat) "java/lang/Throwable" "backtrace" "Ljava/lang/Object;") ∈ tblG := tg_r (i := 568) (by decide +kernel) (by decide +kernel)
theorem tw_570 : (Jvm.Cond.instanceMethod ({ cls := "java/lang/Throwable", name := "<init>", desc := "()V" } : Jvm.MethodName)) ∈ tblG := tg_r (i := 570) (by decide +kernel) (by decide +kernel)
theorem tw_571 : (Jvm.Cond.code ({ cls := "java/lang/Throwable", name := "<init>", desc := "()V" } : Jvm.MethodName) prog_18_method_1_code (1 : Nat) (Option.none : Option Jvm.ClassFile.FieldType)) ∈ tblG := tg_r (i := 571) (by decide +kernel) (by decide +kernel)
theorem tw_572 : (Jvm.Cond.methodLink "java/lang/Throwable" (1 : Nat) ({ cls := "java/lang/Object", name := "<init>", desc := "()V" } : Jvm.MethodName)) ∈ tblG := tg_r (i := 572) (by decide +kernel) (by decide +kernel)
theorem tw_573 : (Jvm.Cond.fieldLink "java/lang/Throwable" (13 : Nat) "java/lang/Throwable" "UNASSIGNED_STACK" "[Ljava/lang/StackTraceElement;") ∈ tblG := tg_r (i := 573) (by decide +kernel) (by decide +kernel)
theorem tw_575 : (Jvm.Cond.fieldLink "java/lang/Throwable" (20 : Nat) "java/lang/Throwable" "SUPPRESSED_SENTINEL" "Ljava/util/List;") ∈ tblG := tg_r (i := 575) (by decide +kernel) (by decide +kernel)
theorem tw_577 : (Jvm.Cond.methodLink "java/lang/Throwable" (27 : Nat) ({ cls := "java/lang/Throwable", name := "fillInStackTrace", desc := "()Ljava/lang/Throwable;" } : Jvm.MethodName)) ∈ tblG := tg_r (i := 577) (by decide +kernel) (by decide +kernel)
theorem tw_578 : (Jvm.Cond.instanceMethod ({ cls := "java/lang/Throwable", name := "fillInStackTrace", desc := "()Ljava/lang/Throwable;" } : Jvm.MethodName)) ∈ tblG := tg_r (i := 578) (by decide +kernel) (by decide +kernel)
theorem tw_581 : (Jvm.Cond.methodLink "java/lang/Throwable" (202 : Nat) ({ cls := "java/lang/Throwable", name := "fillInStackTrace", desc := "(I)Ljava/lang/Throwable;" } : Jvm.MethodName)) ∈ tblG := tg_r (i := 581) (by decide +kernel) (by decide +kernel)
theorem tw_583 : (Jvm.Cond.instanceMethod ({ cls := "java/lang/Throwable", name := "fillInStackTrace", desc := "(I)Ljava/lang/Throwable;" } : Jvm.MethodName)) ∈ tblG := tg_r (i := 583) (by decide +kernel) (by decide +kernel)
theorem tw_584 : (Jvm.Cond.instantiable "java/lang/Throwable" (6 : Nat)) ∈ tblG := tg_r (i := 584) (by decide +kernel) (by decide +kernel)
theorem tw_587 : (Jvm.Cond.methodLink "SafetyTrees" (186 : Nat) ({ cls := "java/lang/ArithmeticException", name := "<init>", desc := "(Ljava/lang/String;)V" } : Jvm.MethodName)) ∈ tblG := tg_r (i := 587) (by decide +kernel) (by decide +kernel)
theorem tw_588 : (Jvm.Cond.instanceMethod ({ cls := "java/lang/ArithmeticException", name := "<init>", desc := "(Ljava/lang/String;)V" } : Jvm.MethodName)) ∈ tblG := tg_r (i := 588) (by decide +kernel) (by decide +kernel)
theorem tw_589 : (Jvm.Cond.code ({ cls := "java/lang/ArithmeticException", name := "<init>", desc := "(Ljava/lang/String;)V" } : Jvm.MethodName) prog_11_method_2_code (2 : Nat) (Option.none : Option Jvm.ClassFile.FieldType)) ∈ tblG := tg_r (i := 589) (by decide +kernel) (by decide +kernel)
theorem tw_590 : (Jvm.Cond.methodLink "java/lang/ArithmeticException" (7 : Nat) ({ cls := "java/lang/RuntimeException", name := "<init>", desc := "(Ljava/lang/String;)V" } : Jvm.MethodName)) ∈ tblG := tg_r (i := 590) (by decide +kernel) (by decide +kernel)
theorem tw_591 : (Jvm.Cond.instanceMethod ({ cls := "java/lang/RuntimeException", name := "<init>", desc := "(Ljava/lang/String;)V" } : Jvm.MethodName)) ∈ tblG := tg_r (i := 591) (by decide +kernel) (by decide +kernel)
theorem tw_592 : (Jvm.Cond.code ({ cls := "java/lang/RuntimeException", name := "<init>", desc := "(Ljava/lang/String;)V" } : Jvm.MethodName) prog_16_method_2_code (2 : Nat) (Option.none : Option Jvm.ClassFile.FieldType)) ∈ tblG := tg_r (i := 592) (by decide +kernel) (by decide +kernel)
theorem tw_593 : (Jvm.Cond.methodLink "java/lang/RuntimeException" (7 : Nat) ({ cls := "java/lang/Exception", name := "<init>", desc := "(Ljava/lang/String;)V" } : Jvm.MethodName)) ∈ tblG := tg_r (i := 593) (by decide +kernel) (by decide +kernel)
theorem tw_594 : (Jvm.Cond.instanceMethod ({ cls := "java/lang/Exception", name := "<init>", desc := "(Ljava/lang/String;)V" } : Jvm.MethodName)) ∈ tblG := tg_r (i := 594) (by decide +kernel) (by decide +kernel)
theorem tw_595 : (Jvm.Cond.code ({ cls := "java/lang/Exception", name := "<init>", desc := "(Ljava/lang/String;)V" } : Jvm.MethodName) prog_12_method_2_code (2 : Nat) (Option.none : Option Jvm.ClassFile.FieldType)) ∈ tblG := tg_r (i := 595) (by decide +kernel) (by decide +kernel)
theorem tw_596 : (Jvm.Cond.methodLink "java/lang/Exception" (7 : Nat) ({ cls := "java/lang/Throwable", name := "<init>", desc := "(Ljava/lang/String;)V" } : Jvm.MethodName)) ∈ tblG := tg_r (i := 596) (by decide +kernel) (by decide +kernel)
theorem tw_597 : (Jvm.Cond.instanceMethod ({ cls := "java/lang/Throwable", name := "<init>", desc := "(Ljava/lang/String;)V" } : Jvm.MethodName)) ∈ tblG := tg_r (i := 597) (by decide +kernel) (by decide +kernel)
theorem tw_598 : (Jvm.Cond.code ({ cls := "java/lang/Throwable", name := "<init>", desc := "(Ljava/lang/String;)V" } : Jvm.MethodName) prog_18_method_2_code (2 : Nat) (Option.none : Option Jvm.ClassFile.FieldType)) ∈ tblG := tg_r (i := 598) (by decide +kernel) (by decide +kernel)
theorem tw_599 : (Jvm.Cond.fieldLink "java/lang/Throwable" (198 : Nat) "java/lang/Throwable" "backtrace" "Ljava/lang/Object;") ∈ tblG := tg_r (i := 599) (by decide +kernel) (by decide +kernel)
theorem tw_600 : (Jvm.Cond.fieldLink "java/lang/Throwable" (31 : Nat) "java/lang/Throwable" "detailMessage" "Ljava/lang/String;") ∈ tblG := tg_r (i := 600) (by decide +kernel) (by decide +kernel)
theorem tw_601 : (Jvm.Cond.fieldLink "java/lang/Throwable" (7 : Nat) "java/lang/Throwable" "cause" "Ljava/lang/Throwable;") ∈ tblG := tg_r (i := 601) (by decide +kernel) (by decide +kernel)
theorem tw_602 : (Jvm.Cond.fieldLink "java/lang/Throwable" (17 : Nat) "java/lang/Throwable" "stackTrace" "[Ljava/lang/StackTraceElement;") ∈ tblG := tg_r (i := 602) (by decide +kernel) (by decide +kernel)
theorem tw_603 : (Jvm.Cond.fieldLink "java/lang/Throwable" (24 : Nat) "java/lang/Throwable" "suppressedExceptions" "Ljava/util/List;") ∈ tblG := tg_r (i := 603) (by decide +kernel) (by decide +kernel)
theorem tw_608 : (Jvm.Cond.lays "java/lang/ArithmeticException" "java/lang/Throwable" "depth" "I") ∈ tblG := tg_r (i := 608) (by decide +kernel) (by decide +kernel)
theorem tw_612 : (Jvm.Cond.arrayClass Jvm.ClassFile.FieldType.byte) ∈ tblG := tg_r (i := 612) (by decide +kernel) (by decide +kernel)
theorem tw_613 : (Jvm.Cond.methodLink "SafetyTrees" (189 : Nat) ({ cls := "SafetyTrees$Goals", name := "testedRowsOfPart", desc := "(I)I" } : Jvm.MethodName)) ∈ tblG := tg_r (i := 613) (by decide +kernel) (by decide +kernel)
theorem tw_614 : (Jvm.Cond.methodLink "SafetyTrees" (192 : Nat) ({ cls := "SafetyTrees$Fraction", name := "set", desc := "(JJ)V" } : Jvm.MethodName)) ∈ tblG := tg_r (i := 614) (by decide +kernel) (by decide +kernel)
theorem tw_615 : (Jvm.Cond.classLink "SafetyTreesLaw" (16 : Nat) "SafetyTreesModel") ∈ tblG := tg_r (i := 615) (by decide +kernel) (by decide +kernel)
theorem tw_616 : (Jvm.Cond.instantiable "SafetyTreesModel" (35 : Nat)) ∈ tblG := tg_r (i := 616) (by decide +kernel) (by decide +kernel)
theorem tw_617 : (Jvm.Cond.methodLink "SafetyTreesLaw" (18 : Nat) ({ cls := "SafetyTreesModel", name := "<init>", desc := "()V" } : Jvm.MethodName)) ∈ tblG := tg_r (i := 617) (by decide +kernel) (by decide +kernel)
theorem tw_618 : (Jvm.Cond.instanceMethod ({ cls := "SafetyTreesModel", name := "<init>", desc := "()V" } : Jvm.MethodName)) ∈ tblG := tg_r (i := 618) (by decide +kernel) (by decide +kernel)
theorem tw_619 : (Jvm.Cond.code ({ cls := "SafetyTreesModel", name := "<init>", desc := "()V" } : Jvm.MethodName) prog_10_method_1_code (1 : Nat) (Option.none : Option Jvm.ClassFile.FieldType)) ∈ tblG := tg_r (i := 619) (by decide +kernel) (by decide +kernel)
theorem tw_620 : (Jvm.Cond.methodLink "SafetyTreesModel" (1 : Nat) ({ cls := "java/lang/Object", name := "<init>", desc := "()V" } : Jvm.MethodName)) ∈ tblG := tg_r (i := 620) (by decide +kernel) (by decide +kernel)
theorem tw_621 : (Jvm.Cond.fieldLink "SafetyTreesModel" (81 : Nat) "SafetyTreesModel" "fault" "I") ∈ tblG := tg_r (i := 621) (by decide +kernel) (by decide +kernel)
theorem tw_622 : (Jvm.Cond.fieldLink "SafetyTreesModel" (85 : Nat) "SafetyTreesModel" "nodes" "I") ∈ tblG := tg_r (i := 622) (by decide +kernel) (by decide +kernel)
theorem tw_623 : (Jvm.Cond.fieldLink "SafetyTreesModel" (94 : Nat) "SafetyTreesModel" "events" "I") ∈ tblG := tg_r (i := 623) (by decide +kernel) (by decide +kernel)
theorem tw_624 : (Jvm.Cond.fieldLink "SafetyTreesModel" (99 : Nat) "SafetyTreesModel" "gates" "I") ∈ tblG := tg_r (i := 624) (by decide +kernel) (by decide +kernel)
theorem tw_625 : (Jvm.Cond.fieldLink "SafetyTreesModel" (7 : Nat) "SafetyTreesModel" "kind" "[I") ∈ tblG := tg_r (i := 625) (by decide +kernel) (by decide +kernel)
theorem tw_626 : (Jvm.Cond.fieldLink "SafetyTreesModel" (13 : Nat) "SafetyTreesModel" "votes" "[I") ∈ tblG := tg_r (i := 626) (by decide +kernel) (by decide +kernel)
theorem tw_627 : (Jvm.Cond.fieldLink "SafetyTreesModel" (16 : Nat) "SafetyTreesModel" "up" "[I") ∈ tblG := tg_r (i := 627) (by decide +kernel) (by decide +kernel)
theorem tw_628 : (Jvm.Cond.fieldLink "SafetyTreesModel" (19 : Nat) "SafetyTreesModel" "down" "[I") ∈ tblG := tg_r (i := 628) (by decide +kernel) (by decide +kernel)
theorem tw_629 : (Jvm.Cond.fieldLink "SafetyTreesModel" (22 : Nat) "SafetyTreesModel" "size" "[I") ∈ tblG := tg_r (i := 629) (by decide +kernel) (by decide +kernel)
theorem tw_630 : (Jvm.Cond.fieldLink "SafetyTreesModel" (25 : Nat) "SafetyTreesModel" "below" "[I") ∈ tblG := tg_r (i := 630) (by decide +kernel) (by decide +kernel)
theorem tw_631 : (Jvm.Cond.fieldLink "SafetyTreesModel" (149 : Nat) "SafetyTreesModel" "commons" "I") ∈ tblG := tg_r (i := 631) (by decide +kernel) (by decide +kernel)
theorem tw_632 : (Jvm.Cond.fieldLink "SafetyTreesModel" (28 : Nat) "SafetyTreesModel" "commonOne" "[I") ∈ tblG := tg_r (i := 632) (by decide +kernel) (by decide +kernel)
theorem tw_633 : (Jvm.Cond.fieldLink "SafetyTreesModel" (31 : Nat) "SafetyTreesModel" "commonOther" "[I") ∈ tblG := tg_r (i := 633) (by decide +kernel) (by decide +kernel)
theorem tw_634 : (Jvm.Cond.fieldLink "SafetyTreesModel" (34 : Nat) "SafetyTreesModel" "commonUp" "[I") ∈ tblG := tg_r (i := 634) (by decide +kernel) (by decide +kernel)
theorem tw_635 : (Jvm.Cond.fieldLink "SafetyTreesModel" (37 : Nat) "SafetyTreesModel" "commonDown" "[I") ∈ tblG := tg_r (i := 635) (by decide +kernel) (by decide +kernel)
theorem tw_636 : (Jvm.Cond.fieldLink "SafetyTreesModel" (166 : Nat) "SafetyTreesModel" "wasExact" "Z") ∈ tblG := tg_r (i := 636) (by decide +kernel) (by decide +kernel)
theorem tw_637 : (Jvm.Cond.fieldLink "SafetyTreesModel" (40 : Nat) "SafetyTreesModel" "under" "[Z") ∈ tblG := tg_r (i := 637) (by decide +kernel) (by decide +kernel)
theorem tw_638 : (Jvm.Cond.fieldLink "SafetyTreesModel" (110 : Nat) "SafetyTreesModel" "many" "I") ∈ tblG := tg_r (i := 638) (by decide +kernel) (by decide +kernel)
theorem tw_639 : (Jvm.Cond.fieldLink "SafetyTreesModel" (44 : Nat) "SafetyTreesModel" "eventAt" "[I") ∈ tblG := tg_r (i := 639) (by decide +kernel) (by decide +kernel)
theorem tw_640 : (Jvm.Cond.fieldLink "SafetyTreesModel" (113 : Nat) "SafetyTreesModel" "ordered" "I") ∈ tblG := tg_r (i := 640) (by decide +kernel) (by decide +kernel)
theorem tw_641 : (Jvm.Cond.fieldLink "SafetyTreesModel" (47 : Nat) "SafetyTreesModel" "order" "[I") ∈ tblG := tg_r (i := 641) (by decide +kernel) (by decide +kernel)
theorem tw_642 : (Jvm.Cond.fieldLink "SafetyTreesModel" (50 : Nat) "SafetyTreesModel" "done" "[Z") ∈ tblG := tg_r (i := 642) (by decide +kernel) (by decide +kernel)
theorem tw_643 : (Jvm.Cond.fieldLink "SafetyTreesModel" (53 : Nat) "SafetyTreesModel" "value" "[I") ∈ tblG := tg_r (i := 643) (by decide +kernel) (by decide +kernel)
theorem tw_644 : (Jvm.Cond.fieldLink "SafetyTreesModel" (56 : Nat) "SafetyTreesModel" "holds" "[Z") ∈ tblG := tg_r (i := 644) (by decide +kernel) (by decide +kernel)
theorem tw_645 : (Jvm.Cond.fieldLink "SafetyTreesModel" (59 : Nat) "SafetyTreesModel" "weight" "[J") ∈ tblG := tg_r (i := 645) (by decide +kernel) (by decide +kernel)
theorem tw_646 : (Jvm.Cond.fieldLink "SafetyTreesModel" (126 : Nat) "SafetyTreesModel" "cutMany" "I") ∈ tblG := tg_r (i := 646) (by decide +kernel) (by decide +kernel)
theorem tw_647 : (Jvm.Cond.fieldLink "SafetyTreesModel" (63 : Nat) "SafetyTreesModel" "cutOf" "[I") ∈ tblG := tg_r (i := 647) (by decide +kernel) (by decide +kernel)
theorem tw_648 : (Jvm.Cond.fieldLink "SafetyTreesModel" (66 : Nat) "SafetyTreesModel" "toldEvents" "[I") ∈ tblG := tg_r (i := 648) (by decide +kernel) (by decide +kernel)
theorem tw_649 : (Jvm.Cond.fieldLink "SafetyTreesModel" (129 : Nat) "SafetyTreesModel" "toldMany" "I") ∈ tblG := tg_r (i := 649) (by decide +kernel) (by decide +kernel)
theorem tw_650 : (Jvm.Cond.fieldLink "SafetyTreesModel" (184 : Nat) "SafetyTreesModel" "goals" "I") ∈ tblG := tg_r (i := 650) (by decide +kernel) (by decide +kernel)
theorem tw_651 : (Jvm.Cond.fieldLink "SafetyTreesModel" (69 : Nat) "SafetyTreesModel" "cls" "[I") ∈ tblG := tg_r (i := 651) (by decide +kernel) (by decide +kernel)
theorem tw_652 : (Jvm.Cond.fieldLink "SafetyTreesModel" (189 : Nat) "SafetyTreesModel" "rows" "I") ∈ tblG := tg_r (i := 652) (by decide +kernel) (by decide +kernel)
theorem tw_653 : (Jvm.Cond.fieldLink "SafetyTreesModel" (72 : Nat) "SafetyTreesModel" "rowGoal" "[I") ∈ tblG := tg_r (i := 653) (by decide +kernel) (by decide +kernel)
theorem tw_654 : (Jvm.Cond.fieldLink "SafetyTreesModel" (75 : Nat) "SafetyTreesModel" "rowPart" "[I") ∈ tblG := tg_r (i := 654) (by decide +kernel) (by decide +kernel)
theorem tw_655 : (Jvm.Cond.fieldLink "SafetyTreesModel" (78 : Nat) "SafetyTreesModel" "rowTest" "[I") ∈ tblG := tg_r (i := 655) (by decide +kernel) (by decide +kernel)
theorem tw_656 : (Jvm.Cond.lays "SafetyTreesModel" "SafetyTreesModel" "fault" "I") ∈ tblG := tg_r (i := 656) (by decide +kernel) (by decide +kernel)
theorem tw_658 : (Jvm.Cond.lays "SafetyTreesModel" "SafetyTreesModel" "nodes" "I") ∈ tblG := tg_r (i := 658) (by decide +kernel) (by decide +kernel)
theorem tw_660 : (Jvm.Cond.lays "SafetyTreesModel" "SafetyTreesModel" "events" "I") ∈ tblG := tg_r (i := 660) (by decide +kernel) (by decide +kernel)
theorem tw_662 : (Jvm.Cond.lays "SafetyTreesModel" "SafetyTreesModel" "gates" "I") ∈ tblG := tg_r (i := 662) (by decide +kernel) (by decide +kernel)
theorem tw_664 : (Jvm.Cond.laysFinal "SafetyTreesModel" "SafetyTreesModel" "kind" "[I") ∈ tblG := tg_r (i := 664) (by decide +kernel) (by decide +kernel)
theorem tw_666 : (Jvm.Cond.laysFinal "SafetyTreesModel" "SafetyTreesModel" "votes" "[I") ∈ tblG := tg_r (i := 666) (by decide +kernel) (by decide +kernel)
theorem tw_668 : (Jvm.Cond.laysFinal "SafetyTreesModel" "SafetyTreesModel" "up" "[I") ∈ tblG := tg_r (i := 668) (by decide +kernel) (by decide +kernel)
theorem tw_670 : (Jvm.Cond.laysFinal "SafetyTreesModel" "SafetyTreesModel" "down" "[I") ∈ tblG := tg_r (i := 670) (by decide +kernel) (by decide +kernel)
theorem tw_672 : (Jvm.Cond.laysFinal "SafetyTreesModel" "SafetyTreesModel" "size" "[I") ∈ tblG := tg_r (i := 672) (by decide +kernel) (by decide +kernel)
theorem tw_674 : (Jvm.Cond.laysFinal "SafetyTreesModel" "SafetyTreesModel" "below" "[I") ∈ tblG := tg_r (i := 674) (by decide +kernel) (by decide +kernel)
theorem tw_676 : (Jvm.Cond.lays "SafetyTreesModel" "SafetyTreesModel" "commons" "I") ∈ tblG := tg_r (i := 676) (by decide +kernel) (by decide +kernel)
theorem tw_678 : (Jvm.Cond.laysFinal "SafetyTreesModel" "SafetyTreesModel" "commonOne" "[I") ∈ tblG := tg_r (i := 678) (by decide +kernel) (by decide +kernel)
theorem tw_680 : (Jvm.Cond.laysFinal "SafetyTreesModel" "SafetyTreesModel" "commonOther" "[I") ∈ tblG := tg_r (i := 680) (by decide +kernel) (by decide +kernel)
theorem tw_682 : (Jvm.Cond.laysFinal "SafetyTreesModel" "SafetyTreesModel" "commonUp" "[I") ∈ tblG := tg_r (i := 682) (by decide +kernel) (by decide +kernel)
theorem tw_684 : (Jvm.Cond.laysFinal "SafetyTreesModel" "SafetyTreesModel" "commonDown" "[I") ∈ tblG := tg_r (i := 684) (by decide +kernel) (by decide +kernel)
theorem tw_686 : (Jvm.Cond.lays "SafetyTreesModel" "SafetyTreesModel" "wasExact" "Z") ∈ tblG := tg_r (i := 686) (by decide +kernel) (by decide +kernel)
theorem tw_688 : (Jvm.Cond.laysFinal "SafetyTreesModel" "SafetyTreesModel" "under" "[Z") ∈ tblG := tg_r (i := 688) (by decide +kernel) (by decide +kernel)
theorem tw_690 : (Jvm.Cond.lays "SafetyTreesModel" "SafetyTreesModel" "many" "I") ∈ tblG := tg_r (i := 690) (by decide +kernel) (by decide +kernel)
theorem tw_692 : (Jvm.Cond.laysFinal "SafetyTreesModel" "SafetyTreesModel" "eventAt" "[I") ∈ tblG := tg_r (i := 692) (by decide +kernel) (by decide +kernel)
theorem tw_694 : (Jvm.Cond.lays "SafetyTreesModel" "SafetyTreesModel" "ordered" "I") ∈ tblG := tg_r (i := 694) (by decide +kernel) (by decide +kernel)
theorem tw_696 : (Jvm.Cond.laysFinal "SafetyTreesModel" "SafetyTreesModel" "order" "[I") ∈ tblG := tg_r (i := 696) (by decide +kernel) (by decide +kernel)
theorem tw_698 : (Jvm.Cond.laysFinal "SafetyTreesModel" "SafetyTreesModel" "done" "[Z") ∈ tblG := tg_r (i := 698) (by decide +kernel) (by decide +kernel)
theorem tw_700 : (Jvm.Cond.laysFinal "SafetyTreesModel" "SafetyTreesModel" "value" "[I") ∈ tblG := tg_r (i := 700) (by decide +kernel) (by decide +kernel)
theorem tw_702 : (Jvm.Cond.laysFinal "SafetyTreesModel" "SafetyTreesModel" "holds" "[Z") ∈ tblG := tg_r (i := 702) (by decide +kernel) (by decide +kernel)
theorem tw_704 : (Jvm.Cond.laysFinal "SafetyTreesModel" "SafetyTreesModel" "weight" "[J") ∈ tblG := tg_r (i := 704) (by decide +kernel) (by decide +kernel)
theorem tw_706 : (Jvm.Cond.lays "SafetyTreesModel" "SafetyTreesModel" "cutMany" "I") ∈ tblG := tg_r (i := 706) (by decide +kernel) (by decide +kernel)
theorem tw_708 : (Jvm.Cond.laysFinal "SafetyTreesModel" "SafetyTreesModel" "cutOf" "[I") ∈ tblG := tg_r (i := 708) (by decide +kernel) (by decide +kernel)
theorem tw_710 : (Jvm.Cond.laysFinal "SafetyTreesModel" "SafetyTreesModel" "toldEvents" "[I") ∈ tblG := tg_r (i := 710) (by decide +kernel) (by decide +kernel)
theorem tw_712 : (Jvm.Cond.lays "SafetyTreesModel" "SafetyTreesModel" "toldMany" "I") ∈ tblG := tg_r (i := 712) (by decide +kernel) (by decide +kernel)
theorem tw_714 : (Jvm.Cond.lays "SafetyTreesModel" "SafetyTreesModel" "goals" "I") ∈ tblG := tg_r (i := 714) (by decide +kernel) (by decide +kernel)
theorem tw_716 : (Jvm.Cond.laysFinal "SafetyTreesModel" "SafetyTreesModel" "cls" "[I") ∈ tblG := tg_r (i := 716) (by decide +kernel) (by decide +kernel)
theorem tw_718 : (Jvm.Cond.lays "SafetyTreesModel" "SafetyTreesModel" "rows" "I") ∈ tblG := tg_r (i := 718) (by decide +kernel) (by decide +kernel)
theorem tw_720 : (Jvm.Cond.laysFinal "SafetyTreesModel" "SafetyTreesModel" "rowGoal" "[I") ∈ tblG := tg_r (i := 720) (by decide +kernel) (by decide +kernel)
theorem tw_722 : (Jvm.Cond.laysFinal "SafetyTreesModel" "SafetyTreesModel" "rowPart" "[I") ∈ tblG := tg_r (i := 722) (by decide +kernel) (by decide +kernel)
theorem tw_724 : (Jvm.Cond.laysFinal "SafetyTreesModel" "SafetyTreesModel" "rowTest" "[I") ∈ tblG := tg_r (i := 724) (by decide +kernel) (by decide +kernel)
theorem tw_727 : (Jvm.Cond.arrayClass Jvm.ClassFile.FieldType.boolean) ∈ tblG := tg_r (i := 727) (by decide +kernel) (by decide +kernel)
theorem tw_728 : (Jvm.Cond.methodLink "SafetyTreesLaw" (82 : Nat) ({ cls := "SafetyTreesModel", name := "thrown", desc := "()I" } : Jvm.MethodName)) ∈ tblG := tg_r (i := 728) (by decide +kernel) (by decide +kernel)
theorem tw_729 : (Jvm.Cond.instanceMethod ({ cls := "SafetyTreesModel", name := "thrown", desc := "()I" } : Jvm.MethodName)) ∈ tblG := tg_r (i := 729) (by decide +kernel) (by decide +kernel)
theorem tw_730 : (Jvm.Cond.selects "SafetyTreesModel" ({ cls := "SafetyTreesModel", name := "thrown", desc := "()I" } : Jvm.MethodName) ({ cls := "SafetyTreesModel", name := "thrown", desc := "()I" } : Jvm.MethodName)) ∈ tblG := tg_r (i := 730) (by decide +kernel) (by decide +kernel)
theorem tw_731 : (Jvm.Cond.code ({ cls := "SafetyTreesModel", name := "thrown", desc := "()I" } : Jvm.MethodName) prog_10_method_2_code (1 : Nat) (Option.some Jvm.ClassFile.FieldType.int)) ∈ tblG := tg_r (i := 731) (by decide +kernel) (by decide +kernel)
theorem tw_732 : (Jvm.Cond.methodLink "SafetyTreesLaw" (25 : Nat) ({ cls := "SafetyTreesModel", name := "event", desc := "(JJ)I" } : Jvm.MethodName)) ∈ tblG := tg_r (i := 732) (by decide +kernel) (by decide +kernel)
theorem tw_733 : (Jvm.Cond.instanceMethod ({ cls := "SafetyTreesModel", name := "event", desc := "(JJ)I" } : Jvm.MethodName)) ∈ tblG := tg_r (i := 733) (by decide +kernel) (by decide +kernel)
theorem tw_734 : (Jvm.Cond.selects "SafetyTreesModel" ({ cls := "SafetyTreesModel", name := "event", desc := "(JJ)I" } : Jvm.MethodName) ({ cls := "SafetyTreesModel", name := "event", desc := "(JJ)I" } : Jvm.MethodName)) ∈ tblG := tg_r (i := 734) (by decide +kernel) (by decide +kernel)
theorem tw_735 : (Jvm.Cond.code ({ cls := "SafetyTreesModel", name := "event", desc := "(JJ)I" } : Jvm.MethodName) prog_10_method_6_code (5 : Nat) (Option.some Jvm.ClassFile.FieldType.int)) ∈ tblG := tg_r (i := 735) (by decide +kernel) (by decide +kernel)
theorem tw_736 : (Jvm.Cond.constantLong "SafetyTreesModel" (92 : Nat) (10 : Int64)) ∈ tblG := tg_r (i := 736) (by decide +kernel) (by decide +kernel)
theorem tw_737 : (Jvm.Cond.methodLink "SafetyTreesModel" (88 : Nat) ({ cls := "SafetyTreesModel", name := "isIn", desc := "(JJJ)Z" } : Jvm.MethodName)) ∈ tblG := tg_r (i := 737) (by decide +kernel) (by decide +kernel)
theorem tw_738 : (Jvm.Cond.static ({ cls := "SafetyTreesModel", name := "isIn", desc := "(JJJ)Z" } : Jvm.MethodName)) ∈ tblG := tg_r (i := 738) (by decide +kernel) (by decide +kernel)
theorem tw_739 : (Jvm.Cond.code ({ cls := "SafetyTreesModel", name := "isIn", desc := "(JJJ)Z" } : Jvm.MethodName) prog_10_method_3_code (6 : Nat) (Option.some Jvm.ClassFile.FieldType.boolean)) ∈ tblG := tg_r (i := 739) (by decide +kernel) (by decide +kernel)
theorem tw_740 : (Jvm.Cond.methodLink "SafetyTreesLaw" (30 : Nat) ({ cls := "SafetyTreesModel", name := "gate", desc := "(II)I" } : Jvm.MethodName)) ∈ tblG := tg_r (i := 740) (by decide +kernel) (by decide +kernel)
theorem tw_741 : (Jvm.Cond.instanceMethod ({ cls := "SafetyTreesModel", name := "gate", desc := "(II)I" } : Jvm.MethodName)) ∈ tblG := tg_r (i := 741) (by decide +kernel) (by decide +kernel)
theorem tw_742 : (Jvm.Cond.selects "SafetyTreesModel" ({ cls := "SafetyTreesModel", name := "gate", desc := "(II)I" } : Jvm.MethodName) ({ cls := "SafetyTreesModel", name := "gate", desc := "(II)I" } : Jvm.MethodName)) ∈ tblG := tg_r (i := 742) (by decide +kernel) (by decide +kernel)
theorem tw_743 : (Jvm.Cond.code ({ cls := "SafetyTreesModel", name := "gate", desc := "(II)I" } : Jvm.MethodName) prog_10_method_7_code (3 : Nat) (Option.some Jvm.ClassFile.FieldType.int)) ∈ tblG := tg_r (i := 743) (by decide +kernel) (by decide +kernel)
theorem tw_744 : (Jvm.Cond.constantLong "SafetyTreesModel" (97 : Nat) (2 : Int64)) ∈ tblG := tg_r (i := 744) (by decide +kernel) (by decide +kernel)
theorem tw_745 : (Jvm.Cond.methodLink "SafetyTreesLaw" (34 : Nat) ({ cls := "SafetyTreesModel", name := "below", desc := "(II)I" } : Jvm.MethodName)) ∈ tblG := tg_r (i := 745) (by decide +kernel) (by decide +kernel)
theorem tw_746 : (Jvm.Cond.instanceMethod ({ cls := "SafetyTreesModel", name := "below", desc := "(II)I" } : Jvm.MethodName)) ∈ tblG := tg_r (i := 746) (by decide +kernel) (by decide +kernel)
theorem tw_747 : (Jvm.Cond.selects "SafetyTreesModel" ({ cls := "SafetyTreesModel", name := "below", desc := "(II)I" } : Jvm.MethodName) ({ cls := "SafetyTreesModel", name := "below", desc := "(II)I" } : Jvm.MethodName)) ∈ tblG := tg_r (i := 747) (by decide +kernel) (by decide +kernel)
theorem tw_748 : (Jvm.Cond.code ({ cls := "SafetyTreesModel", name := "below", desc := "(II)I" } : Jvm.MethodName) prog_10_method_9_code (4 : Nat) (Option.some Jvm.ClassFile.FieldType.int)) ∈ tblG := tg_r (i := 748) (by decide +kernel) (by decide +kernel)
theorem tw_749 : (Jvm.Cond.methodLink "SafetyTreesModel" (102 : Nat) ({ cls := "SafetyTreesModel", name := "isGate", desc := "(I)Z" } : Jvm.MethodName)) ∈ tblG := tg_r (i := 749) (by decide +kernel) (by decide +kernel)
theorem tw_751 : (Jvm.Cond.instanceMethod ({ cls := "SafetyTreesModel", name := "isGate", desc := "(I)Z" } : Jvm.MethodName)) ∈ tblG := tg_r (i := 751) (by decide +kernel) (by decide +kernel)
theorem tw_752 : (Jvm.Cond.code ({ cls := "SafetyTreesModel", name := "isGate", desc := "(I)Z" } : Jvm.MethodName) prog_10_method_4_code (2 : Nat) (Option.some Jvm.ClassFile.FieldType.boolean)) ∈ tblG := tg_r (i := 752) (by decide +kernel) (by decide +kernel)
theorem tw_753 : (Jvm.Cond.methodLink "SafetyTreesModel" (106 : Nat) ({ cls := "SafetyTreesModel", name := "mark", desc := "(I)V" } : Jvm.MethodName)) ∈ tblG := tg_r (i := 753) (by decide +kernel) (by decide +kernel)
theorem tw_755 : (Jvm.Cond.instanceMethod ({ cls := "SafetyTreesModel", name := "mark", desc := "(I)V" } : Jvm.MethodName)) ∈ tblG := tg_r (i := 755) (by decide +kernel) (by decide +kernel)
theorem tw_756 : (Jvm.Cond.code ({ cls := "SafetyTreesModel", name := "mark", desc := "(I)V" } : Jvm.MethodName) prog_10_method_8_code (6 : Nat) (Option.none : Option Jvm.ClassFile.FieldType)) ∈ tblG := tg_r (i := 756) (by decide +kernel) (by decide +kernel)
theorem tw_757 : (Jvm.Cond.methodLink "SafetyTreesLaw" (39 : Nat) ({ cls := "SafetyTreesModel", name := "cuts", desc := "(IJ)I" } : Jvm.MethodName)) ∈ tblG := tg_r (i := 757) (by decide +kernel) (by decide +kernel)
theorem tw_758 : (Jvm.Cond.instanceMethod ({ cls := "SafetyTreesModel", name := "cuts", desc := "(IJ)I" } : Jvm.MethodName)) ∈ tblG := tg_r (i := 758) (by decide +kernel) (by decide +kernel)
theorem tw_759 : (Jvm.Cond.selects "SafetyTreesModel" ({ cls := "SafetyTreesModel", name := "cuts", desc := "(IJ)I" } : Jvm.MethodName) ({ cls := "SafetyTreesModel", name := "cuts", desc := "(IJ)I" } : Jvm.MethodName)) ∈ tblG := tg_r (i := 759) (by decide +kernel) (by decide +kernel)
theorem tw_760 : (Jvm.Cond.code ({ cls := "SafetyTreesModel", name := "cuts", desc := "(IJ)I" } : Jvm.MethodName) prog_10_method_16_code (6 : Nat) (Option.some Jvm.ClassFile.FieldType.int)) ∈ tblG := tg_r (i := 760) (by decide +kernel) (by decide +kernel)
theorem tw_761 : (Jvm.Cond.methodLink "SafetyTreesModel" (119 : Nat) ({ cls := "SafetyTreesModel", name := "prepare", desc := "(I)V" } : Jvm.MethodName)) ∈ tblG := tg_r (i := 761) (by decide +kernel) (by decide +kernel)
theorem tw_763 : (Jvm.Cond.instanceMethod ({ cls := "SafetyTreesModel", name := "prepare", desc := "(I)V" } : Jvm.MethodName)) ∈ tblG := tg_r (i := 763) (by decide +kernel) (by decide +kernel)
theorem tw_764 : (Jvm.Cond.code ({ cls := "SafetyTreesModel", name := "prepare", desc := "(I)V" } : Jvm.MethodName) prog_10_method_10_code (4 : Nat) (Option.none : Option Jvm.ClassFile.FieldType)) ∈ tblG := tg_r (i := 764) (by decide +kernel) (by decide +kernel)
theorem tw_765 : (Jvm.Cond.methodLink "SafetyTreesModel" (116 : Nat) ({ cls := "SafetyTreesModel", name := "isReady", desc := "(I)Z" } : Jvm.MethodName)) ∈ tblG := tg_r (i := 765) (by decide +kernel) (by decide +kernel)
theorem tw_767 : (Jvm.Cond.instanceMethod ({ cls := "SafetyTreesModel", name := "isReady", desc := "(I)Z" } : Jvm.MethodName)) ∈ tblG := tg_r (i := 767) (by decide +kernel) (by decide +kernel)
theorem tw_768 : (Jvm.Cond.code ({ cls := "SafetyTreesModel", name := "isReady", desc := "(I)Z" } : Jvm.MethodName) prog_10_method_11_code (4 : Nat) (Option.some Jvm.ClassFile.FieldType.boolean)) ∈ tblG := tg_r (i := 768) (by decide +kernel) (by decide +kernel)
theorem tw_769 : (Jvm.Cond.methodLink "SafetyTreesModel" (132 : Nat) ({ cls := "SafetyTreesModel", name := "tryAll", desc := "(I)V" } : Jvm.MethodName)) ∈ tblG := tg_r (i := 769) (by decide +kernel) (by decide +kernel)
theorem tw_771 : (Jvm.Cond.instanceMethod ({ cls := "SafetyTreesModel", name := "tryAll", desc := "(I)V" } : Jvm.MethodName)) ∈ tblG := tg_r (i := 771) (by decide +kernel) (by decide +kernel)
theorem tw_772 : (Jvm.Cond.code ({ cls := "SafetyTreesModel", name := "tryAll", desc := "(I)V" } : Jvm.MethodName) prog_10_method_13_code (7 : Nat) (Option.none : Option Jvm.ClassFile.FieldType)) ∈ tblG := tg_r (i := 772) (by decide +kernel) (by decide +kernel)
theorem tw_773 : (Jvm.Cond.methodLink "SafetyTreesModel" (122 : Nat) ({ cls := "SafetyTreesModel", name := "bit", desc := "(I)I" } : Jvm.MethodName)) ∈ tblG := tg_r (i := 773) (by decide +kernel) (by decide +kernel)
theorem tw_775 : (Jvm.Cond.instanceMethod ({ cls := "SafetyTreesModel", name := "bit", desc := "(I)I" } : Jvm.MethodName)) ∈ tblG := tg_r (i := 775) (by decide +kernel) (by decide +kernel)
theorem tw_776 : (Jvm.Cond.code ({ cls := "SafetyTreesModel", name := "bit", desc := "(I)I" } : Jvm.MethodName) prog_10_method_12_code (2 : Nat) (Option.some Jvm.ClassFile.FieldType.int)) ∈ tblG := tg_r (i := 776) (by decide +kernel) (by decide +kernel)
theorem tw_777 : (Jvm.Cond.methodLink "SafetyTreesModel" (135 : Nat) ({ cls := "SafetyTreesModel", name := "ones", desc := "(I)I" } : Jvm.MethodName)) ∈ tblG := tg_r (i := 777) (by decide +kernel) (by decide +kernel)
theorem tw_778 : (Jvm.Cond.static ({ cls := "SafetyTreesModel", name := "ones", desc := "(I)I" } : Jvm.MethodName)) ∈ tblG := tg_r (i := 778) (by decide +kernel) (by decide +kernel)
theorem tw_779 : (Jvm.Cond.code ({ cls := "SafetyTreesModel", name := "ones", desc := "(I)I" } : Jvm.MethodName) prog_10_method_14_code (3 : Nat) (Option.some Jvm.ClassFile.FieldType.int)) ∈ tblG := tg_r (i := 779) (by decide +kernel) (by decide +kernel)
theorem tw_780 : (Jvm.Cond.methodLink "SafetyTreesModel" (138 : Nat) ({ cls := "SafetyTreesModel", name := "isMinimal", desc := "(I)Z" } : Jvm.MethodName)) ∈ tblG := tg_r (i := 780) (by decide +kernel) (by decide +kernel)
theorem tw_782 : (Jvm.Cond.instanceMethod ({ cls := "SafetyTreesModel", name := "isMinimal", desc := "(I)Z" } : Jvm.MethodName)) ∈ tblG := tg_r (i := 782) (by decide +kernel) (by decide +kernel)
theorem tw_783 : (Jvm.Cond.code ({ cls := "SafetyTreesModel", name := "isMinimal", desc := "(I)Z" } : Jvm.MethodName) prog_10_method_15_code (4 : Nat) (Option.some Jvm.ClassFile.FieldType.boolean)) ∈ tblG := tg_r (i := 783) (by decide +kernel) (by decide +kernel)
theorem tw_784 : (Jvm.Cond.methodLink "SafetyTreesLaw" (43 : Nat) ({ cls := "SafetyTreesModel", name := "cut", desc := "(II)I" } : Jvm.MethodName)) ∈ tblG := tg_r (i := 784) (by decide +kernel) (by decide +kernel)
theorem tw_785 : (Jvm.Cond.instanceMethod ({ cls := "SafetyTreesModel", name := "cut", desc := "(II)I" } : Jvm.MethodName)) ∈ tblG := tg_r (i := 785) (by decide +kernel) (by decide +kernel)
theorem tw_786 : (Jvm.Cond.selects "SafetyTreesModel" ({ cls := "SafetyTreesModel", name := "cut", desc := "(II)I" } : Jvm.MethodName) ({ cls := "SafetyTreesModel", name := "cut", desc := "(II)I" } : Jvm.MethodName)) ∈ tblG := tg_r (i := 786) (by decide +kernel) (by decide +kernel)
theorem tw_787 : (Jvm.Cond.code ({ cls := "SafetyTreesModel", name := "cut", desc := "(II)I" } : Jvm.MethodName) prog_10_method_17_code (5 : Nat) (Option.some Jvm.ClassFile.FieldType.int)) ∈ tblG := tg_r (i := 787) (by decide +kernel) (by decide +kernel)
theorem tw_788 : (Jvm.Cond.methodLink "SafetyTreesLaw" (89 : Nat) ({ cls := "SafetyTreesModel", name := "plain", desc := "(I)I" } : Jvm.MethodName)) ∈ tblG := tg_r (i := 788) (by decide +kernel) (by decide +kernel)
theorem tw_789 : (Jvm.Cond.instanceMethod ({ cls := "SafetyTreesModel", name := "plain", desc := "(I)I" } : Jvm.MethodName)) ∈ tblG := tg_r (i := 789) (by decide +kernel) (by decide +kernel)
theorem tw_790 : (Jvm.Cond.selects "SafetyTreesModel" ({ cls := "SafetyTreesModel", name := "plain", desc := "(I)I" } : Jvm.MethodName) ({ cls := "SafetyTreesModel", name := "plain", desc := "(I)I" } : Jvm.MethodName)) ∈ tblG := tg_r (i := 790) (by decide +kernel) (by decide +kernel)
theorem tw_791 : (Jvm.Cond.code ({ cls := "SafetyTreesModel", name := "plain", desc := "(I)I" } : Jvm.MethodName) prog_10_method_18_code (4 : Nat) (Option.some Jvm.ClassFile.FieldType.int)) ∈ tblG := tg_r (i := 791) (by decide +kernel) (by decide +kernel)
theorem tw_792 : (Jvm.Cond.methodLink "SafetyTreesLaw" (47 : Nat) ({ cls := "SafetyTreesModel", name := "chance", desc := "(II)J" } : Jvm.MethodName)) ∈ tblG := tg_r (i := 792) (by decide +kernel) (by decide +kernel)
theorem tw_793 : (Jvm.Cond.instanceMethod ({ cls := "SafetyTreesModel", name := "chance", desc := "(II)J" } : Jvm.MethodName)) ∈ tblG := tg_r (i := 793) (by decide +kernel) (by decide +kernel)
theorem tw_794 : (Jvm.Cond.selects "SafetyTreesModel" ({ cls := "SafetyTreesModel", name := "chance", desc := "(II)J" } : Jvm.MethodName) ({ cls := "SafetyTreesModel", name := "chance", desc := "(II)J" } : Jvm.MethodName)) ∈ tblG := tg_r (i := 794) (by decide +kernel) (by decide +kernel)
theorem tw_795 : (Jvm.Cond.code ({ cls := "SafetyTreesModel", name := "chance", desc := "(II)J" } : Jvm.MethodName) prog_10_method_26_code (5 : Nat) (Option.some Jvm.ClassFile.FieldType.long)) ∈ tblG := tg_r (i := 795) (by decide +kernel) (by decide +kernel)
theorem tw_796 : (Jvm.Cond.constantLong "SafetyTreesModel" (164 : Nat) (-1 : Int64)) ∈ tblG := tg_r (i := 796) (by decide +kernel) (by decide +kernel)
theorem tw_797 : (Jvm.Cond.methodLink "SafetyTreesModel" (170 : Nat) ({ cls := "SafetyTreesModel", name := "exactChance", desc := "(II)J" } : Jvm.MethodName)) ∈ tblG := tg_r (i := 797) (by decide +kernel) (by decide +kernel)
theorem tw_799 : (Jvm.Cond.instanceMethod ({ cls := "SafetyTreesModel", name := "exactChance", desc := "(II)J" } : Jvm.MethodName)) ∈ tblG := tg_r (i := 799) (by decide +kernel) (by decide +kernel)
theorem tw_800 : (Jvm.Cond.code ({ cls := "SafetyTreesModel", name := "exactChance", desc := "(II)J" } : Jvm.MethodName) prog_10_method_22_code (8 : Nat) (Option.some Jvm.ClassFile.FieldType.long)) ∈ tblG := tg_r (i := 800) (by decide +kernel) (by decide +kernel)
theorem tw_801 : (Jvm.Cond.methodLink "SafetyTreesModel" (145 : Nat) ({ cls := "SafetyTreesModel", name := "spread", desc := "(IJJ)V" } : Jvm.MethodName)) ∈ tblG := tg_r (i := 801) (by decide +kernel) (by decide +kernel)
theorem tw_803 : (Jvm.Cond.instanceMethod ({ cls := "SafetyTreesModel", name := "spread", desc := "(IJJ)V" } : Jvm.MethodName)) ∈ tblG := tg_r (i := 803) (by decide +kernel) (by decide +kernel)
theorem tw_804 : (Jvm.Cond.code ({ cls := "SafetyTreesModel", name := "spread", desc := "(IJJ)V" } : Jvm.MethodName) prog_10_method_23_code (9 : Nat) (Option.none : Option Jvm.ClassFile.FieldType)) ∈ tblG := tg_r (i := 804) (by decide +kernel) (by decide +kernel)
theorem tw_805 : (Jvm.Cond.methodLink "SafetyTreesModel" (152 : Nat) ({ cls := "SafetyTreesModel", name := "bitsOf", desc := "(I)I" } : Jvm.MethodName)) ∈ tblG := tg_r (i := 805) (by decide +kernel) (by decide +kernel)
theorem tw_807 : (Jvm.Cond.instanceMethod ({ cls := "SafetyTreesModel", name := "bitsOf", desc := "(I)I" } : Jvm.MethodName)) ∈ tblG := tg_r (i := 807) (by decide +kernel) (by decide +kernel)
theorem tw_808 : (Jvm.Cond.code ({ cls := "SafetyTreesModel", name := "bitsOf", desc := "(I)I" } : Jvm.MethodName) prog_10_method_21_code (4 : Nat) (Option.some Jvm.ClassFile.FieldType.int)) ∈ tblG := tg_r (i := 808) (by decide +kernel) (by decide +kernel)
theorem tw_809 : (Jvm.Cond.methodLink "SafetyTreesModel" (155 : Nat) ({ cls := "SafetyTreesModel", name := "lowest", desc := "(JJI)J" } : Jvm.MethodName)) ∈ tblG := tg_r (i := 809) (by decide +kernel) (by decide +kernel)
theorem tw_810 : (Jvm.Cond.static ({ cls := "SafetyTreesModel", name := "lowest", desc := "(JJI)J" } : Jvm.MethodName)) ∈ tblG := tg_r (i := 810) (by decide +kernel) (by decide +kernel)
theorem tw_811 : (Jvm.Cond.code ({ cls := "SafetyTreesModel", name := "lowest", desc := "(JJI)J" } : Jvm.MethodName) prog_10_method_20_code (7 : Nat) (Option.some Jvm.ClassFile.FieldType.long)) ∈ tblG := tg_r (i := 811) (by decide +kernel) (by decide +kernel)
theorem tw_812 : (Jvm.Cond.methodLink "SafetyTreesModel" (141 : Nat) ({ cls := "SafetyTreesModel", name := "gcd", desc := "(JJ)J" } : Jvm.MethodName)) ∈ tblG := tg_r (i := 812) (by decide +kernel) (by decide +kernel)
theorem tw_813 : (Jvm.Cond.static ({ cls := "SafetyTreesModel", name := "gcd", desc := "(JJ)J" } : Jvm.MethodName)) ∈ tblG := tg_r (i := 813) (by decide +kernel) (by decide +kernel)
theorem tw_814 : (Jvm.Cond.code ({ cls := "SafetyTreesModel", name := "gcd", desc := "(JJ)J" } : Jvm.MethodName) prog_10_method_19_code (10 : Nat) (Option.some Jvm.ClassFile.FieldType.long)) ∈ tblG := tg_r (i := 814) (by decide +kernel) (by decide +kernel)
theorem tw_815 : (Jvm.Cond.methodLink "SafetyTreesModel" (174 : Nat) ({ cls := "SafetyTreesModel", name := "boundChance", desc := "(II)J" } : Jvm.MethodName)) ∈ tblG := tg_r (i := 815) (by decide +kernel) (by decide +kernel)
theorem tw_817 : (Jvm.Cond.instanceMethod ({ cls := "SafetyTreesModel", name := "boundChance", desc := "(II)J" } : Jvm.MethodName)) ∈ tblG := tg_r (i := 817) (by decide +kernel) (by decide +kernel)
theorem tw_818 : (Jvm.Cond.code ({ cls := "SafetyTreesModel", name := "boundChance", desc := "(II)J" } : Jvm.MethodName) prog_10_method_25_code (9 : Nat) (Option.some Jvm.ClassFile.FieldType.long)) ∈ tblG := tg_r (i := 818) (by decide +kernel) (by decide +kernel)
theorem tw_819 : (Jvm.Cond.methodLink "SafetyTreesModel" (159 : Nat) ({ cls := "SafetyTreesModel", name := "boundOfEvent", desc := "(I)I" } : Jvm.MethodName)) ∈ tblG := tg_r (i := 819) (by decide +kernel) (by decide +kernel)
theorem tw_821 : (Jvm.Cond.instanceMethod ({ cls := "SafetyTreesModel", name := "boundOfEvent", desc := "(I)I" } : Jvm.MethodName)) ∈ tblG := tg_r (i := 821) (by decide +kernel) (by decide +kernel)
theorem tw_822 : (Jvm.Cond.code ({ cls := "SafetyTreesModel", name := "boundOfEvent", desc := "(I)I" } : Jvm.MethodName) prog_10_method_24_code (4 : Nat) (Option.some Jvm.ClassFile.FieldType.int)) ∈ tblG := tg_r (i := 822) (by decide +kernel) (by decide +kernel)
theorem tw_823 : (Jvm.Cond.constantLong "SafetyTreesModel" (162 : Nat) (2520 : Int64)) ∈ tblG := tg_r (i := 823) (by decide +kernel) (by decide +kernel)
theorem tw_824 : (Jvm.Cond.methodLink "SafetyTreesLaw" (52 : Nat) ({ cls := "SafetyTreesModel", name := "exact", desc := "()Z" } : Jvm.MethodName)) ∈ tblG := tg_r (i := 824) (by decide +kernel) (by decide +kernel)
theorem tw_825 : (Jvm.Cond.instanceMethod ({ cls := "SafetyTreesModel", name := "exact", desc := "()Z" } : Jvm.MethodName)) ∈ tblG := tg_r (i := 825) (by decide +kernel) (by decide +kernel)
theorem tw_826 : (Jvm.Cond.selects "SafetyTreesModel" ({ cls := "SafetyTreesModel", name := "exact", desc := "()Z" } : Jvm.MethodName) ({ cls := "SafetyTreesModel", name := "exact", desc := "()Z" } : Jvm.MethodName)) ∈ tblG := tg_r (i := 826) (by decide +kernel) (by decide +kernel)
theorem tw_827 : (Jvm.Cond.code ({ cls := "SafetyTreesModel", name := "exact", desc := "()Z" } : Jvm.MethodName) prog_10_method_27_code (1 : Nat) (Option.some Jvm.ClassFile.FieldType.boolean)) ∈ tblG := tg_r (i := 827) (by decide +kernel) (by decide +kernel)
theorem tw_828 : (Jvm.Cond.methodLink "SafetyTreesLaw" (57 : Nat) ({ cls := "SafetyTreesModel", name := "common", desc := "(IIJJ)I" } : Jvm.MethodName)) ∈ tblG := tg_r (i := 828) (by decide +kernel) (by decide +kernel)
theorem tw_829 : (Jvm.Cond.instanceMethod ({ cls := "SafetyTreesModel", name := "common", desc := "(IIJJ)I" } : Jvm.MethodName)) ∈ tblG := tg_r (i := 829) (by decide +kernel) (by decide +kernel)
theorem tw_830 : (Jvm.Cond.selects "SafetyTreesModel" ({ cls := "SafetyTreesModel", name := "common", desc := "(IIJJ)I" } : Jvm.MethodName) ({ cls := "SafetyTreesModel", name := "common", desc := "(IIJJ)I" } : Jvm.MethodName)) ∈ tblG := tg_r (i := 830) (by decide +kernel) (by decide +kernel)
theorem tw_831 : (Jvm.Cond.code ({ cls := "SafetyTreesModel", name := "common", desc := "(IIJJ)I" } : Jvm.MethodName) prog_10_method_28_code (7 : Nat) (Option.some Jvm.ClassFile.FieldType.int)) ∈ tblG := tg_r (i := 831) (by decide +kernel) (by decide +kernel)
theorem tw_832 : (Jvm.Cond.methodLink "SafetyTreesModel" (177 : Nat) ({ cls := "SafetyTreesModel", name := "isEvent", desc := "(I)Z" } : Jvm.MethodName)) ∈ tblG := tg_r (i := 832) (by decide +kernel) (by decide +kernel)
theorem tw_834 : (Jvm.Cond.instanceMethod ({ cls := "SafetyTreesModel", name := "isEvent", desc := "(I)Z" } : Jvm.MethodName)) ∈ tblG := tg_r (i := 834) (by decide +kernel) (by decide +kernel)
theorem tw_835 : (Jvm.Cond.code ({ cls := "SafetyTreesModel", name := "isEvent", desc := "(I)Z" } : Jvm.MethodName) prog_10_method_5_code (2 : Nat) (Option.some Jvm.ClassFile.FieldType.boolean)) ∈ tblG := tg_r (i := 835) (by decide +kernel) (by decide +kernel)
theorem tw_836 : (Jvm.Cond.methodLink "SafetyTreesLaw" (62 : Nat) ({ cls := "SafetyTreesModel", name := "grade", desc := "(III)I" } : Jvm.MethodName)) ∈ tblG := tg_r (i := 836) (by decide +kernel) (by decide +kernel)
theorem tw_837 : (Jvm.Cond.instanceMethod ({ cls := "SafetyTreesModel", name := "grade", desc := "(III)I" } : Jvm.MethodName)) ∈ tblG := tg_r (i := 837) (by decide +kernel) (by decide +kernel)
theorem tw_838 : (Jvm.Cond.selects "SafetyTreesModel" ({ cls := "SafetyTreesModel", name := "grade", desc := "(III)I" } : Jvm.MethodName) ({ cls := "SafetyTreesModel", name := "grade", desc := "(III)I" } : Jvm.MethodName)) ∈ tblG := tg_r (i := 838) (by decide +kernel) (by decide +kernel)
theorem tw_839 : (Jvm.Cond.code ({ cls := "SafetyTreesModel", name := "grade", desc := "(III)I" } : Jvm.MethodName) prog_10_method_29_code (5 : Nat) (Option.some Jvm.ClassFile.FieldType.int)) ∈ tblG := tg_r (i := 839) (by decide +kernel) (by decide +kernel)
theorem tw_840 : (Jvm.Cond.constantLong "SafetyTreesModel" (180 : Nat) (3 : Int64)) ∈ tblG := tg_r (i := 840) (by decide +kernel) (by decide +kernel)
theorem tw_841 : (Jvm.Cond.constantLong "SafetyTreesModel" (182 : Nat) (4 : Int64)) ∈ tblG := tg_r (i := 841) (by decide +kernel) (by decide +kernel)
theorem tw_842 : (Jvm.Cond.methodLink "SafetyTreesLaw" (67 : Nat) ({ cls := "SafetyTreesModel", name := "goal", desc := "(I)I" } : Jvm.MethodName)) ∈ tblG := tg_r (i := 842) (by decide +kernel) (by decide +kernel)
theorem tw_843 : (Jvm.Cond.instanceMethod ({ cls := "SafetyTreesModel", name := "goal", desc := "(I)I" } : Jvm.MethodName)) ∈ tblG := tg_r (i := 843) (by decide +kernel) (by decide +kernel)
theorem tw_844 : (Jvm.Cond.selects "SafetyTreesModel" ({ cls := "SafetyTreesModel", name := "goal", desc := "(I)I" } : Jvm.MethodName) ({ cls := "SafetyTreesModel", name := "goal", desc := "(I)I" } : Jvm.MethodName)) ∈ tblG := tg_r (i := 844) (by decide +kernel) (by decide +kernel)
theorem tw_845 : (Jvm.Cond.code ({ cls := "SafetyTreesModel", name := "goal", desc := "(I)I" } : Jvm.MethodName) prog_10_method_30_code (2 : Nat) (Option.some Jvm.ClassFile.FieldType.int)) ∈ tblG := tg_r (i := 845) (by decide +kernel) (by decide +kernel)
theorem tw_846 : (Jvm.Cond.methodLink "SafetyTreesLaw" (71 : Nat) ({ cls := "SafetyTreesModel", name := "trace", desc := "(III)I" } : Jvm.MethodName)) ∈ tblG := tg_r (i := 846) (by decide +kernel) (by decide +kernel)
theorem tw_847 : (Jvm.Cond.instanceMethod ({ cls := "SafetyTreesModel", name := "trace", desc := "(III)I" } : Jvm.MethodName)) ∈ tblG := tg_r (i := 847) (by decide +kernel) (by decide +kernel)
theorem tw_848 : (Jvm.Cond.selects "SafetyTreesModel" ({ cls := "SafetyTreesModel", name := "trace", desc := "(III)I" } : Jvm.MethodName) ({ cls := "SafetyTreesModel", name := "trace", desc := "(III)I" } : Jvm.MethodName)) ∈ tblG := tg_r (i := 848) (by decide +kernel) (by decide +kernel)
theorem tw_849 : (Jvm.Cond.code ({ cls := "SafetyTreesModel", name := "trace", desc := "(III)I" } : Jvm.MethodName) prog_10_method_31_code (5 : Nat) (Option.some Jvm.ClassFile.FieldType.int)) ∈ tblG := tg_r (i := 849) (by decide +kernel) (by decide +kernel)
theorem tw_850 : (Jvm.Cond.constantLong "SafetyTreesModel" (187 : Nat) (50 : Int64)) ∈ tblG := tg_r (i := 850) (by decide +kernel) (by decide +kernel)
theorem tw_851 : (Jvm.Cond.methodLink "SafetyTreesLaw" (75 : Nat) ({ cls := "SafetyTreesModel", name := "open", desc := "(I)I" } : Jvm.MethodName)) ∈ tblG := tg_r (i := 851) (by decide +kernel) (by decide +kernel)
theorem tw_852 : (Jvm.Cond.instanceMethod ({ cls := "SafetyTreesModel", name := "open", desc := "(I)I" } : Jvm.MethodName)) ∈ tblG := tg_r (i := 852) (by decide +kernel) (by decide +kernel)
theorem tw_853 : (Jvm.Cond.selects "SafetyTreesModel" ({ cls := "SafetyTreesModel", name := "open", desc := "(I)I" } : Jvm.MethodName) ({ cls := "SafetyTreesModel", name := "open", desc := "(I)I" } : Jvm.MethodName)) ∈ tblG := tg_r (i := 853) (by decide +kernel) (by decide +kernel)
theorem tw_854 : (Jvm.Cond.code ({ cls := "SafetyTreesModel", name := "open", desc := "(I)I" } : Jvm.MethodName) prog_10_method_33_code (4 : Nat) (Option.some Jvm.ClassFile.FieldType.int)) ∈ tblG := tg_r (i := 854) (by decide +kernel) (by decide +kernel)
theorem tw_855 : (Jvm.Cond.methodLink "SafetyTreesModel" (192 : Nat) ({ cls := "SafetyTreesModel", name := "rowsOf", desc := "(IIZ)I" } : Jvm.MethodName)) ∈ tblG := tg_r (i := 855) (by decide +kernel) (by decide +kernel)
theorem tw_857 : (Jvm.Cond.instanceMethod ({ cls := "SafetyTreesModel", name := "rowsOf", desc := "(IIZ)I" } : Jvm.MethodName)) ∈ tblG := tg_r (i := 857) (by decide +kernel) (by decide +kernel)
theorem tw_858 : (Jvm.Cond.code ({ cls := "SafetyTreesModel", name := "rowsOf", desc := "(IIZ)I" } : Jvm.MethodName) prog_10_method_32_code (7 : Nat) (Option.some Jvm.ClassFile.FieldType.int)) ∈ tblG := tg_r (i := 858) (by decide +kernel) (by decide +kernel)
theorem tw_859 : (Jvm.Cond.methodLink "SafetyTreesLaw" (81 : Nat) ({ cls := "SafetyTreesModel", name := "cover", desc := "(II)J" } : Jvm.MethodName)) ∈ tblG := tg_r (i := 859) (by decide +kernel) (by decide +kernel)
theorem tw_860 : (Jvm.Cond.instanceMethod ({ cls := "SafetyTreesModel", name := "cover", desc := "(II)J" } : Jvm.MethodName)) ∈ tblG := tg_r (i := 860) (by decide +kernel) (by decide +kernel)
theorem tw_861 : (Jvm.Cond.selects "SafetyTreesModel" ({ cls := "SafetyTreesModel", name := "cover", desc := "(II)J" } : Jvm.MethodName) ({ cls := "SafetyTreesModel", name := "cover", desc := "(II)J" } : Jvm.MethodName)) ∈ tblG := tg_r (i := 861) (by decide +kernel) (by decide +kernel)
theorem tw_862 : (Jvm.Cond.code ({ cls := "SafetyTreesModel", name := "cover", desc := "(II)J" } : Jvm.MethodName) prog_10_method_34_code (4 : Nat) (Option.some Jvm.ClassFile.FieldType.long)) ∈ tblG := tg_r (i := 862) (by decide +kernel) (by decide +kernel)
theorem tw_863 : (Jvm.Cond.constantLong "SafetyTreesLaw" (19 : Nat) (4294967295 : Int64)) ∈ tblG := tg_r (i := 863) (by decide +kernel) (by decide +kernel)
theorem tp_0 : Cond.selects "SafetyTrees$Truth" ⟨"SafetyTrees$Truth", "fillGate", "(II)V"⟩ ⟨"SafetyTrees$Truth", "fillGate", "(II)V"⟩ ∈ tblG := tg_l (i := 0) (by decide +kernel) (by decide +kernel)
theorem tp_1 : Cond.selects "SafetyTrees$Truth" ⟨"SafetyTrees$Truth", "gateWord", "(II)J"⟩ ⟨"SafetyTrees$Truth", "gateWord", "(II)J"⟩ ∈ tblG := tg_l (i := 1) (by decide +kernel) (by decide +kernel)
theorem tp_2 : Cond.selects "SafetyTrees$Truth" ⟨"SafetyTrees$Truth", "allOf", "(II)J"⟩ ⟨"SafetyTrees$Truth", "allOf", "(II)J"⟩ ∈ tblG := tg_l (i := 2) (by decide +kernel) (by decide +kernel)
theorem tp_3 : Cond.selects "SafetyTrees$Truth" ⟨"SafetyTrees$Truth", "anyOf", "(II)J"⟩ ⟨"SafetyTrees$Truth", "anyOf", "(II)J"⟩ ∈ tblG := tg_l (i := 3) (by decide +kernel) (by decide +kernel)
theorem tp_4 : Cond.selects "SafetyTrees$Truth" ⟨"SafetyTrees$Truth", "votesOf", "(II)J"⟩ ⟨"SafetyTrees$Truth", "votesOf", "(II)J"⟩ ∈ tblG := tg_l (i := 4) (by decide +kernel) (by decide +kernel)
theorem tp_5 : Cond.selects "SafetyTrees$Cuts" ⟨"SafetyTrees$Cuts", "find", "(LSafetyTrees$Truth;II)I"⟩ ⟨"SafetyTrees$Cuts", "find", "(LSafetyTrees$Truth;II)I"⟩ ∈ tblG := tg_l (i := 5) (by decide +kernel) (by decide +kernel)
theorem tp_6 : Cond.selects "SafetyTrees$Cuts" ⟨"SafetyTrees$Cuts", "takeOfSize", "(II)V"⟩ ⟨"SafetyTrees$Cuts", "takeOfSize", "(II)V"⟩ ∈ tblG := tg_l (i := 6) (by decide +kernel) (by decide +kernel)
theorem tp_7 : Cond.selects "SafetyTrees$Odds" ⟨"SafetyTrees$Odds", "workExactly", "(II)V"⟩ ⟨"SafetyTrees$Odds", "workExactly", "(II)V"⟩ ∈ tblG := tg_l (i := 7) (by decide +kernel) (by decide +kernel)
theorem tp_8 : Cond.selects "SafetyTrees$Odds" ⟨"SafetyTrees$Odds", "weighSets", "(II)V"⟩ ⟨"SafetyTrees$Odds", "weighSets", "(II)V"⟩ ∈ tblG := tg_l (i := 8) (by decide +kernel) (by decide +kernel)
theorem tp_9 : Cond.selects "SafetyTrees$Odds" ⟨"SafetyTrees$Odds", "mix", "(IIJJ)V"⟩ ⟨"SafetyTrees$Odds", "mix", "(IIJJ)V"⟩ ∈ tblG := tg_l (i := 9) (by decide +kernel) (by decide +kernel)
theorem tp_10 : Cond.selects "SafetyTrees$Odds" ⟨"SafetyTrees$Odds", "workBound", "(I)V"⟩ ⟨"SafetyTrees$Odds", "workBound", "(I)V"⟩ ∈ tblG := tg_l (i := 10) (by decide +kernel) (by decide +kernel)
theorem tp_11 : Cond.selects "SafetyTrees$Odds" ⟨"SafetyTrees$Odds", "eventBound", "(I)J"⟩ ⟨"SafetyTrees$Odds", "eventBound", "(I)J"⟩ ∈ tblG := tg_l (i := 11) (by decide +kernel) (by decide +kernel)
theorem tp_12 : Cond.selects "SafetyTrees$Odds" ⟨"SafetyTrees$Odds", "gateBound", "(I)J"⟩ ⟨"SafetyTrees$Odds", "gateBound", "(I)J"⟩ ∈ tblG := tg_l (i := 12) (by decide +kernel) (by decide +kernel)
theorem tp_13 : Cond.selects "SafetyTrees$Goals" ⟨"SafetyTrees$Goals", "isGoalOpen", "(I)Z"⟩ ⟨"SafetyTrees$Goals", "isGoalOpen", "(I)Z"⟩ ∈ tblG := tg_l (i := 13) (by decide +kernel) (by decide +kernel)
theorem tp_14 : Cond.selects "SafetyTrees$Goals" ⟨"SafetyTrees$Goals", "isPartOpen", "(I)Z"⟩ ⟨"SafetyTrees$Goals", "isPartOpen", "(I)Z"⟩ ∈ tblG := tg_l (i := 14) (by decide +kernel) (by decide +kernel)
theorem tp_15 : Cond.selects "java/lang/Throwable" ⟨"java/lang/Throwable", "fillInStackTrace", "(I)Ljava/lang/Throwable;"⟩ ⟨"java/lang/Throwable", "fillInStackTrace", "(I)Ljava/lang/Throwable;"⟩ ∈ tblG := tg_l (i := 15) (by decide +kernel) (by decide +kernel)
theorem tp_16 : Cond.selects "SafetyTreesModel" ⟨"SafetyTreesModel", "isGate", "(I)Z"⟩ ⟨"SafetyTreesModel", "isGate", "(I)Z"⟩ ∈ tblG := tg_l (i := 16) (by decide +kernel) (by decide +kernel)
theorem tp_17 : Cond.selects "SafetyTreesModel" ⟨"SafetyTreesModel", "mark", "(I)V"⟩ ⟨"SafetyTreesModel", "mark", "(I)V"⟩ ∈ tblG := tg_l (i := 17) (by decide +kernel) (by decide +kernel)
theorem tp_18 : Cond.selects "SafetyTreesModel" ⟨"SafetyTreesModel", "prepare", "(I)V"⟩ ⟨"SafetyTreesModel", "prepare", "(I)V"⟩ ∈ tblG := tg_l (i := 18) (by decide +kernel) (by decide +kernel)
theorem tp_19 : Cond.selects "SafetyTreesModel" ⟨"SafetyTreesModel", "isReady", "(I)Z"⟩ ⟨"SafetyTreesModel", "isReady", "(I)Z"⟩ ∈ tblG := tg_l (i := 19) (by decide +kernel) (by decide +kernel)
theorem tp_20 : Cond.selects "SafetyTreesModel" ⟨"SafetyTreesModel", "tryAll", "(I)V"⟩ ⟨"SafetyTreesModel", "tryAll", "(I)V"⟩ ∈ tblG := tg_l (i := 20) (by decide +kernel) (by decide +kernel)
theorem tp_21 : Cond.selects "SafetyTreesModel" ⟨"SafetyTreesModel", "bit", "(I)I"⟩ ⟨"SafetyTreesModel", "bit", "(I)I"⟩ ∈ tblG := tg_l (i := 21) (by decide +kernel) (by decide +kernel)
theorem tp_22 : Cond.selects "SafetyTreesModel" ⟨"SafetyTreesModel", "isMinimal", "(I)Z"⟩ ⟨"SafetyTreesModel", "isMinimal", "(I)Z"⟩ ∈ tblG := tg_l (i := 22) (by decide +kernel) (by decide +kernel)
theorem tp_23 : Cond.selects "SafetyTreesModel" ⟨"SafetyTreesModel", "exactChance", "(II)J"⟩ ⟨"SafetyTreesModel", "exactChance", "(II)J"⟩ ∈ tblG := tg_l (i := 23) (by decide +kernel) (by decide +kernel)
theorem tp_24 : Cond.selects "SafetyTreesModel" ⟨"SafetyTreesModel", "spread", "(IJJ)V"⟩ ⟨"SafetyTreesModel", "spread", "(IJJ)V"⟩ ∈ tblG := tg_l (i := 24) (by decide +kernel) (by decide +kernel)
theorem tp_25 : Cond.selects "SafetyTreesModel" ⟨"SafetyTreesModel", "bitsOf", "(I)I"⟩ ⟨"SafetyTreesModel", "bitsOf", "(I)I"⟩ ∈ tblG := tg_l (i := 25) (by decide +kernel) (by decide +kernel)
theorem tp_26 : Cond.selects "SafetyTreesModel" ⟨"SafetyTreesModel", "boundChance", "(II)J"⟩ ⟨"SafetyTreesModel", "boundChance", "(II)J"⟩ ∈ tblG := tg_l (i := 26) (by decide +kernel) (by decide +kernel)
theorem tp_27 : Cond.selects "SafetyTreesModel" ⟨"SafetyTreesModel", "boundOfEvent", "(I)I"⟩ ⟨"SafetyTreesModel", "boundOfEvent", "(I)I"⟩ ∈ tblG := tg_l (i := 27) (by decide +kernel) (by decide +kernel)
theorem tp_28 : Cond.selects "SafetyTreesModel" ⟨"SafetyTreesModel", "isEvent", "(I)Z"⟩ ⟨"SafetyTreesModel", "isEvent", "(I)Z"⟩ ∈ tblG := tg_l (i := 28) (by decide +kernel) (by decide +kernel)
theorem tp_29 : Cond.selects "SafetyTreesModel" ⟨"SafetyTreesModel", "rowsOf", "(IIZ)I"⟩ ⟨"SafetyTreesModel", "rowsOf", "(IIZ)I"⟩ ∈ tblG := tg_l (i := 29) (by decide +kernel) (by decide +kernel)
end
section
theorem d_ST_init_0 : decode c_ST_init 0 = .ok (.aload_n 0, 1) := by decide +kernel
theorem d_ST_init_1 : decode c_ST_init 1 = .ok (.invokespecial 3, 3) := by decide +kernel
theorem d_ST_init_4 : decode c_ST_init 4 = .ok (.aload_n 0, 1) := by decide +kernel
theorem d_ST_init_5 : decode c_ST_init 5 = .ok (.new 9, 3) := by decide +kernel
theorem d_ST_init_8 : decode c_ST_init 8 = .ok (.dup, 1) := by decide +kernel
theorem d_ST_init_9 : decode c_ST_init 9 = .ok (.invokespecial 11, 3) := by decide +kernel
theorem d_ST_init_12 : decode c_ST_init 12 = .ok (.putfield 12, 3) := by decide +kernel
theorem d_ST_init_15 : decode c_ST_init 15 = .ok (.aload_n 0, 1) := by decide +kernel
theorem d_ST_init_16 : decode c_ST_init 16 = .ok (.new 16, 3) := by decide +kernel
theorem d_ST_init_19 : decode c_ST_init 19 = .ok (.dup, 1) := by decide +kernel
theorem d_ST_init_20 : decode c_ST_init 20 = .ok (.aload_n 0, 1) := by decide +kernel
theorem d_ST_init_21 : decode c_ST_init 21 = .ok (.getfield 12, 3) := by decide +kernel
theorem d_ST_init_24 : decode c_ST_init 24 = .ok (.invokespecial 18, 3) := by decide +kernel
theorem d_ST_init_27 : decode c_ST_init 27 = .ok (.putfield 21, 3) := by decide +kernel
theorem d_ST_init_30 : decode c_ST_init 30 = .ok (.aload_n 0, 1) := by decide +kernel
theorem d_ST_init_31 : decode c_ST_init 31 = .ok (.new 25, 3) := by decide +kernel
theorem d_ST_init_34 : decode c_ST_init 34 = .ok (.dup, 1) := by decide +kernel
theorem d_ST_init_35 : decode c_ST_init 35 = .ok (.invokespecial 27, 3) := by decide +kernel
theorem d_ST_init_38 : decode c_ST_init 38 = .ok (.putfield 28, 3) := by decide +kernel
theorem d_ST_init_41 : decode c_ST_init 41 = .ok (.aload_n 0, 1) := by decide +kernel
theorem d_ST_init_42 : decode c_ST_init 42 = .ok (.new 32, 3) := by decide +kernel
theorem d_ST_init_45 : decode c_ST_init 45 = .ok (.dup, 1) := by decide +kernel
theorem d_ST_init_46 : decode c_ST_init 46 = .ok (.invokespecial 34, 3) := by decide +kernel
theorem d_ST_init_49 : decode c_ST_init 49 = .ok (.putfield 35, 3) := by decide +kernel
theorem d_ST_init_52 : decode c_ST_init 52 = .ok (.aload_n 0, 1) := by decide +kernel
theorem d_ST_init_53 : decode c_ST_init 53 = .ok (.new 39, 3) := by decide +kernel
theorem d_ST_init_56 : decode c_ST_init 56 = .ok (.dup, 1) := by decide +kernel
theorem d_ST_init_57 : decode c_ST_init 57 = .ok (.aload_n 0, 1) := by decide +kernel
theorem d_ST_init_58 : decode c_ST_init 58 = .ok (.getfield 12, 3) := by decide +kernel
theorem d_ST_init_61 : decode c_ST_init 61 = .ok (.aload_n 0, 1) := by decide +kernel
theorem d_ST_init_62 : decode c_ST_init 62 = .ok (.getfield 21, 3) := by decide +kernel
theorem d_ST_init_65 : decode c_ST_init 65 = .ok (.aload_n 0, 1) := by decide +kernel
theorem d_ST_init_66 : decode c_ST_init 66 = .ok (.getfield 28, 3) := by decide +kernel
theorem d_ST_init_69 : decode c_ST_init 69 = .ok (.invokespecial 41, 3) := by decide +kernel
theorem d_ST_init_72 : decode c_ST_init 72 = .ok (.putfield 44, 3) := by decide +kernel
theorem d_ST_init_75 : decode c_ST_init 75 = .ok (.aload_n 0, 1) := by decide +kernel
theorem d_ST_init_76 : decode c_ST_init 76 = .ok (.new 48, 3) := by decide +kernel
theorem d_ST_init_79 : decode c_ST_init 79 = .ok (.dup, 1) := by decide +kernel
theorem d_ST_init_80 : decode c_ST_init 80 = .ok (.invokespecial 50, 3) := by decide +kernel
theorem d_ST_init_83 : decode c_ST_init 83 = .ok (.putfield 51, 3) := by decide +kernel
theorem d_ST_init_86 : decode c_ST_init 86 = .ok (.aload_n 0, 1) := by decide +kernel
theorem d_ST_init_87 : decode c_ST_init 87 = .ok (.new 55, 3) := by decide +kernel
theorem d_ST_init_90 : decode c_ST_init 90 = .ok (.dup, 1) := by decide +kernel
theorem d_ST_init_91 : decode c_ST_init 91 = .ok (.invokespecial 57, 3) := by decide +kernel
theorem d_ST_init_94 : decode c_ST_init 94 = .ok (.putfield 58, 3) := by decide +kernel
theorem d_ST_init_97 : decode c_ST_init 97 = .ok (.return_, 1) := by decide +kernel
theorem d_ST_event_0 : decode c_ST_event 0 = .ok (.lload_n 3, 1) := by decide +kernel
theorem d_ST_event_1 : decode c_ST_event 1 = .ok (.invokestatic 62, 3) := by decide +kernel
theorem d_ST_event_4 : decode c_ST_event 4 = .ok (.ifCond .eq 9, 3) := by decide +kernel
theorem d_ST_event_7 : decode c_ST_event 7 = .ok (.lload_n 1, 1) := by decide +kernel
theorem d_ST_event_8 : decode c_ST_event 8 = .ok (.lconst 0, 1) := by decide +kernel
theorem d_ST_event_9 : decode c_ST_event 9 = .ok (.lcmp, 1) := by decide +kernel
theorem d_ST_event_10 : decode c_ST_event 10 = .ok (.ifCond .ge 6, 3) := by decide +kernel
theorem d_ST_event_13 : decode c_ST_event 13 = .ok (.bipush (-2), 2) := by decide +kernel
theorem d_ST_event_15 : decode c_ST_event 15 = .ok (.ireturn, 1) := by decide +kernel
theorem d_ST_event_16 : decode c_ST_event 16 = .ok (.aload_n 0, 1) := by decide +kernel
theorem d_ST_event_17 : decode c_ST_event 17 = .ok (.getfield 12, 3) := by decide +kernel
theorem d_ST_event_20 : decode c_ST_event 20 = .ok (.getfield 66, 3) := by decide +kernel
theorem d_ST_event_23 : decode c_ST_event 23 = .ok (.bipush 12, 2) := by decide +kernel
theorem d_ST_event_25 : decode c_ST_event 25 = .ok (.if_icmp .lt 6, 3) := by decide +kernel
theorem d_ST_event_28 : decode c_ST_event 28 = .ok (.bipush (-4), 2) := by decide +kernel
theorem d_ST_event_30 : decode c_ST_event 30 = .ok (.ireturn, 1) := by decide +kernel
theorem d_ST_event_31 : decode c_ST_event 31 = .ok (.lload_n 1, 1) := by decide +kernel
theorem d_ST_event_32 : decode c_ST_event 32 = .ok (.lload_n 3, 1) := by decide +kernel
theorem d_ST_event_33 : decode c_ST_event 33 = .ok (.lcmp, 1) := by decide +kernel
theorem d_ST_event_34 : decode c_ST_event 34 = .ok (.ifCond .le 5, 3) := by decide +kernel
theorem d_ST_event_37 : decode c_ST_event 37 = .ok (.iconst 0, 1) := by decide +kernel
theorem d_ST_event_38 : decode c_ST_event 38 = .ok (.ireturn, 1) := by decide +kernel
theorem d_ST_event_39 : decode c_ST_event 39 = .ok (.aload_n 0, 1) := by decide +kernel
theorem d_ST_event_40 : decode c_ST_event 40 = .ok (.getfield 12, 3) := by decide +kernel
theorem d_ST_event_43 : decode c_ST_event 43 = .ok (.lload_n 1, 1) := by decide +kernel
theorem d_ST_event_44 : decode c_ST_event 44 = .ok (.lload_n 3, 1) := by decide +kernel
theorem d_ST_event_45 : decode c_ST_event 45 = .ok (.invokevirtual 70, 3) := by decide +kernel
theorem d_ST_event_48 : decode c_ST_event 48 = .ok (.istore 5, 2) := by decide +kernel
theorem d_ST_event_50 : decode c_ST_event 50 = .ok (.aload_n 0, 1) := by decide +kernel
theorem d_ST_event_51 : decode c_ST_event 51 = .ok (.getfield 21, 3) := by decide +kernel
theorem d_ST_event_54 : decode c_ST_event 54 = .ok (.iload 5, 2) := by decide +kernel
theorem d_ST_event_56 : decode c_ST_event 56 = .ok (.invokevirtual 74, 3) := by decide +kernel
theorem d_ST_event_59 : decode c_ST_event 59 = .ok (.iload 5, 2) := by decide +kernel
theorem d_ST_event_61 : decode c_ST_event 61 = .ok (.ireturn, 1) := by decide +kernel
theorem d_ST_gate_0 : decode c_ST_gate 0 = .ok (.iload_n 1, 1) := by decide +kernel
theorem d_ST_gate_1 : decode c_ST_gate 1 = .ok (.iload_n 2, 1) := by decide +kernel
theorem d_ST_gate_2 : decode c_ST_gate 2 = .ok (.invokestatic 78, 3) := by decide +kernel
theorem d_ST_gate_5 : decode c_ST_gate 5 = .ok (.ifCond .ne 6, 3) := by decide +kernel
theorem d_ST_gate_8 : decode c_ST_gate 8 = .ok (.bipush (-2), 2) := by decide +kernel
theorem d_ST_gate_10 : decode c_ST_gate 10 = .ok (.ireturn, 1) := by decide +kernel
theorem d_ST_gate_11 : decode c_ST_gate 11 = .ok (.aload_n 0, 1) := by decide +kernel
theorem d_ST_gate_12 : decode c_ST_gate 12 = .ok (.getfield 12, 3) := by decide +kernel
theorem d_ST_gate_15 : decode c_ST_gate 15 = .ok (.getfield 82, 3) := by decide +kernel
theorem d_ST_gate_18 : decode c_ST_gate 18 = .ok (.bipush 20, 2) := by decide +kernel
theorem d_ST_gate_20 : decode c_ST_gate 20 = .ok (.if_icmp .lt 6, 3) := by decide +kernel
theorem d_ST_gate_23 : decode c_ST_gate 23 = .ok (.bipush (-4), 2) := by decide +kernel
theorem d_ST_gate_25 : decode c_ST_gate 25 = .ok (.ireturn, 1) := by decide +kernel
theorem d_ST_gate_26 : decode c_ST_gate 26 = .ok (.aload_n 0, 1) := by decide +kernel
theorem d_ST_gate_27 : decode c_ST_gate 27 = .ok (.getfield 12, 3) := by decide +kernel
theorem d_ST_gate_30 : decode c_ST_gate 30 = .ok (.iload_n 1, 1) := by decide +kernel
theorem d_ST_gate_31 : decode c_ST_gate 31 = .ok (.iload_n 2, 1) := by decide +kernel
theorem d_ST_gate_32 : decode c_ST_gate 32 = .ok (.invokevirtual 85, 3) := by decide +kernel
theorem d_ST_gate_35 : decode c_ST_gate 35 = .ok (.ireturn, 1) := by decide +kernel
theorem d_ST_below_0 : decode c_ST_below 0 = .ok (.aload_n 0, 1) := by decide +kernel
theorem d_ST_below_1 : decode c_ST_below 1 = .ok (.getfield 12, 3) := by decide +kernel
theorem d_ST_below_4 : decode c_ST_below 4 = .ok (.iload_n 1, 1) := by decide +kernel
theorem d_ST_below_5 : decode c_ST_below 5 = .ok (.invokevirtual 89, 3) := by decide +kernel
theorem d_ST_below_8 : decode c_ST_below 8 = .ok (.ifCond .eq 14, 3) := by decide +kernel
theorem d_ST_below_11 : decode c_ST_below 11 = .ok (.aload_n 0, 1) := by decide +kernel
theorem d_ST_below_12 : decode c_ST_below 12 = .ok (.getfield 12, 3) := by decide +kernel
theorem d_ST_below_15 : decode c_ST_below 15 = .ok (.iload_n 2, 1) := by decide +kernel
theorem d_ST_below_16 : decode c_ST_below 16 = .ok (.invokevirtual 93, 3) := by decide +kernel
theorem d_ST_below_19 : decode c_ST_below 19 = .ok (.ifCond .ne 5, 3) := by decide +kernel
theorem d_ST_below_22 : decode c_ST_below 22 = .ok (.iconst (-1), 1) := by decide +kernel
theorem d_ST_below_23 : decode c_ST_below 23 = .ok (.ireturn, 1) := by decide +kernel
theorem d_ST_below_24 : decode c_ST_below 24 = .ok (.aload_n 0, 1) := by decide +kernel
theorem d_ST_below_25 : decode c_ST_below 25 = .ok (.getfield 12, 3) := by decide +kernel
theorem d_ST_below_28 : decode c_ST_below 28 = .ok (.iload_n 2, 1) := by decide +kernel
theorem d_ST_below_29 : decode c_ST_below 29 = .ok (.iload_n 1, 1) := by decide +kernel
theorem d_ST_below_30 : decode c_ST_below 30 = .ok (.invokevirtual 96, 3) := by decide +kernel
theorem d_ST_below_33 : decode c_ST_below 33 = .ok (.ifCond .eq 6, 3) := by decide +kernel
theorem d_ST_below_36 : decode c_ST_below 36 = .ok (.bipush (-3), 2) := by decide +kernel
theorem d_ST_below_38 : decode c_ST_below 38 = .ok (.ireturn, 1) := by decide +kernel
theorem d_ST_below_39 : decode c_ST_below 39 = .ok (.aload_n 0, 1) := by decide +kernel
theorem d_ST_below_40 : decode c_ST_below 40 = .ok (.getfield 12, 3) := by decide +kernel
theorem d_ST_below_43 : decode c_ST_below 43 = .ok (.getfield 99, 3) := by decide +kernel
theorem d_ST_below_46 : decode c_ST_below 46 = .ok (.iload_n 1, 1) := by decide +kernel
theorem d_ST_below_47 : decode c_ST_below 47 = .ok (.iaload, 1) := by decide +kernel
theorem d_ST_below_48 : decode c_ST_below 48 = .ok (.bipush 10, 2) := by decide +kernel
theorem d_ST_below_50 : decode c_ST_below 50 = .ok (.if_icmp .lt 6, 3) := by decide +kernel
theorem d_ST_below_53 : decode c_ST_below 53 = .ok (.bipush (-4), 2) := by decide +kernel
theorem d_ST_below_55 : decode c_ST_below 55 = .ok (.ireturn, 1) := by decide +kernel
theorem d_ST_below_56 : decode c_ST_below 56 = .ok (.iload_n 2, 1) := by decide +kernel
theorem d_ST_below_57 : decode c_ST_below 57 = .ok (.iload_n 1, 1) := by decide +kernel
theorem d_ST_below_58 : decode c_ST_below 58 = .ok (.if_icmp .eq 15, 3) := by decide +kernel
theorem d_ST_below_61 : decode c_ST_below 61 = .ok (.aload_n 0, 1) := by decide +kernel
theorem d_ST_below_62 : decode c_ST_below 62 = .ok (.getfield 12, 3) := by decide +kernel
theorem d_ST_below_65 : decode c_ST_below 65 = .ok (.iload_n 1, 1) := by decide +kernel
theorem d_ST_below_66 : decode c_ST_below 66 = .ok (.iload_n 2, 1) := by decide +kernel
theorem d_ST_below_67 : decode c_ST_below 67 = .ok (.invokevirtual 103, 3) := by decide +kernel
theorem d_ST_below_70 : decode c_ST_below 70 = .ok (.ifCond .eq 5, 3) := by decide +kernel
theorem d_ST_below_73 : decode c_ST_below 73 = .ok (.iconst 0, 1) := by decide +kernel
theorem d_ST_below_74 : decode c_ST_below 74 = .ok (.ireturn, 1) := by decide +kernel
theorem d_ST_below_75 : decode c_ST_below 75 = .ok (.aload_n 0, 1) := by decide +kernel
theorem d_ST_below_76 : decode c_ST_below 76 = .ok (.getfield 12, 3) := by decide +kernel
theorem d_ST_below_79 : decode c_ST_below 79 = .ok (.iload_n 2, 1) := by decide +kernel
theorem d_ST_below_80 : decode c_ST_below 80 = .ok (.iload_n 1, 1) := by decide +kernel
theorem d_ST_below_81 : decode c_ST_below 81 = .ok (.invokevirtual 106, 3) := by decide +kernel
theorem d_ST_below_84 : decode c_ST_below 84 = .ok (.iconst 1, 1) := by decide +kernel
theorem d_ST_below_85 : decode c_ST_below 85 = .ok (.ireturn, 1) := by decide +kernel
theorem d_ST_cuts_0 : decode c_ST_cuts 0 = .ok (.aload_n 0, 1) := by decide +kernel
theorem d_ST_cuts_1 : decode c_ST_cuts 1 = .ok (.getfield 12, 3) := by decide +kernel
theorem d_ST_cuts_4 : decode c_ST_cuts 4 = .ok (.iload_n 1, 1) := by decide +kernel
theorem d_ST_cuts_5 : decode c_ST_cuts 5 = .ok (.invokevirtual 89, 3) := by decide +kernel
theorem d_ST_cuts_8 : decode c_ST_cuts 8 = .ok (.ifCond .eq 9, 3) := by decide +kernel
theorem d_ST_cuts_11 : decode c_ST_cuts 11 = .ok (.lload_n 2, 1) := by decide +kernel
theorem d_ST_cuts_12 : decode c_ST_cuts 12 = .ok (.lconst 0, 1) := by decide +kernel
theorem d_ST_cuts_13 : decode c_ST_cuts 13 = .ok (.lcmp, 1) := by decide +kernel
theorem d_ST_cuts_14 : decode c_ST_cuts 14 = .ok (.ifCond .ge 6, 3) := by decide +kernel
theorem d_ST_cuts_17 : decode c_ST_cuts 17 = .ok (.bipush (-2), 2) := by decide +kernel
theorem d_ST_cuts_19 : decode c_ST_cuts 19 = .ok (.ireturn, 1) := by decide +kernel
theorem d_ST_cuts_20 : decode c_ST_cuts 20 = .ok (.aload_n 0, 1) := by decide +kernel
theorem d_ST_cuts_21 : decode c_ST_cuts 21 = .ok (.getfield 12, 3) := by decide +kernel
theorem d_ST_cuts_24 : decode c_ST_cuts 24 = .ok (.getfield 110, 3) := by decide +kernel
theorem d_ST_cuts_27 : decode c_ST_cuts 27 = .ok (.iload_n 1, 1) := by decide +kernel
theorem d_ST_cuts_28 : decode c_ST_cuts 28 = .ok (.iaload, 1) := by decide +kernel
theorem d_ST_cuts_29 : decode c_ST_cuts 29 = .ok (.istore 4, 2) := by decide +kernel
theorem d_ST_cuts_31 : decode c_ST_cuts 31 = .ok (.iload 4, 2) := by decide +kernel
theorem d_ST_cuts_33 : decode c_ST_cuts 33 = .ok (.invokestatic 113, 3) := by decide +kernel
theorem d_ST_cuts_36 : decode c_ST_cuts 36 = .ok (.i2l, 1) := by decide +kernel
theorem d_ST_cuts_37 : decode c_ST_cuts 37 = .ok (.lload_n 2, 1) := by decide +kernel
theorem d_ST_cuts_38 : decode c_ST_cuts 38 = .ok (.lcmp, 1) := by decide +kernel
theorem d_ST_cuts_39 : decode c_ST_cuts 39 = .ok (.ifCond .le 12, 3) := by decide +kernel
theorem d_ST_cuts_42 : decode c_ST_cuts 42 = .ok (.aload_n 0, 1) := by decide +kernel
theorem d_ST_cuts_43 : decode c_ST_cuts 43 = .ok (.getfield 35, 3) := by decide +kernel
theorem d_ST_cuts_46 : decode c_ST_cuts 46 = .ok (.invokevirtual 117, 3) := by decide +kernel
theorem d_ST_cuts_49 : decode c_ST_cuts 49 = .ok (.iconst (-1), 1) := by decide +kernel
theorem d_ST_cuts_50 : decode c_ST_cuts 50 = .ok (.ireturn, 1) := by decide +kernel
theorem d_ST_cuts_51 : decode c_ST_cuts 51 = .ok (.aload_n 0, 1) := by decide +kernel
theorem d_ST_cuts_52 : decode c_ST_cuts 52 = .ok (.getfield 21, 3) := by decide +kernel
theorem d_ST_cuts_55 : decode c_ST_cuts 55 = .ok (.iload_n 1, 1) := by decide +kernel
theorem d_ST_cuts_56 : decode c_ST_cuts 56 = .ok (.invokevirtual 120, 3) := by decide +kernel
theorem d_ST_cuts_59 : decode c_ST_cuts 59 = .ok (.aload_n 0, 1) := by decide +kernel
theorem d_ST_cuts_60 : decode c_ST_cuts 60 = .ok (.getfield 35, 3) := by decide +kernel
theorem d_ST_cuts_63 : decode c_ST_cuts 63 = .ok (.aload_n 0, 1) := by decide +kernel
theorem d_ST_cuts_64 : decode c_ST_cuts 64 = .ok (.getfield 21, 3) := by decide +kernel
theorem d_ST_cuts_67 : decode c_ST_cuts 67 = .ok (.iload_n 1, 1) := by decide +kernel
theorem d_ST_cuts_68 : decode c_ST_cuts 68 = .ok (.iload 4, 2) := by decide +kernel
theorem d_ST_cuts_70 : decode c_ST_cuts 70 = .ok (.invokevirtual 123, 3) := by decide +kernel
theorem d_ST_cuts_73 : decode c_ST_cuts 73 = .ok (.ireturn, 1) := by decide +kernel
theorem d_ST_cut_0 : decode c_ST_cut 0 = .ok (.aload_n 0, 1) := by decide +kernel
theorem d_ST_cut_1 : decode c_ST_cut 1 = .ok (.getfield 35, 3) := by decide +kernel
theorem d_ST_cut_4 : decode c_ST_cut 4 = .ok (.iload_n 1, 1) := by decide +kernel
theorem d_ST_cut_5 : decode c_ST_cut 5 = .ok (.iload_n 2, 1) := by decide +kernel
theorem d_ST_cut_6 : decode c_ST_cut 6 = .ok (.invokevirtual 127, 3) := by decide +kernel
theorem d_ST_cut_9 : decode c_ST_cut 9 = .ok (.istore_n 3, 1) := by decide +kernel
theorem d_ST_cut_10 : decode c_ST_cut 10 = .ok (.iload_n 3, 1) := by decide +kernel
theorem d_ST_cut_11 : decode c_ST_cut 11 = .ok (.ifCond .lt 9, 3) := by decide +kernel
theorem d_ST_cut_14 : decode c_ST_cut 14 = .ok (.iload_n 3, 1) := by decide +kernel
theorem d_ST_cut_15 : decode c_ST_cut 15 = .ok (.bipush 12, 2) := by decide +kernel
theorem d_ST_cut_17 : decode c_ST_cut 17 = .ok (.if_icmp .lt 7, 3) := by decide +kernel
theorem d_ST_cut_20 : decode c_ST_cut 20 = .ok (.iconst 0, 1) := by decide +kernel
theorem d_ST_cut_21 : decode c_ST_cut 21 = .ok (.goto 12, 3) := by decide +kernel
theorem d_ST_cut_24 : decode c_ST_cut 24 = .ok (.aload_n 0, 1) := by decide +kernel
theorem d_ST_cut_25 : decode c_ST_cut 25 = .ok (.getfield 12, 3) := by decide +kernel
theorem d_ST_cut_28 : decode c_ST_cut 28 = .ok (.getfield 130, 3) := by decide +kernel
theorem d_ST_cut_31 : decode c_ST_cut 31 = .ok (.iload_n 3, 1) := by decide +kernel
theorem d_ST_cut_32 : decode c_ST_cut 32 = .ok (.iaload, 1) := by decide +kernel
theorem d_ST_cut_33 : decode c_ST_cut 33 = .ok (.ireturn, 1) := by decide +kernel
theorem d_ST_chance_0 : decode c_ST_chance 0 = .ok (.aload_n 0, 1) := by decide +kernel
theorem d_ST_chance_1 : decode c_ST_chance 1 = .ok (.getfield 12, 3) := by decide +kernel
theorem d_ST_chance_4 : decode c_ST_chance 4 = .ok (.iload_n 1, 1) := by decide +kernel
theorem d_ST_chance_5 : decode c_ST_chance 5 = .ok (.invokevirtual 89, 3) := by decide +kernel
theorem d_ST_chance_8 : decode c_ST_chance 8 = .ok (.ifCond .ne 7, 3) := by decide +kernel
theorem d_ST_chance_11 : decode c_ST_chance 11 = .ok (.ldc2_w 133, 3) := by decide +kernel
theorem d_ST_chance_14 : decode c_ST_chance 14 = .ok (.lreturn, 1) := by decide +kernel
theorem d_ST_chance_15 : decode c_ST_chance 15 = .ok (.aload_n 0, 1) := by decide +kernel
theorem d_ST_chance_16 : decode c_ST_chance 16 = .ok (.getfield 44, 3) := by decide +kernel
theorem d_ST_chance_19 : decode c_ST_chance 19 = .ok (.iload_n 1, 1) := by decide +kernel
theorem d_ST_chance_20 : decode c_ST_chance 20 = .ok (.invokevirtual 135, 3) := by decide +kernel
theorem d_ST_chance_23 : decode c_ST_chance 23 = .ok (.aload_n 0, 1) := by decide +kernel
theorem d_ST_chance_24 : decode c_ST_chance 24 = .ok (.getfield 44, 3) := by decide +kernel
theorem d_ST_chance_27 : decode c_ST_chance 27 = .ok (.getfield 138, 3) := by decide +kernel
theorem d_ST_chance_30 : decode c_ST_chance 30 = .ok (.iload_n 2, 1) := by decide +kernel
theorem d_ST_chance_31 : decode c_ST_chance 31 = .ok (.invokevirtual 141, 3) := by decide +kernel
theorem d_ST_chance_34 : decode c_ST_chance 34 = .ok (.lreturn, 1) := by decide +kernel
theorem d_ST_exact_0 : decode c_ST_exact 0 = .ok (.aload_n 0, 1) := by decide +kernel
theorem d_ST_exact_1 : decode c_ST_exact 1 = .ok (.getfield 44, 3) := by decide +kernel
theorem d_ST_exact_4 : decode c_ST_exact 4 = .ok (.getfield 145, 3) := by decide +kernel
theorem d_ST_exact_7 : decode c_ST_exact 7 = .ok (.ireturn, 1) := by decide +kernel
theorem d_ST_common_0 : decode c_ST_common 0 = .ok (.aload_n 0, 1) := by decide +kernel
theorem d_ST_common_1 : decode c_ST_common 1 = .ok (.getfield 12, 3) := by decide +kernel
theorem d_ST_common_4 : decode c_ST_common 4 = .ok (.iload_n 1, 1) := by decide +kernel
theorem d_ST_common_5 : decode c_ST_common 5 = .ok (.invokevirtual 149, 3) := by decide +kernel
theorem d_ST_common_8 : decode c_ST_common 8 = .ok (.ifCond .eq 14, 3) := by decide +kernel
theorem d_ST_common_11 : decode c_ST_common 11 = .ok (.aload_n 0, 1) := by decide +kernel
theorem d_ST_common_12 : decode c_ST_common 12 = .ok (.getfield 12, 3) := by decide +kernel
theorem d_ST_common_15 : decode c_ST_common 15 = .ok (.iload_n 2, 1) := by decide +kernel
theorem d_ST_common_16 : decode c_ST_common 16 = .ok (.invokevirtual 149, 3) := by decide +kernel
theorem d_ST_common_19 : decode c_ST_common 19 = .ok (.ifCond .ne 5, 3) := by decide +kernel
theorem d_ST_common_22 : decode c_ST_common 22 = .ok (.iconst (-1), 1) := by decide +kernel
theorem d_ST_common_23 : decode c_ST_common 23 = .ok (.ireturn, 1) := by decide +kernel
theorem d_ST_common_24 : decode c_ST_common 24 = .ok (.iload_n 1, 1) := by decide +kernel
theorem d_ST_common_25 : decode c_ST_common 25 = .ok (.iload_n 2, 1) := by decide +kernel
theorem d_ST_common_26 : decode c_ST_common 26 = .ok (.if_icmp .eq 24, 3) := by decide +kernel
theorem d_ST_common_29 : decode c_ST_common 29 = .ok (.lload 5, 2) := by decide +kernel
theorem d_ST_common_31 : decode c_ST_common 31 = .ok (.invokestatic 62, 3) := by decide +kernel
theorem d_ST_common_34 : decode c_ST_common 34 = .ok (.ifCond .eq 16, 3) := by decide +kernel
theorem d_ST_common_37 : decode c_ST_common 37 = .ok (.lload_n 3, 1) := by decide +kernel
theorem d_ST_common_38 : decode c_ST_common 38 = .ok (.lconst 0, 1) := by decide +kernel
theorem d_ST_common_39 : decode c_ST_common 39 = .ok (.lcmp, 1) := by decide +kernel
theorem d_ST_common_40 : decode c_ST_common 40 = .ok (.ifCond .lt 10, 3) := by decide +kernel
theorem d_ST_common_43 : decode c_ST_common 43 = .ok (.lload_n 3, 1) := by decide +kernel
theorem d_ST_common_44 : decode c_ST_common 44 = .ok (.lload 5, 2) := by decide +kernel
theorem d_ST_common_46 : decode c_ST_common 46 = .ok (.lcmp, 1) := by decide +kernel
theorem d_ST_common_47 : decode c_ST_common 47 = .ok (.ifCond .le 6, 3) := by decide +kernel
theorem d_ST_common_50 : decode c_ST_common 50 = .ok (.bipush (-2), 2) := by decide +kernel
theorem d_ST_common_52 : decode c_ST_common 52 = .ok (.ireturn, 1) := by decide +kernel
theorem d_ST_common_53 : decode c_ST_common 53 = .ok (.aload_n 0, 1) := by decide +kernel
theorem d_ST_common_54 : decode c_ST_common 54 = .ok (.getfield 28, 3) := by decide +kernel
theorem d_ST_common_57 : decode c_ST_common 57 = .ok (.getfield 152, 3) := by decide +kernel
theorem d_ST_common_60 : decode c_ST_common 60 = .ok (.iconst 4, 1) := by decide +kernel
theorem d_ST_common_61 : decode c_ST_common 61 = .ok (.if_icmp .lt 6, 3) := by decide +kernel
theorem d_ST_common_64 : decode c_ST_common 64 = .ok (.bipush (-4), 2) := by decide +kernel
theorem d_ST_common_66 : decode c_ST_common 66 = .ok (.ireturn, 1) := by decide +kernel
theorem d_ST_common_67 : decode c_ST_common 67 = .ok (.aload_n 0, 1) := by decide +kernel
theorem d_ST_common_68 : decode c_ST_common 68 = .ok (.getfield 28, 3) := by decide +kernel
theorem d_ST_common_71 : decode c_ST_common 71 = .ok (.aload_n 0, 1) := by decide +kernel
theorem d_ST_common_72 : decode c_ST_common 72 = .ok (.getfield 12, 3) := by decide +kernel
theorem d_ST_common_75 : decode c_ST_common 75 = .ok (.getfield 110, 3) := by decide +kernel
theorem d_ST_common_78 : decode c_ST_common 78 = .ok (.iload_n 1, 1) := by decide +kernel
theorem d_ST_common_79 : decode c_ST_common 79 = .ok (.iaload, 1) := by decide +kernel
theorem d_ST_common_80 : decode c_ST_common 80 = .ok (.aload_n 0, 1) := by decide +kernel
theorem d_ST_common_81 : decode c_ST_common 81 = .ok (.getfield 12, 3) := by decide +kernel
theorem d_ST_common_84 : decode c_ST_common 84 = .ok (.getfield 110, 3) := by decide +kernel
theorem d_ST_common_87 : decode c_ST_common 87 = .ok (.iload_n 2, 1) := by decide +kernel
theorem d_ST_common_88 : decode c_ST_common 88 = .ok (.iaload, 1) := by decide +kernel
theorem d_ST_common_89 : decode c_ST_common 89 = .ok (.ior, 1) := by decide +kernel
theorem d_ST_common_90 : decode c_ST_common 90 = .ok (.lload_n 3, 1) := by decide +kernel
theorem d_ST_common_91 : decode c_ST_common 91 = .ok (.lload 5, 2) := by decide +kernel
theorem d_ST_common_93 : decode c_ST_common 93 = .ok (.invokevirtual 155, 3) := by decide +kernel
theorem d_ST_common_96 : decode c_ST_common 96 = .ok (.ireturn, 1) := by decide +kernel
theorem d_ST_grade_0 : decode c_ST_grade 0 = .ok (.iload_n 1, 1) := by decide +kernel
theorem d_ST_grade_1 : decode c_ST_grade 1 = .ok (.iconst 0, 1) := by decide +kernel
theorem d_ST_grade_2 : decode c_ST_grade 2 = .ok (.iconst 3, 1) := by decide +kernel
theorem d_ST_grade_3 : decode c_ST_grade 3 = .ok (.invokestatic 159, 3) := by decide +kernel
theorem d_ST_grade_6 : decode c_ST_grade 6 = .ok (.ifCond .eq 21, 3) := by decide +kernel
theorem d_ST_grade_9 : decode c_ST_grade 9 = .ok (.iload_n 2, 1) := by decide +kernel
theorem d_ST_grade_10 : decode c_ST_grade 10 = .ok (.iconst 0, 1) := by decide +kernel
theorem d_ST_grade_11 : decode c_ST_grade 11 = .ok (.iconst 4, 1) := by decide +kernel
theorem d_ST_grade_12 : decode c_ST_grade 12 = .ok (.invokestatic 159, 3) := by decide +kernel
theorem d_ST_grade_15 : decode c_ST_grade 15 = .ok (.ifCond .eq 12, 3) := by decide +kernel
theorem d_ST_grade_18 : decode c_ST_grade 18 = .ok (.iload_n 3, 1) := by decide +kernel
theorem d_ST_grade_19 : decode c_ST_grade 19 = .ok (.iconst 0, 1) := by decide +kernel
theorem d_ST_grade_20 : decode c_ST_grade 20 = .ok (.iconst 3, 1) := by decide +kernel
theorem d_ST_grade_21 : decode c_ST_grade 21 = .ok (.invokestatic 159, 3) := by decide +kernel
theorem d_ST_grade_24 : decode c_ST_grade 24 = .ok (.ifCond .ne 6, 3) := by decide +kernel
theorem d_ST_grade_27 : decode c_ST_grade 27 = .ok (.bipush (-2), 2) := by decide +kernel
theorem d_ST_grade_29 : decode c_ST_grade 29 = .ok (.ireturn, 1) := by decide +kernel
theorem d_ST_grade_30 : decode c_ST_grade 30 = .ok (.iload_n 1, 1) := by decide +kernel
theorem d_ST_grade_31 : decode c_ST_grade 31 = .ok (.iload_n 2, 1) := by decide +kernel
theorem d_ST_grade_32 : decode c_ST_grade 32 = .ok (.iadd, 1) := by decide +kernel
theorem d_ST_grade_33 : decode c_ST_grade 33 = .ok (.iload_n 3, 1) := by decide +kernel
theorem d_ST_grade_34 : decode c_ST_grade 34 = .ok (.iadd, 1) := by decide +kernel
theorem d_ST_grade_35 : decode c_ST_grade 35 = .ok (.istore 4, 2) := by decide +kernel
theorem d_ST_grade_37 : decode c_ST_grade 37 = .ok (.iload_n 1, 1) := by decide +kernel
theorem d_ST_grade_38 : decode c_ST_grade 38 = .ok (.ifCond .eq 18, 3) := by decide +kernel
theorem d_ST_grade_41 : decode c_ST_grade 41 = .ok (.iload_n 2, 1) := by decide +kernel
theorem d_ST_grade_42 : decode c_ST_grade 42 = .ok (.ifCond .eq 14, 3) := by decide +kernel
theorem d_ST_grade_45 : decode c_ST_grade 45 = .ok (.iload_n 3, 1) := by decide +kernel
theorem d_ST_grade_46 : decode c_ST_grade 46 = .ok (.ifCond .eq 10, 3) := by decide +kernel
theorem d_ST_grade_49 : decode c_ST_grade 49 = .ok (.iload 4, 2) := by decide +kernel
theorem d_ST_grade_51 : decode c_ST_grade 51 = .ok (.bipush 7, 2) := by decide +kernel
theorem d_ST_grade_53 : decode c_ST_grade 53 = .ok (.if_icmp .ge 5, 3) := by decide +kernel
theorem d_ST_grade_56 : decode c_ST_grade 56 = .ok (.iconst 0, 1) := by decide +kernel
theorem d_ST_grade_57 : decode c_ST_grade 57 = .ok (.ireturn, 1) := by decide +kernel
theorem d_ST_grade_58 : decode c_ST_grade 58 = .ok (.iload 4, 2) := by decide +kernel
theorem d_ST_grade_60 : decode c_ST_grade 60 = .ok (.bipush 6, 2) := by decide +kernel
theorem d_ST_grade_62 : decode c_ST_grade 62 = .ok (.isub, 1) := by decide +kernel
theorem d_ST_grade_63 : decode c_ST_grade 63 = .ok (.ireturn, 1) := by decide +kernel
theorem d_ST_goal_0 : decode c_ST_goal 0 = .ok (.iload_n 1, 1) := by decide +kernel
theorem d_ST_goal_1 : decode c_ST_goal 1 = .ok (.iconst 0, 1) := by decide +kernel
theorem d_ST_goal_2 : decode c_ST_goal 2 = .ok (.iconst 4, 1) := by decide +kernel
theorem d_ST_goal_3 : decode c_ST_goal 3 = .ok (.invokestatic 159, 3) := by decide +kernel
theorem d_ST_goal_6 : decode c_ST_goal 6 = .ok (.ifCond .ne 6, 3) := by decide +kernel
theorem d_ST_goal_9 : decode c_ST_goal 9 = .ok (.bipush (-2), 2) := by decide +kernel
theorem d_ST_goal_11 : decode c_ST_goal 11 = .ok (.ireturn, 1) := by decide +kernel
theorem d_ST_goal_12 : decode c_ST_goal 12 = .ok (.aload_n 0, 1) := by decide +kernel
theorem d_ST_goal_13 : decode c_ST_goal 13 = .ok (.getfield 51, 3) := by decide +kernel
theorem d_ST_goal_16 : decode c_ST_goal 16 = .ok (.getfield 163, 3) := by decide +kernel
theorem d_ST_goal_19 : decode c_ST_goal 19 = .ok (.bipush 30, 2) := by decide +kernel
theorem d_ST_goal_21 : decode c_ST_goal 21 = .ok (.if_icmp .lt 6, 3) := by decide +kernel
theorem d_ST_goal_24 : decode c_ST_goal 24 = .ok (.bipush (-4), 2) := by decide +kernel
theorem d_ST_goal_26 : decode c_ST_goal 26 = .ok (.ireturn, 1) := by decide +kernel
theorem d_ST_goal_27 : decode c_ST_goal 27 = .ok (.aload_n 0, 1) := by decide +kernel
theorem d_ST_goal_28 : decode c_ST_goal 28 = .ok (.getfield 51, 3) := by decide +kernel
theorem d_ST_goal_31 : decode c_ST_goal 31 = .ok (.iload_n 1, 1) := by decide +kernel
theorem d_ST_goal_32 : decode c_ST_goal 32 = .ok (.invokevirtual 164, 3) := by decide +kernel
theorem d_ST_goal_35 : decode c_ST_goal 35 = .ok (.ireturn, 1) := by decide +kernel
theorem d_ST_trace_0 : decode c_ST_trace 0 = .ok (.iload_n 1, 1) := by decide +kernel
theorem d_ST_trace_1 : decode c_ST_trace 1 = .ok (.iconst 1, 1) := by decide +kernel
theorem d_ST_trace_2 : decode c_ST_trace 2 = .ok (.aload_n 0, 1) := by decide +kernel
theorem d_ST_trace_3 : decode c_ST_trace 3 = .ok (.getfield 51, 3) := by decide +kernel
theorem d_ST_trace_6 : decode c_ST_trace 6 = .ok (.getfield 163, 3) := by decide +kernel
theorem d_ST_trace_9 : decode c_ST_trace 9 = .ok (.invokestatic 159, 3) := by decide +kernel
theorem d_ST_trace_12 : decode c_ST_trace 12 = .ok (.ifCond .ne 5, 3) := by decide +kernel
theorem d_ST_trace_15 : decode c_ST_trace 15 = .ok (.iconst (-1), 1) := by decide +kernel
theorem d_ST_trace_16 : decode c_ST_trace 16 = .ok (.ireturn, 1) := by decide +kernel
theorem d_ST_trace_17 : decode c_ST_trace 17 = .ok (.iload_n 2, 1) := by decide +kernel
theorem d_ST_trace_18 : decode c_ST_trace 18 = .ok (.iconst 1, 1) := by decide +kernel
theorem d_ST_trace_19 : decode c_ST_trace 19 = .ok (.bipush 50, 2) := by decide +kernel
theorem d_ST_trace_21 : decode c_ST_trace 21 = .ok (.invokestatic 159, 3) := by decide +kernel
theorem d_ST_trace_24 : decode c_ST_trace 24 = .ok (.ifCond .eq 13, 3) := by decide +kernel
theorem d_ST_trace_27 : decode c_ST_trace 27 = .ok (.iload_n 3, 1) := by decide +kernel
theorem d_ST_trace_28 : decode c_ST_trace 28 = .ok (.iconst 0, 1) := by decide +kernel
theorem d_ST_trace_29 : decode c_ST_trace 29 = .ok (.bipush 50, 2) := by decide +kernel
theorem d_ST_trace_31 : decode c_ST_trace 31 = .ok (.invokestatic 159, 3) := by decide +kernel
theorem d_ST_trace_34 : decode c_ST_trace 34 = .ok (.ifCond .ne 6, 3) := by decide +kernel
theorem d_ST_trace_37 : decode c_ST_trace 37 = .ok (.bipush (-2), 2) := by decide +kernel
theorem d_ST_trace_39 : decode c_ST_trace 39 = .ok (.ireturn, 1) := by decide +kernel
theorem d_ST_trace_40 : decode c_ST_trace 40 = .ok (.aload_n 0, 1) := by decide +kernel
theorem d_ST_trace_41 : decode c_ST_trace 41 = .ok (.getfield 51, 3) := by decide +kernel
theorem d_ST_trace_44 : decode c_ST_trace 44 = .ok (.iload_n 1, 1) := by decide +kernel
theorem d_ST_trace_45 : decode c_ST_trace 45 = .ok (.iload_n 2, 1) := by decide +kernel
theorem d_ST_trace_46 : decode c_ST_trace 46 = .ok (.iload_n 3, 1) := by decide +kernel
theorem d_ST_trace_47 : decode c_ST_trace 47 = .ok (.invokevirtual 166, 3) := by decide +kernel
theorem d_ST_trace_50 : decode c_ST_trace 50 = .ok (.ifCond .eq 6, 3) := by decide +kernel
theorem d_ST_trace_53 : decode c_ST_trace 53 = .ok (.bipush (-3), 2) := by decide +kernel
theorem d_ST_trace_55 : decode c_ST_trace 55 = .ok (.ireturn, 1) := by decide +kernel
theorem d_ST_trace_56 : decode c_ST_trace 56 = .ok (.aload_n 0, 1) := by decide +kernel
theorem d_ST_trace_57 : decode c_ST_trace 57 = .ok (.getfield 51, 3) := by decide +kernel
theorem d_ST_trace_60 : decode c_ST_trace 60 = .ok (.getfield 169, 3) := by decide +kernel
theorem d_ST_trace_63 : decode c_ST_trace 63 = .ok (.bipush 100, 2) := by decide +kernel
theorem d_ST_trace_65 : decode c_ST_trace 65 = .ok (.if_icmp .lt 6, 3) := by decide +kernel
theorem d_ST_trace_68 : decode c_ST_trace 68 = .ok (.bipush (-4), 2) := by decide +kernel
theorem d_ST_trace_70 : decode c_ST_trace 70 = .ok (.ireturn, 1) := by decide +kernel
theorem d_ST_trace_71 : decode c_ST_trace 71 = .ok (.aload_n 0, 1) := by decide +kernel
theorem d_ST_trace_72 : decode c_ST_trace 72 = .ok (.getfield 51, 3) := by decide +kernel
theorem d_ST_trace_75 : decode c_ST_trace 75 = .ok (.iload_n 1, 1) := by decide +kernel
theorem d_ST_trace_76 : decode c_ST_trace 76 = .ok (.iload_n 2, 1) := by decide +kernel
theorem d_ST_trace_77 : decode c_ST_trace 77 = .ok (.iload_n 3, 1) := by decide +kernel
theorem d_ST_trace_78 : decode c_ST_trace 78 = .ok (.invokevirtual 172, 3) := by decide +kernel
theorem d_ST_trace_81 : decode c_ST_trace 81 = .ok (.ireturn, 1) := by decide +kernel
theorem d_ST_open_0 : decode c_ST_open 0 = .ok (.iload_n 1, 1) := by decide +kernel
theorem d_ST_open_1 : decode c_ST_open 1 = .ok (.ifCond .ge 7, 3) := by decide +kernel
theorem d_ST_open_4 : decode c_ST_open 4 = .ok (.iconst 0, 1) := by decide +kernel
theorem d_ST_open_5 : decode c_ST_open 5 = .ok (.goto 11, 3) := by decide +kernel
theorem d_ST_open_8 : decode c_ST_open 8 = .ok (.aload_n 0, 1) := by decide +kernel
theorem d_ST_open_9 : decode c_ST_open 9 = .ok (.getfield 51, 3) := by decide +kernel
theorem d_ST_open_12 : decode c_ST_open 12 = .ok (.iload_n 1, 1) := by decide +kernel
theorem d_ST_open_13 : decode c_ST_open 13 = .ok (.invokevirtual 176, 3) := by decide +kernel
theorem d_ST_open_16 : decode c_ST_open 16 = .ok (.ireturn, 1) := by decide +kernel
theorem d_ST_cover_0 : decode c_ST_cover 0 = .ok (.aload_n 0, 1) := by decide +kernel
theorem d_ST_cover_1 : decode c_ST_cover 1 = .ok (.getfield 51, 3) := by decide +kernel
theorem d_ST_cover_4 : decode c_ST_cover 4 = .ok (.iload_n 1, 1) := by decide +kernel
theorem d_ST_cover_5 : decode c_ST_cover 5 = .ok (.invokevirtual 179, 3) := by decide +kernel
theorem d_ST_cover_8 : decode c_ST_cover 8 = .ok (.istore_n 3, 1) := by decide +kernel
theorem d_ST_cover_9 : decode c_ST_cover 9 = .ok (.iload_n 3, 1) := by decide +kernel
theorem d_ST_cover_10 : decode c_ST_cover 10 = .ok (.ifCond .ne 13, 3) := by decide +kernel
theorem d_ST_cover_13 : decode c_ST_cover 13 = .ok (.new 182, 3) := by decide +kernel
theorem d_ST_cover_16 : decode c_ST_cover 16 = .ok (.dup, 1) := by decide +kernel
theorem d_ST_cover_17 : decode c_ST_cover 17 = .ok (.ldc 184, 2) := by decide +kernel
theorem d_ST_cover_19 : decode c_ST_cover 19 = .ok (.invokespecial 186, 3) := by decide +kernel
theorem d_ST_cover_22 : decode c_ST_cover 22 = .ok (.athrow, 1) := by decide +kernel
theorem d_ST_cover_23 : decode c_ST_cover 23 = .ok (.aload_n 0, 1) := by decide +kernel
theorem d_ST_cover_24 : decode c_ST_cover 24 = .ok (.getfield 58, 3) := by decide +kernel
theorem d_ST_cover_27 : decode c_ST_cover 27 = .ok (.aload_n 0, 1) := by decide +kernel
theorem d_ST_cover_28 : decode c_ST_cover 28 = .ok (.getfield 51, 3) := by decide +kernel
theorem d_ST_cover_31 : decode c_ST_cover 31 = .ok (.iload_n 1, 1) := by decide +kernel
theorem d_ST_cover_32 : decode c_ST_cover 32 = .ok (.invokevirtual 189, 3) := by decide +kernel
theorem d_ST_cover_35 : decode c_ST_cover 35 = .ok (.i2l, 1) := by decide +kernel
theorem d_ST_cover_36 : decode c_ST_cover 36 = .ok (.iload_n 3, 1) := by decide +kernel
theorem d_ST_cover_37 : decode c_ST_cover 37 = .ok (.i2l, 1) := by decide +kernel
theorem d_ST_cover_38 : decode c_ST_cover 38 = .ok (.invokevirtual 192, 3) := by decide +kernel
theorem d_ST_cover_41 : decode c_ST_cover 41 = .ok (.aload_n 0, 1) := by decide +kernel
theorem d_ST_cover_42 : decode c_ST_cover 42 = .ok (.getfield 58, 3) := by decide +kernel
theorem d_ST_cover_45 : decode c_ST_cover 45 = .ok (.iload_n 2, 1) := by decide +kernel
theorem d_ST_cover_46 : decode c_ST_cover 46 = .ok (.invokevirtual 141, 3) := by decide +kernel
theorem d_ST_cover_49 : decode c_ST_cover 49 = .ok (.lreturn, 1) := by decide +kernel
theorem d_ST_plain_0 : decode c_ST_plain 0 = .ok (.aload_n 0, 1) := by decide +kernel
theorem d_ST_plain_1 : decode c_ST_plain 1 = .ok (.getfield 12, 3) := by decide +kernel
theorem d_ST_plain_4 : decode c_ST_plain 4 = .ok (.iload_n 1, 1) := by decide +kernel
theorem d_ST_plain_5 : decode c_ST_plain 5 = .ok (.invokevirtual 89, 3) := by decide +kernel
theorem d_ST_plain_8 : decode c_ST_plain 8 = .ok (.ifCond .ne 6, 3) := by decide +kernel
theorem d_ST_plain_11 : decode c_ST_plain 11 = .ok (.bipush (-2), 2) := by decide +kernel
theorem d_ST_plain_13 : decode c_ST_plain 13 = .ok (.ireturn, 1) := by decide +kernel
theorem d_ST_plain_14 : decode c_ST_plain 14 = .ok (.aload_n 0, 1) := by decide +kernel
theorem d_ST_plain_15 : decode c_ST_plain 15 = .ok (.getfield 21, 3) := by decide +kernel
theorem d_ST_plain_18 : decode c_ST_plain 18 = .ok (.iload_n 1, 1) := by decide +kernel
theorem d_ST_plain_19 : decode c_ST_plain 19 = .ok (.invokevirtual 120, 3) := by decide +kernel
theorem d_ST_plain_22 : decode c_ST_plain 22 = .ok (.aload_n 0, 1) := by decide +kernel
theorem d_ST_plain_23 : decode c_ST_plain 23 = .ok (.getfield 21, 3) := by decide +kernel
theorem d_ST_plain_26 : decode c_ST_plain 26 = .ok (.iload_n 1, 1) := by decide +kernel
theorem d_ST_plain_27 : decode c_ST_plain 27 = .ok (.aload_n 0, 1) := by decide +kernel
theorem d_ST_plain_28 : decode c_ST_plain 28 = .ok (.getfield 12, 3) := by decide +kernel
theorem d_ST_plain_31 : decode c_ST_plain 31 = .ok (.getfield 110, 3) := by decide +kernel
theorem d_ST_plain_34 : decode c_ST_plain 34 = .ok (.iload_n 1, 1) := by decide +kernel
theorem d_ST_plain_35 : decode c_ST_plain 35 = .ok (.iaload, 1) := by decide +kernel
theorem d_ST_plain_36 : decode c_ST_plain 36 = .ok (.invokevirtual 196, 3) := by decide +kernel
theorem d_ST_plain_39 : decode c_ST_plain 39 = .ok (.ireturn, 1) := by decide +kernel
theorem d_ST_isWithin_0 : decode c_ST_isWithin 0 = .ok (.iload_n 0, 1) := by decide +kernel
theorem d_ST_isWithin_1 : decode c_ST_isWithin 1 = .ok (.iload_n 1, 1) := by decide +kernel
theorem d_ST_isWithin_2 : decode c_ST_isWithin 2 = .ok (.if_icmp .lt 12, 3) := by decide +kernel
theorem d_ST_isWithin_5 : decode c_ST_isWithin 5 = .ok (.iload_n 0, 1) := by decide +kernel
theorem d_ST_isWithin_6 : decode c_ST_isWithin 6 = .ok (.iload_n 2, 1) := by decide +kernel
theorem d_ST_isWithin_7 : decode c_ST_isWithin 7 = .ok (.if_icmp .gt 7, 3) := by decide +kernel
theorem d_ST_isWithin_10 : decode c_ST_isWithin 10 = .ok (.iconst 1, 1) := by decide +kernel
theorem d_ST_isWithin_11 : decode c_ST_isWithin 11 = .ok (.goto 4, 3) := by decide +kernel
theorem d_ST_isWithin_14 : decode c_ST_isWithin 14 = .ok (.iconst 0, 1) := by decide +kernel
theorem d_ST_isWithin_15 : decode c_ST_isWithin 15 = .ok (.ireturn, 1) := by decide +kernel
theorem d_ST_isDown_0 : decode c_ST_isDown 0 = .ok (.lload_n 0, 1) := by decide +kernel
theorem d_ST_isDown_1 : decode c_ST_isDown 1 = .ok (.lconst 1, 1) := by decide +kernel
theorem d_ST_isDown_2 : decode c_ST_isDown 2 = .ok (.lcmp, 1) := by decide +kernel
theorem d_ST_isDown_3 : decode c_ST_isDown 3 = .ok (.ifCond .lt 15, 3) := by decide +kernel
theorem d_ST_isDown_6 : decode c_ST_isDown 6 = .ok (.lload_n 0, 1) := by decide +kernel
theorem d_ST_isDown_7 : decode c_ST_isDown 7 = .ok (.ldc2_w 199, 3) := by decide +kernel
theorem d_ST_isDown_10 : decode c_ST_isDown 10 = .ok (.lcmp, 1) := by decide +kernel
theorem d_ST_isDown_11 : decode c_ST_isDown 11 = .ok (.ifCond .gt 7, 3) := by decide +kernel
theorem d_ST_isDown_14 : decode c_ST_isDown 14 = .ok (.iconst 1, 1) := by decide +kernel
theorem d_ST_isDown_15 : decode c_ST_isDown 15 = .ok (.goto 4, 3) := by decide +kernel
theorem d_ST_isDown_18 : decode c_ST_isDown 18 = .ok (.iconst 0, 1) := by decide +kernel
theorem d_ST_isDown_19 : decode c_ST_isDown 19 = .ok (.ireturn, 1) := by decide +kernel
theorem d_ST_isKind_0 : decode c_ST_isKind 0 = .ok (.iload_n 0, 1) := by decide +kernel
theorem d_ST_isKind_1 : decode c_ST_isKind 1 = .ok (.iconst 2, 1) := by decide +kernel
theorem d_ST_isKind_2 : decode c_ST_isKind 2 = .ok (.if_icmp .ne 11, 3) := by decide +kernel
theorem d_ST_isKind_5 : decode c_ST_isKind 5 = .ok (.iload_n 1, 1) := by decide +kernel
theorem d_ST_isKind_6 : decode c_ST_isKind 6 = .ok (.iconst 1, 1) := by decide +kernel
theorem d_ST_isKind_7 : decode c_ST_isKind 7 = .ok (.bipush 10, 2) := by decide +kernel
theorem d_ST_isKind_9 : decode c_ST_isKind 9 = .ok (.invokestatic 159, 3) := by decide +kernel
theorem d_ST_isKind_12 : decode c_ST_isKind 12 = .ok (.ireturn, 1) := by decide +kernel
theorem d_ST_isKind_13 : decode c_ST_isKind 13 = .ok (.iload_n 0, 1) := by decide +kernel
theorem d_ST_isKind_14 : decode c_ST_isKind 14 = .ok (.ifCond .eq 8, 3) := by decide +kernel
theorem d_ST_isKind_17 : decode c_ST_isKind 17 = .ok (.iload_n 0, 1) := by decide +kernel
theorem d_ST_isKind_18 : decode c_ST_isKind 18 = .ok (.iconst 1, 1) := by decide +kernel
theorem d_ST_isKind_19 : decode c_ST_isKind 19 = .ok (.if_icmp .ne 11, 3) := by decide +kernel
theorem d_ST_isKind_22 : decode c_ST_isKind 22 = .ok (.iload_n 1, 1) := by decide +kernel
theorem d_ST_isKind_23 : decode c_ST_isKind 23 = .ok (.ifCond .ne 7, 3) := by decide +kernel
theorem d_ST_isKind_26 : decode c_ST_isKind 26 = .ok (.iconst 1, 1) := by decide +kernel
theorem d_ST_isKind_27 : decode c_ST_isKind 27 = .ok (.goto 4, 3) := by decide +kernel
theorem d_ST_isKind_30 : decode c_ST_isKind 30 = .ok (.iconst 0, 1) := by decide +kernel
theorem d_ST_isKind_31 : decode c_ST_isKind 31 = .ok (.ireturn, 1) := by decide +kernel
theorem d_ST_countOfSets_0 : decode c_ST_countOfSets 0 = .ok (.iconst 1, 1) := by decide +kernel
theorem d_ST_countOfSets_1 : decode c_ST_countOfSets 1 = .ok (.iload_n 0, 1) := by decide +kernel
theorem d_ST_countOfSets_2 : decode c_ST_countOfSets 2 = .ok (.sipush 4095, 3) := by decide +kernel
theorem d_ST_countOfSets_5 : decode c_ST_countOfSets 5 = .ok (.iand, 1) := by decide +kernel
theorem d_ST_countOfSets_6 : decode c_ST_countOfSets 6 = .ok (.invokestatic 201, 3) := by decide +kernel
theorem d_ST_countOfSets_9 : decode c_ST_countOfSets 9 = .ok (.ishl, 1) := by decide +kernel
theorem d_ST_countOfSets_10 : decode c_ST_countOfSets 10 = .ok (.ireturn, 1) := by decide +kernel
theorem d_ST_nextSet_0 : decode c_ST_nextSet 0 = .ok (.iload_n 0, 1) := by decide +kernel
theorem d_ST_nextSet_1 : decode c_ST_nextSet 1 = .ok (.iload_n 1, 1) := by decide +kernel
theorem d_ST_nextSet_2 : decode c_ST_nextSet 2 = .ok (.isub, 1) := by decide +kernel
theorem d_ST_nextSet_3 : decode c_ST_nextSet 3 = .ok (.iload_n 1, 1) := by decide +kernel
theorem d_ST_nextSet_4 : decode c_ST_nextSet 4 = .ok (.iand, 1) := by decide +kernel
theorem d_ST_nextSet_5 : decode c_ST_nextSet 5 = .ok (.ireturn, 1) := by decide +kernel
theorem d_Fr_init_0 : decode c_Fr_init 0 = .ok (.aload_n 0, 1) := by decide +kernel
theorem d_Fr_init_1 : decode c_Fr_init 1 = .ok (.invokespecial 1, 3) := by decide +kernel
theorem d_Fr_init_4 : decode c_Fr_init 4 = .ok (.aload_n 0, 1) := by decide +kernel
theorem d_Fr_init_5 : decode c_Fr_init 5 = .ok (.lconst 0, 1) := by decide +kernel
theorem d_Fr_init_6 : decode c_Fr_init 6 = .ok (.putfield 7, 3) := by decide +kernel
theorem d_Fr_init_9 : decode c_Fr_init 9 = .ok (.aload_n 0, 1) := by decide +kernel
theorem d_Fr_init_10 : decode c_Fr_init 10 = .ok (.lconst 1, 1) := by decide +kernel
theorem d_Fr_init_11 : decode c_Fr_init 11 = .ok (.putfield 13, 3) := by decide +kernel
theorem d_Fr_init_14 : decode c_Fr_init 14 = .ok (.return_, 1) := by decide +kernel
theorem d_Fr_set_0 : decode c_Fr_set 0 = .ok (.lload_n 1, 1) := by decide +kernel
theorem d_Fr_set_1 : decode c_Fr_set 1 = .ok (.lload_n 3, 1) := by decide +kernel
theorem d_Fr_set_2 : decode c_Fr_set 2 = .ok (.invokestatic 16, 3) := by decide +kernel
theorem d_Fr_set_5 : decode c_Fr_set 5 = .ok (.lstore 5, 2) := by decide +kernel
theorem d_Fr_set_7 : decode c_Fr_set 7 = .ok (.lload 5, 2) := by decide +kernel
theorem d_Fr_set_9 : decode c_Fr_set 9 = .ok (.lconst 0, 1) := by decide +kernel
theorem d_Fr_set_10 : decode c_Fr_set 10 = .ok (.lcmp, 1) := by decide +kernel
theorem d_Fr_set_11 : decode c_Fr_set 11 = .ok (.ifCond .le 19, 3) := by decide +kernel
theorem d_Fr_set_14 : decode c_Fr_set 14 = .ok (.aload_n 0, 1) := by decide +kernel
theorem d_Fr_set_15 : decode c_Fr_set 15 = .ok (.lload_n 1, 1) := by decide +kernel
theorem d_Fr_set_16 : decode c_Fr_set 16 = .ok (.lload 5, 2) := by decide +kernel
theorem d_Fr_set_18 : decode c_Fr_set 18 = .ok (.ldiv, 1) := by decide +kernel
theorem d_Fr_set_19 : decode c_Fr_set 19 = .ok (.putfield 7, 3) := by decide +kernel
theorem d_Fr_set_22 : decode c_Fr_set 22 = .ok (.aload_n 0, 1) := by decide +kernel
theorem d_Fr_set_23 : decode c_Fr_set 23 = .ok (.lload_n 3, 1) := by decide +kernel
theorem d_Fr_set_24 : decode c_Fr_set 24 = .ok (.lload 5, 2) := by decide +kernel
theorem d_Fr_set_26 : decode c_Fr_set 26 = .ok (.ldiv, 1) := by decide +kernel
theorem d_Fr_set_27 : decode c_Fr_set 27 = .ok (.putfield 13, 3) := by decide +kernel
theorem d_Fr_set_30 : decode c_Fr_set 30 = .ok (.return_, 1) := by decide +kernel
theorem d_Fr_side_0 : decode c_Fr_side 0 = .ok (.iload_n 1, 1) := by decide +kernel
theorem d_Fr_side_1 : decode c_Fr_side 1 = .ok (.ifCond .ne 10, 3) := by decide +kernel
theorem d_Fr_side_4 : decode c_Fr_side 4 = .ok (.aload_n 0, 1) := by decide +kernel
theorem d_Fr_side_5 : decode c_Fr_side 5 = .ok (.getfield 7, 3) := by decide +kernel
theorem d_Fr_side_8 : decode c_Fr_side 8 = .ok (.goto 7, 3) := by decide +kernel
theorem d_Fr_side_11 : decode c_Fr_side 11 = .ok (.aload_n 0, 1) := by decide +kernel
theorem d_Fr_side_12 : decode c_Fr_side 12 = .ok (.getfield 13, 3) := by decide +kernel
theorem d_Fr_side_15 : decode c_Fr_side 15 = .ok (.lreturn, 1) := by decide +kernel
theorem d_Fr_commonDivisor_0 : decode c_Fr_commonDivisor 0 = .ok (.lload_n 0, 1) := by decide +kernel
theorem d_Fr_commonDivisor_1 : decode c_Fr_commonDivisor 1 = .ok (.lstore 4, 2) := by decide +kernel
theorem d_Fr_commonDivisor_3 : decode c_Fr_commonDivisor 3 = .ok (.lload_n 2, 1) := by decide +kernel
theorem d_Fr_commonDivisor_4 : decode c_Fr_commonDivisor 4 = .ok (.lstore 6, 2) := by decide +kernel
theorem d_Fr_commonDivisor_6 : decode c_Fr_commonDivisor 6 = .ok (.iconst 0, 1) := by decide +kernel
theorem d_Fr_commonDivisor_7 : decode c_Fr_commonDivisor 7 = .ok (.istore 8, 2) := by decide +kernel
theorem d_Fr_commonDivisor_9 : decode c_Fr_commonDivisor 9 = .ok (.iload 8, 2) := by decide +kernel
theorem d_Fr_commonDivisor_11 : decode c_Fr_commonDivisor 11 = .ok (.bipush 100, 2) := by decide +kernel
theorem d_Fr_commonDivisor_13 : decode c_Fr_commonDivisor 13 = .ok (.if_icmp .ge 31, 3) := by decide +kernel
theorem d_Fr_commonDivisor_16 : decode c_Fr_commonDivisor 16 = .ok (.lload 6, 2) := by decide +kernel
theorem d_Fr_commonDivisor_18 : decode c_Fr_commonDivisor 18 = .ok (.lconst 0, 1) := by decide +kernel
theorem d_Fr_commonDivisor_19 : decode c_Fr_commonDivisor 19 = .ok (.lcmp, 1) := by decide +kernel
theorem d_Fr_commonDivisor_20 : decode c_Fr_commonDivisor 20 = .ok (.ifCond .eq 24, 3) := by decide +kernel
theorem d_Fr_commonDivisor_23 : decode c_Fr_commonDivisor 23 = .ok (.lload 4, 2) := by decide +kernel
theorem d_Fr_commonDivisor_25 : decode c_Fr_commonDivisor 25 = .ok (.lload 6, 2) := by decide +kernel
theorem d_Fr_commonDivisor_27 : decode c_Fr_commonDivisor 27 = .ok (.lrem, 1) := by decide +kernel
theorem d_Fr_commonDivisor_28 : decode c_Fr_commonDivisor 28 = .ok (.lstore 9, 2) := by decide +kernel
theorem d_Fr_commonDivisor_30 : decode c_Fr_commonDivisor 30 = .ok (.lload 6, 2) := by decide +kernel
theorem d_Fr_commonDivisor_32 : decode c_Fr_commonDivisor 32 = .ok (.lstore 4, 2) := by decide +kernel
theorem d_Fr_commonDivisor_34 : decode c_Fr_commonDivisor 34 = .ok (.lload 9, 2) := by decide +kernel
theorem d_Fr_commonDivisor_36 : decode c_Fr_commonDivisor 36 = .ok (.lstore 6, 2) := by decide +kernel
theorem d_Fr_commonDivisor_38 : decode c_Fr_commonDivisor 38 = .ok (.iinc 8 1, 3) := by decide +kernel
theorem d_Fr_commonDivisor_41 : decode c_Fr_commonDivisor 41 = .ok (.goto (-32), 3) := by decide +kernel
theorem d_Fr_commonDivisor_44 : decode c_Fr_commonDivisor 44 = .ok (.lload 4, 2) := by decide +kernel
theorem d_Fr_commonDivisor_46 : decode c_Fr_commonDivisor 46 = .ok (.lreturn, 1) := by decide +kernel
theorem d_Ca_init_0 : decode c_Ca_init 0 = .ok (.aload_n 0, 1) := by decide +kernel
theorem d_Ca_init_1 : decode c_Ca_init 1 = .ok (.invokespecial 3, 3) := by decide +kernel
theorem d_Ca_init_4 : decode c_Ca_init 4 = .ok (.aload_n 0, 1) := by decide +kernel
theorem d_Ca_init_5 : decode c_Ca_init 5 = .ok (.iconst 0, 1) := by decide +kernel
theorem d_Ca_init_6 : decode c_Ca_init 6 = .ok (.putfield 9, 3) := by decide +kernel
theorem d_Ca_init_9 : decode c_Ca_init 9 = .ok (.aload_n 0, 1) := by decide +kernel
theorem d_Ca_init_10 : decode c_Ca_init 10 = .ok (.iconst 4, 1) := by decide +kernel
theorem d_Ca_init_11 : decode c_Ca_init 11 = .ok (.newarray .int, 2) := by decide +kernel
theorem d_Ca_init_13 : decode c_Ca_init 13 = .ok (.putfield 15, 3) := by decide +kernel
theorem d_Ca_init_16 : decode c_Ca_init 16 = .ok (.aload_n 0, 1) := by decide +kernel
theorem d_Ca_init_17 : decode c_Ca_init 17 = .ok (.iconst 4, 1) := by decide +kernel
theorem d_Ca_init_18 : decode c_Ca_init 18 = .ok (.newarray .long, 2) := by decide +kernel
theorem d_Ca_init_20 : decode c_Ca_init 20 = .ok (.putfield 19, 3) := by decide +kernel
theorem d_Ca_init_23 : decode c_Ca_init 23 = .ok (.aload_n 0, 1) := by decide +kernel
theorem d_Ca_init_24 : decode c_Ca_init 24 = .ok (.iconst 4, 1) := by decide +kernel
theorem d_Ca_init_25 : decode c_Ca_init 25 = .ok (.newarray .long, 2) := by decide +kernel
theorem d_Ca_init_27 : decode c_Ca_init 27 = .ok (.putfield 23, 3) := by decide +kernel
theorem d_Ca_init_30 : decode c_Ca_init 30 = .ok (.return_, 1) := by decide +kernel
theorem d_Ca_add_0 : decode c_Ca_add 0 = .ok (.aload_n 0, 1) := by decide +kernel
theorem d_Ca_add_1 : decode c_Ca_add 1 = .ok (.getfield 15, 3) := by decide +kernel
theorem d_Ca_add_4 : decode c_Ca_add 4 = .ok (.aload_n 0, 1) := by decide +kernel
theorem d_Ca_add_5 : decode c_Ca_add 5 = .ok (.getfield 9, 3) := by decide +kernel
theorem d_Ca_add_8 : decode c_Ca_add 8 = .ok (.iload_n 1, 1) := by decide +kernel
theorem d_Ca_add_9 : decode c_Ca_add 9 = .ok (.iastore, 1) := by decide +kernel
theorem d_Ca_add_10 : decode c_Ca_add 10 = .ok (.aload_n 0, 1) := by decide +kernel
theorem d_Ca_add_11 : decode c_Ca_add 11 = .ok (.getfield 19, 3) := by decide +kernel
theorem d_Ca_add_14 : decode c_Ca_add 14 = .ok (.aload_n 0, 1) := by decide +kernel
theorem d_Ca_add_15 : decode c_Ca_add 15 = .ok (.getfield 9, 3) := by decide +kernel
theorem d_Ca_add_18 : decode c_Ca_add 18 = .ok (.lload_n 2, 1) := by decide +kernel
theorem d_Ca_add_19 : decode c_Ca_add 19 = .ok (.lastore, 1) := by decide +kernel
theorem d_Ca_add_20 : decode c_Ca_add 20 = .ok (.aload_n 0, 1) := by decide +kernel
theorem d_Ca_add_21 : decode c_Ca_add 21 = .ok (.getfield 23, 3) := by decide +kernel
theorem d_Ca_add_24 : decode c_Ca_add 24 = .ok (.aload_n 0, 1) := by decide +kernel
theorem d_Ca_add_25 : decode c_Ca_add 25 = .ok (.getfield 9, 3) := by decide +kernel
theorem d_Ca_add_28 : decode c_Ca_add 28 = .ok (.lload 4, 2) := by decide +kernel
theorem d_Ca_add_30 : decode c_Ca_add 30 = .ok (.lastore, 1) := by decide +kernel
theorem d_Ca_add_31 : decode c_Ca_add 31 = .ok (.aload_n 0, 1) := by decide +kernel
theorem d_Ca_add_32 : decode c_Ca_add 32 = .ok (.dup, 1) := by decide +kernel
theorem d_Ca_add_33 : decode c_Ca_add 33 = .ok (.getfield 9, 3) := by decide +kernel
theorem d_Ca_add_36 : decode c_Ca_add 36 = .ok (.iconst 1, 1) := by decide +kernel
theorem d_Ca_add_37 : decode c_Ca_add 37 = .ok (.iadd, 1) := by decide +kernel
theorem d_Ca_add_38 : decode c_Ca_add 38 = .ok (.putfield 9, 3) := by decide +kernel
theorem d_Ca_add_41 : decode c_Ca_add 41 = .ok (.aload_n 0, 1) := by decide +kernel
theorem d_Ca_add_42 : decode c_Ca_add 42 = .ok (.getfield 9, 3) := by decide +kernel
theorem d_Ca_add_45 : decode c_Ca_add 45 = .ok (.ireturn, 1) := by decide +kernel
theorem d_Ca_touches_0 : decode c_Ca_touches 0 = .ok (.aload_n 0, 1) := by decide +kernel
theorem d_Ca_touches_1 : decode c_Ca_touches 1 = .ok (.getfield 15, 3) := by decide +kernel
theorem d_Ca_touches_4 : decode c_Ca_touches 4 = .ok (.iload_n 1, 1) := by decide +kernel
theorem d_Ca_touches_5 : decode c_Ca_touches 5 = .ok (.iaload, 1) := by decide +kernel
theorem d_Ca_touches_6 : decode c_Ca_touches 6 = .ok (.iload_n 2, 1) := by decide +kernel
theorem d_Ca_touches_7 : decode c_Ca_touches 7 = .ok (.iand, 1) := by decide +kernel
theorem d_Ca_touches_8 : decode c_Ca_touches 8 = .ok (.ifCond .eq 7, 3) := by decide +kernel
theorem d_Ca_touches_11 : decode c_Ca_touches 11 = .ok (.iconst 1, 1) := by decide +kernel
theorem d_Ca_touches_12 : decode c_Ca_touches 12 = .ok (.goto 4, 3) := by decide +kernel
theorem d_Ca_touches_15 : decode c_Ca_touches 15 = .ok (.iconst 0, 1) := by decide +kernel
theorem d_Ca_touches_16 : decode c_Ca_touches 16 = .ok (.ireturn, 1) := by decide +kernel
theorem d_Ca_countTouching_0 : decode c_Ca_countTouching 0 = .ok (.iconst 0, 1) := by decide +kernel
theorem d_Ca_countTouching_1 : decode c_Ca_countTouching 1 = .ok (.istore_n 2, 1) := by decide +kernel
theorem d_Ca_countTouching_2 : decode c_Ca_countTouching 2 = .ok (.iconst 0, 1) := by decide +kernel
theorem d_Ca_countTouching_3 : decode c_Ca_countTouching 3 = .ok (.istore_n 3, 1) := by decide +kernel
theorem d_Ca_countTouching_4 : decode c_Ca_countTouching 4 = .ok (.iload_n 3, 1) := by decide +kernel
theorem d_Ca_countTouching_5 : decode c_Ca_countTouching 5 = .ok (.aload_n 0, 1) := by decide +kernel
theorem d_Ca_countTouching_6 : decode c_Ca_countTouching 6 = .ok (.getfield 9, 3) := by decide +kernel
theorem d_Ca_countTouching_9 : decode c_Ca_countTouching 9 = .ok (.if_icmp .ge 21, 3) := by decide +kernel
theorem d_Ca_countTouching_12 : decode c_Ca_countTouching 12 = .ok (.aload_n 0, 1) := by decide +kernel
theorem d_Ca_countTouching_13 : decode c_Ca_countTouching 13 = .ok (.iload_n 3, 1) := by decide +kernel
theorem d_Ca_countTouching_14 : decode c_Ca_countTouching 14 = .ok (.iload_n 1, 1) := by decide +kernel
theorem d_Ca_countTouching_15 : decode c_Ca_countTouching 15 = .ok (.invokevirtual 26, 3) := by decide +kernel
theorem d_Ca_countTouching_18 : decode c_Ca_countTouching 18 = .ok (.ifCond .eq 6, 3) := by decide +kernel
theorem d_Ca_countTouching_21 : decode c_Ca_countTouching 21 = .ok (.iinc 2 1, 3) := by decide +kernel
theorem d_Ca_countTouching_24 : decode c_Ca_countTouching 24 = .ok (.iinc 3 1, 3) := by decide +kernel
theorem d_Ca_countTouching_27 : decode c_Ca_countTouching 27 = .ok (.goto (-23), 3) := by decide +kernel
theorem d_Ca_countTouching_30 : decode c_Ca_countTouching 30 = .ok (.iload_n 2, 1) := by decide +kernel
theorem d_Ca_countTouching_31 : decode c_Ca_countTouching 31 = .ok (.ireturn, 1) := by decide +kernel
theorem d_Cu_init_0 : decode c_Cu_init 0 = .ok (.aload_n 0, 1) := by decide +kernel
theorem d_Cu_init_1 : decode c_Cu_init 1 = .ok (.invokespecial 3, 3) := by decide +kernel
theorem d_Cu_init_4 : decode c_Cu_init 4 = .ok (.aload_n 0, 1) := by decide +kernel
theorem d_Cu_init_5 : decode c_Cu_init 5 = .ok (.iconst 0, 1) := by decide +kernel
theorem d_Cu_init_6 : decode c_Cu_init 6 = .ok (.putfield 9, 3) := by decide +kernel
theorem d_Cu_init_9 : decode c_Cu_init 9 = .ok (.aload_n 0, 1) := by decide +kernel
theorem d_Cu_init_10 : decode c_Cu_init 10 = .ok (.sipush 924, 3) := by decide +kernel
theorem d_Cu_init_13 : decode c_Cu_init 13 = .ok (.newarray .int, 2) := by decide +kernel
theorem d_Cu_init_15 : decode c_Cu_init 15 = .ok (.putfield 15, 3) := by decide +kernel
theorem d_Cu_init_18 : decode c_Cu_init 18 = .ok (.aload_n 0, 1) := by decide +kernel
theorem d_Cu_init_19 : decode c_Cu_init 19 = .ok (.sipush 924, 3) := by decide +kernel
theorem d_Cu_init_22 : decode c_Cu_init 22 = .ok (.newarray .int, 2) := by decide +kernel
theorem d_Cu_init_24 : decode c_Cu_init 24 = .ok (.putfield 19, 3) := by decide +kernel
theorem d_Cu_init_27 : decode c_Cu_init 27 = .ok (.return_, 1) := by decide +kernel
theorem d_Cu_clear_0 : decode c_Cu_clear 0 = .ok (.aload_n 0, 1) := by decide +kernel
theorem d_Cu_clear_1 : decode c_Cu_clear 1 = .ok (.iconst 0, 1) := by decide +kernel
theorem d_Cu_clear_2 : decode c_Cu_clear 2 = .ok (.putfield 9, 3) := by decide +kernel
theorem d_Cu_clear_5 : decode c_Cu_clear 5 = .ok (.return_, 1) := by decide +kernel
theorem d_Cu_tell_0 : decode c_Cu_tell 0 = .ok (.aload_n 0, 1) := by decide +kernel
theorem d_Cu_tell_1 : decode c_Cu_tell 1 = .ok (.aload_n 1, 1) := by decide +kernel
theorem d_Cu_tell_2 : decode c_Cu_tell 2 = .ok (.iload_n 2, 1) := by decide +kernel
theorem d_Cu_tell_3 : decode c_Cu_tell 3 = .ok (.iload_n 3, 1) := by decide +kernel
theorem d_Cu_tell_4 : decode c_Cu_tell 4 = .ok (.invokevirtual 22, 3) := by decide +kernel
theorem d_Cu_tell_7 : decode c_Cu_tell 7 = .ok (.istore 4, 2) := by decide +kernel
theorem d_Cu_tell_9 : decode c_Cu_tell 9 = .ok (.aload_n 0, 1) := by decide +kernel
theorem d_Cu_tell_10 : decode c_Cu_tell 10 = .ok (.iconst 0, 1) := by decide +kernel
theorem d_Cu_tell_11 : decode c_Cu_tell 11 = .ok (.putfield 9, 3) := by decide +kernel
theorem d_Cu_tell_14 : decode c_Cu_tell 14 = .ok (.iconst 0, 1) := by decide +kernel
theorem d_Cu_tell_15 : decode c_Cu_tell 15 = .ok (.istore 5, 2) := by decide +kernel
theorem d_Cu_tell_17 : decode c_Cu_tell 17 = .ok (.iload 5, 2) := by decide +kernel
theorem d_Cu_tell_19 : decode c_Cu_tell 19 = .ok (.bipush 12, 2) := by decide +kernel
theorem d_Cu_tell_21 : decode c_Cu_tell 21 = .ok (.if_icmp .gt 17, 3) := by decide +kernel
theorem d_Cu_tell_24 : decode c_Cu_tell 24 = .ok (.aload_n 0, 1) := by decide +kernel
theorem d_Cu_tell_25 : decode c_Cu_tell 25 = .ok (.iload 5, 2) := by decide +kernel
theorem d_Cu_tell_27 : decode c_Cu_tell 27 = .ok (.iload 4, 2) := by decide +kernel
theorem d_Cu_tell_29 : decode c_Cu_tell 29 = .ok (.invokevirtual 26, 3) := by decide +kernel
theorem d_Cu_tell_32 : decode c_Cu_tell 32 = .ok (.iinc 5 1, 3) := by decide +kernel
theorem d_Cu_tell_35 : decode c_Cu_tell 35 = .ok (.goto (-18), 3) := by decide +kernel
theorem d_Cu_tell_38 : decode c_Cu_tell 38 = .ok (.aload_n 0, 1) := by decide +kernel
theorem d_Cu_tell_39 : decode c_Cu_tell 39 = .ok (.getfield 9, 3) := by decide +kernel
theorem d_Cu_tell_42 : decode c_Cu_tell 42 = .ok (.ireturn, 1) := by decide +kernel
theorem d_Cu_find_0 : decode c_Cu_find 0 = .ok (.iconst 0, 1) := by decide +kernel
theorem d_Cu_find_1 : decode c_Cu_find 1 = .ok (.istore 4, 2) := by decide +kernel
theorem d_Cu_find_3 : decode c_Cu_find 3 = .ok (.iload_n 3, 1) := by decide +kernel
theorem d_Cu_find_4 : decode c_Cu_find 4 = .ok (.invokestatic 30, 3) := by decide +kernel
theorem d_Cu_find_7 : decode c_Cu_find 7 = .ok (.istore 5, 2) := by decide +kernel
theorem d_Cu_find_9 : decode c_Cu_find 9 = .ok (.iload_n 3, 1) := by decide +kernel
theorem d_Cu_find_10 : decode c_Cu_find 10 = .ok (.istore 6, 2) := by decide +kernel
theorem d_Cu_find_12 : decode c_Cu_find 12 = .ok (.iconst 0, 1) := by decide +kernel
theorem d_Cu_find_13 : decode c_Cu_find 13 = .ok (.istore 7, 2) := by decide +kernel
theorem d_Cu_find_15 : decode c_Cu_find 15 = .ok (.iload 7, 2) := by decide +kernel
theorem d_Cu_find_17 : decode c_Cu_find 17 = .ok (.iload 5, 2) := by decide +kernel
theorem d_Cu_find_19 : decode c_Cu_find 19 = .ok (.if_icmp .ge 47, 3) := by decide +kernel
theorem d_Cu_find_22 : decode c_Cu_find 22 = .ok (.aload_n 1, 1) := by decide +kernel
theorem d_Cu_find_23 : decode c_Cu_find 23 = .ok (.iload_n 2, 1) := by decide +kernel
theorem d_Cu_find_24 : decode c_Cu_find 24 = .ok (.iload 6, 2) := by decide +kernel
theorem d_Cu_find_26 : decode c_Cu_find 26 = .ok (.invokevirtual 34, 3) := by decide +kernel
theorem d_Cu_find_29 : decode c_Cu_find 29 = .ok (.ifCond .eq 23, 3) := by decide +kernel
theorem d_Cu_find_32 : decode c_Cu_find 32 = .ok (.iload 4, 2) := by decide +kernel
theorem d_Cu_find_34 : decode c_Cu_find 34 = .ok (.sipush 924, 3) := by decide +kernel
theorem d_Cu_find_37 : decode c_Cu_find 37 = .ok (.if_icmp .ge 15, 3) := by decide +kernel
theorem d_Cu_find_40 : decode c_Cu_find 40 = .ok (.aload_n 0, 1) := by decide +kernel
theorem d_Cu_find_41 : decode c_Cu_find 41 = .ok (.getfield 19, 3) := by decide +kernel
theorem d_Cu_find_44 : decode c_Cu_find 44 = .ok (.iload 4, 2) := by decide +kernel
theorem d_Cu_find_46 : decode c_Cu_find 46 = .ok (.iload 6, 2) := by decide +kernel
theorem d_Cu_find_48 : decode c_Cu_find 48 = .ok (.iastore, 1) := by decide +kernel
theorem d_Cu_find_49 : decode c_Cu_find 49 = .ok (.iinc 4 1, 3) := by decide +kernel
theorem d_Cu_find_52 : decode c_Cu_find 52 = .ok (.iload 6, 2) := by decide +kernel
theorem d_Cu_find_54 : decode c_Cu_find 54 = .ok (.iconst 1, 1) := by decide +kernel
theorem d_Cu_find_55 : decode c_Cu_find 55 = .ok (.isub, 1) := by decide +kernel
theorem d_Cu_find_56 : decode c_Cu_find 56 = .ok (.iload_n 3, 1) := by decide +kernel
theorem d_Cu_find_57 : decode c_Cu_find 57 = .ok (.iand, 1) := by decide +kernel
theorem d_Cu_find_58 : decode c_Cu_find 58 = .ok (.istore 6, 2) := by decide +kernel
theorem d_Cu_find_60 : decode c_Cu_find 60 = .ok (.iinc 7 1, 3) := by decide +kernel
theorem d_Cu_find_63 : decode c_Cu_find 63 = .ok (.goto (-48), 3) := by decide +kernel
theorem d_Cu_find_66 : decode c_Cu_find 66 = .ok (.iload 4, 2) := by decide +kernel
theorem d_Cu_find_68 : decode c_Cu_find 68 = .ok (.ireturn, 1) := by decide +kernel
theorem d_Cu_takeOfSize_0 : decode c_Cu_takeOfSize 0 = .ok (.iconst 0, 1) := by decide +kernel
theorem d_Cu_takeOfSize_1 : decode c_Cu_takeOfSize 1 = .ok (.istore_n 3, 1) := by decide +kernel
theorem d_Cu_takeOfSize_2 : decode c_Cu_takeOfSize 2 = .ok (.iload_n 3, 1) := by decide +kernel
theorem d_Cu_takeOfSize_3 : decode c_Cu_takeOfSize 3 = .ok (.iload_n 2, 1) := by decide +kernel
theorem d_Cu_takeOfSize_4 : decode c_Cu_takeOfSize 4 = .ok (.if_icmp .ge 57, 3) := by decide +kernel
theorem d_Cu_takeOfSize_7 : decode c_Cu_takeOfSize 7 = .ok (.aload_n 0, 1) := by decide +kernel
theorem d_Cu_takeOfSize_8 : decode c_Cu_takeOfSize 8 = .ok (.getfield 19, 3) := by decide +kernel
theorem d_Cu_takeOfSize_11 : decode c_Cu_takeOfSize 11 = .ok (.iload_n 3, 1) := by decide +kernel
theorem d_Cu_takeOfSize_12 : decode c_Cu_takeOfSize 12 = .ok (.iaload, 1) := by decide +kernel
theorem d_Cu_takeOfSize_13 : decode c_Cu_takeOfSize 13 = .ok (.invokestatic 40, 3) := by decide +kernel
theorem d_Cu_takeOfSize_16 : decode c_Cu_takeOfSize 16 = .ok (.iload_n 1, 1) := by decide +kernel
theorem d_Cu_takeOfSize_17 : decode c_Cu_takeOfSize 17 = .ok (.if_icmp .ne 38, 3) := by decide +kernel
theorem d_Cu_takeOfSize_20 : decode c_Cu_takeOfSize 20 = .ok (.aload_n 0, 1) := by decide +kernel
theorem d_Cu_takeOfSize_21 : decode c_Cu_takeOfSize 21 = .ok (.getfield 9, 3) := by decide +kernel
theorem d_Cu_takeOfSize_24 : decode c_Cu_takeOfSize 24 = .ok (.sipush 924, 3) := by decide +kernel
theorem d_Cu_takeOfSize_27 : decode c_Cu_takeOfSize 27 = .ok (.if_icmp .ge 28, 3) := by decide +kernel
theorem d_Cu_takeOfSize_30 : decode c_Cu_takeOfSize 30 = .ok (.aload_n 0, 1) := by decide +kernel
theorem d_Cu_takeOfSize_31 : decode c_Cu_takeOfSize 31 = .ok (.getfield 15, 3) := by decide +kernel
theorem d_Cu_takeOfSize_34 : decode c_Cu_takeOfSize 34 = .ok (.aload_n 0, 1) := by decide +kernel
theorem d_Cu_takeOfSize_35 : decode c_Cu_takeOfSize 35 = .ok (.getfield 9, 3) := by decide +kernel
theorem d_Cu_takeOfSize_38 : decode c_Cu_takeOfSize 38 = .ok (.aload_n 0, 1) := by decide +kernel
theorem d_Cu_takeOfSize_39 : decode c_Cu_takeOfSize 39 = .ok (.getfield 19, 3) := by decide +kernel
theorem d_Cu_takeOfSize_42 : decode c_Cu_takeOfSize 42 = .ok (.iload_n 3, 1) := by decide +kernel
theorem d_Cu_takeOfSize_43 : decode c_Cu_takeOfSize 43 = .ok (.iaload, 1) := by decide +kernel
theorem d_Cu_takeOfSize_44 : decode c_Cu_takeOfSize 44 = .ok (.iastore, 1) := by decide +kernel
theorem d_Cu_takeOfSize_45 : decode c_Cu_takeOfSize 45 = .ok (.aload_n 0, 1) := by decide +kernel
theorem d_Cu_takeOfSize_46 : decode c_Cu_takeOfSize 46 = .ok (.dup, 1) := by decide +kernel
theorem d_Cu_takeOfSize_47 : decode c_Cu_takeOfSize 47 = .ok (.getfield 9, 3) := by decide +kernel
theorem d_Cu_takeOfSize_50 : decode c_Cu_takeOfSize 50 = .ok (.iconst 1, 1) := by decide +kernel
theorem d_Cu_takeOfSize_51 : decode c_Cu_takeOfSize 51 = .ok (.iadd, 1) := by decide +kernel
theorem d_Cu_takeOfSize_52 : decode c_Cu_takeOfSize 52 = .ok (.putfield 9, 3) := by decide +kernel
theorem d_Cu_takeOfSize_55 : decode c_Cu_takeOfSize 55 = .ok (.iinc 3 1, 3) := by decide +kernel
theorem d_Cu_takeOfSize_58 : decode c_Cu_takeOfSize 58 = .ok (.goto (-56), 3) := by decide +kernel
theorem d_Cu_takeOfSize_61 : decode c_Cu_takeOfSize 61 = .ok (.return_, 1) := by decide +kernel
theorem d_Cu_eventIndex_0 : decode c_Cu_eventIndex 0 = .ok (.iload_n 1, 1) := by decide +kernel
theorem d_Cu_eventIndex_1 : decode c_Cu_eventIndex 1 = .ok (.ifCond .lt 15, 3) := by decide +kernel
theorem d_Cu_eventIndex_4 : decode c_Cu_eventIndex 4 = .ok (.iload_n 1, 1) := by decide +kernel
theorem d_Cu_eventIndex_5 : decode c_Cu_eventIndex 5 = .ok (.aload_n 0, 1) := by decide +kernel
theorem d_Cu_eventIndex_6 : decode c_Cu_eventIndex 6 = .ok (.getfield 9, 3) := by decide +kernel
theorem d_Cu_eventIndex_9 : decode c_Cu_eventIndex 9 = .ok (.if_icmp .ge 7, 3) := by decide +kernel
theorem d_Cu_eventIndex_12 : decode c_Cu_eventIndex 12 = .ok (.iload_n 2, 1) := by decide +kernel
theorem d_Cu_eventIndex_13 : decode c_Cu_eventIndex 13 = .ok (.ifCond .ge 5, 3) := by decide +kernel
theorem d_Cu_eventIndex_16 : decode c_Cu_eventIndex 16 = .ok (.iconst (-1), 1) := by decide +kernel
theorem d_Cu_eventIndex_17 : decode c_Cu_eventIndex 17 = .ok (.ireturn, 1) := by decide +kernel
theorem d_Cu_eventIndex_18 : decode c_Cu_eventIndex 18 = .ok (.iload_n 2, 1) := by decide +kernel
theorem d_Cu_eventIndex_19 : decode c_Cu_eventIndex 19 = .ok (.istore_n 3, 1) := by decide +kernel
theorem d_Cu_eventIndex_20 : decode c_Cu_eventIndex 20 = .ok (.iconst 0, 1) := by decide +kernel
theorem d_Cu_eventIndex_21 : decode c_Cu_eventIndex 21 = .ok (.istore 4, 2) := by decide +kernel
theorem d_Cu_eventIndex_23 : decode c_Cu_eventIndex 23 = .ok (.iload 4, 2) := by decide +kernel
theorem d_Cu_eventIndex_25 : decode c_Cu_eventIndex 25 = .ok (.bipush 12, 2) := by decide +kernel
theorem d_Cu_eventIndex_27 : decode c_Cu_eventIndex 27 = .ok (.if_icmp .ge 34, 3) := by decide +kernel
theorem d_Cu_eventIndex_30 : decode c_Cu_eventIndex 30 = .ok (.aload_n 0, 1) := by decide +kernel
theorem d_Cu_eventIndex_31 : decode c_Cu_eventIndex 31 = .ok (.getfield 15, 3) := by decide +kernel
theorem d_Cu_eventIndex_34 : decode c_Cu_eventIndex 34 = .ok (.iload_n 1, 1) := by decide +kernel
theorem d_Cu_eventIndex_35 : decode c_Cu_eventIndex 35 = .ok (.iaload, 1) := by decide +kernel
theorem d_Cu_eventIndex_36 : decode c_Cu_eventIndex 36 = .ok (.iload 4, 2) := by decide +kernel
theorem d_Cu_eventIndex_38 : decode c_Cu_eventIndex 38 = .ok (.invokestatic 45, 3) := by decide +kernel
theorem d_Cu_eventIndex_41 : decode c_Cu_eventIndex 41 = .ok (.iand, 1) := by decide +kernel
theorem d_Cu_eventIndex_42 : decode c_Cu_eventIndex 42 = .ok (.ifCond .eq 13, 3) := by decide +kernel
theorem d_Cu_eventIndex_45 : decode c_Cu_eventIndex 45 = .ok (.iload_n 3, 1) := by decide +kernel
theorem d_Cu_eventIndex_46 : decode c_Cu_eventIndex 46 = .ok (.ifCond .ne 6, 3) := by decide +kernel
theorem d_Cu_eventIndex_49 : decode c_Cu_eventIndex 49 = .ok (.iload 4, 2) := by decide +kernel
theorem d_Cu_eventIndex_51 : decode c_Cu_eventIndex 51 = .ok (.ireturn, 1) := by decide +kernel
theorem d_Cu_eventIndex_52 : decode c_Cu_eventIndex 52 = .ok (.iinc 3 (-1), 3) := by decide +kernel
theorem d_Cu_eventIndex_55 : decode c_Cu_eventIndex 55 = .ok (.iinc 4 1, 3) := by decide +kernel
theorem d_Cu_eventIndex_58 : decode c_Cu_eventIndex 58 = .ok (.goto (-35), 3) := by decide +kernel
theorem d_Cu_eventIndex_61 : decode c_Cu_eventIndex 61 = .ok (.iconst (-1), 1) := by decide +kernel
theorem d_Cu_eventIndex_62 : decode c_Cu_eventIndex 62 = .ok (.ireturn, 1) := by decide +kernel
theorem d_Ji_bitCount_0 : decode c_Ji_bitCount 0 = .ok (.iload_n 0, 1) := by decide +kernel
theorem d_Ji_bitCount_1 : decode c_Ji_bitCount 1 = .ok (.iload_n 0, 1) := by decide +kernel
theorem d_Ji_bitCount_2 : decode c_Ji_bitCount 2 = .ok (.iconst 1, 1) := by decide +kernel
theorem d_Ji_bitCount_3 : decode c_Ji_bitCount 3 = .ok (.iushr, 1) := by decide +kernel
theorem d_Ji_bitCount_4 : decode c_Ji_bitCount 4 = .ok (.ldc_w 265, 3) := by decide +kernel
theorem d_Ji_bitCount_7 : decode c_Ji_bitCount 7 = .ok (.iand, 1) := by decide +kernel
theorem d_Ji_bitCount_8 : decode c_Ji_bitCount 8 = .ok (.isub, 1) := by decide +kernel
theorem d_Ji_bitCount_9 : decode c_Ji_bitCount 9 = .ok (.istore_n 0, 1) := by decide +kernel
theorem d_Ji_bitCount_10 : decode c_Ji_bitCount 10 = .ok (.iload_n 0, 1) := by decide +kernel
theorem d_Ji_bitCount_11 : decode c_Ji_bitCount 11 = .ok (.ldc_w 266, 3) := by decide +kernel
theorem d_Ji_bitCount_14 : decode c_Ji_bitCount 14 = .ok (.iand, 1) := by decide +kernel
theorem d_Ji_bitCount_15 : decode c_Ji_bitCount 15 = .ok (.iload_n 0, 1) := by decide +kernel
theorem d_Ji_bitCount_16 : decode c_Ji_bitCount 16 = .ok (.iconst 2, 1) := by decide +kernel
theorem d_Ji_bitCount_17 : decode c_Ji_bitCount 17 = .ok (.iushr, 1) := by decide +kernel
theorem d_Ji_bitCount_18 : decode c_Ji_bitCount 18 = .ok (.ldc_w 266, 3) := by decide +kernel
theorem d_Ji_bitCount_21 : decode c_Ji_bitCount 21 = .ok (.iand, 1) := by decide +kernel
theorem d_Ji_bitCount_22 : decode c_Ji_bitCount 22 = .ok (.iadd, 1) := by decide +kernel
theorem d_Ji_bitCount_23 : decode c_Ji_bitCount 23 = .ok (.istore_n 0, 1) := by decide +kernel
theorem d_Ji_bitCount_24 : decode c_Ji_bitCount 24 = .ok (.iload_n 0, 1) := by decide +kernel
theorem d_Ji_bitCount_25 : decode c_Ji_bitCount 25 = .ok (.iload_n 0, 1) := by decide +kernel
theorem d_Ji_bitCount_26 : decode c_Ji_bitCount 26 = .ok (.iconst 4, 1) := by decide +kernel
theorem d_Ji_bitCount_27 : decode c_Ji_bitCount 27 = .ok (.iushr, 1) := by decide +kernel
theorem d_Ji_bitCount_28 : decode c_Ji_bitCount 28 = .ok (.iadd, 1) := by decide +kernel
theorem d_Ji_bitCount_29 : decode c_Ji_bitCount 29 = .ok (.ldc_w 267, 3) := by decide +kernel
theorem d_Ji_bitCount_32 : decode c_Ji_bitCount 32 = .ok (.iand, 1) := by decide +kernel
theorem d_Ji_bitCount_33 : decode c_Ji_bitCount 33 = .ok (.istore_n 0, 1) := by decide +kernel
theorem d_Ji_bitCount_34 : decode c_Ji_bitCount 34 = .ok (.iload_n 0, 1) := by decide +kernel
theorem d_Ji_bitCount_35 : decode c_Ji_bitCount 35 = .ok (.iload_n 0, 1) := by decide +kernel
theorem d_Ji_bitCount_36 : decode c_Ji_bitCount 36 = .ok (.bipush 8, 2) := by decide +kernel
theorem d_Ji_bitCount_38 : decode c_Ji_bitCount 38 = .ok (.iushr, 1) := by decide +kernel
theorem d_Ji_bitCount_39 : decode c_Ji_bitCount 39 = .ok (.iadd, 1) := by decide +kernel
theorem d_Ji_bitCount_40 : decode c_Ji_bitCount 40 = .ok (.istore_n 0, 1) := by decide +kernel
theorem d_Ji_bitCount_41 : decode c_Ji_bitCount 41 = .ok (.iload_n 0, 1) := by decide +kernel
theorem d_Ji_bitCount_42 : decode c_Ji_bitCount 42 = .ok (.iload_n 0, 1) := by decide +kernel
theorem d_Ji_bitCount_43 : decode c_Ji_bitCount 43 = .ok (.bipush 16, 2) := by decide +kernel
theorem d_Ji_bitCount_45 : decode c_Ji_bitCount 45 = .ok (.iushr, 1) := by decide +kernel
theorem d_Ji_bitCount_46 : decode c_Ji_bitCount 46 = .ok (.iadd, 1) := by decide +kernel
theorem d_Ji_bitCount_47 : decode c_Ji_bitCount 47 = .ok (.istore_n 0, 1) := by decide +kernel
theorem d_Ji_bitCount_48 : decode c_Ji_bitCount 48 = .ok (.iload_n 0, 1) := by decide +kernel
theorem d_Ji_bitCount_49 : decode c_Ji_bitCount 49 = .ok (.bipush 63, 2) := by decide +kernel
theorem d_Ji_bitCount_51 : decode c_Ji_bitCount 51 = .ok (.iand, 1) := by decide +kernel
theorem d_Ji_bitCount_52 : decode c_Ji_bitCount 52 = .ok (.ireturn, 1) := by decide +kernel
theorem d_Jl_bitCount_0 : decode c_Jl_bitCount 0 = .ok (.lload_n 0, 1) := by decide +kernel
theorem d_Jl_bitCount_1 : decode c_Jl_bitCount 1 = .ok (.lload_n 0, 1) := by decide +kernel
theorem d_Jl_bitCount_2 : decode c_Jl_bitCount 2 = .ok (.iconst 1, 1) := by decide +kernel
theorem d_Jl_bitCount_3 : decode c_Jl_bitCount 3 = .ok (.lushr, 1) := by decide +kernel
theorem d_Jl_bitCount_4 : decode c_Jl_bitCount 4 = .ok (.ldc2_w 314, 3) := by decide +kernel
theorem d_Jl_bitCount_7 : decode c_Jl_bitCount 7 = .ok (.land, 1) := by decide +kernel
theorem d_Jl_bitCount_8 : decode c_Jl_bitCount 8 = .ok (.lsub, 1) := by decide +kernel
theorem d_Jl_bitCount_9 : decode c_Jl_bitCount 9 = .ok (.lstore_n 0, 1) := by decide +kernel
theorem d_Jl_bitCount_10 : decode c_Jl_bitCount 10 = .ok (.lload_n 0, 1) := by decide +kernel
theorem d_Jl_bitCount_11 : decode c_Jl_bitCount 11 = .ok (.ldc2_w 316, 3) := by decide +kernel
theorem d_Jl_bitCount_14 : decode c_Jl_bitCount 14 = .ok (.land, 1) := by decide +kernel
theorem d_Jl_bitCount_15 : decode c_Jl_bitCount 15 = .ok (.lload_n 0, 1) := by decide +kernel
theorem d_Jl_bitCount_16 : decode c_Jl_bitCount 16 = .ok (.iconst 2, 1) := by decide +kernel
theorem d_Jl_bitCount_17 : decode c_Jl_bitCount 17 = .ok (.lushr, 1) := by decide +kernel
theorem d_Jl_bitCount_18 : decode c_Jl_bitCount 18 = .ok (.ldc2_w 316, 3) := by decide +kernel
theorem d_Jl_bitCount_21 : decode c_Jl_bitCount 21 = .ok (.land, 1) := by decide +kernel
theorem d_Jl_bitCount_22 : decode c_Jl_bitCount 22 = .ok (.ladd, 1) := by decide +kernel
theorem d_Jl_bitCount_23 : decode c_Jl_bitCount 23 = .ok (.lstore_n 0, 1) := by decide +kernel
theorem d_Jl_bitCount_24 : decode c_Jl_bitCount 24 = .ok (.lload_n 0, 1) := by decide +kernel
theorem d_Jl_bitCount_25 : decode c_Jl_bitCount 25 = .ok (.lload_n 0, 1) := by decide +kernel
theorem d_Jl_bitCount_26 : decode c_Jl_bitCount 26 = .ok (.iconst 4, 1) := by decide +kernel
theorem d_Jl_bitCount_27 : decode c_Jl_bitCount 27 = .ok (.lushr, 1) := by decide +kernel
theorem d_Jl_bitCount_28 : decode c_Jl_bitCount 28 = .ok (.ladd, 1) := by decide +kernel
theorem d_Jl_bitCount_29 : decode c_Jl_bitCount 29 = .ok (.ldc2_w 318, 3) := by decide +kernel
theorem d_Jl_bitCount_32 : decode c_Jl_bitCount 32 = .ok (.land, 1) := by decide +kernel
theorem d_Jl_bitCount_33 : decode c_Jl_bitCount 33 = .ok (.lstore_n 0, 1) := by decide +kernel
theorem d_Jl_bitCount_34 : decode c_Jl_bitCount 34 = .ok (.lload_n 0, 1) := by decide +kernel
theorem d_Jl_bitCount_35 : decode c_Jl_bitCount 35 = .ok (.lload_n 0, 1) := by decide +kernel
theorem d_Jl_bitCount_36 : decode c_Jl_bitCount 36 = .ok (.bipush 8, 2) := by decide +kernel
theorem d_Jl_bitCount_38 : decode c_Jl_bitCount 38 = .ok (.lushr, 1) := by decide +kernel
theorem d_Jl_bitCount_39 : decode c_Jl_bitCount 39 = .ok (.ladd, 1) := by decide +kernel
theorem d_Jl_bitCount_40 : decode c_Jl_bitCount 40 = .ok (.lstore_n 0, 1) := by decide +kernel
theorem d_Jl_bitCount_41 : decode c_Jl_bitCount 41 = .ok (.lload_n 0, 1) := by decide +kernel
theorem d_Jl_bitCount_42 : decode c_Jl_bitCount 42 = .ok (.lload_n 0, 1) := by decide +kernel
theorem d_Jl_bitCount_43 : decode c_Jl_bitCount 43 = .ok (.bipush 16, 2) := by decide +kernel
theorem d_Jl_bitCount_45 : decode c_Jl_bitCount 45 = .ok (.lushr, 1) := by decide +kernel
theorem d_Jl_bitCount_46 : decode c_Jl_bitCount 46 = .ok (.ladd, 1) := by decide +kernel
theorem d_Jl_bitCount_47 : decode c_Jl_bitCount 47 = .ok (.lstore_n 0, 1) := by decide +kernel
theorem d_Jl_bitCount_48 : decode c_Jl_bitCount 48 = .ok (.lload_n 0, 1) := by decide +kernel
theorem d_Jl_bitCount_49 : decode c_Jl_bitCount 49 = .ok (.lload_n 0, 1) := by decide +kernel
theorem d_Jl_bitCount_50 : decode c_Jl_bitCount 50 = .ok (.bipush 32, 2) := by decide +kernel
theorem d_Jl_bitCount_52 : decode c_Jl_bitCount 52 = .ok (.lushr, 1) := by decide +kernel
theorem d_Jl_bitCount_53 : decode c_Jl_bitCount 53 = .ok (.ladd, 1) := by decide +kernel
theorem d_Jl_bitCount_54 : decode c_Jl_bitCount 54 = .ok (.lstore_n 0, 1) := by decide +kernel
theorem d_Jl_bitCount_55 : decode c_Jl_bitCount 55 = .ok (.lload_n 0, 1) := by decide +kernel
theorem d_Jl_bitCount_56 : decode c_Jl_bitCount 56 = .ok (.l2i, 1) := by decide +kernel
theorem d_Jl_bitCount_57 : decode c_Jl_bitCount 57 = .ok (.bipush 127, 2) := by decide +kernel
theorem d_Jl_bitCount_59 : decode c_Jl_bitCount 59 = .ok (.iand, 1) := by decide +kernel
theorem d_Jl_bitCount_60 : decode c_Jl_bitCount 60 = .ok (.ireturn, 1) := by decide +kernel
end
section
theorem d_No_init_0 : decode c_No_init 0 = .ok (.aload_n 0, 1) := by decide +kernel
theorem d_No_init_1 : decode c_No_init 1 = .ok (.invokespecial 3, 3) := by decide +kernel
theorem d_No_init_4 : decode c_No_init 4 = .ok (.aload_n 0, 1) := by decide +kernel
theorem d_No_init_5 : decode c_No_init 5 = .ok (.iconst 0, 1) := by decide +kernel
theorem d_No_init_6 : decode c_No_init 6 = .ok (.putfield 9, 3) := by decide +kernel
theorem d_No_init_9 : decode c_No_init 9 = .ok (.aload_n 0, 1) := by decide +kernel
theorem d_No_init_10 : decode c_No_init 10 = .ok (.iconst 0, 1) := by decide +kernel
theorem d_No_init_11 : decode c_No_init 11 = .ok (.putfield 15, 3) := by decide +kernel
theorem d_No_init_14 : decode c_No_init 14 = .ok (.aload_n 0, 1) := by decide +kernel
theorem d_No_init_15 : decode c_No_init 15 = .ok (.iconst 0, 1) := by decide +kernel
theorem d_No_init_16 : decode c_No_init 16 = .ok (.putfield 18, 3) := by decide +kernel
theorem d_No_init_19 : decode c_No_init 19 = .ok (.aload_n 0, 1) := by decide +kernel
theorem d_No_init_20 : decode c_No_init 20 = .ok (.bipush 33, 2) := by decide +kernel
theorem d_No_init_22 : decode c_No_init 22 = .ok (.newarray .int, 2) := by decide +kernel
theorem d_No_init_24 : decode c_No_init 24 = .ok (.putfield 21, 3) := by decide +kernel
theorem d_No_init_27 : decode c_No_init 27 = .ok (.aload_n 0, 1) := by decide +kernel
theorem d_No_init_28 : decode c_No_init 28 = .ok (.bipush 33, 2) := by decide +kernel
theorem d_No_init_30 : decode c_No_init 30 = .ok (.newarray .int, 2) := by decide +kernel
theorem d_No_init_32 : decode c_No_init 32 = .ok (.putfield 25, 3) := by decide +kernel
theorem d_No_init_35 : decode c_No_init 35 = .ok (.aload_n 0, 1) := by decide +kernel
theorem d_No_init_36 : decode c_No_init 36 = .ok (.bipush 33, 2) := by decide +kernel
theorem d_No_init_38 : decode c_No_init 38 = .ok (.newarray .long, 2) := by decide +kernel
theorem d_No_init_40 : decode c_No_init 40 = .ok (.putfield 28, 3) := by decide +kernel
theorem d_No_init_43 : decode c_No_init 43 = .ok (.aload_n 0, 1) := by decide +kernel
theorem d_No_init_44 : decode c_No_init 44 = .ok (.bipush 33, 2) := by decide +kernel
theorem d_No_init_46 : decode c_No_init 46 = .ok (.newarray .long, 2) := by decide +kernel
theorem d_No_init_48 : decode c_No_init 48 = .ok (.putfield 32, 3) := by decide +kernel
theorem d_No_init_51 : decode c_No_init 51 = .ok (.aload_n 0, 1) := by decide +kernel
theorem d_No_init_52 : decode c_No_init 52 = .ok (.bipush 12, 2) := by decide +kernel
theorem d_No_init_54 : decode c_No_init 54 = .ok (.newarray .int, 2) := by decide +kernel
theorem d_No_init_56 : decode c_No_init 56 = .ok (.putfield 35, 3) := by decide +kernel
theorem d_No_init_59 : decode c_No_init 59 = .ok (.aload_n 0, 1) := by decide +kernel
theorem d_No_init_60 : decode c_No_init 60 = .ok (.bipush 33, 2) := by decide +kernel
theorem d_No_init_62 : decode c_No_init 62 = .ok (.bipush 10, 2) := by decide +kernel
theorem d_No_init_64 : decode c_No_init 64 = .ok (.multianewarray 38 2, 4) := by decide +kernel
theorem d_No_init_68 : decode c_No_init 68 = .ok (.putfield 40, 3) := by decide +kernel
theorem d_No_init_71 : decode c_No_init 71 = .ok (.aload_n 0, 1) := by decide +kernel
theorem d_No_init_72 : decode c_No_init 72 = .ok (.bipush 33, 2) := by decide +kernel
theorem d_No_init_74 : decode c_No_init 74 = .ok (.newarray .int, 2) := by decide +kernel
theorem d_No_init_76 : decode c_No_init 76 = .ok (.putfield 43, 3) := by decide +kernel
theorem d_No_init_79 : decode c_No_init 79 = .ok (.aload_n 0, 1) := by decide +kernel
theorem d_No_init_80 : decode c_No_init 80 = .ok (.bipush 33, 2) := by decide +kernel
theorem d_No_init_82 : decode c_No_init 82 = .ok (.newarray .long, 2) := by decide +kernel
theorem d_No_init_84 : decode c_No_init 84 = .ok (.putfield 46, 3) := by decide +kernel
theorem d_No_init_87 : decode c_No_init 87 = .ok (.aload_n 0, 1) := by decide +kernel
theorem d_No_init_88 : decode c_No_init 88 = .ok (.bipush 33, 2) := by decide +kernel
theorem d_No_init_90 : decode c_No_init 90 = .ok (.newarray .int, 2) := by decide +kernel
theorem d_No_init_92 : decode c_No_init 92 = .ok (.putfield 49, 3) := by decide +kernel
theorem d_No_init_95 : decode c_No_init 95 = .ok (.aload_n 0, 1) := by decide +kernel
theorem d_No_init_96 : decode c_No_init 96 = .ok (.bipush 20, 2) := by decide +kernel
theorem d_No_init_98 : decode c_No_init 98 = .ok (.newarray .int, 2) := by decide +kernel
theorem d_No_init_100 : decode c_No_init 100 = .ok (.putfield 52, 3) := by decide +kernel
theorem d_No_init_103 : decode c_No_init 103 = .ok (.return_, 1) := by decide +kernel
theorem d_No_isNode_0 : decode c_No_isNode 0 = .ok (.iload_n 1, 1) := by decide +kernel
theorem d_No_isNode_1 : decode c_No_isNode 1 = .ok (.iconst 1, 1) := by decide +kernel
theorem d_No_isNode_2 : decode c_No_isNode 2 = .ok (.if_icmp .lt 15, 3) := by decide +kernel
theorem d_No_isNode_5 : decode c_No_isNode 5 = .ok (.iload_n 1, 1) := by decide +kernel
theorem d_No_isNode_6 : decode c_No_isNode 6 = .ok (.aload_n 0, 1) := by decide +kernel
theorem d_No_isNode_7 : decode c_No_isNode 7 = .ok (.getfield 9, 3) := by decide +kernel
theorem d_No_isNode_10 : decode c_No_isNode 10 = .ok (.if_icmp .gt 7, 3) := by decide +kernel
theorem d_No_isNode_13 : decode c_No_isNode 13 = .ok (.iconst 1, 1) := by decide +kernel
theorem d_No_isNode_14 : decode c_No_isNode 14 = .ok (.goto 4, 3) := by decide +kernel
theorem d_No_isNode_17 : decode c_No_isNode 17 = .ok (.iconst 0, 1) := by decide +kernel
theorem d_No_isNode_18 : decode c_No_isNode 18 = .ok (.ireturn, 1) := by decide +kernel
theorem d_No_isEvent_0 : decode c_No_isEvent 0 = .ok (.aload_n 0, 1) := by decide +kernel
theorem d_No_isEvent_1 : decode c_No_isEvent 1 = .ok (.iload_n 1, 1) := by decide +kernel
theorem d_No_isEvent_2 : decode c_No_isEvent 2 = .ok (.invokevirtual 55, 3) := by decide +kernel
theorem d_No_isEvent_5 : decode c_No_isEvent 5 = .ok (.ifCond .eq 17, 3) := by decide +kernel
theorem d_No_isEvent_8 : decode c_No_isEvent 8 = .ok (.aload_n 0, 1) := by decide +kernel
theorem d_No_isEvent_9 : decode c_No_isEvent 9 = .ok (.getfield 21, 3) := by decide +kernel
theorem d_No_isEvent_12 : decode c_No_isEvent 12 = .ok (.iload_n 1, 1) := by decide +kernel
theorem d_No_isEvent_13 : decode c_No_isEvent 13 = .ok (.iaload, 1) := by decide +kernel
theorem d_No_isEvent_14 : decode c_No_isEvent 14 = .ok (.iconst (-1), 1) := by decide +kernel
theorem d_No_isEvent_15 : decode c_No_isEvent 15 = .ok (.if_icmp .ne 7, 3) := by decide +kernel
theorem d_No_isEvent_18 : decode c_No_isEvent 18 = .ok (.iconst 1, 1) := by decide +kernel
theorem d_No_isEvent_19 : decode c_No_isEvent 19 = .ok (.goto 4, 3) := by decide +kernel
theorem d_No_isEvent_22 : decode c_No_isEvent 22 = .ok (.iconst 0, 1) := by decide +kernel
theorem d_No_isEvent_23 : decode c_No_isEvent 23 = .ok (.ireturn, 1) := by decide +kernel
theorem d_No_isGate_0 : decode c_No_isGate 0 = .ok (.aload_n 0, 1) := by decide +kernel
theorem d_No_isGate_1 : decode c_No_isGate 1 = .ok (.iload_n 1, 1) := by decide +kernel
theorem d_No_isGate_2 : decode c_No_isGate 2 = .ok (.invokevirtual 55, 3) := by decide +kernel
theorem d_No_isGate_5 : decode c_No_isGate 5 = .ok (.ifCond .eq 17, 3) := by decide +kernel
theorem d_No_isGate_8 : decode c_No_isGate 8 = .ok (.aload_n 0, 1) := by decide +kernel
theorem d_No_isGate_9 : decode c_No_isGate 9 = .ok (.getfield 21, 3) := by decide +kernel
theorem d_No_isGate_12 : decode c_No_isGate 12 = .ok (.iload_n 1, 1) := by decide +kernel
theorem d_No_isGate_13 : decode c_No_isGate 13 = .ok (.iaload, 1) := by decide +kernel
theorem d_No_isGate_14 : decode c_No_isGate 14 = .ok (.iconst (-1), 1) := by decide +kernel
theorem d_No_isGate_15 : decode c_No_isGate 15 = .ok (.if_icmp .eq 7, 3) := by decide +kernel
theorem d_No_isGate_18 : decode c_No_isGate 18 = .ok (.iconst 1, 1) := by decide +kernel
theorem d_No_isGate_19 : decode c_No_isGate 19 = .ok (.goto 4, 3) := by decide +kernel
theorem d_No_isGate_22 : decode c_No_isGate 22 = .ok (.iconst 0, 1) := by decide +kernel
theorem d_No_isGate_23 : decode c_No_isGate 23 = .ok (.ireturn, 1) := by decide +kernel
theorem d_No_addEvent_0 : decode c_No_addEvent 0 = .ok (.aload_n 0, 1) := by decide +kernel
theorem d_No_addEvent_1 : decode c_No_addEvent 1 = .ok (.dup, 1) := by decide +kernel
theorem d_No_addEvent_2 : decode c_No_addEvent 2 = .ok (.getfield 9, 3) := by decide +kernel
theorem d_No_addEvent_5 : decode c_No_addEvent 5 = .ok (.iconst 1, 1) := by decide +kernel
theorem d_No_addEvent_6 : decode c_No_addEvent 6 = .ok (.iadd, 1) := by decide +kernel
theorem d_No_addEvent_7 : decode c_No_addEvent 7 = .ok (.putfield 9, 3) := by decide +kernel
theorem d_No_addEvent_10 : decode c_No_addEvent 10 = .ok (.aload_n 0, 1) := by decide +kernel
theorem d_No_addEvent_11 : decode c_No_addEvent 11 = .ok (.getfield 21, 3) := by decide +kernel
theorem d_No_addEvent_14 : decode c_No_addEvent 14 = .ok (.aload_n 0, 1) := by decide +kernel
theorem d_No_addEvent_15 : decode c_No_addEvent 15 = .ok (.getfield 9, 3) := by decide +kernel
theorem d_No_addEvent_18 : decode c_No_addEvent 18 = .ok (.iconst (-1), 1) := by decide +kernel
theorem d_No_addEvent_19 : decode c_No_addEvent 19 = .ok (.iastore, 1) := by decide +kernel
theorem d_No_addEvent_20 : decode c_No_addEvent 20 = .ok (.aload_n 0, 1) := by decide +kernel
theorem d_No_addEvent_21 : decode c_No_addEvent 21 = .ok (.getfield 28, 3) := by decide +kernel
theorem d_No_addEvent_24 : decode c_No_addEvent 24 = .ok (.aload_n 0, 1) := by decide +kernel
theorem d_No_addEvent_25 : decode c_No_addEvent 25 = .ok (.getfield 9, 3) := by decide +kernel
theorem d_No_addEvent_28 : decode c_No_addEvent 28 = .ok (.lload_n 1, 1) := by decide +kernel
theorem d_No_addEvent_29 : decode c_No_addEvent 29 = .ok (.lastore, 1) := by decide +kernel
theorem d_No_addEvent_30 : decode c_No_addEvent 30 = .ok (.aload_n 0, 1) := by decide +kernel
theorem d_No_addEvent_31 : decode c_No_addEvent 31 = .ok (.getfield 32, 3) := by decide +kernel
theorem d_No_addEvent_34 : decode c_No_addEvent 34 = .ok (.aload_n 0, 1) := by decide +kernel
theorem d_No_addEvent_35 : decode c_No_addEvent 35 = .ok (.getfield 9, 3) := by decide +kernel
theorem d_No_addEvent_38 : decode c_No_addEvent 38 = .ok (.lload_n 3, 1) := by decide +kernel
theorem d_No_addEvent_39 : decode c_No_addEvent 39 = .ok (.lastore, 1) := by decide +kernel
theorem d_No_addEvent_40 : decode c_No_addEvent 40 = .ok (.aload_n 0, 1) := by decide +kernel
theorem d_No_addEvent_41 : decode c_No_addEvent 41 = .ok (.getfield 35, 3) := by decide +kernel
theorem d_No_addEvent_44 : decode c_No_addEvent 44 = .ok (.aload_n 0, 1) := by decide +kernel
theorem d_No_addEvent_45 : decode c_No_addEvent 45 = .ok (.getfield 15, 3) := by decide +kernel
theorem d_No_addEvent_48 : decode c_No_addEvent 48 = .ok (.aload_n 0, 1) := by decide +kernel
theorem d_No_addEvent_49 : decode c_No_addEvent 49 = .ok (.getfield 9, 3) := by decide +kernel
theorem d_No_addEvent_52 : decode c_No_addEvent 52 = .ok (.iastore, 1) := by decide +kernel
theorem d_No_addEvent_53 : decode c_No_addEvent 53 = .ok (.aload_n 0, 1) := by decide +kernel
theorem d_No_addEvent_54 : decode c_No_addEvent 54 = .ok (.getfield 49, 3) := by decide +kernel
theorem d_No_addEvent_57 : decode c_No_addEvent 57 = .ok (.aload_n 0, 1) := by decide +kernel
theorem d_No_addEvent_58 : decode c_No_addEvent 58 = .ok (.getfield 9, 3) := by decide +kernel
theorem d_No_addEvent_61 : decode c_No_addEvent 61 = .ok (.aload_n 0, 1) := by decide +kernel
theorem d_No_addEvent_62 : decode c_No_addEvent 62 = .ok (.getfield 15, 3) := by decide +kernel
theorem d_No_addEvent_65 : decode c_No_addEvent 65 = .ok (.invokestatic 59, 3) := by decide +kernel
theorem d_No_addEvent_68 : decode c_No_addEvent 68 = .ok (.iastore, 1) := by decide +kernel
theorem d_No_addEvent_69 : decode c_No_addEvent 69 = .ok (.aload_n 0, 1) := by decide +kernel
theorem d_No_addEvent_70 : decode c_No_addEvent 70 = .ok (.dup, 1) := by decide +kernel
theorem d_No_addEvent_71 : decode c_No_addEvent 71 = .ok (.getfield 15, 3) := by decide +kernel
theorem d_No_addEvent_74 : decode c_No_addEvent 74 = .ok (.iconst 1, 1) := by decide +kernel
theorem d_No_addEvent_75 : decode c_No_addEvent 75 = .ok (.iadd, 1) := by decide +kernel
theorem d_No_addEvent_76 : decode c_No_addEvent 76 = .ok (.putfield 15, 3) := by decide +kernel
theorem d_No_addEvent_79 : decode c_No_addEvent 79 = .ok (.aload_n 0, 1) := by decide +kernel
theorem d_No_addEvent_80 : decode c_No_addEvent 80 = .ok (.getfield 9, 3) := by decide +kernel
theorem d_No_addEvent_83 : decode c_No_addEvent 83 = .ok (.ireturn, 1) := by decide +kernel
theorem d_No_addGate_0 : decode c_No_addGate 0 = .ok (.aload_n 0, 1) := by decide +kernel
theorem d_No_addGate_1 : decode c_No_addGate 1 = .ok (.dup, 1) := by decide +kernel
theorem d_No_addGate_2 : decode c_No_addGate 2 = .ok (.getfield 9, 3) := by decide +kernel
theorem d_No_addGate_5 : decode c_No_addGate 5 = .ok (.iconst 1, 1) := by decide +kernel
theorem d_No_addGate_6 : decode c_No_addGate 6 = .ok (.iadd, 1) := by decide +kernel
theorem d_No_addGate_7 : decode c_No_addGate 7 = .ok (.putfield 9, 3) := by decide +kernel
theorem d_No_addGate_10 : decode c_No_addGate 10 = .ok (.aload_n 0, 1) := by decide +kernel
theorem d_No_addGate_11 : decode c_No_addGate 11 = .ok (.getfield 21, 3) := by decide +kernel
theorem d_No_addGate_14 : decode c_No_addGate 14 = .ok (.aload_n 0, 1) := by decide +kernel
theorem d_No_addGate_15 : decode c_No_addGate 15 = .ok (.getfield 9, 3) := by decide +kernel
theorem d_No_addGate_18 : decode c_No_addGate 18 = .ok (.iload_n 1, 1) := by decide +kernel
theorem d_No_addGate_19 : decode c_No_addGate 19 = .ok (.iastore, 1) := by decide +kernel
theorem d_No_addGate_20 : decode c_No_addGate 20 = .ok (.aload_n 0, 1) := by decide +kernel
theorem d_No_addGate_21 : decode c_No_addGate 21 = .ok (.getfield 25, 3) := by decide +kernel
theorem d_No_addGate_24 : decode c_No_addGate 24 = .ok (.aload_n 0, 1) := by decide +kernel
theorem d_No_addGate_25 : decode c_No_addGate 25 = .ok (.getfield 9, 3) := by decide +kernel
theorem d_No_addGate_28 : decode c_No_addGate 28 = .ok (.iload_n 2, 1) := by decide +kernel
theorem d_No_addGate_29 : decode c_No_addGate 29 = .ok (.iastore, 1) := by decide +kernel
theorem d_No_addGate_30 : decode c_No_addGate 30 = .ok (.aload_n 0, 1) := by decide +kernel
theorem d_No_addGate_31 : decode c_No_addGate 31 = .ok (.dup, 1) := by decide +kernel
theorem d_No_addGate_32 : decode c_No_addGate 32 = .ok (.getfield 18, 3) := by decide +kernel
theorem d_No_addGate_35 : decode c_No_addGate 35 = .ok (.iconst 1, 1) := by decide +kernel
theorem d_No_addGate_36 : decode c_No_addGate 36 = .ok (.iadd, 1) := by decide +kernel
theorem d_No_addGate_37 : decode c_No_addGate 37 = .ok (.putfield 18, 3) := by decide +kernel
theorem d_No_addGate_40 : decode c_No_addGate 40 = .ok (.aload_n 0, 1) := by decide +kernel
theorem d_No_addGate_41 : decode c_No_addGate 41 = .ok (.getfield 9, 3) := by decide +kernel
theorem d_No_addGate_44 : decode c_No_addGate 44 = .ok (.ireturn, 1) := by decide +kernel
theorem d_No_eventBit_0 : decode c_No_eventBit 0 = .ok (.iconst 1, 1) := by decide +kernel
theorem d_No_eventBit_1 : decode c_No_eventBit 1 = .ok (.bipush 11, 2) := by decide +kernel
theorem d_No_eventBit_3 : decode c_No_eventBit 3 = .ok (.iload_n 0, 1) := by decide +kernel
theorem d_No_eventBit_4 : decode c_No_eventBit 4 = .ok (.isub, 1) := by decide +kernel
theorem d_No_eventBit_5 : decode c_No_eventBit 5 = .ok (.ishl, 1) := by decide +kernel
theorem d_No_eventBit_6 : decode c_No_eventBit 6 = .ok (.ireturn, 1) := by decide +kernel
theorem d_No_isBelow_0 : decode c_No_isBelow 0 = .ok (.iconst 0, 1) := by decide +kernel
theorem d_No_isBelow_1 : decode c_No_isBelow 1 = .ok (.istore_n 3, 1) := by decide +kernel
theorem d_No_isBelow_2 : decode c_No_isBelow 2 = .ok (.iload_n 3, 1) := by decide +kernel
theorem d_No_isBelow_3 : decode c_No_isBelow 3 = .ok (.aload_n 0, 1) := by decide +kernel
theorem d_No_isBelow_4 : decode c_No_isBelow 4 = .ok (.getfield 43, 3) := by decide +kernel
theorem d_No_isBelow_7 : decode c_No_isBelow 7 = .ok (.iload_n 2, 1) := by decide +kernel
theorem d_No_isBelow_8 : decode c_No_isBelow 8 = .ok (.iaload, 1) := by decide +kernel
theorem d_No_isBelow_9 : decode c_No_isBelow 9 = .ok (.if_icmp .ge 23, 3) := by decide +kernel
theorem d_No_isBelow_12 : decode c_No_isBelow 12 = .ok (.aload_n 0, 1) := by decide +kernel
theorem d_No_isBelow_13 : decode c_No_isBelow 13 = .ok (.getfield 40, 3) := by decide +kernel
theorem d_No_isBelow_16 : decode c_No_isBelow 16 = .ok (.iload_n 2, 1) := by decide +kernel
theorem d_No_isBelow_17 : decode c_No_isBelow 17 = .ok (.aaload, 1) := by decide +kernel
theorem d_No_isBelow_18 : decode c_No_isBelow 18 = .ok (.iload_n 3, 1) := by decide +kernel
theorem d_No_isBelow_19 : decode c_No_isBelow 19 = .ok (.iaload, 1) := by decide +kernel
theorem d_No_isBelow_20 : decode c_No_isBelow 20 = .ok (.iload_n 1, 1) := by decide +kernel
theorem d_No_isBelow_21 : decode c_No_isBelow 21 = .ok (.if_icmp .ne 5, 3) := by decide +kernel
theorem d_No_isBelow_24 : decode c_No_isBelow 24 = .ok (.iconst 1, 1) := by decide +kernel
theorem d_No_isBelow_25 : decode c_No_isBelow 25 = .ok (.ireturn, 1) := by decide +kernel
theorem d_No_isBelow_26 : decode c_No_isBelow 26 = .ok (.iinc 3 1, 3) := by decide +kernel
theorem d_No_isBelow_29 : decode c_No_isBelow 29 = .ok (.goto (-27), 3) := by decide +kernel
theorem d_No_isBelow_32 : decode c_No_isBelow 32 = .ok (.iconst 0, 1) := by decide +kernel
theorem d_No_isBelow_33 : decode c_No_isBelow 33 = .ok (.ireturn, 1) := by decide +kernel
theorem d_No_isUnder_0 : decode c_No_isUnder 0 = .ok (.aload_n 0, 1) := by decide +kernel
theorem d_No_isUnder_1 : decode c_No_isUnder 1 = .ok (.getfield 46, 3) := by decide +kernel
theorem d_No_isUnder_4 : decode c_No_isUnder 4 = .ok (.iload_n 2, 1) := by decide +kernel
theorem d_No_isUnder_5 : decode c_No_isUnder 5 = .ok (.laload, 1) := by decide +kernel
theorem d_No_isUnder_6 : decode c_No_isUnder 6 = .ok (.lconst 1, 1) := by decide +kernel
theorem d_No_isUnder_7 : decode c_No_isUnder 7 = .ok (.iload_n 1, 1) := by decide +kernel
theorem d_No_isUnder_8 : decode c_No_isUnder 8 = .ok (.lshl, 1) := by decide +kernel
theorem d_No_isUnder_9 : decode c_No_isUnder 9 = .ok (.land, 1) := by decide +kernel
theorem d_No_isUnder_10 : decode c_No_isUnder 10 = .ok (.lconst 0, 1) := by decide +kernel
theorem d_No_isUnder_11 : decode c_No_isUnder 11 = .ok (.lcmp, 1) := by decide +kernel
theorem d_No_isUnder_12 : decode c_No_isUnder 12 = .ok (.ifCond .eq 7, 3) := by decide +kernel
theorem d_No_isUnder_15 : decode c_No_isUnder 15 = .ok (.iconst 1, 1) := by decide +kernel
theorem d_No_isUnder_16 : decode c_No_isUnder 16 = .ok (.goto 4, 3) := by decide +kernel
theorem d_No_isUnder_19 : decode c_No_isUnder 19 = .ok (.iconst 0, 1) := by decide +kernel
theorem d_No_isUnder_20 : decode c_No_isUnder 20 = .ok (.ireturn, 1) := by decide +kernel
theorem d_No_putBelow_0 : decode c_No_putBelow 0 = .ok (.aload_n 0, 1) := by decide +kernel
theorem d_No_putBelow_1 : decode c_No_putBelow 1 = .ok (.getfield 40, 3) := by decide +kernel
theorem d_No_putBelow_4 : decode c_No_putBelow 4 = .ok (.iload_n 2, 1) := by decide +kernel
theorem d_No_putBelow_5 : decode c_No_putBelow 5 = .ok (.aaload, 1) := by decide +kernel
theorem d_No_putBelow_6 : decode c_No_putBelow 6 = .ok (.aload_n 0, 1) := by decide +kernel
theorem d_No_putBelow_7 : decode c_No_putBelow 7 = .ok (.getfield 43, 3) := by decide +kernel
theorem d_No_putBelow_10 : decode c_No_putBelow 10 = .ok (.iload_n 2, 1) := by decide +kernel
theorem d_No_putBelow_11 : decode c_No_putBelow 11 = .ok (.iaload, 1) := by decide +kernel
theorem d_No_putBelow_12 : decode c_No_putBelow 12 = .ok (.iload_n 1, 1) := by decide +kernel
theorem d_No_putBelow_13 : decode c_No_putBelow 13 = .ok (.iastore, 1) := by decide +kernel
theorem d_No_putBelow_14 : decode c_No_putBelow 14 = .ok (.aload_n 0, 1) := by decide +kernel
theorem d_No_putBelow_15 : decode c_No_putBelow 15 = .ok (.getfield 43, 3) := by decide +kernel
theorem d_No_putBelow_18 : decode c_No_putBelow 18 = .ok (.iload_n 2, 1) := by decide +kernel
theorem d_No_putBelow_19 : decode c_No_putBelow 19 = .ok (.dup2, 1) := by decide +kernel
theorem d_No_putBelow_20 : decode c_No_putBelow 20 = .ok (.iaload, 1) := by decide +kernel
theorem d_No_putBelow_21 : decode c_No_putBelow 21 = .ok (.iconst 1, 1) := by decide +kernel
theorem d_No_putBelow_22 : decode c_No_putBelow 22 = .ok (.iadd, 1) := by decide +kernel
theorem d_No_putBelow_23 : decode c_No_putBelow 23 = .ok (.iastore, 1) := by decide +kernel
theorem d_No_putBelow_24 : decode c_No_putBelow 24 = .ok (.aload_n 0, 1) := by decide +kernel
theorem d_No_putBelow_25 : decode c_No_putBelow 25 = .ok (.getfield 46, 3) := by decide +kernel
theorem d_No_putBelow_28 : decode c_No_putBelow 28 = .ok (.iload_n 1, 1) := by decide +kernel
theorem d_No_putBelow_29 : decode c_No_putBelow 29 = .ok (.laload, 1) := by decide +kernel
theorem d_No_putBelow_30 : decode c_No_putBelow 30 = .ok (.lconst 1, 1) := by decide +kernel
theorem d_No_putBelow_31 : decode c_No_putBelow 31 = .ok (.iload_n 1, 1) := by decide +kernel
theorem d_No_putBelow_32 : decode c_No_putBelow 32 = .ok (.lshl, 1) := by decide +kernel
theorem d_No_putBelow_33 : decode c_No_putBelow 33 = .ok (.lor, 1) := by decide +kernel
theorem d_No_putBelow_34 : decode c_No_putBelow 34 = .ok (.lstore_n 3, 1) := by decide +kernel
theorem d_No_putBelow_35 : decode c_No_putBelow 35 = .ok (.iconst 1, 1) := by decide +kernel
theorem d_No_putBelow_36 : decode c_No_putBelow 36 = .ok (.istore 5, 2) := by decide +kernel
theorem d_No_putBelow_38 : decode c_No_putBelow 38 = .ok (.iload 5, 2) := by decide +kernel
theorem d_No_putBelow_40 : decode c_No_putBelow 40 = .ok (.aload_n 0, 1) := by decide +kernel
theorem d_No_putBelow_41 : decode c_No_putBelow 41 = .ok (.getfield 9, 3) := by decide +kernel
theorem d_No_putBelow_44 : decode c_No_putBelow 44 = .ok (.if_icmp .gt 52, 3) := by decide +kernel
theorem d_No_putBelow_47 : decode c_No_putBelow 47 = .ok (.iload 5, 2) := by decide +kernel
theorem d_No_putBelow_49 : decode c_No_putBelow 49 = .ok (.iload_n 2, 1) := by decide +kernel
theorem d_No_putBelow_50 : decode c_No_putBelow 50 = .ok (.if_icmp .eq 13, 3) := by decide +kernel
theorem d_No_putBelow_53 : decode c_No_putBelow 53 = .ok (.aload_n 0, 1) := by decide +kernel
theorem d_No_putBelow_54 : decode c_No_putBelow 54 = .ok (.iload_n 2, 1) := by decide +kernel
theorem d_No_putBelow_55 : decode c_No_putBelow 55 = .ok (.iload 5, 2) := by decide +kernel
theorem d_No_putBelow_57 : decode c_No_putBelow 57 = .ok (.invokevirtual 63, 3) := by decide +kernel
theorem d_No_putBelow_60 : decode c_No_putBelow 60 = .ok (.ifCond .eq 30, 3) := by decide +kernel
theorem d_No_putBelow_63 : decode c_No_putBelow 63 = .ok (.aload_n 0, 1) := by decide +kernel
theorem d_No_putBelow_64 : decode c_No_putBelow 64 = .ok (.getfield 46, 3) := by decide +kernel
theorem d_No_putBelow_67 : decode c_No_putBelow 67 = .ok (.iload 5, 2) := by decide +kernel
theorem d_No_putBelow_69 : decode c_No_putBelow 69 = .ok (.dup2, 1) := by decide +kernel
theorem d_No_putBelow_70 : decode c_No_putBelow 70 = .ok (.laload, 1) := by decide +kernel
theorem d_No_putBelow_71 : decode c_No_putBelow 71 = .ok (.lload_n 3, 1) := by decide +kernel
theorem d_No_putBelow_72 : decode c_No_putBelow 72 = .ok (.lor, 1) := by decide +kernel
theorem d_No_putBelow_73 : decode c_No_putBelow 73 = .ok (.lastore, 1) := by decide +kernel
theorem d_No_putBelow_74 : decode c_No_putBelow 74 = .ok (.aload_n 0, 1) := by decide +kernel
theorem d_No_putBelow_75 : decode c_No_putBelow 75 = .ok (.getfield 49, 3) := by decide +kernel
theorem d_No_putBelow_78 : decode c_No_putBelow 78 = .ok (.iload 5, 2) := by decide +kernel
theorem d_No_putBelow_80 : decode c_No_putBelow 80 = .ok (.dup2, 1) := by decide +kernel
theorem d_No_putBelow_81 : decode c_No_putBelow 81 = .ok (.iaload, 1) := by decide +kernel
theorem d_No_putBelow_82 : decode c_No_putBelow 82 = .ok (.aload_n 0, 1) := by decide +kernel
theorem d_No_putBelow_83 : decode c_No_putBelow 83 = .ok (.getfield 49, 3) := by decide +kernel
theorem d_No_putBelow_86 : decode c_No_putBelow 86 = .ok (.iload_n 1, 1) := by decide +kernel
theorem d_No_putBelow_87 : decode c_No_putBelow 87 = .ok (.iaload, 1) := by decide +kernel
theorem d_No_putBelow_88 : decode c_No_putBelow 88 = .ok (.ior, 1) := by decide +kernel
theorem d_No_putBelow_89 : decode c_No_putBelow 89 = .ok (.iastore, 1) := by decide +kernel
theorem d_No_putBelow_90 : decode c_No_putBelow 90 = .ok (.iinc 5 1, 3) := by decide +kernel
theorem d_No_putBelow_93 : decode c_No_putBelow 93 = .ok (.goto (-55), 3) := by decide +kernel
theorem d_No_putBelow_96 : decode c_No_putBelow 96 = .ok (.return_, 1) := by decide +kernel
theorem d_No_lineUp_0 : decode c_No_lineUp 0 = .ok (.iconst 0, 1) := by decide +kernel
theorem d_No_lineUp_1 : decode c_No_lineUp 1 = .ok (.istore_n 2, 1) := by decide +kernel
theorem d_No_lineUp_2 : decode c_No_lineUp 2 = .ok (.iconst 0, 1) := by decide +kernel
theorem d_No_lineUp_3 : decode c_No_lineUp 3 = .ok (.istore_n 3, 1) := by decide +kernel
theorem d_No_lineUp_4 : decode c_No_lineUp 4 = .ok (.iload_n 3, 1) := by decide +kernel
theorem d_No_lineUp_5 : decode c_No_lineUp 5 = .ok (.bipush 32, 2) := by decide +kernel
theorem d_No_lineUp_7 : decode c_No_lineUp 7 = .ok (.if_icmp .gt 95, 3) := by decide +kernel
theorem d_No_lineUp_10 : decode c_No_lineUp 10 = .ok (.iconst 1, 1) := by decide +kernel
theorem d_No_lineUp_11 : decode c_No_lineUp 11 = .ok (.istore 4, 2) := by decide +kernel
theorem d_No_lineUp_13 : decode c_No_lineUp 13 = .ok (.iload 4, 2) := by decide +kernel
theorem d_No_lineUp_15 : decode c_No_lineUp 15 = .ok (.aload_n 0, 1) := by decide +kernel
theorem d_No_lineUp_16 : decode c_No_lineUp 16 = .ok (.getfield 9, 3) := by decide +kernel
theorem d_No_lineUp_19 : decode c_No_lineUp 19 = .ok (.if_icmp .gt 77, 3) := by decide +kernel
theorem d_No_lineUp_22 : decode c_No_lineUp 22 = .ok (.iload 4, 2) := by decide +kernel
theorem d_No_lineUp_24 : decode c_No_lineUp 24 = .ok (.iload_n 1, 1) := by decide +kernel
theorem d_No_lineUp_25 : decode c_No_lineUp 25 = .ok (.if_icmp .eq 13, 3) := by decide +kernel
theorem d_No_lineUp_28 : decode c_No_lineUp 28 = .ok (.aload_n 0, 1) := by decide +kernel
theorem d_No_lineUp_29 : decode c_No_lineUp 29 = .ok (.iload 4, 2) := by decide +kernel
theorem d_No_lineUp_31 : decode c_No_lineUp 31 = .ok (.iload_n 1, 1) := by decide +kernel
theorem d_No_lineUp_32 : decode c_No_lineUp 32 = .ok (.invokevirtual 63, 3) := by decide +kernel
theorem d_No_lineUp_35 : decode c_No_lineUp 35 = .ok (.ifCond .eq 7, 3) := by decide +kernel
theorem d_No_lineUp_38 : decode c_No_lineUp 38 = .ok (.iconst 1, 1) := by decide +kernel
theorem d_No_lineUp_39 : decode c_No_lineUp 39 = .ok (.goto 4, 3) := by decide +kernel
theorem d_No_lineUp_42 : decode c_No_lineUp 42 = .ok (.iconst 0, 1) := by decide +kernel
theorem d_No_lineUp_43 : decode c_No_lineUp 43 = .ok (.istore 5, 2) := by decide +kernel
theorem d_No_lineUp_45 : decode c_No_lineUp 45 = .ok (.iload 5, 2) := by decide +kernel
theorem d_No_lineUp_47 : decode c_No_lineUp 47 = .ok (.ifCond .eq 43, 3) := by decide +kernel
theorem d_No_lineUp_50 : decode c_No_lineUp 50 = .ok (.aload_n 0, 1) := by decide +kernel
theorem d_No_lineUp_51 : decode c_No_lineUp 51 = .ok (.iload 4, 2) := by decide +kernel
theorem d_No_lineUp_53 : decode c_No_lineUp 53 = .ok (.invokevirtual 67, 3) := by decide +kernel
theorem d_No_lineUp_56 : decode c_No_lineUp 56 = .ok (.ifCond .eq 34, 3) := by decide +kernel
theorem d_No_lineUp_59 : decode c_No_lineUp 59 = .ok (.aload_n 0, 1) := by decide +kernel
theorem d_No_lineUp_60 : decode c_No_lineUp 60 = .ok (.getfield 46, 3) := by decide +kernel
theorem d_No_lineUp_63 : decode c_No_lineUp 63 = .ok (.iload 4, 2) := by decide +kernel
theorem d_No_lineUp_65 : decode c_No_lineUp 65 = .ok (.laload, 1) := by decide +kernel
theorem d_No_lineUp_66 : decode c_No_lineUp 66 = .ok (.invokestatic 70, 3) := by decide +kernel
theorem d_No_lineUp_69 : decode c_No_lineUp 69 = .ok (.iload_n 3, 1) := by decide +kernel
theorem d_No_lineUp_70 : decode c_No_lineUp 70 = .ok (.if_icmp .ne 20, 3) := by decide +kernel
theorem d_No_lineUp_73 : decode c_No_lineUp 73 = .ok (.iload_n 2, 1) := by decide +kernel
theorem d_No_lineUp_74 : decode c_No_lineUp 74 = .ok (.bipush 20, 2) := by decide +kernel
theorem d_No_lineUp_76 : decode c_No_lineUp 76 = .ok (.if_icmp .ge 14, 3) := by decide +kernel
theorem d_No_lineUp_79 : decode c_No_lineUp 79 = .ok (.aload_n 0, 1) := by decide +kernel
theorem d_No_lineUp_80 : decode c_No_lineUp 80 = .ok (.getfield 52, 3) := by decide +kernel
theorem d_No_lineUp_83 : decode c_No_lineUp 83 = .ok (.iload_n 2, 1) := by decide +kernel
theorem d_No_lineUp_84 : decode c_No_lineUp 84 = .ok (.iload 4, 2) := by decide +kernel
theorem d_No_lineUp_86 : decode c_No_lineUp 86 = .ok (.iastore, 1) := by decide +kernel
theorem d_No_lineUp_87 : decode c_No_lineUp 87 = .ok (.iinc 2 1, 3) := by decide +kernel
theorem d_No_lineUp_90 : decode c_No_lineUp 90 = .ok (.iinc 4 1, 3) := by decide +kernel
theorem d_No_lineUp_93 : decode c_No_lineUp 93 = .ok (.goto (-80), 3) := by decide +kernel
theorem d_No_lineUp_96 : decode c_No_lineUp 96 = .ok (.iinc 3 1, 3) := by decide +kernel
theorem d_No_lineUp_99 : decode c_No_lineUp 99 = .ok (.goto (-95), 3) := by decide +kernel
theorem d_No_lineUp_102 : decode c_No_lineUp 102 = .ok (.iload_n 2, 1) := by decide +kernel
theorem d_No_lineUp_103 : decode c_No_lineUp 103 = .ok (.ireturn, 1) := by decide +kernel
theorem d_Tr_init_0 : decode c_Tr_init 0 = .ok (.aload_n 0, 1) := by decide +kernel
theorem d_Tr_init_1 : decode c_Tr_init 1 = .ok (.invokespecial 3, 3) := by decide +kernel
theorem d_Tr_init_4 : decode c_Tr_init 4 = .ok (.aload_n 0, 1) := by decide +kernel
theorem d_Tr_init_5 : decode c_Tr_init 5 = .ok (.bipush 33, 2) := by decide +kernel
theorem d_Tr_init_7 : decode c_Tr_init 7 = .ok (.bipush 64, 2) := by decide +kernel
theorem d_Tr_init_9 : decode c_Tr_init 9 = .ok (.multianewarray 9 2, 4) := by decide +kernel
theorem d_Tr_init_13 : decode c_Tr_init 13 = .ok (.putfield 11, 3) := by decide +kernel
theorem d_Tr_init_16 : decode c_Tr_init 16 = .ok (.aload_n 0, 1) := by decide +kernel
theorem d_Tr_init_17 : decode c_Tr_init 17 = .ok (.aload_n 1, 1) := by decide +kernel
theorem d_Tr_init_18 : decode c_Tr_init 18 = .ok (.putfield 16, 3) := by decide +kernel
theorem d_Tr_init_21 : decode c_Tr_init 21 = .ok (.return_, 1) := by decide +kernel
theorem d_Tr_fillEvent_0 : decode c_Tr_fillEvent 0 = .ok (.aload_n 0, 1) := by decide +kernel
theorem d_Tr_fillEvent_1 : decode c_Tr_fillEvent 1 = .ok (.getfield 16, 3) := by decide +kernel
theorem d_Tr_fillEvent_4 : decode c_Tr_fillEvent 4 = .ok (.getfield 20, 3) := by decide +kernel
theorem d_Tr_fillEvent_7 : decode c_Tr_fillEvent 7 = .ok (.iload_n 1, 1) := by decide +kernel
theorem d_Tr_fillEvent_8 : decode c_Tr_fillEvent 8 = .ok (.iaload, 1) := by decide +kernel
theorem d_Tr_fillEvent_9 : decode c_Tr_fillEvent 9 = .ok (.istore_n 2, 1) := by decide +kernel
theorem d_Tr_fillEvent_10 : decode c_Tr_fillEvent 10 = .ok (.iconst 0, 1) := by decide +kernel
theorem d_Tr_fillEvent_11 : decode c_Tr_fillEvent 11 = .ok (.istore_n 3, 1) := by decide +kernel
theorem d_Tr_fillEvent_12 : decode c_Tr_fillEvent 12 = .ok (.iload_n 3, 1) := by decide +kernel
theorem d_Tr_fillEvent_13 : decode c_Tr_fillEvent 13 = .ok (.bipush 64, 2) := by decide +kernel
theorem d_Tr_fillEvent_15 : decode c_Tr_fillEvent 15 = .ok (.if_icmp .ge 22, 3) := by decide +kernel
theorem d_Tr_fillEvent_18 : decode c_Tr_fillEvent 18 = .ok (.aload_n 0, 1) := by decide +kernel
theorem d_Tr_fillEvent_19 : decode c_Tr_fillEvent 19 = .ok (.getfield 11, 3) := by decide +kernel
theorem d_Tr_fillEvent_22 : decode c_Tr_fillEvent 22 = .ok (.iload_n 1, 1) := by decide +kernel
theorem d_Tr_fillEvent_23 : decode c_Tr_fillEvent 23 = .ok (.aaload, 1) := by decide +kernel
theorem d_Tr_fillEvent_24 : decode c_Tr_fillEvent 24 = .ok (.iload_n 3, 1) := by decide +kernel
theorem d_Tr_fillEvent_25 : decode c_Tr_fillEvent 25 = .ok (.iload_n 2, 1) := by decide +kernel
theorem d_Tr_fillEvent_26 : decode c_Tr_fillEvent 26 = .ok (.iload_n 3, 1) := by decide +kernel
theorem d_Tr_fillEvent_27 : decode c_Tr_fillEvent 27 = .ok (.invokestatic 26, 3) := by decide +kernel
theorem d_Tr_fillEvent_30 : decode c_Tr_fillEvent 30 = .ok (.lastore, 1) := by decide +kernel
theorem d_Tr_fillEvent_31 : decode c_Tr_fillEvent 31 = .ok (.iinc 3 1, 3) := by decide +kernel
theorem d_Tr_fillEvent_34 : decode c_Tr_fillEvent 34 = .ok (.goto (-22), 3) := by decide +kernel
theorem d_Tr_fillEvent_37 : decode c_Tr_fillEvent 37 = .ok (.return_, 1) := by decide +kernel
theorem d_Tr_eventWord_0 : decode c_Tr_eventWord 0 = .ok (.iconst 0, 1) := by decide +kernel
theorem d_Tr_eventWord_1 : decode c_Tr_eventWord 1 = .ok (.istore_n 2, 1) := by decide +kernel
theorem d_Tr_eventWord_2 : decode c_Tr_eventWord 2 = .ok (.iload_n 2, 1) := by decide +kernel
theorem d_Tr_eventWord_3 : decode c_Tr_eventWord 3 = .ok (.bipush 6, 2) := by decide +kernel
theorem d_Tr_eventWord_5 : decode c_Tr_eventWord 5 = .ok (.if_icmp .ge 22, 3) := by decide +kernel
theorem d_Tr_eventWord_8 : decode c_Tr_eventWord 8 = .ok (.iload_n 0, 1) := by decide +kernel
theorem d_Tr_eventWord_9 : decode c_Tr_eventWord 9 = .ok (.iconst 1, 1) := by decide +kernel
theorem d_Tr_eventWord_10 : decode c_Tr_eventWord 10 = .ok (.iload_n 2, 1) := by decide +kernel
theorem d_Tr_eventWord_11 : decode c_Tr_eventWord 11 = .ok (.ishl, 1) := by decide +kernel
theorem d_Tr_eventWord_12 : decode c_Tr_eventWord 12 = .ok (.if_icmp .ne 9, 3) := by decide +kernel
theorem d_Tr_eventWord_15 : decode c_Tr_eventWord 15 = .ok (.getstatic 30, 3) := by decide +kernel
theorem d_Tr_eventWord_18 : decode c_Tr_eventWord 18 = .ok (.iload_n 2, 1) := by decide +kernel
theorem d_Tr_eventWord_19 : decode c_Tr_eventWord 19 = .ok (.laload, 1) := by decide +kernel
theorem d_Tr_eventWord_20 : decode c_Tr_eventWord 20 = .ok (.lreturn, 1) := by decide +kernel
theorem d_Tr_eventWord_21 : decode c_Tr_eventWord 21 = .ok (.iinc 2 1, 3) := by decide +kernel
theorem d_Tr_eventWord_24 : decode c_Tr_eventWord 24 = .ok (.goto (-22), 3) := by decide +kernel
theorem d_Tr_eventWord_27 : decode c_Tr_eventWord 27 = .ok (.iload_n 1, 1) := by decide +kernel
theorem d_Tr_eventWord_28 : decode c_Tr_eventWord 28 = .ok (.iload_n 0, 1) := by decide +kernel
theorem d_Tr_eventWord_29 : decode c_Tr_eventWord 29 = .ok (.bipush 6, 2) := by decide +kernel
theorem d_Tr_eventWord_31 : decode c_Tr_eventWord 31 = .ok (.ishr, 1) := by decide +kernel
theorem d_Tr_eventWord_32 : decode c_Tr_eventWord 32 = .ok (.iand, 1) := by decide +kernel
theorem d_Tr_eventWord_33 : decode c_Tr_eventWord 33 = .ok (.ifCond .eq 9, 3) := by decide +kernel
theorem d_Tr_eventWord_36 : decode c_Tr_eventWord 36 = .ok (.ldc2_w 34, 3) := by decide +kernel
theorem d_Tr_eventWord_39 : decode c_Tr_eventWord 39 = .ok (.goto 4, 3) := by decide +kernel
theorem d_Tr_eventWord_42 : decode c_Tr_eventWord 42 = .ok (.lconst 0, 1) := by decide +kernel
theorem d_Tr_eventWord_43 : decode c_Tr_eventWord 43 = .ok (.lreturn, 1) := by decide +kernel
theorem d_Tr_fillGates_0 : decode c_Tr_fillGates 0 = .ok (.aload_n 0, 1) := by decide +kernel
theorem d_Tr_fillGates_1 : decode c_Tr_fillGates 1 = .ok (.getfield 16, 3) := by decide +kernel
theorem d_Tr_fillGates_4 : decode c_Tr_fillGates 4 = .ok (.getfield 20, 3) := by decide +kernel
theorem d_Tr_fillGates_7 : decode c_Tr_fillGates 7 = .ok (.iload_n 1, 1) := by decide +kernel
theorem d_Tr_fillGates_8 : decode c_Tr_fillGates 8 = .ok (.iaload, 1) := by decide +kernel
theorem d_Tr_fillGates_9 : decode c_Tr_fillGates 9 = .ok (.bipush 6, 2) := by decide +kernel
theorem d_Tr_fillGates_11 : decode c_Tr_fillGates 11 = .ok (.ishr, 1) := by decide +kernel
theorem d_Tr_fillGates_12 : decode c_Tr_fillGates 12 = .ok (.istore_n 2, 1) := by decide +kernel
theorem d_Tr_fillGates_13 : decode c_Tr_fillGates 13 = .ok (.aload_n 0, 1) := by decide +kernel
theorem d_Tr_fillGates_14 : decode c_Tr_fillGates 14 = .ok (.getfield 16, 3) := by decide +kernel
theorem d_Tr_fillGates_17 : decode c_Tr_fillGates 17 = .ok (.iload_n 1, 1) := by decide +kernel
theorem d_Tr_fillGates_18 : decode c_Tr_fillGates 18 = .ok (.invokevirtual 36, 3) := by decide +kernel
theorem d_Tr_fillGates_21 : decode c_Tr_fillGates 21 = .ok (.istore_n 3, 1) := by decide +kernel
theorem d_Tr_fillGates_22 : decode c_Tr_fillGates 22 = .ok (.iconst 0, 1) := by decide +kernel
theorem d_Tr_fillGates_23 : decode c_Tr_fillGates 23 = .ok (.istore 4, 2) := by decide +kernel
theorem d_Tr_fillGates_25 : decode c_Tr_fillGates 25 = .ok (.iload 4, 2) := by decide +kernel
theorem d_Tr_fillGates_27 : decode c_Tr_fillGates 27 = .ok (.iload_n 3, 1) := by decide +kernel
theorem d_Tr_fillGates_28 : decode c_Tr_fillGates 28 = .ok (.if_icmp .ge 24, 3) := by decide +kernel
theorem d_Tr_fillGates_31 : decode c_Tr_fillGates 31 = .ok (.aload_n 0, 1) := by decide +kernel
theorem d_Tr_fillGates_32 : decode c_Tr_fillGates 32 = .ok (.aload_n 0, 1) := by decide +kernel
theorem d_Tr_fillGates_33 : decode c_Tr_fillGates 33 = .ok (.getfield 16, 3) := by decide +kernel
theorem d_Tr_fillGates_36 : decode c_Tr_fillGates 36 = .ok (.getfield 40, 3) := by decide +kernel
theorem d_Tr_fillGates_39 : decode c_Tr_fillGates 39 = .ok (.iload 4, 2) := by decide +kernel
theorem d_Tr_fillGates_41 : decode c_Tr_fillGates 41 = .ok (.iaload, 1) := by decide +kernel
theorem d_Tr_fillGates_42 : decode c_Tr_fillGates 42 = .ok (.iload_n 2, 1) := by decide +kernel
theorem d_Tr_fillGates_43 : decode c_Tr_fillGates 43 = .ok (.invokevirtual 43, 3) := by decide +kernel
theorem d_Tr_fillGates_46 : decode c_Tr_fillGates 46 = .ok (.iinc 4 1, 3) := by decide +kernel
theorem d_Tr_fillGates_49 : decode c_Tr_fillGates 49 = .ok (.goto (-24), 3) := by decide +kernel
theorem d_Tr_fillGates_52 : decode c_Tr_fillGates 52 = .ok (.return_, 1) := by decide +kernel
theorem d_Tr_fillGate_0 : decode c_Tr_fillGate 0 = .ok (.iconst 0, 1) := by decide +kernel
theorem d_Tr_fillGate_1 : decode c_Tr_fillGate 1 = .ok (.istore_n 3, 1) := by decide +kernel
theorem d_Tr_fillGate_2 : decode c_Tr_fillGate 2 = .ok (.iload_n 3, 1) := by decide +kernel
theorem d_Tr_fillGate_3 : decode c_Tr_fillGate 3 = .ok (.bipush 64, 2) := by decide +kernel
theorem d_Tr_fillGate_5 : decode c_Tr_fillGate 5 = .ok (.if_icmp .ge 30, 3) := by decide +kernel
theorem d_Tr_fillGate_8 : decode c_Tr_fillGate 8 = .ok (.iload_n 3, 1) := by decide +kernel
theorem d_Tr_fillGate_9 : decode c_Tr_fillGate 9 = .ok (.iload_n 2, 1) := by decide +kernel
theorem d_Tr_fillGate_10 : decode c_Tr_fillGate 10 = .ok (.iand, 1) := by decide +kernel
theorem d_Tr_fillGate_11 : decode c_Tr_fillGate 11 = .ok (.iload_n 3, 1) := by decide +kernel
theorem d_Tr_fillGate_12 : decode c_Tr_fillGate 12 = .ok (.if_icmp .ne 17, 3) := by decide +kernel
theorem d_Tr_fillGate_15 : decode c_Tr_fillGate 15 = .ok (.aload_n 0, 1) := by decide +kernel
theorem d_Tr_fillGate_16 : decode c_Tr_fillGate 16 = .ok (.getfield 11, 3) := by decide +kernel
theorem d_Tr_fillGate_19 : decode c_Tr_fillGate 19 = .ok (.iload_n 1, 1) := by decide +kernel
theorem d_Tr_fillGate_20 : decode c_Tr_fillGate 20 = .ok (.aaload, 1) := by decide +kernel
theorem d_Tr_fillGate_21 : decode c_Tr_fillGate 21 = .ok (.iload_n 3, 1) := by decide +kernel
theorem d_Tr_fillGate_22 : decode c_Tr_fillGate 22 = .ok (.aload_n 0, 1) := by decide +kernel
theorem d_Tr_fillGate_23 : decode c_Tr_fillGate 23 = .ok (.iload_n 1, 1) := by decide +kernel
theorem d_Tr_fillGate_24 : decode c_Tr_fillGate 24 = .ok (.iload_n 3, 1) := by decide +kernel
theorem d_Tr_fillGate_25 : decode c_Tr_fillGate 25 = .ok (.invokevirtual 47, 3) := by decide +kernel
theorem d_Tr_fillGate_28 : decode c_Tr_fillGate 28 = .ok (.lastore, 1) := by decide +kernel
theorem d_Tr_fillGate_29 : decode c_Tr_fillGate 29 = .ok (.iinc 3 1, 3) := by decide +kernel
theorem d_Tr_fillGate_32 : decode c_Tr_fillGate 32 = .ok (.goto (-30), 3) := by decide +kernel
theorem d_Tr_fillGate_35 : decode c_Tr_fillGate 35 = .ok (.return_, 1) := by decide +kernel
theorem d_Tr_gateWord_0 : decode c_Tr_gateWord 0 = .ok (.aload_n 0, 1) := by decide +kernel
theorem d_Tr_gateWord_1 : decode c_Tr_gateWord 1 = .ok (.getfield 16, 3) := by decide +kernel
theorem d_Tr_gateWord_4 : decode c_Tr_gateWord 4 = .ok (.getfield 50, 3) := by decide +kernel
theorem d_Tr_gateWord_7 : decode c_Tr_gateWord 7 = .ok (.iload_n 1, 1) := by decide +kernel
theorem d_Tr_gateWord_8 : decode c_Tr_gateWord 8 = .ok (.iaload, 1) := by decide +kernel
theorem d_Tr_gateWord_9 : decode c_Tr_gateWord 9 = .ok (.lookupswitch 41 #[(0, 27), (1, 34)], 27) := by decide +kernel
theorem d_Tr_gateWord_36 : decode c_Tr_gateWord 36 = .ok (.aload_n 0, 1) := by decide +kernel
theorem d_Tr_gateWord_37 : decode c_Tr_gateWord 37 = .ok (.iload_n 1, 1) := by decide +kernel
theorem d_Tr_gateWord_38 : decode c_Tr_gateWord 38 = .ok (.iload_n 2, 1) := by decide +kernel
theorem d_Tr_gateWord_39 : decode c_Tr_gateWord 39 = .ok (.invokevirtual 53, 3) := by decide +kernel
theorem d_Tr_gateWord_42 : decode c_Tr_gateWord 42 = .ok (.lreturn, 1) := by decide +kernel
theorem d_Tr_gateWord_43 : decode c_Tr_gateWord 43 = .ok (.aload_n 0, 1) := by decide +kernel
theorem d_Tr_gateWord_44 : decode c_Tr_gateWord 44 = .ok (.iload_n 1, 1) := by decide +kernel
theorem d_Tr_gateWord_45 : decode c_Tr_gateWord 45 = .ok (.iload_n 2, 1) := by decide +kernel
theorem d_Tr_gateWord_46 : decode c_Tr_gateWord 46 = .ok (.invokevirtual 56, 3) := by decide +kernel
theorem d_Tr_gateWord_49 : decode c_Tr_gateWord 49 = .ok (.lreturn, 1) := by decide +kernel
theorem d_Tr_gateWord_50 : decode c_Tr_gateWord 50 = .ok (.aload_n 0, 1) := by decide +kernel
theorem d_Tr_gateWord_51 : decode c_Tr_gateWord 51 = .ok (.iload_n 1, 1) := by decide +kernel
theorem d_Tr_gateWord_52 : decode c_Tr_gateWord 52 = .ok (.iload_n 2, 1) := by decide +kernel
theorem d_Tr_gateWord_53 : decode c_Tr_gateWord 53 = .ok (.invokevirtual 59, 3) := by decide +kernel
theorem d_Tr_gateWord_56 : decode c_Tr_gateWord 56 = .ok (.lreturn, 1) := by decide +kernel
theorem d_Tr_allOf_0 : decode c_Tr_allOf 0 = .ok (.ldc2_w 34, 3) := by decide +kernel
theorem d_Tr_allOf_3 : decode c_Tr_allOf 3 = .ok (.lstore_n 3, 1) := by decide +kernel
theorem d_Tr_allOf_4 : decode c_Tr_allOf 4 = .ok (.iconst 0, 1) := by decide +kernel
theorem d_Tr_allOf_5 : decode c_Tr_allOf 5 = .ok (.istore 5, 2) := by decide +kernel
theorem d_Tr_allOf_7 : decode c_Tr_allOf 7 = .ok (.iload 5, 2) := by decide +kernel
theorem d_Tr_allOf_9 : decode c_Tr_allOf 9 = .ok (.aload_n 0, 1) := by decide +kernel
theorem d_Tr_allOf_10 : decode c_Tr_allOf 10 = .ok (.getfield 16, 3) := by decide +kernel
theorem d_Tr_allOf_13 : decode c_Tr_allOf 13 = .ok (.getfield 62, 3) := by decide +kernel
theorem d_Tr_allOf_16 : decode c_Tr_allOf 16 = .ok (.iload_n 1, 1) := by decide +kernel
theorem d_Tr_allOf_17 : decode c_Tr_allOf 17 = .ok (.iaload, 1) := by decide +kernel
theorem d_Tr_allOf_18 : decode c_Tr_allOf 18 = .ok (.if_icmp .ge 31, 3) := by decide +kernel
theorem d_Tr_allOf_21 : decode c_Tr_allOf 21 = .ok (.lload_n 3, 1) := by decide +kernel
theorem d_Tr_allOf_22 : decode c_Tr_allOf 22 = .ok (.aload_n 0, 1) := by decide +kernel
theorem d_Tr_allOf_23 : decode c_Tr_allOf 23 = .ok (.getfield 11, 3) := by decide +kernel
theorem d_Tr_allOf_26 : decode c_Tr_allOf 26 = .ok (.aload_n 0, 1) := by decide +kernel
theorem d_Tr_allOf_27 : decode c_Tr_allOf 27 = .ok (.getfield 16, 3) := by decide +kernel
theorem d_Tr_allOf_30 : decode c_Tr_allOf 30 = .ok (.getfield 65, 3) := by decide +kernel
theorem d_Tr_allOf_33 : decode c_Tr_allOf 33 = .ok (.iload_n 1, 1) := by decide +kernel
theorem d_Tr_allOf_34 : decode c_Tr_allOf 34 = .ok (.aaload, 1) := by decide +kernel
theorem d_Tr_allOf_35 : decode c_Tr_allOf 35 = .ok (.iload 5, 2) := by decide +kernel
theorem d_Tr_allOf_37 : decode c_Tr_allOf 37 = .ok (.iaload, 1) := by decide +kernel
theorem d_Tr_allOf_38 : decode c_Tr_allOf 38 = .ok (.aaload, 1) := by decide +kernel
theorem d_Tr_allOf_39 : decode c_Tr_allOf 39 = .ok (.iload_n 2, 1) := by decide +kernel
theorem d_Tr_allOf_40 : decode c_Tr_allOf 40 = .ok (.laload, 1) := by decide +kernel
theorem d_Tr_allOf_41 : decode c_Tr_allOf 41 = .ok (.land, 1) := by decide +kernel
theorem d_Tr_allOf_42 : decode c_Tr_allOf 42 = .ok (.lstore_n 3, 1) := by decide +kernel
theorem d_Tr_allOf_43 : decode c_Tr_allOf 43 = .ok (.iinc 5 1, 3) := by decide +kernel
theorem d_Tr_allOf_46 : decode c_Tr_allOf 46 = .ok (.goto (-39), 3) := by decide +kernel
theorem d_Tr_allOf_49 : decode c_Tr_allOf 49 = .ok (.lload_n 3, 1) := by decide +kernel
theorem d_Tr_allOf_50 : decode c_Tr_allOf 50 = .ok (.lreturn, 1) := by decide +kernel
theorem d_Tr_anyOf_0 : decode c_Tr_anyOf 0 = .ok (.lconst 0, 1) := by decide +kernel
theorem d_Tr_anyOf_1 : decode c_Tr_anyOf 1 = .ok (.lstore_n 3, 1) := by decide +kernel
theorem d_Tr_anyOf_2 : decode c_Tr_anyOf 2 = .ok (.iconst 0, 1) := by decide +kernel
theorem d_Tr_anyOf_3 : decode c_Tr_anyOf 3 = .ok (.istore 5, 2) := by decide +kernel
theorem d_Tr_anyOf_5 : decode c_Tr_anyOf 5 = .ok (.iload 5, 2) := by decide +kernel
theorem d_Tr_anyOf_7 : decode c_Tr_anyOf 7 = .ok (.aload_n 0, 1) := by decide +kernel
theorem d_Tr_anyOf_8 : decode c_Tr_anyOf 8 = .ok (.getfield 16, 3) := by decide +kernel
theorem d_Tr_anyOf_11 : decode c_Tr_anyOf 11 = .ok (.getfield 62, 3) := by decide +kernel
theorem d_Tr_anyOf_14 : decode c_Tr_anyOf 14 = .ok (.iload_n 1, 1) := by decide +kernel
theorem d_Tr_anyOf_15 : decode c_Tr_anyOf 15 = .ok (.iaload, 1) := by decide +kernel
theorem d_Tr_anyOf_16 : decode c_Tr_anyOf 16 = .ok (.if_icmp .ge 31, 3) := by decide +kernel
theorem d_Tr_anyOf_19 : decode c_Tr_anyOf 19 = .ok (.lload_n 3, 1) := by decide +kernel
theorem d_Tr_anyOf_20 : decode c_Tr_anyOf 20 = .ok (.aload_n 0, 1) := by decide +kernel
theorem d_Tr_anyOf_21 : decode c_Tr_anyOf 21 = .ok (.getfield 11, 3) := by decide +kernel
theorem d_Tr_anyOf_24 : decode c_Tr_anyOf 24 = .ok (.aload_n 0, 1) := by decide +kernel
theorem d_Tr_anyOf_25 : decode c_Tr_anyOf 25 = .ok (.getfield 16, 3) := by decide +kernel
theorem d_Tr_anyOf_28 : decode c_Tr_anyOf 28 = .ok (.getfield 65, 3) := by decide +kernel
theorem d_Tr_anyOf_31 : decode c_Tr_anyOf 31 = .ok (.iload_n 1, 1) := by decide +kernel
theorem d_Tr_anyOf_32 : decode c_Tr_anyOf 32 = .ok (.aaload, 1) := by decide +kernel
theorem d_Tr_anyOf_33 : decode c_Tr_anyOf 33 = .ok (.iload 5, 2) := by decide +kernel
theorem d_Tr_anyOf_35 : decode c_Tr_anyOf 35 = .ok (.iaload, 1) := by decide +kernel
theorem d_Tr_anyOf_36 : decode c_Tr_anyOf 36 = .ok (.aaload, 1) := by decide +kernel
theorem d_Tr_anyOf_37 : decode c_Tr_anyOf 37 = .ok (.iload_n 2, 1) := by decide +kernel
theorem d_Tr_anyOf_38 : decode c_Tr_anyOf 38 = .ok (.laload, 1) := by decide +kernel
theorem d_Tr_anyOf_39 : decode c_Tr_anyOf 39 = .ok (.lor, 1) := by decide +kernel
theorem d_Tr_anyOf_40 : decode c_Tr_anyOf 40 = .ok (.lstore_n 3, 1) := by decide +kernel
theorem d_Tr_anyOf_41 : decode c_Tr_anyOf 41 = .ok (.iinc 5 1, 3) := by decide +kernel
theorem d_Tr_anyOf_44 : decode c_Tr_anyOf 44 = .ok (.goto (-39), 3) := by decide +kernel
theorem d_Tr_anyOf_47 : decode c_Tr_anyOf 47 = .ok (.lload_n 3, 1) := by decide +kernel
theorem d_Tr_anyOf_48 : decode c_Tr_anyOf 48 = .ok (.lreturn, 1) := by decide +kernel
theorem d_Tr_votesOf_0 : decode c_Tr_votesOf 0 = .ok (.lconst 0, 1) := by decide +kernel
theorem d_Tr_votesOf_1 : decode c_Tr_votesOf 1 = .ok (.lstore_n 3, 1) := by decide +kernel
theorem d_Tr_votesOf_2 : decode c_Tr_votesOf 2 = .ok (.lconst 0, 1) := by decide +kernel
theorem d_Tr_votesOf_3 : decode c_Tr_votesOf 3 = .ok (.lstore 5, 2) := by decide +kernel
theorem d_Tr_votesOf_5 : decode c_Tr_votesOf 5 = .ok (.lconst 0, 1) := by decide +kernel
theorem d_Tr_votesOf_6 : decode c_Tr_votesOf 6 = .ok (.lstore 7, 2) := by decide +kernel
theorem d_Tr_votesOf_8 : decode c_Tr_votesOf 8 = .ok (.lconst 0, 1) := by decide +kernel
theorem d_Tr_votesOf_9 : decode c_Tr_votesOf 9 = .ok (.lstore 9, 2) := by decide +kernel
theorem d_Tr_votesOf_11 : decode c_Tr_votesOf 11 = .ok (.iconst 0, 1) := by decide +kernel
theorem d_Tr_votesOf_12 : decode c_Tr_votesOf 12 = .ok (.istore 11, 2) := by decide +kernel
theorem d_Tr_votesOf_14 : decode c_Tr_votesOf 14 = .ok (.iload 11, 2) := by decide +kernel
theorem d_Tr_votesOf_16 : decode c_Tr_votesOf 16 = .ok (.aload_n 0, 1) := by decide +kernel
theorem d_Tr_votesOf_17 : decode c_Tr_votesOf 17 = .ok (.getfield 16, 3) := by decide +kernel
theorem d_Tr_votesOf_20 : decode c_Tr_votesOf 20 = .ok (.getfield 62, 3) := by decide +kernel
theorem d_Tr_votesOf_23 : decode c_Tr_votesOf 23 = .ok (.iload_n 1, 1) := by decide +kernel
theorem d_Tr_votesOf_24 : decode c_Tr_votesOf 24 = .ok (.iaload, 1) := by decide +kernel
theorem d_Tr_votesOf_25 : decode c_Tr_votesOf 25 = .ok (.if_icmp .ge 76, 3) := by decide +kernel
theorem d_Tr_votesOf_28 : decode c_Tr_votesOf 28 = .ok (.aload_n 0, 1) := by decide +kernel
theorem d_Tr_votesOf_29 : decode c_Tr_votesOf 29 = .ok (.getfield 11, 3) := by decide +kernel
theorem d_Tr_votesOf_32 : decode c_Tr_votesOf 32 = .ok (.aload_n 0, 1) := by decide +kernel
theorem d_Tr_votesOf_33 : decode c_Tr_votesOf 33 = .ok (.getfield 16, 3) := by decide +kernel
theorem d_Tr_votesOf_36 : decode c_Tr_votesOf 36 = .ok (.getfield 65, 3) := by decide +kernel
theorem d_Tr_votesOf_39 : decode c_Tr_votesOf 39 = .ok (.iload_n 1, 1) := by decide +kernel
theorem d_Tr_votesOf_40 : decode c_Tr_votesOf 40 = .ok (.aaload, 1) := by decide +kernel
theorem d_Tr_votesOf_41 : decode c_Tr_votesOf 41 = .ok (.iload 11, 2) := by decide +kernel
theorem d_Tr_votesOf_43 : decode c_Tr_votesOf 43 = .ok (.iaload, 1) := by decide +kernel
theorem d_Tr_votesOf_44 : decode c_Tr_votesOf 44 = .ok (.aaload, 1) := by decide +kernel
theorem d_Tr_votesOf_45 : decode c_Tr_votesOf 45 = .ok (.iload_n 2, 1) := by decide +kernel
theorem d_Tr_votesOf_46 : decode c_Tr_votesOf 46 = .ok (.laload, 1) := by decide +kernel
theorem d_Tr_votesOf_47 : decode c_Tr_votesOf 47 = .ok (.lstore 12, 2) := by decide +kernel
theorem d_Tr_votesOf_49 : decode c_Tr_votesOf 49 = .ok (.lload_n 3, 1) := by decide +kernel
theorem d_Tr_votesOf_50 : decode c_Tr_votesOf 50 = .ok (.lload 12, 2) := by decide +kernel
theorem d_Tr_votesOf_52 : decode c_Tr_votesOf 52 = .ok (.land, 1) := by decide +kernel
theorem d_Tr_votesOf_53 : decode c_Tr_votesOf 53 = .ok (.lstore 14, 2) := by decide +kernel
theorem d_Tr_votesOf_55 : decode c_Tr_votesOf 55 = .ok (.lload 5, 2) := by decide +kernel
theorem d_Tr_votesOf_57 : decode c_Tr_votesOf 57 = .ok (.lload 14, 2) := by decide +kernel
theorem d_Tr_votesOf_59 : decode c_Tr_votesOf 59 = .ok (.land, 1) := by decide +kernel
theorem d_Tr_votesOf_60 : decode c_Tr_votesOf 60 = .ok (.lstore 16, 2) := by decide +kernel
theorem d_Tr_votesOf_62 : decode c_Tr_votesOf 62 = .ok (.lload 7, 2) := by decide +kernel
theorem d_Tr_votesOf_64 : decode c_Tr_votesOf 64 = .ok (.lload 16, 2) := by decide +kernel
theorem d_Tr_votesOf_66 : decode c_Tr_votesOf 66 = .ok (.land, 1) := by decide +kernel
theorem d_Tr_votesOf_67 : decode c_Tr_votesOf 67 = .ok (.lstore 18, 2) := by decide +kernel
theorem d_Tr_votesOf_69 : decode c_Tr_votesOf 69 = .ok (.lload_n 3, 1) := by decide +kernel
theorem d_Tr_votesOf_70 : decode c_Tr_votesOf 70 = .ok (.lload 12, 2) := by decide +kernel
theorem d_Tr_votesOf_72 : decode c_Tr_votesOf 72 = .ok (.lxor, 1) := by decide +kernel
theorem d_Tr_votesOf_73 : decode c_Tr_votesOf 73 = .ok (.lstore_n 3, 1) := by decide +kernel
theorem d_Tr_votesOf_74 : decode c_Tr_votesOf 74 = .ok (.lload 5, 2) := by decide +kernel
theorem d_Tr_votesOf_76 : decode c_Tr_votesOf 76 = .ok (.lload 14, 2) := by decide +kernel
theorem d_Tr_votesOf_78 : decode c_Tr_votesOf 78 = .ok (.lxor, 1) := by decide +kernel
theorem d_Tr_votesOf_79 : decode c_Tr_votesOf 79 = .ok (.lstore 5, 2) := by decide +kernel
theorem d_Tr_votesOf_81 : decode c_Tr_votesOf 81 = .ok (.lload 7, 2) := by decide +kernel
theorem d_Tr_votesOf_83 : decode c_Tr_votesOf 83 = .ok (.lload 16, 2) := by decide +kernel
theorem d_Tr_votesOf_85 : decode c_Tr_votesOf 85 = .ok (.lxor, 1) := by decide +kernel
theorem d_Tr_votesOf_86 : decode c_Tr_votesOf 86 = .ok (.lstore 7, 2) := by decide +kernel
theorem d_Tr_votesOf_88 : decode c_Tr_votesOf 88 = .ok (.lload 9, 2) := by decide +kernel
theorem d_Tr_votesOf_90 : decode c_Tr_votesOf 90 = .ok (.lload 18, 2) := by decide +kernel
theorem d_Tr_votesOf_92 : decode c_Tr_votesOf 92 = .ok (.lxor, 1) := by decide +kernel
theorem d_Tr_votesOf_93 : decode c_Tr_votesOf 93 = .ok (.lstore 9, 2) := by decide +kernel
theorem d_Tr_votesOf_95 : decode c_Tr_votesOf 95 = .ok (.iinc 11 1, 3) := by decide +kernel
theorem d_Tr_votesOf_98 : decode c_Tr_votesOf 98 = .ok (.goto (-84), 3) := by decide +kernel
theorem d_Tr_votesOf_101 : decode c_Tr_votesOf 101 = .ok (.aload_n 0, 1) := by decide +kernel
theorem d_Tr_votesOf_102 : decode c_Tr_votesOf 102 = .ok (.getfield 16, 3) := by decide +kernel
theorem d_Tr_votesOf_105 : decode c_Tr_votesOf 105 = .ok (.getfield 69, 3) := by decide +kernel
theorem d_Tr_votesOf_108 : decode c_Tr_votesOf 108 = .ok (.iload_n 1, 1) := by decide +kernel
theorem d_Tr_votesOf_109 : decode c_Tr_votesOf 109 = .ok (.iaload, 1) := by decide +kernel
theorem d_Tr_votesOf_110 : decode c_Tr_votesOf 110 = .ok (.istore 11, 2) := by decide +kernel
theorem d_Tr_votesOf_112 : decode c_Tr_votesOf 112 = .ok (.iload 11, 2) := by decide +kernel
theorem d_Tr_votesOf_114 : decode c_Tr_votesOf 114 = .ok (.lload_n 3, 1) := by decide +kernel
theorem d_Tr_votesOf_115 : decode c_Tr_votesOf 115 = .ok (.ldc2_w 34, 3) := by decide +kernel
theorem d_Tr_votesOf_118 : decode c_Tr_votesOf 118 = .ok (.invokestatic 72, 3) := by decide +kernel
theorem d_Tr_votesOf_121 : decode c_Tr_votesOf 121 = .ok (.lstore 12, 2) := by decide +kernel
theorem d_Tr_votesOf_123 : decode c_Tr_votesOf 123 = .ok (.iload 11, 2) := by decide +kernel
theorem d_Tr_votesOf_125 : decode c_Tr_votesOf 125 = .ok (.iconst 1, 1) := by decide +kernel
theorem d_Tr_votesOf_126 : decode c_Tr_votesOf 126 = .ok (.ishr, 1) := by decide +kernel
theorem d_Tr_votesOf_127 : decode c_Tr_votesOf 127 = .ok (.lload 5, 2) := by decide +kernel
theorem d_Tr_votesOf_129 : decode c_Tr_votesOf 129 = .ok (.lload 12, 2) := by decide +kernel
theorem d_Tr_votesOf_131 : decode c_Tr_votesOf 131 = .ok (.invokestatic 72, 3) := by decide +kernel
theorem d_Tr_votesOf_134 : decode c_Tr_votesOf 134 = .ok (.lstore 12, 2) := by decide +kernel
theorem d_Tr_votesOf_136 : decode c_Tr_votesOf 136 = .ok (.iload 11, 2) := by decide +kernel
theorem d_Tr_votesOf_138 : decode c_Tr_votesOf 138 = .ok (.iconst 2, 1) := by decide +kernel
theorem d_Tr_votesOf_139 : decode c_Tr_votesOf 139 = .ok (.ishr, 1) := by decide +kernel
theorem d_Tr_votesOf_140 : decode c_Tr_votesOf 140 = .ok (.lload 7, 2) := by decide +kernel
theorem d_Tr_votesOf_142 : decode c_Tr_votesOf 142 = .ok (.lload 12, 2) := by decide +kernel
theorem d_Tr_votesOf_144 : decode c_Tr_votesOf 144 = .ok (.invokestatic 72, 3) := by decide +kernel
theorem d_Tr_votesOf_147 : decode c_Tr_votesOf 147 = .ok (.lstore 12, 2) := by decide +kernel
theorem d_Tr_votesOf_149 : decode c_Tr_votesOf 149 = .ok (.iload 11, 2) := by decide +kernel
theorem d_Tr_votesOf_151 : decode c_Tr_votesOf 151 = .ok (.iconst 3, 1) := by decide +kernel
theorem d_Tr_votesOf_152 : decode c_Tr_votesOf 152 = .ok (.ishr, 1) := by decide +kernel
theorem d_Tr_votesOf_153 : decode c_Tr_votesOf 153 = .ok (.lload 9, 2) := by decide +kernel
theorem d_Tr_votesOf_155 : decode c_Tr_votesOf 155 = .ok (.lload 12, 2) := by decide +kernel
theorem d_Tr_votesOf_157 : decode c_Tr_votesOf 157 = .ok (.invokestatic 72, 3) := by decide +kernel
theorem d_Tr_votesOf_160 : decode c_Tr_votesOf 160 = .ok (.lreturn, 1) := by decide +kernel
theorem d_Tr_withDigit_0 : decode c_Tr_withDigit 0 = .ok (.iload_n 0, 1) := by decide +kernel
theorem d_Tr_withDigit_1 : decode c_Tr_withDigit 1 = .ok (.iconst 1, 1) := by decide +kernel
theorem d_Tr_withDigit_2 : decode c_Tr_withDigit 2 = .ok (.iand, 1) := by decide +kernel
theorem d_Tr_withDigit_3 : decode c_Tr_withDigit 3 = .ok (.ifCond .eq 9, 3) := by decide +kernel
theorem d_Tr_withDigit_6 : decode c_Tr_withDigit 6 = .ok (.lload_n 1, 1) := by decide +kernel
theorem d_Tr_withDigit_7 : decode c_Tr_withDigit 7 = .ok (.lload_n 3, 1) := by decide +kernel
theorem d_Tr_withDigit_8 : decode c_Tr_withDigit 8 = .ok (.land, 1) := by decide +kernel
theorem d_Tr_withDigit_9 : decode c_Tr_withDigit 9 = .ok (.goto 6, 3) := by decide +kernel
theorem d_Tr_withDigit_12 : decode c_Tr_withDigit 12 = .ok (.lload_n 1, 1) := by decide +kernel
theorem d_Tr_withDigit_13 : decode c_Tr_withDigit 13 = .ok (.lload_n 3, 1) := by decide +kernel
theorem d_Tr_withDigit_14 : decode c_Tr_withDigit 14 = .ok (.lor, 1) := by decide +kernel
theorem d_Tr_withDigit_15 : decode c_Tr_withDigit 15 = .ok (.lreturn, 1) := by decide +kernel
theorem d_Tr_isTrue_0 : decode c_Tr_isTrue 0 = .ok (.iload_n 2, 1) := by decide +kernel
theorem d_Tr_isTrue_1 : decode c_Tr_isTrue 1 = .ok (.bipush 6, 2) := by decide +kernel
theorem d_Tr_isTrue_3 : decode c_Tr_isTrue 3 = .ok (.ishr, 1) := by decide +kernel
theorem d_Tr_isTrue_4 : decode c_Tr_isTrue 4 = .ok (.bipush 63, 2) := by decide +kernel
theorem d_Tr_isTrue_6 : decode c_Tr_isTrue 6 = .ok (.iand, 1) := by decide +kernel
theorem d_Tr_isTrue_7 : decode c_Tr_isTrue 7 = .ok (.istore_n 3, 1) := by decide +kernel
theorem d_Tr_isTrue_8 : decode c_Tr_isTrue 8 = .ok (.aload_n 0, 1) := by decide +kernel
theorem d_Tr_isTrue_9 : decode c_Tr_isTrue 9 = .ok (.getfield 11, 3) := by decide +kernel
theorem d_Tr_isTrue_12 : decode c_Tr_isTrue 12 = .ok (.iload_n 1, 1) := by decide +kernel
theorem d_Tr_isTrue_13 : decode c_Tr_isTrue 13 = .ok (.aaload, 1) := by decide +kernel
theorem d_Tr_isTrue_14 : decode c_Tr_isTrue 14 = .ok (.iload_n 3, 1) := by decide +kernel
theorem d_Tr_isTrue_15 : decode c_Tr_isTrue 15 = .ok (.laload, 1) := by decide +kernel
theorem d_Tr_isTrue_16 : decode c_Tr_isTrue 16 = .ok (.iload_n 2, 1) := by decide +kernel
theorem d_Tr_isTrue_17 : decode c_Tr_isTrue 17 = .ok (.bipush 63, 2) := by decide +kernel
theorem d_Tr_isTrue_19 : decode c_Tr_isTrue 19 = .ok (.iand, 1) := by decide +kernel
theorem d_Tr_isTrue_20 : decode c_Tr_isTrue 20 = .ok (.lushr, 1) := by decide +kernel
theorem d_Tr_isTrue_21 : decode c_Tr_isTrue 21 = .ok (.lconst 1, 1) := by decide +kernel
theorem d_Tr_isTrue_22 : decode c_Tr_isTrue 22 = .ok (.land, 1) := by decide +kernel
theorem d_Tr_isTrue_23 : decode c_Tr_isTrue 23 = .ok (.lconst 0, 1) := by decide +kernel
theorem d_Tr_isTrue_24 : decode c_Tr_isTrue 24 = .ok (.lcmp, 1) := by decide +kernel
theorem d_Tr_isTrue_25 : decode c_Tr_isTrue 25 = .ok (.ifCond .eq 7, 3) := by decide +kernel
theorem d_Tr_isTrue_28 : decode c_Tr_isTrue 28 = .ok (.iconst 1, 1) := by decide +kernel
theorem d_Tr_isTrue_29 : decode c_Tr_isTrue 29 = .ok (.goto 4, 3) := by decide +kernel
theorem d_Tr_isTrue_32 : decode c_Tr_isTrue 32 = .ok (.iconst 0, 1) := by decide +kernel
theorem d_Tr_isTrue_33 : decode c_Tr_isTrue 33 = .ok (.ireturn, 1) := by decide +kernel
theorem d_Tr_countTrue_0 : decode c_Tr_countTrue 0 = .ok (.iload_n 2, 1) := by decide +kernel
theorem d_Tr_countTrue_1 : decode c_Tr_countTrue 1 = .ok (.invokestatic 76, 3) := by decide +kernel
theorem d_Tr_countTrue_4 : decode c_Tr_countTrue 4 = .ok (.istore_n 3, 1) := by decide +kernel
theorem d_Tr_countTrue_5 : decode c_Tr_countTrue 5 = .ok (.iconst 0, 1) := by decide +kernel
theorem d_Tr_countTrue_6 : decode c_Tr_countTrue 6 = .ok (.istore 4, 2) := by decide +kernel
theorem d_Tr_countTrue_8 : decode c_Tr_countTrue 8 = .ok (.iconst 0, 1) := by decide +kernel
theorem d_Tr_countTrue_9 : decode c_Tr_countTrue 9 = .ok (.istore 5, 2) := by decide +kernel
theorem d_Tr_countTrue_11 : decode c_Tr_countTrue 11 = .ok (.iconst 0, 1) := by decide +kernel
theorem d_Tr_countTrue_12 : decode c_Tr_countTrue 12 = .ok (.istore 6, 2) := by decide +kernel
theorem d_Tr_countTrue_14 : decode c_Tr_countTrue 14 = .ok (.iload 6, 2) := by decide +kernel
theorem d_Tr_countTrue_16 : decode c_Tr_countTrue 16 = .ok (.iload_n 3, 1) := by decide +kernel
theorem d_Tr_countTrue_17 : decode c_Tr_countTrue 17 = .ok (.if_icmp .ge 30, 3) := by decide +kernel
theorem d_Tr_countTrue_20 : decode c_Tr_countTrue 20 = .ok (.aload_n 0, 1) := by decide +kernel
theorem d_Tr_countTrue_21 : decode c_Tr_countTrue 21 = .ok (.iload_n 1, 1) := by decide +kernel
theorem d_Tr_countTrue_22 : decode c_Tr_countTrue 22 = .ok (.iload 4, 2) := by decide +kernel
theorem d_Tr_countTrue_24 : decode c_Tr_countTrue 24 = .ok (.invokevirtual 79, 3) := by decide +kernel
theorem d_Tr_countTrue_27 : decode c_Tr_countTrue 27 = .ok (.ifCond .eq 6, 3) := by decide +kernel
theorem d_Tr_countTrue_30 : decode c_Tr_countTrue 30 = .ok (.iinc 5 1, 3) := by decide +kernel
theorem d_Tr_countTrue_33 : decode c_Tr_countTrue 33 = .ok (.iload 4, 2) := by decide +kernel
theorem d_Tr_countTrue_35 : decode c_Tr_countTrue 35 = .ok (.iload_n 2, 1) := by decide +kernel
theorem d_Tr_countTrue_36 : decode c_Tr_countTrue 36 = .ok (.invokestatic 83, 3) := by decide +kernel
theorem d_Tr_countTrue_39 : decode c_Tr_countTrue 39 = .ok (.istore 4, 2) := by decide +kernel
theorem d_Tr_countTrue_41 : decode c_Tr_countTrue 41 = .ok (.iinc 6 1, 3) := by decide +kernel
theorem d_Tr_countTrue_44 : decode c_Tr_countTrue 44 = .ok (.goto (-30), 3) := by decide +kernel
theorem d_Tr_countTrue_47 : decode c_Tr_countTrue 47 = .ok (.iload 5, 2) := by decide +kernel
theorem d_Tr_countTrue_49 : decode c_Tr_countTrue 49 = .ok (.ireturn, 1) := by decide +kernel
theorem d_Tr_isMinimal_0 : decode c_Tr_isMinimal 0 = .ok (.aload_n 0, 1) := by decide +kernel
theorem d_Tr_isMinimal_1 : decode c_Tr_isMinimal 1 = .ok (.iload_n 1, 1) := by decide +kernel
theorem d_Tr_isMinimal_2 : decode c_Tr_isMinimal 2 = .ok (.iload_n 2, 1) := by decide +kernel
theorem d_Tr_isMinimal_3 : decode c_Tr_isMinimal 3 = .ok (.invokevirtual 79, 3) := by decide +kernel
theorem d_Tr_isMinimal_6 : decode c_Tr_isMinimal 6 = .ok (.ifCond .ne 5, 3) := by decide +kernel
theorem d_Tr_isMinimal_9 : decode c_Tr_isMinimal 9 = .ok (.iconst 0, 1) := by decide +kernel
theorem d_Tr_isMinimal_10 : decode c_Tr_isMinimal 10 = .ok (.ireturn, 1) := by decide +kernel
theorem d_Tr_isMinimal_11 : decode c_Tr_isMinimal 11 = .ok (.iconst 1, 1) := by decide +kernel
theorem d_Tr_isMinimal_12 : decode c_Tr_isMinimal 12 = .ok (.istore_n 3, 1) := by decide +kernel
theorem d_Tr_isMinimal_13 : decode c_Tr_isMinimal 13 = .ok (.iload_n 3, 1) := by decide +kernel
theorem d_Tr_isMinimal_14 : decode c_Tr_isMinimal 14 = .ok (.sipush 4096, 3) := by decide +kernel
theorem d_Tr_isMinimal_17 : decode c_Tr_isMinimal 17 = .ok (.if_icmp .ge 29, 3) := by decide +kernel
theorem d_Tr_isMinimal_20 : decode c_Tr_isMinimal 20 = .ok (.iload_n 2, 1) := by decide +kernel
theorem d_Tr_isMinimal_21 : decode c_Tr_isMinimal 21 = .ok (.iload_n 3, 1) := by decide +kernel
theorem d_Tr_isMinimal_22 : decode c_Tr_isMinimal 22 = .ok (.iand, 1) := by decide +kernel
theorem d_Tr_isMinimal_23 : decode c_Tr_isMinimal 23 = .ok (.ifCond .eq 16, 3) := by decide +kernel
theorem d_Tr_isMinimal_26 : decode c_Tr_isMinimal 26 = .ok (.aload_n 0, 1) := by decide +kernel
theorem d_Tr_isMinimal_27 : decode c_Tr_isMinimal 27 = .ok (.iload_n 1, 1) := by decide +kernel
theorem d_Tr_isMinimal_28 : decode c_Tr_isMinimal 28 = .ok (.iload_n 2, 1) := by decide +kernel
theorem d_Tr_isMinimal_29 : decode c_Tr_isMinimal 29 = .ok (.iload_n 3, 1) := by decide +kernel
theorem d_Tr_isMinimal_30 : decode c_Tr_isMinimal 30 = .ok (.ixor, 1) := by decide +kernel
theorem d_Tr_isMinimal_31 : decode c_Tr_isMinimal 31 = .ok (.invokevirtual 79, 3) := by decide +kernel
theorem d_Tr_isMinimal_34 : decode c_Tr_isMinimal 34 = .ok (.ifCond .eq 5, 3) := by decide +kernel
theorem d_Tr_isMinimal_37 : decode c_Tr_isMinimal 37 = .ok (.iconst 0, 1) := by decide +kernel
theorem d_Tr_isMinimal_38 : decode c_Tr_isMinimal 38 = .ok (.ireturn, 1) := by decide +kernel
theorem d_Tr_isMinimal_39 : decode c_Tr_isMinimal 39 = .ok (.iload_n 3, 1) := by decide +kernel
theorem d_Tr_isMinimal_40 : decode c_Tr_isMinimal 40 = .ok (.iconst 1, 1) := by decide +kernel
theorem d_Tr_isMinimal_41 : decode c_Tr_isMinimal 41 = .ok (.ishl, 1) := by decide +kernel
theorem d_Tr_isMinimal_42 : decode c_Tr_isMinimal 42 = .ok (.istore_n 3, 1) := by decide +kernel
theorem d_Tr_isMinimal_43 : decode c_Tr_isMinimal 43 = .ok (.goto (-30), 3) := by decide +kernel
theorem d_Tr_isMinimal_46 : decode c_Tr_isMinimal 46 = .ok (.iconst 1, 1) := by decide +kernel
theorem d_Tr_isMinimal_47 : decode c_Tr_isMinimal 47 = .ok (.ireturn, 1) := by decide +kernel
end
section
theorem d_Od_init_0 : decode c_Od_init 0 = .ok (.aload_n 0, 1) := by decide +kernel
theorem d_Od_init_1 : decode c_Od_init 1 = .ok (.invokespecial 3, 3) := by decide +kernel
theorem d_Od_init_4 : decode c_Od_init 4 = .ok (.aload_n 0, 1) := by decide +kernel
theorem d_Od_init_5 : decode c_Od_init 5 = .ok (.new 9, 3) := by decide +kernel
theorem d_Od_init_8 : decode c_Od_init 8 = .ok (.dup, 1) := by decide +kernel
theorem d_Od_init_9 : decode c_Od_init 9 = .ok (.invokespecial 11, 3) := by decide +kernel
theorem d_Od_init_12 : decode c_Od_init 12 = .ok (.putfield 12, 3) := by decide +kernel
theorem d_Od_init_15 : decode c_Od_init 15 = .ok (.aload_n 0, 1) := by decide +kernel
theorem d_Od_init_16 : decode c_Od_init 16 = .ok (.iconst 0, 1) := by decide +kernel
theorem d_Od_init_17 : decode c_Od_init 17 = .ok (.putfield 18, 3) := by decide +kernel
theorem d_Od_init_20 : decode c_Od_init 20 = .ok (.aload_n 0, 1) := by decide +kernel
theorem d_Od_init_21 : decode c_Od_init 21 = .ok (.sipush 4096, 3) := by decide +kernel
theorem d_Od_init_24 : decode c_Od_init 24 = .ok (.newarray .long, 2) := by decide +kernel
theorem d_Od_init_26 : decode c_Od_init 26 = .ok (.putfield 22, 3) := by decide +kernel
theorem d_Od_init_29 : decode c_Od_init 29 = .ok (.aload_n 0, 1) := by decide +kernel
theorem d_Od_init_30 : decode c_Od_init 30 = .ok (.bipush 33, 2) := by decide +kernel
theorem d_Od_init_32 : decode c_Od_init 32 = .ok (.newarray .long, 2) := by decide +kernel
theorem d_Od_init_34 : decode c_Od_init 34 = .ok (.putfield 26, 3) := by decide +kernel
theorem d_Od_init_37 : decode c_Od_init 37 = .ok (.aload_n 0, 1) := by decide +kernel
theorem d_Od_init_38 : decode c_Od_init 38 = .ok (.aload_n 1, 1) := by decide +kernel
theorem d_Od_init_39 : decode c_Od_init 39 = .ok (.putfield 29, 3) := by decide +kernel
theorem d_Od_init_42 : decode c_Od_init 42 = .ok (.aload_n 0, 1) := by decide +kernel
theorem d_Od_init_43 : decode c_Od_init 43 = .ok (.aload_n 2, 1) := by decide +kernel
theorem d_Od_init_44 : decode c_Od_init 44 = .ok (.putfield 33, 3) := by decide +kernel
theorem d_Od_init_47 : decode c_Od_init 47 = .ok (.aload_n 0, 1) := by decide +kernel
theorem d_Od_init_48 : decode c_Od_init 48 = .ok (.aload_n 3, 1) := by decide +kernel
theorem d_Od_init_49 : decode c_Od_init 49 = .ok (.putfield 37, 3) := by decide +kernel
theorem d_Od_init_52 : decode c_Od_init 52 = .ok (.return_, 1) := by decide +kernel
theorem d_Od_work_0 : decode c_Od_work 0 = .ok (.aload_n 0, 1) := by decide +kernel
theorem d_Od_work_1 : decode c_Od_work 1 = .ok (.getfield 29, 3) := by decide +kernel
theorem d_Od_work_4 : decode c_Od_work 4 = .ok (.getfield 41, 3) := by decide +kernel
theorem d_Od_work_7 : decode c_Od_work 7 = .ok (.iload_n 1, 1) := by decide +kernel
theorem d_Od_work_8 : decode c_Od_work 8 = .ok (.iaload, 1) := by decide +kernel
theorem d_Od_work_9 : decode c_Od_work 9 = .ok (.istore_n 2, 1) := by decide +kernel
theorem d_Od_work_10 : decode c_Od_work 10 = .ok (.aload_n 0, 1) := by decide +kernel
theorem d_Od_work_11 : decode c_Od_work 11 = .ok (.iload_n 2, 1) := by decide +kernel
theorem d_Od_work_12 : decode c_Od_work 12 = .ok (.invokestatic 47, 3) := by decide +kernel
theorem d_Od_work_15 : decode c_Od_work 15 = .ok (.aload_n 0, 1) := by decide +kernel
theorem d_Od_work_16 : decode c_Od_work 16 = .ok (.getfield 37, 3) := by decide +kernel
theorem d_Od_work_19 : decode c_Od_work 19 = .ok (.iload_n 2, 1) := by decide +kernel
theorem d_Od_work_20 : decode c_Od_work 20 = .ok (.invokevirtual 53, 3) := by decide +kernel
theorem d_Od_work_23 : decode c_Od_work 23 = .ok (.iadd, 1) := by decide +kernel
theorem d_Od_work_24 : decode c_Od_work 24 = .ok (.bipush 14, 2) := by decide +kernel
theorem d_Od_work_26 : decode c_Od_work 26 = .ok (.if_icmp .gt 7, 3) := by decide +kernel
theorem d_Od_work_29 : decode c_Od_work 29 = .ok (.iconst 1, 1) := by decide +kernel
theorem d_Od_work_30 : decode c_Od_work 30 = .ok (.goto 4, 3) := by decide +kernel
theorem d_Od_work_33 : decode c_Od_work 33 = .ok (.iconst 0, 1) := by decide +kernel
theorem d_Od_work_34 : decode c_Od_work 34 = .ok (.putfield 18, 3) := by decide +kernel
theorem d_Od_work_37 : decode c_Od_work 37 = .ok (.aload_n 0, 1) := by decide +kernel
theorem d_Od_work_38 : decode c_Od_work 38 = .ok (.getfield 18, 3) := by decide +kernel
theorem d_Od_work_41 : decode c_Od_work 41 = .ok (.ifCond .eq 12, 3) := by decide +kernel
theorem d_Od_work_44 : decode c_Od_work 44 = .ok (.aload_n 0, 1) := by decide +kernel
theorem d_Od_work_45 : decode c_Od_work 45 = .ok (.iload_n 1, 1) := by decide +kernel
theorem d_Od_work_46 : decode c_Od_work 46 = .ok (.iload_n 2, 1) := by decide +kernel
theorem d_Od_work_47 : decode c_Od_work 47 = .ok (.invokevirtual 58, 3) := by decide +kernel
theorem d_Od_work_50 : decode c_Od_work 50 = .ok (.goto 8, 3) := by decide +kernel
theorem d_Od_work_53 : decode c_Od_work 53 = .ok (.aload_n 0, 1) := by decide +kernel
theorem d_Od_work_54 : decode c_Od_work 54 = .ok (.iload_n 1, 1) := by decide +kernel
theorem d_Od_work_55 : decode c_Od_work 55 = .ok (.invokevirtual 62, 3) := by decide +kernel
theorem d_Od_work_58 : decode c_Od_work 58 = .ok (.return_, 1) := by decide +kernel
theorem d_Od_workExactly_0 : decode c_Od_workExactly 0 = .ok (.aload_n 0, 1) := by decide +kernel
theorem d_Od_workExactly_1 : decode c_Od_workExactly 1 = .ok (.getfield 33, 3) := by decide +kernel
theorem d_Od_workExactly_4 : decode c_Od_workExactly 4 = .ok (.iload_n 1, 1) := by decide +kernel
theorem d_Od_workExactly_5 : decode c_Od_workExactly 5 = .ok (.invokevirtual 66, 3) := by decide +kernel
theorem d_Od_workExactly_8 : decode c_Od_workExactly 8 = .ok (.aload_n 0, 1) := by decide +kernel
theorem d_Od_workExactly_9 : decode c_Od_workExactly 9 = .ok (.iload_n 1, 1) := by decide +kernel
theorem d_Od_workExactly_10 : decode c_Od_workExactly 10 = .ok (.iload_n 2, 1) := by decide +kernel
theorem d_Od_workExactly_11 : decode c_Od_workExactly 11 = .ok (.invokevirtual 71, 3) := by decide +kernel
theorem d_Od_workExactly_14 : decode c_Od_workExactly 14 = .ok (.lconst 1, 1) := by decide +kernel
theorem d_Od_workExactly_15 : decode c_Od_workExactly 15 = .ok (.lstore_n 3, 1) := by decide +kernel
theorem d_Od_workExactly_16 : decode c_Od_workExactly 16 = .ok (.iconst 0, 1) := by decide +kernel
theorem d_Od_workExactly_17 : decode c_Od_workExactly 17 = .ok (.istore 5, 2) := by decide +kernel
theorem d_Od_workExactly_19 : decode c_Od_workExactly 19 = .ok (.iload 5, 2) := by decide +kernel
theorem d_Od_workExactly_21 : decode c_Od_workExactly 21 = .ok (.aload_n 0, 1) := by decide +kernel
theorem d_Od_workExactly_22 : decode c_Od_workExactly 22 = .ok (.getfield 37, 3) := by decide +kernel
theorem d_Od_workExactly_25 : decode c_Od_workExactly 25 = .ok (.getfield 74, 3) := by decide +kernel
theorem d_Od_workExactly_28 : decode c_Od_workExactly 28 = .ok (.if_icmp .ge 72, 3) := by decide +kernel
theorem d_Od_workExactly_31 : decode c_Od_workExactly 31 = .ok (.aload_n 0, 1) := by decide +kernel
theorem d_Od_workExactly_32 : decode c_Od_workExactly 32 = .ok (.getfield 37, 3) := by decide +kernel
theorem d_Od_workExactly_35 : decode c_Od_workExactly 35 = .ok (.iload 5, 2) := by decide +kernel
theorem d_Od_workExactly_37 : decode c_Od_workExactly 37 = .ok (.iload_n 2, 1) := by decide +kernel
theorem d_Od_workExactly_38 : decode c_Od_workExactly 38 = .ok (.invokevirtual 78, 3) := by decide +kernel
theorem d_Od_workExactly_41 : decode c_Od_workExactly 41 = .ok (.ifCond .eq 53, 3) := by decide +kernel
theorem d_Od_workExactly_44 : decode c_Od_workExactly 44 = .ok (.aload_n 0, 1) := by decide +kernel
theorem d_Od_workExactly_45 : decode c_Od_workExactly 45 = .ok (.iload_n 2, 1) := by decide +kernel
theorem d_Od_workExactly_46 : decode c_Od_workExactly 46 = .ok (.aload_n 0, 1) := by decide +kernel
theorem d_Od_workExactly_47 : decode c_Od_workExactly 47 = .ok (.getfield 37, 3) := by decide +kernel
theorem d_Od_workExactly_50 : decode c_Od_workExactly 50 = .ok (.getfield 82, 3) := by decide +kernel
theorem d_Od_workExactly_53 : decode c_Od_workExactly 53 = .ok (.iload 5, 2) := by decide +kernel
theorem d_Od_workExactly_55 : decode c_Od_workExactly 55 = .ok (.iaload, 1) := by decide +kernel
theorem d_Od_workExactly_56 : decode c_Od_workExactly 56 = .ok (.iload_n 2, 1) := by decide +kernel
theorem d_Od_workExactly_57 : decode c_Od_workExactly 57 = .ok (.iand, 1) := by decide +kernel
theorem d_Od_workExactly_58 : decode c_Od_workExactly 58 = .ok (.aload_n 0, 1) := by decide +kernel
theorem d_Od_workExactly_59 : decode c_Od_workExactly 59 = .ok (.getfield 37, 3) := by decide +kernel
theorem d_Od_workExactly_62 : decode c_Od_workExactly 62 = .ok (.getfield 85, 3) := by decide +kernel
theorem d_Od_workExactly_65 : decode c_Od_workExactly 65 = .ok (.iload 5, 2) := by decide +kernel
theorem d_Od_workExactly_67 : decode c_Od_workExactly 67 = .ok (.laload, 1) := by decide +kernel
theorem d_Od_workExactly_68 : decode c_Od_workExactly 68 = .ok (.aload_n 0, 1) := by decide +kernel
theorem d_Od_workExactly_69 : decode c_Od_workExactly 69 = .ok (.getfield 37, 3) := by decide +kernel
theorem d_Od_workExactly_72 : decode c_Od_workExactly 72 = .ok (.getfield 88, 3) := by decide +kernel
theorem d_Od_workExactly_75 : decode c_Od_workExactly 75 = .ok (.iload 5, 2) := by decide +kernel
theorem d_Od_workExactly_77 : decode c_Od_workExactly 77 = .ok (.laload, 1) := by decide +kernel
theorem d_Od_workExactly_78 : decode c_Od_workExactly 78 = .ok (.invokevirtual 91, 3) := by decide +kernel
theorem d_Od_workExactly_81 : decode c_Od_workExactly 81 = .ok (.lload_n 3, 1) := by decide +kernel
theorem d_Od_workExactly_82 : decode c_Od_workExactly 82 = .ok (.aload_n 0, 1) := by decide +kernel
theorem d_Od_workExactly_83 : decode c_Od_workExactly 83 = .ok (.getfield 37, 3) := by decide +kernel
theorem d_Od_workExactly_86 : decode c_Od_workExactly 86 = .ok (.getfield 88, 3) := by decide +kernel
theorem d_Od_workExactly_89 : decode c_Od_workExactly 89 = .ok (.iload 5, 2) := by decide +kernel
theorem d_Od_workExactly_91 : decode c_Od_workExactly 91 = .ok (.laload, 1) := by decide +kernel
theorem d_Od_workExactly_92 : decode c_Od_workExactly 92 = .ok (.lmul, 1) := by decide +kernel
theorem d_Od_workExactly_93 : decode c_Od_workExactly 93 = .ok (.lstore_n 3, 1) := by decide +kernel
theorem d_Od_workExactly_94 : decode c_Od_workExactly 94 = .ok (.iinc 5 1, 3) := by decide +kernel
theorem d_Od_workExactly_97 : decode c_Od_workExactly 97 = .ok (.goto (-78), 3) := by decide +kernel
theorem d_Od_workExactly_100 : decode c_Od_workExactly 100 = .ok (.iload_n 2, 1) := by decide +kernel
theorem d_Od_workExactly_101 : decode c_Od_workExactly 101 = .ok (.istore 5, 2) := by decide +kernel
theorem d_Od_workExactly_103 : decode c_Od_workExactly 103 = .ok (.iconst 0, 1) := by decide +kernel
theorem d_Od_workExactly_104 : decode c_Od_workExactly 104 = .ok (.istore 6, 2) := by decide +kernel
theorem d_Od_workExactly_106 : decode c_Od_workExactly 106 = .ok (.iload 6, 2) := by decide +kernel
theorem d_Od_workExactly_108 : decode c_Od_workExactly 108 = .ok (.aload_n 0, 1) := by decide +kernel
theorem d_Od_workExactly_109 : decode c_Od_workExactly 109 = .ok (.getfield 29, 3) := by decide +kernel
theorem d_Od_workExactly_112 : decode c_Od_workExactly 112 = .ok (.getfield 95, 3) := by decide +kernel
theorem d_Od_workExactly_115 : decode c_Od_workExactly 115 = .ok (.if_icmp .ge 88, 3) := by decide +kernel
theorem d_Od_workExactly_118 : decode c_Od_workExactly 118 = .ok (.aload_n 0, 1) := by decide +kernel
theorem d_Od_workExactly_119 : decode c_Od_workExactly 119 = .ok (.getfield 29, 3) := by decide +kernel
theorem d_Od_workExactly_122 : decode c_Od_workExactly 122 = .ok (.getfield 98, 3) := by decide +kernel
theorem d_Od_workExactly_125 : decode c_Od_workExactly 125 = .ok (.iload 6, 2) := by decide +kernel
theorem d_Od_workExactly_127 : decode c_Od_workExactly 127 = .ok (.iaload, 1) := by decide +kernel
theorem d_Od_workExactly_128 : decode c_Od_workExactly 128 = .ok (.istore 7, 2) := by decide +kernel
theorem d_Od_workExactly_130 : decode c_Od_workExactly 130 = .ok (.aload_n 0, 1) := by decide +kernel
theorem d_Od_workExactly_131 : decode c_Od_workExactly 131 = .ok (.getfield 29, 3) := by decide +kernel
theorem d_Od_workExactly_134 : decode c_Od_workExactly 134 = .ok (.getfield 41, 3) := by decide +kernel
theorem d_Od_workExactly_137 : decode c_Od_workExactly 137 = .ok (.iload 7, 2) := by decide +kernel
theorem d_Od_workExactly_139 : decode c_Od_workExactly 139 = .ok (.iaload, 1) := by decide +kernel
theorem d_Od_workExactly_140 : decode c_Od_workExactly 140 = .ok (.istore 8, 2) := by decide +kernel
theorem d_Od_workExactly_142 : decode c_Od_workExactly 142 = .ok (.iload_n 2, 1) := by decide +kernel
theorem d_Od_workExactly_143 : decode c_Od_workExactly 143 = .ok (.iload 8, 2) := by decide +kernel
theorem d_Od_workExactly_145 : decode c_Od_workExactly 145 = .ok (.iand, 1) := by decide +kernel
theorem d_Od_workExactly_146 : decode c_Od_workExactly 146 = .ok (.ifCond .eq 51, 3) := by decide +kernel
theorem d_Od_workExactly_149 : decode c_Od_workExactly 149 = .ok (.iload 5, 2) := by decide +kernel
theorem d_Od_workExactly_151 : decode c_Od_workExactly 151 = .ok (.iload 8, 2) := by decide +kernel
theorem d_Od_workExactly_153 : decode c_Od_workExactly 153 = .ok (.ixor, 1) := by decide +kernel
theorem d_Od_workExactly_154 : decode c_Od_workExactly 154 = .ok (.istore 5, 2) := by decide +kernel
theorem d_Od_workExactly_156 : decode c_Od_workExactly 156 = .ok (.aload_n 0, 1) := by decide +kernel
theorem d_Od_workExactly_157 : decode c_Od_workExactly 157 = .ok (.iload 5, 2) := by decide +kernel
theorem d_Od_workExactly_159 : decode c_Od_workExactly 159 = .ok (.iload 8, 2) := by decide +kernel
theorem d_Od_workExactly_161 : decode c_Od_workExactly 161 = .ok (.aload_n 0, 1) := by decide +kernel
theorem d_Od_workExactly_162 : decode c_Od_workExactly 162 = .ok (.getfield 29, 3) := by decide +kernel
theorem d_Od_workExactly_165 : decode c_Od_workExactly 165 = .ok (.getfield 101, 3) := by decide +kernel
theorem d_Od_workExactly_168 : decode c_Od_workExactly 168 = .ok (.iload 7, 2) := by decide +kernel
theorem d_Od_workExactly_170 : decode c_Od_workExactly 170 = .ok (.laload, 1) := by decide +kernel
theorem d_Od_workExactly_171 : decode c_Od_workExactly 171 = .ok (.aload_n 0, 1) := by decide +kernel
theorem d_Od_workExactly_172 : decode c_Od_workExactly 172 = .ok (.getfield 29, 3) := by decide +kernel
theorem d_Od_workExactly_175 : decode c_Od_workExactly 175 = .ok (.getfield 102, 3) := by decide +kernel
theorem d_Od_workExactly_178 : decode c_Od_workExactly 178 = .ok (.iload 7, 2) := by decide +kernel
theorem d_Od_workExactly_180 : decode c_Od_workExactly 180 = .ok (.laload, 1) := by decide +kernel
theorem d_Od_workExactly_181 : decode c_Od_workExactly 181 = .ok (.invokevirtual 91, 3) := by decide +kernel
theorem d_Od_workExactly_184 : decode c_Od_workExactly 184 = .ok (.lload_n 3, 1) := by decide +kernel
theorem d_Od_workExactly_185 : decode c_Od_workExactly 185 = .ok (.aload_n 0, 1) := by decide +kernel
theorem d_Od_workExactly_186 : decode c_Od_workExactly 186 = .ok (.getfield 29, 3) := by decide +kernel
theorem d_Od_workExactly_189 : decode c_Od_workExactly 189 = .ok (.getfield 102, 3) := by decide +kernel
theorem d_Od_workExactly_192 : decode c_Od_workExactly 192 = .ok (.iload 7, 2) := by decide +kernel
theorem d_Od_workExactly_194 : decode c_Od_workExactly 194 = .ok (.laload, 1) := by decide +kernel
theorem d_Od_workExactly_195 : decode c_Od_workExactly 195 = .ok (.lmul, 1) := by decide +kernel
theorem d_Od_workExactly_196 : decode c_Od_workExactly 196 = .ok (.lstore_n 3, 1) := by decide +kernel
theorem d_Od_workExactly_197 : decode c_Od_workExactly 197 = .ok (.iinc 6 1, 3) := by decide +kernel
theorem d_Od_workExactly_200 : decode c_Od_workExactly 200 = .ok (.goto (-94), 3) := by decide +kernel
theorem d_Od_workExactly_203 : decode c_Od_workExactly 203 = .ok (.aload_n 0, 1) := by decide +kernel
theorem d_Od_workExactly_204 : decode c_Od_workExactly 204 = .ok (.getfield 12, 3) := by decide +kernel
theorem d_Od_workExactly_207 : decode c_Od_workExactly 207 = .ok (.aload_n 0, 1) := by decide +kernel
theorem d_Od_workExactly_208 : decode c_Od_workExactly 208 = .ok (.getfield 22, 3) := by decide +kernel
theorem d_Od_workExactly_211 : decode c_Od_workExactly 211 = .ok (.iconst 0, 1) := by decide +kernel
theorem d_Od_workExactly_212 : decode c_Od_workExactly 212 = .ok (.laload, 1) := by decide +kernel
theorem d_Od_workExactly_213 : decode c_Od_workExactly 213 = .ok (.lload_n 3, 1) := by decide +kernel
theorem d_Od_workExactly_214 : decode c_Od_workExactly 214 = .ok (.invokevirtual 103, 3) := by decide +kernel
theorem d_Od_workExactly_217 : decode c_Od_workExactly 217 = .ok (.return_, 1) := by decide +kernel
theorem d_Od_weighSets_0 : decode c_Od_weighSets 0 = .ok (.iload_n 2, 1) := by decide +kernel
theorem d_Od_weighSets_1 : decode c_Od_weighSets 1 = .ok (.invokestatic 107, 3) := by decide +kernel
theorem d_Od_weighSets_4 : decode c_Od_weighSets 4 = .ok (.istore_n 3, 1) := by decide +kernel
theorem d_Od_weighSets_5 : decode c_Od_weighSets 5 = .ok (.iconst 0, 1) := by decide +kernel
theorem d_Od_weighSets_6 : decode c_Od_weighSets 6 = .ok (.istore 4, 2) := by decide +kernel
theorem d_Od_weighSets_8 : decode c_Od_weighSets 8 = .ok (.iconst 0, 1) := by decide +kernel
theorem d_Od_weighSets_9 : decode c_Od_weighSets 9 = .ok (.istore 5, 2) := by decide +kernel
theorem d_Od_weighSets_11 : decode c_Od_weighSets 11 = .ok (.iload 5, 2) := by decide +kernel
theorem d_Od_weighSets_13 : decode c_Od_weighSets 13 = .ok (.iload_n 3, 1) := by decide +kernel
theorem d_Od_weighSets_14 : decode c_Od_weighSets 14 = .ok (.if_icmp .ge 42, 3) := by decide +kernel
theorem d_Od_weighSets_17 : decode c_Od_weighSets 17 = .ok (.aload_n 0, 1) := by decide +kernel
theorem d_Od_weighSets_18 : decode c_Od_weighSets 18 = .ok (.getfield 22, 3) := by decide +kernel
theorem d_Od_weighSets_21 : decode c_Od_weighSets 21 = .ok (.iload 4, 2) := by decide +kernel
theorem d_Od_weighSets_23 : decode c_Od_weighSets 23 = .ok (.aload_n 0, 1) := by decide +kernel
theorem d_Od_weighSets_24 : decode c_Od_weighSets 24 = .ok (.getfield 33, 3) := by decide +kernel
theorem d_Od_weighSets_27 : decode c_Od_weighSets 27 = .ok (.iload_n 1, 1) := by decide +kernel
theorem d_Od_weighSets_28 : decode c_Od_weighSets 28 = .ok (.iload 4, 2) := by decide +kernel
theorem d_Od_weighSets_30 : decode c_Od_weighSets 30 = .ok (.invokevirtual 110, 3) := by decide +kernel
theorem d_Od_weighSets_33 : decode c_Od_weighSets 33 = .ok (.ifCond .eq 7, 3) := by decide +kernel
theorem d_Od_weighSets_36 : decode c_Od_weighSets 36 = .ok (.lconst 1, 1) := by decide +kernel
theorem d_Od_weighSets_37 : decode c_Od_weighSets 37 = .ok (.goto 4, 3) := by decide +kernel
theorem d_Od_weighSets_40 : decode c_Od_weighSets 40 = .ok (.lconst 0, 1) := by decide +kernel
theorem d_Od_weighSets_41 : decode c_Od_weighSets 41 = .ok (.lastore, 1) := by decide +kernel
theorem d_Od_weighSets_42 : decode c_Od_weighSets 42 = .ok (.iload 4, 2) := by decide +kernel
theorem d_Od_weighSets_44 : decode c_Od_weighSets 44 = .ok (.iload_n 2, 1) := by decide +kernel
theorem d_Od_weighSets_45 : decode c_Od_weighSets 45 = .ok (.invokestatic 113, 3) := by decide +kernel
theorem d_Od_weighSets_48 : decode c_Od_weighSets 48 = .ok (.istore 4, 2) := by decide +kernel
theorem d_Od_weighSets_50 : decode c_Od_weighSets 50 = .ok (.iinc 5 1, 3) := by decide +kernel
theorem d_Od_weighSets_53 : decode c_Od_weighSets 53 = .ok (.goto (-42), 3) := by decide +kernel
theorem d_Od_weighSets_56 : decode c_Od_weighSets 56 = .ok (.return_, 1) := by decide +kernel
theorem d_Od_mix_0 : decode c_Od_mix 0 = .ok (.iload_n 1, 1) := by decide +kernel
theorem d_Od_mix_1 : decode c_Od_mix 1 = .ok (.invokestatic 107, 3) := by decide +kernel
theorem d_Od_mix_4 : decode c_Od_mix 4 = .ok (.istore 7, 2) := by decide +kernel
theorem d_Od_mix_6 : decode c_Od_mix 6 = .ok (.iconst 0, 1) := by decide +kernel
theorem d_Od_mix_7 : decode c_Od_mix 7 = .ok (.istore 8, 2) := by decide +kernel
theorem d_Od_mix_9 : decode c_Od_mix 9 = .ok (.iconst 0, 1) := by decide +kernel
theorem d_Od_mix_10 : decode c_Od_mix 10 = .ok (.istore 9, 2) := by decide +kernel
theorem d_Od_mix_12 : decode c_Od_mix 12 = .ok (.iload 9, 2) := by decide +kernel
theorem d_Od_mix_14 : decode c_Od_mix 14 = .ok (.iload 7, 2) := by decide +kernel
theorem d_Od_mix_16 : decode c_Od_mix 16 = .ok (.if_icmp .ge 48, 3) := by decide +kernel
theorem d_Od_mix_19 : decode c_Od_mix 19 = .ok (.aload_n 0, 1) := by decide +kernel
theorem d_Od_mix_20 : decode c_Od_mix 20 = .ok (.getfield 22, 3) := by decide +kernel
theorem d_Od_mix_23 : decode c_Od_mix 23 = .ok (.iload 8, 2) := by decide +kernel
theorem d_Od_mix_25 : decode c_Od_mix 25 = .ok (.lload 5, 2) := by decide +kernel
theorem d_Od_mix_27 : decode c_Od_mix 27 = .ok (.lload_n 3, 1) := by decide +kernel
theorem d_Od_mix_28 : decode c_Od_mix 28 = .ok (.lsub, 1) := by decide +kernel
theorem d_Od_mix_29 : decode c_Od_mix 29 = .ok (.aload_n 0, 1) := by decide +kernel
theorem d_Od_mix_30 : decode c_Od_mix 30 = .ok (.getfield 22, 3) := by decide +kernel
theorem d_Od_mix_33 : decode c_Od_mix 33 = .ok (.iload 8, 2) := by decide +kernel
theorem d_Od_mix_35 : decode c_Od_mix 35 = .ok (.laload, 1) := by decide +kernel
theorem d_Od_mix_36 : decode c_Od_mix 36 = .ok (.lmul, 1) := by decide +kernel
theorem d_Od_mix_37 : decode c_Od_mix 37 = .ok (.lload_n 3, 1) := by decide +kernel
theorem d_Od_mix_38 : decode c_Od_mix 38 = .ok (.aload_n 0, 1) := by decide +kernel
theorem d_Od_mix_39 : decode c_Od_mix 39 = .ok (.getfield 22, 3) := by decide +kernel
theorem d_Od_mix_42 : decode c_Od_mix 42 = .ok (.iload 8, 2) := by decide +kernel
theorem d_Od_mix_44 : decode c_Od_mix 44 = .ok (.iload_n 2, 1) := by decide +kernel
theorem d_Od_mix_45 : decode c_Od_mix 45 = .ok (.ior, 1) := by decide +kernel
theorem d_Od_mix_46 : decode c_Od_mix 46 = .ok (.laload, 1) := by decide +kernel
theorem d_Od_mix_47 : decode c_Od_mix 47 = .ok (.lmul, 1) := by decide +kernel
theorem d_Od_mix_48 : decode c_Od_mix 48 = .ok (.ladd, 1) := by decide +kernel
theorem d_Od_mix_49 : decode c_Od_mix 49 = .ok (.lastore, 1) := by decide +kernel
theorem d_Od_mix_50 : decode c_Od_mix 50 = .ok (.iload 8, 2) := by decide +kernel
theorem d_Od_mix_52 : decode c_Od_mix 52 = .ok (.iload_n 1, 1) := by decide +kernel
theorem d_Od_mix_53 : decode c_Od_mix 53 = .ok (.invokestatic 113, 3) := by decide +kernel
theorem d_Od_mix_56 : decode c_Od_mix 56 = .ok (.istore 8, 2) := by decide +kernel
theorem d_Od_mix_58 : decode c_Od_mix 58 = .ok (.iinc 9 1, 3) := by decide +kernel
theorem d_Od_mix_61 : decode c_Od_mix 61 = .ok (.goto (-49), 3) := by decide +kernel
theorem d_Od_mix_64 : decode c_Od_mix 64 = .ok (.return_, 1) := by decide +kernel
theorem d_Od_workBound_0 : decode c_Od_workBound 0 = .ok (.iconst 0, 1) := by decide +kernel
theorem d_Od_workBound_1 : decode c_Od_workBound 1 = .ok (.istore_n 2, 1) := by decide +kernel
theorem d_Od_workBound_2 : decode c_Od_workBound 2 = .ok (.iload_n 2, 1) := by decide +kernel
theorem d_Od_workBound_3 : decode c_Od_workBound 3 = .ok (.aload_n 0, 1) := by decide +kernel
theorem d_Od_workBound_4 : decode c_Od_workBound 4 = .ok (.getfield 29, 3) := by decide +kernel
theorem d_Od_workBound_7 : decode c_Od_workBound 7 = .ok (.getfield 95, 3) := by decide +kernel
theorem d_Od_workBound_10 : decode c_Od_workBound 10 = .ok (.if_icmp .ge 30, 3) := by decide +kernel
theorem d_Od_workBound_13 : decode c_Od_workBound 13 = .ok (.aload_n 0, 1) := by decide +kernel
theorem d_Od_workBound_14 : decode c_Od_workBound 14 = .ok (.getfield 29, 3) := by decide +kernel
theorem d_Od_workBound_17 : decode c_Od_workBound 17 = .ok (.getfield 98, 3) := by decide +kernel
theorem d_Od_workBound_20 : decode c_Od_workBound 20 = .ok (.iload_n 2, 1) := by decide +kernel
theorem d_Od_workBound_21 : decode c_Od_workBound 21 = .ok (.iaload, 1) := by decide +kernel
theorem d_Od_workBound_22 : decode c_Od_workBound 22 = .ok (.istore_n 3, 1) := by decide +kernel
theorem d_Od_workBound_23 : decode c_Od_workBound 23 = .ok (.aload_n 0, 1) := by decide +kernel
theorem d_Od_workBound_24 : decode c_Od_workBound 24 = .ok (.getfield 26, 3) := by decide +kernel
theorem d_Od_workBound_27 : decode c_Od_workBound 27 = .ok (.iload_n 3, 1) := by decide +kernel
theorem d_Od_workBound_28 : decode c_Od_workBound 28 = .ok (.aload_n 0, 1) := by decide +kernel
theorem d_Od_workBound_29 : decode c_Od_workBound 29 = .ok (.iload_n 3, 1) := by decide +kernel
theorem d_Od_workBound_30 : decode c_Od_workBound 30 = .ok (.invokevirtual 117, 3) := by decide +kernel
theorem d_Od_workBound_33 : decode c_Od_workBound 33 = .ok (.lastore, 1) := by decide +kernel
theorem d_Od_workBound_34 : decode c_Od_workBound 34 = .ok (.iinc 2 1, 3) := by decide +kernel
theorem d_Od_workBound_37 : decode c_Od_workBound 37 = .ok (.goto (-35), 3) := by decide +kernel
theorem d_Od_workBound_40 : decode c_Od_workBound 40 = .ok (.aload_n 0, 1) := by decide +kernel
theorem d_Od_workBound_41 : decode c_Od_workBound 41 = .ok (.getfield 29, 3) := by decide +kernel
theorem d_Od_workBound_44 : decode c_Od_workBound 44 = .ok (.iload_n 1, 1) := by decide +kernel
theorem d_Od_workBound_45 : decode c_Od_workBound 45 = .ok (.invokevirtual 121, 3) := by decide +kernel
theorem d_Od_workBound_48 : decode c_Od_workBound 48 = .ok (.istore_n 2, 1) := by decide +kernel
theorem d_Od_workBound_49 : decode c_Od_workBound 49 = .ok (.iconst 0, 1) := by decide +kernel
theorem d_Od_workBound_50 : decode c_Od_workBound 50 = .ok (.istore_n 3, 1) := by decide +kernel
theorem d_Od_workBound_51 : decode c_Od_workBound 51 = .ok (.iload_n 3, 1) := by decide +kernel
theorem d_Od_workBound_52 : decode c_Od_workBound 52 = .ok (.iload_n 2, 1) := by decide +kernel
theorem d_Od_workBound_53 : decode c_Od_workBound 53 = .ok (.if_icmp .ge 36, 3) := by decide +kernel
theorem d_Od_workBound_56 : decode c_Od_workBound 56 = .ok (.aload_n 0, 1) := by decide +kernel
theorem d_Od_workBound_57 : decode c_Od_workBound 57 = .ok (.getfield 26, 3) := by decide +kernel
theorem d_Od_workBound_60 : decode c_Od_workBound 60 = .ok (.aload_n 0, 1) := by decide +kernel
theorem d_Od_workBound_61 : decode c_Od_workBound 61 = .ok (.getfield 29, 3) := by decide +kernel
theorem d_Od_workBound_64 : decode c_Od_workBound 64 = .ok (.getfield 124, 3) := by decide +kernel
theorem d_Od_workBound_67 : decode c_Od_workBound 67 = .ok (.iload_n 3, 1) := by decide +kernel
theorem d_Od_workBound_68 : decode c_Od_workBound 68 = .ok (.iaload, 1) := by decide +kernel
theorem d_Od_workBound_69 : decode c_Od_workBound 69 = .ok (.aload_n 0, 1) := by decide +kernel
theorem d_Od_workBound_70 : decode c_Od_workBound 70 = .ok (.aload_n 0, 1) := by decide +kernel
theorem d_Od_workBound_71 : decode c_Od_workBound 71 = .ok (.getfield 29, 3) := by decide +kernel
theorem d_Od_workBound_74 : decode c_Od_workBound 74 = .ok (.getfield 124, 3) := by decide +kernel
theorem d_Od_workBound_77 : decode c_Od_workBound 77 = .ok (.iload_n 3, 1) := by decide +kernel
theorem d_Od_workBound_78 : decode c_Od_workBound 78 = .ok (.iaload, 1) := by decide +kernel
theorem d_Od_workBound_79 : decode c_Od_workBound 79 = .ok (.invokevirtual 127, 3) := by decide +kernel
theorem d_Od_workBound_82 : decode c_Od_workBound 82 = .ok (.lastore, 1) := by decide +kernel
theorem d_Od_workBound_83 : decode c_Od_workBound 83 = .ok (.iinc 3 1, 3) := by decide +kernel
theorem d_Od_workBound_86 : decode c_Od_workBound 86 = .ok (.goto (-35), 3) := by decide +kernel
theorem d_Od_workBound_89 : decode c_Od_workBound 89 = .ok (.aload_n 0, 1) := by decide +kernel
theorem d_Od_workBound_90 : decode c_Od_workBound 90 = .ok (.getfield 12, 3) := by decide +kernel
theorem d_Od_workBound_93 : decode c_Od_workBound 93 = .ok (.aload_n 0, 1) := by decide +kernel
theorem d_Od_workBound_94 : decode c_Od_workBound 94 = .ok (.getfield 26, 3) := by decide +kernel
theorem d_Od_workBound_97 : decode c_Od_workBound 97 = .ok (.iload_n 1, 1) := by decide +kernel
theorem d_Od_workBound_98 : decode c_Od_workBound 98 = .ok (.laload, 1) := by decide +kernel
theorem d_Od_workBound_99 : decode c_Od_workBound 99 = .ok (.ldc2_w 130, 3) := by decide +kernel
theorem d_Od_workBound_102 : decode c_Od_workBound 102 = .ok (.invokevirtual 103, 3) := by decide +kernel
theorem d_Od_workBound_105 : decode c_Od_workBound 105 = .ok (.return_, 1) := by decide +kernel
theorem d_Od_eventBound_0 : decode c_Od_eventBound 0 = .ok (.aload_n 0, 1) := by decide +kernel
theorem d_Od_eventBound_1 : decode c_Od_eventBound 1 = .ok (.getfield 29, 3) := by decide +kernel
theorem d_Od_eventBound_4 : decode c_Od_eventBound 4 = .ok (.getfield 101, 3) := by decide +kernel
theorem d_Od_eventBound_7 : decode c_Od_eventBound 7 = .ok (.iload_n 1, 1) := by decide +kernel
theorem d_Od_eventBound_8 : decode c_Od_eventBound 8 = .ok (.laload, 1) := by decide +kernel
theorem d_Od_eventBound_9 : decode c_Od_eventBound 9 = .ok (.aload_n 0, 1) := by decide +kernel
theorem d_Od_eventBound_10 : decode c_Od_eventBound 10 = .ok (.getfield 29, 3) := by decide +kernel
theorem d_Od_eventBound_13 : decode c_Od_eventBound 13 = .ok (.getfield 102, 3) := by decide +kernel
theorem d_Od_eventBound_16 : decode c_Od_eventBound 16 = .ok (.iload_n 1, 1) := by decide +kernel
theorem d_Od_eventBound_17 : decode c_Od_eventBound 17 = .ok (.laload, 1) := by decide +kernel
theorem d_Od_eventBound_18 : decode c_Od_eventBound 18 = .ok (.invokestatic 132, 3) := by decide +kernel
theorem d_Od_eventBound_21 : decode c_Od_eventBound 21 = .ok (.lstore_n 2, 1) := by decide +kernel
theorem d_Od_eventBound_22 : decode c_Od_eventBound 22 = .ok (.iconst 0, 1) := by decide +kernel
theorem d_Od_eventBound_23 : decode c_Od_eventBound 23 = .ok (.istore 4, 2) := by decide +kernel
theorem d_Od_eventBound_25 : decode c_Od_eventBound 25 = .ok (.iload 4, 2) := by decide +kernel
theorem d_Od_eventBound_27 : decode c_Od_eventBound 27 = .ok (.aload_n 0, 1) := by decide +kernel
theorem d_Od_eventBound_28 : decode c_Od_eventBound 28 = .ok (.getfield 37, 3) := by decide +kernel
theorem d_Od_eventBound_31 : decode c_Od_eventBound 31 = .ok (.getfield 74, 3) := by decide +kernel
theorem d_Od_eventBound_34 : decode c_Od_eventBound 34 = .ok (.if_icmp .ge 56, 3) := by decide +kernel
theorem d_Od_eventBound_37 : decode c_Od_eventBound 37 = .ok (.aload_n 0, 1) := by decide +kernel
theorem d_Od_eventBound_38 : decode c_Od_eventBound 38 = .ok (.getfield 37, 3) := by decide +kernel
theorem d_Od_eventBound_41 : decode c_Od_eventBound 41 = .ok (.iload 4, 2) := by decide +kernel
theorem d_Od_eventBound_43 : decode c_Od_eventBound 43 = .ok (.aload_n 0, 1) := by decide +kernel
theorem d_Od_eventBound_44 : decode c_Od_eventBound 44 = .ok (.getfield 29, 3) := by decide +kernel
theorem d_Od_eventBound_47 : decode c_Od_eventBound 47 = .ok (.getfield 41, 3) := by decide +kernel
theorem d_Od_eventBound_50 : decode c_Od_eventBound 50 = .ok (.iload_n 1, 1) := by decide +kernel
theorem d_Od_eventBound_51 : decode c_Od_eventBound 51 = .ok (.iaload, 1) := by decide +kernel
theorem d_Od_eventBound_52 : decode c_Od_eventBound 52 = .ok (.invokevirtual 78, 3) := by decide +kernel
theorem d_Od_eventBound_55 : decode c_Od_eventBound 55 = .ok (.ifCond .eq 29, 3) := by decide +kernel
theorem d_Od_eventBound_58 : decode c_Od_eventBound 58 = .ok (.lload_n 2, 1) := by decide +kernel
theorem d_Od_eventBound_59 : decode c_Od_eventBound 59 = .ok (.aload_n 0, 1) := by decide +kernel
theorem d_Od_eventBound_60 : decode c_Od_eventBound 60 = .ok (.getfield 37, 3) := by decide +kernel
theorem d_Od_eventBound_63 : decode c_Od_eventBound 63 = .ok (.getfield 85, 3) := by decide +kernel
theorem d_Od_eventBound_66 : decode c_Od_eventBound 66 = .ok (.iload 4, 2) := by decide +kernel
theorem d_Od_eventBound_68 : decode c_Od_eventBound 68 = .ok (.laload, 1) := by decide +kernel
theorem d_Od_eventBound_69 : decode c_Od_eventBound 69 = .ok (.aload_n 0, 1) := by decide +kernel
theorem d_Od_eventBound_70 : decode c_Od_eventBound 70 = .ok (.getfield 37, 3) := by decide +kernel
theorem d_Od_eventBound_73 : decode c_Od_eventBound 73 = .ok (.getfield 88, 3) := by decide +kernel
theorem d_Od_eventBound_76 : decode c_Od_eventBound 76 = .ok (.iload 4, 2) := by decide +kernel
theorem d_Od_eventBound_78 : decode c_Od_eventBound 78 = .ok (.laload, 1) := by decide +kernel
theorem d_Od_eventBound_79 : decode c_Od_eventBound 79 = .ok (.invokestatic 132, 3) := by decide +kernel
theorem d_Od_eventBound_82 : decode c_Od_eventBound 82 = .ok (.ladd, 1) := by decide +kernel
theorem d_Od_eventBound_83 : decode c_Od_eventBound 83 = .ok (.lstore_n 2, 1) := by decide +kernel
theorem d_Od_eventBound_84 : decode c_Od_eventBound 84 = .ok (.iinc 4 1, 3) := by decide +kernel
theorem d_Od_eventBound_87 : decode c_Od_eventBound 87 = .ok (.goto (-62), 3) := by decide +kernel
theorem d_Od_eventBound_90 : decode c_Od_eventBound 90 = .ok (.lload_n 2, 1) := by decide +kernel
theorem d_Od_eventBound_91 : decode c_Od_eventBound 91 = .ok (.ldc2_w 130, 3) := by decide +kernel
theorem d_Od_eventBound_94 : decode c_Od_eventBound 94 = .ok (.invokestatic 136, 3) := by decide +kernel
theorem d_Od_eventBound_97 : decode c_Od_eventBound 97 = .ok (.lreturn, 1) := by decide +kernel
theorem d_Od_inParts_0 : decode c_Od_inParts 0 = .ok (.lload_n 2, 1) := by decide +kernel
theorem d_Od_inParts_1 : decode c_Od_inParts 1 = .ok (.lconst 1, 1) := by decide +kernel
theorem d_Od_inParts_2 : decode c_Od_inParts 2 = .ok (.lcmp, 1) := by decide +kernel
theorem d_Od_inParts_3 : decode c_Od_inParts 3 = .ok (.ifCond .ge 7, 3) := by decide +kernel
theorem d_Od_inParts_6 : decode c_Od_inParts 6 = .ok (.lconst 0, 1) := by decide +kernel
theorem d_Od_inParts_7 : decode c_Od_inParts 7 = .ok (.goto 10, 3) := by decide +kernel
theorem d_Od_inParts_10 : decode c_Od_inParts 10 = .ok (.lload_n 0, 1) := by decide +kernel
theorem d_Od_inParts_11 : decode c_Od_inParts 11 = .ok (.ldc2_w 130, 3) := by decide +kernel
theorem d_Od_inParts_14 : decode c_Od_inParts 14 = .ok (.lload_n 2, 1) := by decide +kernel
theorem d_Od_inParts_15 : decode c_Od_inParts 15 = .ok (.ldiv, 1) := by decide +kernel
theorem d_Od_inParts_16 : decode c_Od_inParts 16 = .ok (.lmul, 1) := by decide +kernel
theorem d_Od_inParts_17 : decode c_Od_inParts 17 = .ok (.lreturn, 1) := by decide +kernel
theorem d_Od_gateBound_0 : decode c_Od_gateBound 0 = .ok (.ldc2_w 130, 3) := by decide +kernel
theorem d_Od_gateBound_3 : decode c_Od_gateBound 3 = .ok (.lstore_n 2, 1) := by decide +kernel
theorem d_Od_gateBound_4 : decode c_Od_gateBound 4 = .ok (.lconst 0, 1) := by decide +kernel
theorem d_Od_gateBound_5 : decode c_Od_gateBound 5 = .ok (.lstore 4, 2) := by decide +kernel
theorem d_Od_gateBound_7 : decode c_Od_gateBound 7 = .ok (.iconst 0, 1) := by decide +kernel
theorem d_Od_gateBound_8 : decode c_Od_gateBound 8 = .ok (.istore 6, 2) := by decide +kernel
theorem d_Od_gateBound_10 : decode c_Od_gateBound 10 = .ok (.iload 6, 2) := by decide +kernel
theorem d_Od_gateBound_12 : decode c_Od_gateBound 12 = .ok (.aload_n 0, 1) := by decide +kernel
theorem d_Od_gateBound_13 : decode c_Od_gateBound 13 = .ok (.getfield 29, 3) := by decide +kernel
theorem d_Od_gateBound_16 : decode c_Od_gateBound 16 = .ok (.getfield 141, 3) := by decide +kernel
theorem d_Od_gateBound_19 : decode c_Od_gateBound 19 = .ok (.iload_n 1, 1) := by decide +kernel
theorem d_Od_gateBound_20 : decode c_Od_gateBound 20 = .ok (.iaload, 1) := by decide +kernel
theorem d_Od_gateBound_21 : decode c_Od_gateBound 21 = .ok (.if_icmp .ge 42, 3) := by decide +kernel
theorem d_Od_gateBound_24 : decode c_Od_gateBound 24 = .ok (.aload_n 0, 1) := by decide +kernel
theorem d_Od_gateBound_25 : decode c_Od_gateBound 25 = .ok (.getfield 26, 3) := by decide +kernel
theorem d_Od_gateBound_28 : decode c_Od_gateBound 28 = .ok (.aload_n 0, 1) := by decide +kernel
theorem d_Od_gateBound_29 : decode c_Od_gateBound 29 = .ok (.getfield 29, 3) := by decide +kernel
theorem d_Od_gateBound_32 : decode c_Od_gateBound 32 = .ok (.getfield 144, 3) := by decide +kernel
theorem d_Od_gateBound_35 : decode c_Od_gateBound 35 = .ok (.iload_n 1, 1) := by decide +kernel
theorem d_Od_gateBound_36 : decode c_Od_gateBound 36 = .ok (.aaload, 1) := by decide +kernel
theorem d_Od_gateBound_37 : decode c_Od_gateBound 37 = .ok (.iload 6, 2) := by decide +kernel
theorem d_Od_gateBound_39 : decode c_Od_gateBound 39 = .ok (.iaload, 1) := by decide +kernel
theorem d_Od_gateBound_40 : decode c_Od_gateBound 40 = .ok (.laload, 1) := by decide +kernel
theorem d_Od_gateBound_41 : decode c_Od_gateBound 41 = .ok (.lstore 7, 2) := by decide +kernel
theorem d_Od_gateBound_43 : decode c_Od_gateBound 43 = .ok (.lload_n 2, 1) := by decide +kernel
theorem d_Od_gateBound_44 : decode c_Od_gateBound 44 = .ok (.lload 7, 2) := by decide +kernel
theorem d_Od_gateBound_46 : decode c_Od_gateBound 46 = .ok (.invokestatic 136, 3) := by decide +kernel
theorem d_Od_gateBound_49 : decode c_Od_gateBound 49 = .ok (.lstore_n 2, 1) := by decide +kernel
theorem d_Od_gateBound_50 : decode c_Od_gateBound 50 = .ok (.lload 4, 2) := by decide +kernel
theorem d_Od_gateBound_52 : decode c_Od_gateBound 52 = .ok (.lload 7, 2) := by decide +kernel
theorem d_Od_gateBound_54 : decode c_Od_gateBound 54 = .ok (.ladd, 1) := by decide +kernel
theorem d_Od_gateBound_55 : decode c_Od_gateBound 55 = .ok (.lstore 4, 2) := by decide +kernel
theorem d_Od_gateBound_57 : decode c_Od_gateBound 57 = .ok (.iinc 6 1, 3) := by decide +kernel
theorem d_Od_gateBound_60 : decode c_Od_gateBound 60 = .ok (.goto (-50), 3) := by decide +kernel
theorem d_Od_gateBound_63 : decode c_Od_gateBound 63 = .ok (.aload_n 0, 1) := by decide +kernel
theorem d_Od_gateBound_64 : decode c_Od_gateBound 64 = .ok (.getfield 29, 3) := by decide +kernel
theorem d_Od_gateBound_67 : decode c_Od_gateBound 67 = .ok (.getfield 148, 3) := by decide +kernel
theorem d_Od_gateBound_70 : decode c_Od_gateBound 70 = .ok (.iload_n 1, 1) := by decide +kernel
theorem d_Od_gateBound_71 : decode c_Od_gateBound 71 = .ok (.iaload, 1) := by decide +kernel
theorem d_Od_gateBound_72 : decode c_Od_gateBound 72 = .ok (.ifCond .ne 5, 3) := by decide +kernel
theorem d_Od_gateBound_75 : decode c_Od_gateBound 75 = .ok (.lload_n 2, 1) := by decide +kernel
theorem d_Od_gateBound_76 : decode c_Od_gateBound 76 = .ok (.lreturn, 1) := by decide +kernel
theorem d_Od_gateBound_77 : decode c_Od_gateBound 77 = .ok (.aload_n 0, 1) := by decide +kernel
theorem d_Od_gateBound_78 : decode c_Od_gateBound 78 = .ok (.getfield 29, 3) := by decide +kernel
theorem d_Od_gateBound_81 : decode c_Od_gateBound 81 = .ok (.getfield 151, 3) := by decide +kernel
theorem d_Od_gateBound_84 : decode c_Od_gateBound 84 = .ok (.iload_n 1, 1) := by decide +kernel
theorem d_Od_gateBound_85 : decode c_Od_gateBound 85 = .ok (.iaload, 1) := by decide +kernel
theorem d_Od_gateBound_86 : decode c_Od_gateBound 86 = .ok (.i2l, 1) := by decide +kernel
theorem d_Od_gateBound_87 : decode c_Od_gateBound 87 = .ok (.lstore 6, 2) := by decide +kernel
theorem d_Od_gateBound_89 : decode c_Od_gateBound 89 = .ok (.aload_n 0, 1) := by decide +kernel
theorem d_Od_gateBound_90 : decode c_Od_gateBound 90 = .ok (.getfield 29, 3) := by decide +kernel
theorem d_Od_gateBound_93 : decode c_Od_gateBound 93 = .ok (.getfield 148, 3) := by decide +kernel
theorem d_Od_gateBound_96 : decode c_Od_gateBound 96 = .ok (.iload_n 1, 1) := by decide +kernel
theorem d_Od_gateBound_97 : decode c_Od_gateBound 97 = .ok (.iaload, 1) := by decide +kernel
theorem d_Od_gateBound_98 : decode c_Od_gateBound 98 = .ok (.iconst 2, 1) := by decide +kernel
theorem d_Od_gateBound_99 : decode c_Od_gateBound 99 = .ok (.if_icmp .ne 22, 3) := by decide +kernel
theorem d_Od_gateBound_102 : decode c_Od_gateBound 102 = .ok (.lload 6, 2) := by decide +kernel
theorem d_Od_gateBound_104 : decode c_Od_gateBound 104 = .ok (.lconst 0, 1) := by decide +kernel
theorem d_Od_gateBound_105 : decode c_Od_gateBound 105 = .ok (.lcmp, 1) := by decide +kernel
theorem d_Od_gateBound_106 : decode c_Od_gateBound 106 = .ok (.ifCond .le 15, 3) := by decide +kernel
theorem d_Od_gateBound_109 : decode c_Od_gateBound 109 = .ok (.lload 4, 2) := by decide +kernel
theorem d_Od_gateBound_111 : decode c_Od_gateBound 111 = .ok (.lload 6, 2) := by decide +kernel
theorem d_Od_gateBound_113 : decode c_Od_gateBound 113 = .ok (.ladd, 1) := by decide +kernel
theorem d_Od_gateBound_114 : decode c_Od_gateBound 114 = .ok (.lconst 1, 1) := by decide +kernel
theorem d_Od_gateBound_115 : decode c_Od_gateBound 115 = .ok (.lsub, 1) := by decide +kernel
theorem d_Od_gateBound_116 : decode c_Od_gateBound 116 = .ok (.lload 6, 2) := by decide +kernel
theorem d_Od_gateBound_118 : decode c_Od_gateBound 118 = .ok (.ldiv, 1) := by decide +kernel
theorem d_Od_gateBound_119 : decode c_Od_gateBound 119 = .ok (.lstore 4, 2) := by decide +kernel
theorem d_Od_gateBound_121 : decode c_Od_gateBound 121 = .ok (.lload 4, 2) := by decide +kernel
theorem d_Od_gateBound_123 : decode c_Od_gateBound 123 = .ok (.ldc2_w 130, 3) := by decide +kernel
theorem d_Od_gateBound_126 : decode c_Od_gateBound 126 = .ok (.invokestatic 136, 3) := by decide +kernel
theorem d_Od_gateBound_129 : decode c_Od_gateBound 129 = .ok (.lreturn, 1) := by decide +kernel
theorem d_Go_init_0 : decode c_Go_init 0 = .ok (.aload_n 0, 1) := by decide +kernel
theorem d_Go_init_1 : decode c_Go_init 1 = .ok (.invokespecial 3, 3) := by decide +kernel
theorem d_Go_init_4 : decode c_Go_init 4 = .ok (.aload_n 0, 1) := by decide +kernel
theorem d_Go_init_5 : decode c_Go_init 5 = .ok (.iconst 0, 1) := by decide +kernel
theorem d_Go_init_6 : decode c_Go_init 6 = .ok (.putfield 9, 3) := by decide +kernel
theorem d_Go_init_9 : decode c_Go_init 9 = .ok (.aload_n 0, 1) := by decide +kernel
theorem d_Go_init_10 : decode c_Go_init 10 = .ok (.iconst 0, 1) := by decide +kernel
theorem d_Go_init_11 : decode c_Go_init 11 = .ok (.putfield 15, 3) := by decide +kernel
theorem d_Go_init_14 : decode c_Go_init 14 = .ok (.aload_n 0, 1) := by decide +kernel
theorem d_Go_init_15 : decode c_Go_init 15 = .ok (.bipush 31, 2) := by decide +kernel
theorem d_Go_init_17 : decode c_Go_init 17 = .ok (.newarray .int, 2) := by decide +kernel
theorem d_Go_init_19 : decode c_Go_init 19 = .ok (.putfield 18, 3) := by decide +kernel
theorem d_Go_init_22 : decode c_Go_init 22 = .ok (.aload_n 0, 1) := by decide +kernel
theorem d_Go_init_23 : decode c_Go_init 23 = .ok (.bipush 100, 2) := by decide +kernel
theorem d_Go_init_25 : decode c_Go_init 25 = .ok (.newarray .int, 2) := by decide +kernel
theorem d_Go_init_27 : decode c_Go_init 27 = .ok (.putfield 22, 3) := by decide +kernel
theorem d_Go_init_30 : decode c_Go_init 30 = .ok (.aload_n 0, 1) := by decide +kernel
theorem d_Go_init_31 : decode c_Go_init 31 = .ok (.bipush 100, 2) := by decide +kernel
theorem d_Go_init_33 : decode c_Go_init 33 = .ok (.newarray .int, 2) := by decide +kernel
theorem d_Go_init_35 : decode c_Go_init 35 = .ok (.putfield 25, 3) := by decide +kernel
theorem d_Go_init_38 : decode c_Go_init 38 = .ok (.aload_n 0, 1) := by decide +kernel
theorem d_Go_init_39 : decode c_Go_init 39 = .ok (.bipush 100, 2) := by decide +kernel
theorem d_Go_init_41 : decode c_Go_init 41 = .ok (.newarray .int, 2) := by decide +kernel
theorem d_Go_init_43 : decode c_Go_init 43 = .ok (.putfield 28, 3) := by decide +kernel
theorem d_Go_init_46 : decode c_Go_init 46 = .ok (.return_, 1) := by decide +kernel
theorem d_Go_add_0 : decode c_Go_add 0 = .ok (.aload_n 0, 1) := by decide +kernel
theorem d_Go_add_1 : decode c_Go_add 1 = .ok (.dup, 1) := by decide +kernel
theorem d_Go_add_2 : decode c_Go_add 2 = .ok (.getfield 9, 3) := by decide +kernel
theorem d_Go_add_5 : decode c_Go_add 5 = .ok (.iconst 1, 1) := by decide +kernel
theorem d_Go_add_6 : decode c_Go_add 6 = .ok (.iadd, 1) := by decide +kernel
theorem d_Go_add_7 : decode c_Go_add 7 = .ok (.putfield 9, 3) := by decide +kernel
theorem d_Go_add_10 : decode c_Go_add 10 = .ok (.aload_n 0, 1) := by decide +kernel
theorem d_Go_add_11 : decode c_Go_add 11 = .ok (.getfield 18, 3) := by decide +kernel
theorem d_Go_add_14 : decode c_Go_add 14 = .ok (.aload_n 0, 1) := by decide +kernel
theorem d_Go_add_15 : decode c_Go_add 15 = .ok (.getfield 9, 3) := by decide +kernel
theorem d_Go_add_18 : decode c_Go_add 18 = .ok (.iload_n 1, 1) := by decide +kernel
theorem d_Go_add_19 : decode c_Go_add 19 = .ok (.iastore, 1) := by decide +kernel
theorem d_Go_add_20 : decode c_Go_add 20 = .ok (.aload_n 0, 1) := by decide +kernel
theorem d_Go_add_21 : decode c_Go_add 21 = .ok (.getfield 9, 3) := by decide +kernel
theorem d_Go_add_24 : decode c_Go_add 24 = .ok (.ireturn, 1) := by decide +kernel
theorem d_Go_addRow_0 : decode c_Go_addRow 0 = .ok (.aload_n 0, 1) := by decide +kernel
theorem d_Go_addRow_1 : decode c_Go_addRow 1 = .ok (.getfield 22, 3) := by decide +kernel
theorem d_Go_addRow_4 : decode c_Go_addRow 4 = .ok (.aload_n 0, 1) := by decide +kernel
theorem d_Go_addRow_5 : decode c_Go_addRow 5 = .ok (.getfield 15, 3) := by decide +kernel
theorem d_Go_addRow_8 : decode c_Go_addRow 8 = .ok (.iload_n 1, 1) := by decide +kernel
theorem d_Go_addRow_9 : decode c_Go_addRow 9 = .ok (.iastore, 1) := by decide +kernel
theorem d_Go_addRow_10 : decode c_Go_addRow 10 = .ok (.aload_n 0, 1) := by decide +kernel
theorem d_Go_addRow_11 : decode c_Go_addRow 11 = .ok (.getfield 25, 3) := by decide +kernel
theorem d_Go_addRow_14 : decode c_Go_addRow 14 = .ok (.aload_n 0, 1) := by decide +kernel
theorem d_Go_addRow_15 : decode c_Go_addRow 15 = .ok (.getfield 15, 3) := by decide +kernel
theorem d_Go_addRow_18 : decode c_Go_addRow 18 = .ok (.iload_n 2, 1) := by decide +kernel
theorem d_Go_addRow_19 : decode c_Go_addRow 19 = .ok (.iastore, 1) := by decide +kernel
theorem d_Go_addRow_20 : decode c_Go_addRow 20 = .ok (.aload_n 0, 1) := by decide +kernel
theorem d_Go_addRow_21 : decode c_Go_addRow 21 = .ok (.getfield 28, 3) := by decide +kernel
theorem d_Go_addRow_24 : decode c_Go_addRow 24 = .ok (.aload_n 0, 1) := by decide +kernel
theorem d_Go_addRow_25 : decode c_Go_addRow 25 = .ok (.getfield 15, 3) := by decide +kernel
theorem d_Go_addRow_28 : decode c_Go_addRow 28 = .ok (.iload_n 3, 1) := by decide +kernel
theorem d_Go_addRow_29 : decode c_Go_addRow 29 = .ok (.iastore, 1) := by decide +kernel
theorem d_Go_addRow_30 : decode c_Go_addRow 30 = .ok (.aload_n 0, 1) := by decide +kernel
theorem d_Go_addRow_31 : decode c_Go_addRow 31 = .ok (.dup, 1) := by decide +kernel
theorem d_Go_addRow_32 : decode c_Go_addRow 32 = .ok (.getfield 15, 3) := by decide +kernel
theorem d_Go_addRow_35 : decode c_Go_addRow 35 = .ok (.iconst 1, 1) := by decide +kernel
theorem d_Go_addRow_36 : decode c_Go_addRow 36 = .ok (.iadd, 1) := by decide +kernel
theorem d_Go_addRow_37 : decode c_Go_addRow 37 = .ok (.putfield 15, 3) := by decide +kernel
theorem d_Go_addRow_40 : decode c_Go_addRow 40 = .ok (.aload_n 0, 1) := by decide +kernel
theorem d_Go_addRow_41 : decode c_Go_addRow 41 = .ok (.getfield 15, 3) := by decide +kernel
theorem d_Go_addRow_44 : decode c_Go_addRow 44 = .ok (.ireturn, 1) := by decide +kernel
theorem d_Go_hasRow_0 : decode c_Go_hasRow 0 = .ok (.iconst 0, 1) := by decide +kernel
theorem d_Go_hasRow_1 : decode c_Go_hasRow 1 = .ok (.istore 4, 2) := by decide +kernel
theorem d_Go_hasRow_3 : decode c_Go_hasRow 3 = .ok (.iload 4, 2) := by decide +kernel
theorem d_Go_hasRow_5 : decode c_Go_hasRow 5 = .ok (.aload_n 0, 1) := by decide +kernel
theorem d_Go_hasRow_6 : decode c_Go_hasRow 6 = .ok (.getfield 15, 3) := by decide +kernel
theorem d_Go_hasRow_9 : decode c_Go_hasRow 9 = .ok (.if_icmp .ge 44, 3) := by decide +kernel
theorem d_Go_hasRow_12 : decode c_Go_hasRow 12 = .ok (.aload_n 0, 1) := by decide +kernel
theorem d_Go_hasRow_13 : decode c_Go_hasRow 13 = .ok (.getfield 22, 3) := by decide +kernel
theorem d_Go_hasRow_16 : decode c_Go_hasRow 16 = .ok (.iload 4, 2) := by decide +kernel
theorem d_Go_hasRow_18 : decode c_Go_hasRow 18 = .ok (.iaload, 1) := by decide +kernel
theorem d_Go_hasRow_19 : decode c_Go_hasRow 19 = .ok (.iload_n 1, 1) := by decide +kernel
theorem d_Go_hasRow_20 : decode c_Go_hasRow 20 = .ok (.if_icmp .ne 27, 3) := by decide +kernel
theorem d_Go_hasRow_23 : decode c_Go_hasRow 23 = .ok (.aload_n 0, 1) := by decide +kernel
theorem d_Go_hasRow_24 : decode c_Go_hasRow 24 = .ok (.getfield 25, 3) := by decide +kernel
theorem d_Go_hasRow_27 : decode c_Go_hasRow 27 = .ok (.iload 4, 2) := by decide +kernel
theorem d_Go_hasRow_29 : decode c_Go_hasRow 29 = .ok (.iaload, 1) := by decide +kernel
theorem d_Go_hasRow_30 : decode c_Go_hasRow 30 = .ok (.iload_n 2, 1) := by decide +kernel
theorem d_Go_hasRow_31 : decode c_Go_hasRow 31 = .ok (.if_icmp .ne 16, 3) := by decide +kernel
theorem d_Go_hasRow_34 : decode c_Go_hasRow 34 = .ok (.aload_n 0, 1) := by decide +kernel
theorem d_Go_hasRow_35 : decode c_Go_hasRow 35 = .ok (.getfield 28, 3) := by decide +kernel
theorem d_Go_hasRow_38 : decode c_Go_hasRow 38 = .ok (.iload 4, 2) := by decide +kernel
theorem d_Go_hasRow_40 : decode c_Go_hasRow 40 = .ok (.iaload, 1) := by decide +kernel
theorem d_Go_hasRow_41 : decode c_Go_hasRow 41 = .ok (.iload_n 3, 1) := by decide +kernel
theorem d_Go_hasRow_42 : decode c_Go_hasRow 42 = .ok (.if_icmp .ne 5, 3) := by decide +kernel
theorem d_Go_hasRow_45 : decode c_Go_hasRow 45 = .ok (.iconst 1, 1) := by decide +kernel
theorem d_Go_hasRow_46 : decode c_Go_hasRow 46 = .ok (.ireturn, 1) := by decide +kernel
theorem d_Go_hasRow_47 : decode c_Go_hasRow 47 = .ok (.iinc 4 1, 3) := by decide +kernel
theorem d_Go_hasRow_50 : decode c_Go_hasRow 50 = .ok (.goto (-47), 3) := by decide +kernel
theorem d_Go_hasRow_53 : decode c_Go_hasRow 53 = .ok (.iconst 0, 1) := by decide +kernel
theorem d_Go_hasRow_54 : decode c_Go_hasRow 54 = .ok (.ireturn, 1) := by decide +kernel
theorem d_Go_rowsOfPart_0 : decode c_Go_rowsOfPart 0 = .ok (.iconst 0, 1) := by decide +kernel
theorem d_Go_rowsOfPart_1 : decode c_Go_rowsOfPart 1 = .ok (.istore_n 2, 1) := by decide +kernel
theorem d_Go_rowsOfPart_2 : decode c_Go_rowsOfPart 2 = .ok (.iconst 0, 1) := by decide +kernel
theorem d_Go_rowsOfPart_3 : decode c_Go_rowsOfPart 3 = .ok (.istore_n 3, 1) := by decide +kernel
theorem d_Go_rowsOfPart_4 : decode c_Go_rowsOfPart 4 = .ok (.iload_n 3, 1) := by decide +kernel
theorem d_Go_rowsOfPart_5 : decode c_Go_rowsOfPart 5 = .ok (.aload_n 0, 1) := by decide +kernel
theorem d_Go_rowsOfPart_6 : decode c_Go_rowsOfPart 6 = .ok (.getfield 15, 3) := by decide +kernel
theorem d_Go_rowsOfPart_9 : decode c_Go_rowsOfPart 9 = .ok (.if_icmp .ge 22, 3) := by decide +kernel
theorem d_Go_rowsOfPart_12 : decode c_Go_rowsOfPart 12 = .ok (.aload_n 0, 1) := by decide +kernel
theorem d_Go_rowsOfPart_13 : decode c_Go_rowsOfPart 13 = .ok (.getfield 25, 3) := by decide +kernel
theorem d_Go_rowsOfPart_16 : decode c_Go_rowsOfPart 16 = .ok (.iload_n 3, 1) := by decide +kernel
theorem d_Go_rowsOfPart_17 : decode c_Go_rowsOfPart 17 = .ok (.iaload, 1) := by decide +kernel
theorem d_Go_rowsOfPart_18 : decode c_Go_rowsOfPart 18 = .ok (.iload_n 1, 1) := by decide +kernel
theorem d_Go_rowsOfPart_19 : decode c_Go_rowsOfPart 19 = .ok (.if_icmp .ne 6, 3) := by decide +kernel
theorem d_Go_rowsOfPart_22 : decode c_Go_rowsOfPart 22 = .ok (.iinc 2 1, 3) := by decide +kernel
theorem d_Go_rowsOfPart_25 : decode c_Go_rowsOfPart 25 = .ok (.iinc 3 1, 3) := by decide +kernel
theorem d_Go_rowsOfPart_28 : decode c_Go_rowsOfPart 28 = .ok (.goto (-24), 3) := by decide +kernel
theorem d_Go_rowsOfPart_31 : decode c_Go_rowsOfPart 31 = .ok (.iload_n 2, 1) := by decide +kernel
theorem d_Go_rowsOfPart_32 : decode c_Go_rowsOfPart 32 = .ok (.ireturn, 1) := by decide +kernel
theorem d_Go_testedRowsOfPart_0 : decode c_Go_testedRowsOfPart 0 = .ok (.iconst 0, 1) := by decide +kernel
theorem d_Go_testedRowsOfPart_1 : decode c_Go_testedRowsOfPart 1 = .ok (.istore_n 2, 1) := by decide +kernel
theorem d_Go_testedRowsOfPart_2 : decode c_Go_testedRowsOfPart 2 = .ok (.iconst 0, 1) := by decide +kernel
theorem d_Go_testedRowsOfPart_3 : decode c_Go_testedRowsOfPart 3 = .ok (.istore_n 3, 1) := by decide +kernel
theorem d_Go_testedRowsOfPart_4 : decode c_Go_testedRowsOfPart 4 = .ok (.iload_n 3, 1) := by decide +kernel
theorem d_Go_testedRowsOfPart_5 : decode c_Go_testedRowsOfPart 5 = .ok (.aload_n 0, 1) := by decide +kernel
theorem d_Go_testedRowsOfPart_6 : decode c_Go_testedRowsOfPart 6 = .ok (.getfield 15, 3) := by decide +kernel
theorem d_Go_testedRowsOfPart_9 : decode c_Go_testedRowsOfPart 9 = .ok (.if_icmp .ge 31, 3) := by decide +kernel
theorem d_Go_testedRowsOfPart_12 : decode c_Go_testedRowsOfPart 12 = .ok (.aload_n 0, 1) := by decide +kernel
theorem d_Go_testedRowsOfPart_13 : decode c_Go_testedRowsOfPart 13 = .ok (.getfield 25, 3) := by decide +kernel
theorem d_Go_testedRowsOfPart_16 : decode c_Go_testedRowsOfPart 16 = .ok (.iload_n 3, 1) := by decide +kernel
theorem d_Go_testedRowsOfPart_17 : decode c_Go_testedRowsOfPart 17 = .ok (.iaload, 1) := by decide +kernel
theorem d_Go_testedRowsOfPart_18 : decode c_Go_testedRowsOfPart 18 = .ok (.iload_n 1, 1) := by decide +kernel
theorem d_Go_testedRowsOfPart_19 : decode c_Go_testedRowsOfPart 19 = .ok (.if_icmp .ne 15, 3) := by decide +kernel
theorem d_Go_testedRowsOfPart_22 : decode c_Go_testedRowsOfPart 22 = .ok (.aload_n 0, 1) := by decide +kernel
theorem d_Go_testedRowsOfPart_23 : decode c_Go_testedRowsOfPart 23 = .ok (.getfield 28, 3) := by decide +kernel
theorem d_Go_testedRowsOfPart_26 : decode c_Go_testedRowsOfPart 26 = .ok (.iload_n 3, 1) := by decide +kernel
theorem d_Go_testedRowsOfPart_27 : decode c_Go_testedRowsOfPart 27 = .ok (.iaload, 1) := by decide +kernel
theorem d_Go_testedRowsOfPart_28 : decode c_Go_testedRowsOfPart 28 = .ok (.ifCond .eq 6, 3) := by decide +kernel
theorem d_Go_testedRowsOfPart_31 : decode c_Go_testedRowsOfPart 31 = .ok (.iinc 2 1, 3) := by decide +kernel
theorem d_Go_testedRowsOfPart_34 : decode c_Go_testedRowsOfPart 34 = .ok (.iinc 3 1, 3) := by decide +kernel
theorem d_Go_testedRowsOfPart_37 : decode c_Go_testedRowsOfPart 37 = .ok (.goto (-33), 3) := by decide +kernel
theorem d_Go_testedRowsOfPart_40 : decode c_Go_testedRowsOfPart 40 = .ok (.iload_n 2, 1) := by decide +kernel
theorem d_Go_testedRowsOfPart_41 : decode c_Go_testedRowsOfPart 41 = .ok (.ireturn, 1) := by decide +kernel
theorem d_Go_findOpen_0 : decode c_Go_findOpen 0 = .ok (.iload_n 1, 1) := by decide +kernel
theorem d_Go_findOpen_1 : decode c_Go_findOpen 1 = .ok (.istore_n 2, 1) := by decide +kernel
theorem d_Go_findOpen_2 : decode c_Go_findOpen 2 = .ok (.iconst 1, 1) := by decide +kernel
theorem d_Go_findOpen_3 : decode c_Go_findOpen 3 = .ok (.istore_n 3, 1) := by decide +kernel
theorem d_Go_findOpen_4 : decode c_Go_findOpen 4 = .ok (.iload_n 3, 1) := by decide +kernel
theorem d_Go_findOpen_5 : decode c_Go_findOpen 5 = .ok (.aload_n 0, 1) := by decide +kernel
theorem d_Go_findOpen_6 : decode c_Go_findOpen 6 = .ok (.getfield 9, 3) := by decide +kernel
theorem d_Go_findOpen_9 : decode c_Go_findOpen 9 = .ok (.if_icmp .gt 26, 3) := by decide +kernel
theorem d_Go_findOpen_12 : decode c_Go_findOpen 12 = .ok (.aload_n 0, 1) := by decide +kernel
theorem d_Go_findOpen_13 : decode c_Go_findOpen 13 = .ok (.iload_n 3, 1) := by decide +kernel
theorem d_Go_findOpen_14 : decode c_Go_findOpen 14 = .ok (.invokevirtual 31, 3) := by decide +kernel
theorem d_Go_findOpen_17 : decode c_Go_findOpen 17 = .ok (.ifCond .eq 12, 3) := by decide +kernel
theorem d_Go_findOpen_20 : decode c_Go_findOpen 20 = .ok (.iload_n 2, 1) := by decide +kernel
theorem d_Go_findOpen_21 : decode c_Go_findOpen 21 = .ok (.ifCond .ne 5, 3) := by decide +kernel
theorem d_Go_findOpen_24 : decode c_Go_findOpen 24 = .ok (.iload_n 3, 1) := by decide +kernel
theorem d_Go_findOpen_25 : decode c_Go_findOpen 25 = .ok (.ireturn, 1) := by decide +kernel
theorem d_Go_findOpen_26 : decode c_Go_findOpen 26 = .ok (.iinc 2 (-1), 3) := by decide +kernel
theorem d_Go_findOpen_29 : decode c_Go_findOpen 29 = .ok (.iinc 3 1, 3) := by decide +kernel
theorem d_Go_findOpen_32 : decode c_Go_findOpen 32 = .ok (.goto (-28), 3) := by decide +kernel
theorem d_Go_findOpen_35 : decode c_Go_findOpen 35 = .ok (.iconst 1, 1) := by decide +kernel
theorem d_Go_findOpen_36 : decode c_Go_findOpen 36 = .ok (.istore_n 3, 1) := by decide +kernel
theorem d_Go_findOpen_37 : decode c_Go_findOpen 37 = .ok (.iload_n 3, 1) := by decide +kernel
theorem d_Go_findOpen_38 : decode c_Go_findOpen 38 = .ok (.bipush 50, 2) := by decide +kernel
theorem d_Go_findOpen_40 : decode c_Go_findOpen 40 = .ok (.if_icmp .gt 27, 3) := by decide +kernel
theorem d_Go_findOpen_43 : decode c_Go_findOpen 43 = .ok (.aload_n 0, 1) := by decide +kernel
theorem d_Go_findOpen_44 : decode c_Go_findOpen 44 = .ok (.iload_n 3, 1) := by decide +kernel
theorem d_Go_findOpen_45 : decode c_Go_findOpen 45 = .ok (.invokevirtual 35, 3) := by decide +kernel
theorem d_Go_findOpen_48 : decode c_Go_findOpen 48 = .ok (.ifCond .eq 13, 3) := by decide +kernel
theorem d_Go_findOpen_51 : decode c_Go_findOpen 51 = .ok (.iload_n 2, 1) := by decide +kernel
theorem d_Go_findOpen_52 : decode c_Go_findOpen 52 = .ok (.ifCond .ne 6, 3) := by decide +kernel
theorem d_Go_findOpen_55 : decode c_Go_findOpen 55 = .ok (.iload_n 3, 1) := by decide +kernel
theorem d_Go_findOpen_56 : decode c_Go_findOpen 56 = .ok (.ineg, 1) := by decide +kernel
theorem d_Go_findOpen_57 : decode c_Go_findOpen 57 = .ok (.ireturn, 1) := by decide +kernel
theorem d_Go_findOpen_58 : decode c_Go_findOpen 58 = .ok (.iinc 2 (-1), 3) := by decide +kernel
theorem d_Go_findOpen_61 : decode c_Go_findOpen 61 = .ok (.iinc 3 1, 3) := by decide +kernel
theorem d_Go_findOpen_64 : decode c_Go_findOpen 64 = .ok (.goto (-27), 3) := by decide +kernel
theorem d_Go_findOpen_67 : decode c_Go_findOpen 67 = .ok (.iconst 0, 1) := by decide +kernel
theorem d_Go_findOpen_68 : decode c_Go_findOpen 68 = .ok (.ireturn, 1) := by decide +kernel
theorem d_Go_isGoalOpen_0 : decode c_Go_isGoalOpen 0 = .ok (.aload_n 0, 1) := by decide +kernel
theorem d_Go_isGoalOpen_1 : decode c_Go_isGoalOpen 1 = .ok (.getfield 18, 3) := by decide +kernel
theorem d_Go_isGoalOpen_4 : decode c_Go_isGoalOpen 4 = .ok (.iload_n 1, 1) := by decide +kernel
theorem d_Go_isGoalOpen_5 : decode c_Go_isGoalOpen 5 = .ok (.iaload, 1) := by decide +kernel
theorem d_Go_isGoalOpen_6 : decode c_Go_isGoalOpen 6 = .ok (.ifCond .ne 5, 3) := by decide +kernel
theorem d_Go_isGoalOpen_9 : decode c_Go_isGoalOpen 9 = .ok (.iconst 0, 1) := by decide +kernel
theorem d_Go_isGoalOpen_10 : decode c_Go_isGoalOpen 10 = .ok (.ireturn, 1) := by decide +kernel
theorem d_Go_isGoalOpen_11 : decode c_Go_isGoalOpen 11 = .ok (.iconst 0, 1) := by decide +kernel
theorem d_Go_isGoalOpen_12 : decode c_Go_isGoalOpen 12 = .ok (.istore_n 2, 1) := by decide +kernel
theorem d_Go_isGoalOpen_13 : decode c_Go_isGoalOpen 13 = .ok (.iload_n 2, 1) := by decide +kernel
theorem d_Go_isGoalOpen_14 : decode c_Go_isGoalOpen 14 = .ok (.aload_n 0, 1) := by decide +kernel
theorem d_Go_isGoalOpen_15 : decode c_Go_isGoalOpen 15 = .ok (.getfield 15, 3) := by decide +kernel
theorem d_Go_isGoalOpen_18 : decode c_Go_isGoalOpen 18 = .ok (.if_icmp .ge 30, 3) := by decide +kernel
theorem d_Go_isGoalOpen_21 : decode c_Go_isGoalOpen 21 = .ok (.aload_n 0, 1) := by decide +kernel
theorem d_Go_isGoalOpen_22 : decode c_Go_isGoalOpen 22 = .ok (.getfield 22, 3) := by decide +kernel
theorem d_Go_isGoalOpen_25 : decode c_Go_isGoalOpen 25 = .ok (.iload_n 2, 1) := by decide +kernel
theorem d_Go_isGoalOpen_26 : decode c_Go_isGoalOpen 26 = .ok (.iaload, 1) := by decide +kernel
theorem d_Go_isGoalOpen_27 : decode c_Go_isGoalOpen 27 = .ok (.iload_n 1, 1) := by decide +kernel
theorem d_Go_isGoalOpen_28 : decode c_Go_isGoalOpen 28 = .ok (.if_icmp .ne 14, 3) := by decide +kernel
theorem d_Go_isGoalOpen_31 : decode c_Go_isGoalOpen 31 = .ok (.aload_n 0, 1) := by decide +kernel
theorem d_Go_isGoalOpen_32 : decode c_Go_isGoalOpen 32 = .ok (.getfield 28, 3) := by decide +kernel
theorem d_Go_isGoalOpen_35 : decode c_Go_isGoalOpen 35 = .ok (.iload_n 2, 1) := by decide +kernel
theorem d_Go_isGoalOpen_36 : decode c_Go_isGoalOpen 36 = .ok (.iaload, 1) := by decide +kernel
theorem d_Go_isGoalOpen_37 : decode c_Go_isGoalOpen 37 = .ok (.ifCond .eq 5, 3) := by decide +kernel
theorem d_Go_isGoalOpen_40 : decode c_Go_isGoalOpen 40 = .ok (.iconst 0, 1) := by decide +kernel
theorem d_Go_isGoalOpen_41 : decode c_Go_isGoalOpen 41 = .ok (.ireturn, 1) := by decide +kernel
theorem d_Go_isGoalOpen_42 : decode c_Go_isGoalOpen 42 = .ok (.iinc 2 1, 3) := by decide +kernel
theorem d_Go_isGoalOpen_45 : decode c_Go_isGoalOpen 45 = .ok (.goto (-32), 3) := by decide +kernel
theorem d_Go_isGoalOpen_48 : decode c_Go_isGoalOpen 48 = .ok (.iconst 1, 1) := by decide +kernel
theorem d_Go_isGoalOpen_49 : decode c_Go_isGoalOpen 49 = .ok (.ireturn, 1) := by decide +kernel
theorem d_Go_isPartOpen_0 : decode c_Go_isPartOpen 0 = .ok (.aload_n 0, 1) := by decide +kernel
theorem d_Go_isPartOpen_1 : decode c_Go_isPartOpen 1 = .ok (.iload_n 1, 1) := by decide +kernel
theorem d_Go_isPartOpen_2 : decode c_Go_isPartOpen 2 = .ok (.invokevirtual 38, 3) := by decide +kernel
theorem d_Go_isPartOpen_5 : decode c_Go_isPartOpen 5 = .ok (.ifCond .le 15, 3) := by decide +kernel
theorem d_Go_isPartOpen_8 : decode c_Go_isPartOpen 8 = .ok (.aload_n 0, 1) := by decide +kernel
theorem d_Go_isPartOpen_9 : decode c_Go_isPartOpen 9 = .ok (.iload_n 1, 1) := by decide +kernel
theorem d_Go_isPartOpen_10 : decode c_Go_isPartOpen 10 = .ok (.invokevirtual 42, 3) := by decide +kernel
theorem d_Go_isPartOpen_13 : decode c_Go_isPartOpen 13 = .ok (.ifCond .ne 7, 3) := by decide +kernel
theorem d_Go_isPartOpen_16 : decode c_Go_isPartOpen 16 = .ok (.iconst 1, 1) := by decide +kernel
theorem d_Go_isPartOpen_17 : decode c_Go_isPartOpen 17 = .ok (.goto 4, 3) := by decide +kernel
theorem d_Go_isPartOpen_20 : decode c_Go_isPartOpen 20 = .ok (.iconst 0, 1) := by decide +kernel
theorem d_Go_isPartOpen_21 : decode c_Go_isPartOpen 21 = .ok (.ireturn, 1) := by decide +kernel
end
section
/-! Rows of this claim's own, between the kit's and the walks: contracts over one whole world, numbers by Nat. -/
/-- a boolean answer -/
def b2 (b : Bool) : Int32 := if b = true then 1 else 0
theorem b2_t : b2 true = 1 := rfl
theorem b2_f : b2 false = 0 := rfl
theorem b2T {b : Bool} (h : b = true) : nI 1 = b2 b := by rw [h]; rfl
theorem b2F {b : Bool} (h : b = false) : nI 0 = b2 b := by rw [h]; rfl
theorem b2_eq0 {b : Bool} : b2 b = 0 ↔ b = false := by cases b <;> simp [b2]
theorem b2_dec {P : Prop} {h : Decidable P} (hp : P) : nI 1 = b2 (decide P) := by simp [b2, hp]; rfl
theorem b2_decN {P : Prop} {h : Decidable P} (hp : ¬ P) : nI 0 = b2 (decide P) := by simp [b2, hp]; rfl
/-- contracts: the method keeps to the world w0, leaves w1 and answers r -/
def ct_i (l : Launch) (g : va_G) (cl : List vw_C) (tys : List (ClassId × FieldType)) (y : MethodName) (cc : ByteArray) (maxL : Nat) (ret : Option FieldType) (rm : Room) (av : List Value) (w0 w1 : va_W) (r : Int32) : Prop :=
  ∀ sz : Nat, Met l y (Cond.code y cc maxL ret :: tblG) rm (va_Pc av (fun U => U.heap.size = sz ∧ va_P g cl w0 U.heap ∧ va_K g cl tys U ∧ va_D (fun _ => True) w0 ∧ nst U)) (va_Qi (fun (x : Int32) (_ : Unit) => x = r) (fun _ t => va_P g cl w1 t.heap ∧ va_K g cl tys t ∧ va_D (va_A w0 sz) w1) (va_A w0 sz)) 0 0 (va_A w0 sz)
def ct_l (l : Launch) (g : va_G) (cl : List vw_C) (tys : List (ClassId × FieldType)) (y : MethodName) (cc : ByteArray) (maxL : Nat) (ret : Option FieldType) (rm : Room) (av : List Value) (w0 w1 : va_W) (r : Int64) : Prop :=
  ∀ sz : Nat, Met l y (Cond.code y cc maxL ret :: tblG) rm (va_Pc av (fun U => U.heap.size = sz ∧ va_P g cl w0 U.heap ∧ va_K g cl tys U ∧ va_D (fun _ => True) w0 ∧ nst U)) (va_Ql (fun (x : Int64) (_ : Unit) => x = r) (fun _ t => va_P g cl w1 t.heap ∧ va_K g cl tys t ∧ va_D (va_A w0 sz) w1) (va_A w0 sz)) 0 0 (va_A w0 sz)
def ct_v (l : Launch) (g : va_G) (cl : List vw_C) (tys : List (ClassId × FieldType)) (y : MethodName) (cc : ByteArray) (maxL : Nat) (ret : Option FieldType) (rm : Room) (av : List Value) (w0 w1 : va_W) : Prop :=
  ∀ sz : Nat, Met l y (Cond.code y cc maxL ret :: tblG) rm (va_Pc av (fun U => U.heap.size = sz ∧ va_P g cl w0 U.heap ∧ va_K g cl tys U ∧ va_D (fun _ => True) w0 ∧ nst U)) (va_Qv (fun (_ : Unit) => True) (fun _ t => va_P g cl w1 t.heap ∧ va_K g cl tys t ∧ va_D (va_A w0 sz) w1) (va_A w0 sz)) 0 0 (va_A w0 sz)
section MYC
variable {l : Launch} {g : va_G} {cl : List vw_C} {tys : List (ClassId × FieldType)} {y : MethodName} {rm : Room} {av : List Value} {w0 w1 : va_W} {cc : ByteArray} {maxL : Nat}
theorem ct_i.intro {r : Int32} (hy : plainName y.cls = true) (hlen : (lg_sl av).length ≤ maxL)
    (body : ∀ (p : Program) (e : Env) (s : State) (m : MethodId) (args : Array Value) (below : List Frame) (meth : Method) (c : Code) (Q : State → Prop) (A : Nat → Prop) (ls : Array Slot),
      p.tables.exec = Jvm.exec → c.code = cc → c.maxLocals = maxL → (∀ w ∈ tblG, w.before args s = true) → s.vm.findClass y.cls = some m.cls → (∀ q : Nat, s.heap.size ≤ q → A q) → va_K g cl tys s → nst s →
      (∀ (H : Heap) (locs : List Loc) (pc : Nat) (ls : Array Slot) (v : Int32), va_P g cl w1 H → va_D A w1 → va_S A s.heap H locs → decode cc pc = .ok (.ireturn, 1) → v = r → W p l e rm s m args below meth c H locs 0 0 Q (F0 m pc ls [.int v])) →
      va_P g cl w0 s.heap → va_D A w0 → va_S A s.heap s.heap [] → lv_has ls maxL (lv_args 0 av) → W p l e rm s m args below meth c s.heap [] 0 0 Q (F0 m 0 ls [])) : ct_i l g cl tys y cc maxL (some .int) rm av w0 w1 r := by
  intro sz
  refine Met.ofW (cc := cc) (maxL := maxL) (ret := some .int) hy rfl ?_
  intro p e s m args below meth c s₁ B hml hv
  obtain ⟨rfl, hsz, hP, hK, hD0, hN⟩ := hv
  have hts0 := atoms_spec (ws := Cond.code y cc maxL _ :: tblG) B.pre
  have hts : ∀ w ∈ tblG, w.before av.toArray s = true := fun w h => hts0 w (List.mem_cons_of_mem _ h)
  have hown : s.vm.findClass y.cls = some m.cls := findClass_of_methodNamed B.named
  have hlocks := B.notSynchronized
  subst hsz
  have hD := hD0.self (sz := s.heap.size)
  have hl := lv_entry av (n := maxL) hlen
  rw [lg_entry_eq]
  refine body p e s m av.toArray below meth c _ (va_A w0 s.heap.size) _ B.exec B.bytes hml hts hown (fun q h => Or.inr h) hK hN ?_ hP hD va_S.rf hl
  intro H locs pc ls v h1 h2 h3 h4 h5
  exact W.iret (v := v) B.exec B.bytes B.returns (fun t ht hW => ⟨⟨v, (), rfl, h5, by rw [ht]; exact h1, va_K.moved hW.alike hK, h2⟩, h3.F ht⟩) h3.2.2 h4
theorem ct_i.introZ {b : Bool} (hy : plainName y.cls = true) (hlen : (lg_sl av).length ≤ maxL)
    (body : ∀ (p : Program) (e : Env) (s : State) (m : MethodId) (args : Array Value) (below : List Frame) (meth : Method) (c : Code) (Q : State → Prop) (A : Nat → Prop) (ls : Array Slot),
      p.tables.exec = Jvm.exec → c.code = cc → c.maxLocals = maxL → (∀ w ∈ tblG, w.before args s = true) → s.vm.findClass y.cls = some m.cls → (∀ q : Nat, s.heap.size ≤ q → A q) → va_K g cl tys s → nst s →
      (∀ (H : Heap) (locs : List Loc) (pc : Nat) (ls : Array Slot) (v : Int32), va_P g cl w1 H → va_D A w1 → va_S A s.heap H locs → decode cc pc = .ok (.ireturn, 1) → v = b2 b → W p l e rm s m args below meth c H locs 0 0 Q (F0 m pc ls [.int v])) →
      va_P g cl w0 s.heap → va_D A w0 → va_S A s.heap s.heap [] → lv_has ls maxL (lv_args 0 av) → W p l e rm s m args below meth c s.heap [] 0 0 Q (F0 m 0 ls [])) : ct_i l g cl tys y cc maxL (some .boolean) rm av w0 w1 (b2 b) := by
  intro sz
  refine Met.ofW (cc := cc) (maxL := maxL) (ret := some .boolean) hy rfl ?_
  intro p e s m args below meth c s₁ B hml hv
  obtain ⟨rfl, hsz, hP, hK, hD0, hN⟩ := hv
  have hts0 := atoms_spec (ws := Cond.code y cc maxL _ :: tblG) B.pre
  have hts : ∀ w ∈ tblG, w.before av.toArray s = true := fun w h => hts0 w (List.mem_cons_of_mem _ h)
  have hown : s.vm.findClass y.cls = some m.cls := findClass_of_methodNamed B.named
  have hlocks := B.notSynchronized
  subst hsz
  have hD := hD0.self (sz := s.heap.size)
  have hl := lv_entry av (n := maxL) hlen
  rw [lg_entry_eq]
  refine body p e s m av.toArray below meth c _ (va_A w0 s.heap.size) _ B.exec B.bytes hml hts hown (fun q h => Or.inr h) hK hN ?_ hP hD va_S.rf hl
  intro H locs pc ls v h1 h2 h3 h4 h5
  have hn : narrow .boolean (.int v) = .int v := by subst h5; cases b <;> rfl
  exact W.zret (v := v) B.exec B.bytes B.returns hn (fun t ht hW => ⟨⟨v, (), rfl, h5, by rw [ht]; exact h1, va_K.moved hW.alike hK, h2⟩, h3.F ht⟩) h3.2.2 h4
theorem ct_l.intro {r : Int64} (hy : plainName y.cls = true) (hlen : (lg_sl av).length ≤ maxL)
    (body : ∀ (p : Program) (e : Env) (s : State) (m : MethodId) (args : Array Value) (below : List Frame) (meth : Method) (c : Code) (Q : State → Prop) (A : Nat → Prop) (ls : Array Slot),
      p.tables.exec = Jvm.exec → c.code = cc → c.maxLocals = maxL → (∀ w ∈ tblG, w.before args s = true) → s.vm.findClass y.cls = some m.cls → (∀ q : Nat, s.heap.size ≤ q → A q) → va_K g cl tys s → nst s →
      (∀ (H : Heap) (locs : List Loc) (pc : Nat) (ls : Array Slot) (v : Int64), va_P g cl w1 H → va_D A w1 → va_S A s.heap H locs → decode cc pc = .ok (.lreturn, 1) → v = r → W p l e rm s m args below meth c H locs 0 0 Q (F0 m pc ls [.long v])) →
      va_P g cl w0 s.heap → va_D A w0 → va_S A s.heap s.heap [] → lv_has ls maxL (lv_args 0 av) → W p l e rm s m args below meth c s.heap [] 0 0 Q (F0 m 0 ls [])) : ct_l l g cl tys y cc maxL (some .long) rm av w0 w1 r := by
  intro sz
  refine Met.ofW (cc := cc) (maxL := maxL) (ret := some .long) hy rfl ?_
  intro p e s m args below meth c s₁ B hml hv
  obtain ⟨rfl, hsz, hP, hK, hD0, hN⟩ := hv
  have hts0 := atoms_spec (ws := Cond.code y cc maxL _ :: tblG) B.pre
  have hts : ∀ w ∈ tblG, w.before av.toArray s = true := fun w h => hts0 w (List.mem_cons_of_mem _ h)
  have hown : s.vm.findClass y.cls = some m.cls := findClass_of_methodNamed B.named
  have hlocks := B.notSynchronized
  subst hsz
  have hD := hD0.self (sz := s.heap.size)
  have hl := lv_entry av (n := maxL) hlen
  rw [lg_entry_eq]
  refine body p e s m av.toArray below meth c _ (va_A w0 s.heap.size) _ B.exec B.bytes hml hts hown (fun q h => Or.inr h) hK hN ?_ hP hD va_S.rf hl
  intro H locs pc ls v h1 h2 h3 h4 h5
  exact W.lret (v := v) B.exec B.bytes B.returns (fun t ht hW => ⟨⟨v, (), rfl, h5, by rw [ht]; exact h1, va_K.moved hW.alike hK, h2⟩, h3.F ht⟩) h3.2.2 h4
theorem ct_v.intro (hy : plainName y.cls = true) (hlen : (lg_sl av).length ≤ maxL)
    (body : ∀ (p : Program) (e : Env) (s : State) (m : MethodId) (args : Array Value) (below : List Frame) (meth : Method) (c : Code) (Q : State → Prop) (A : Nat → Prop) (ls : Array Slot),
      p.tables.exec = Jvm.exec → c.code = cc → c.maxLocals = maxL → (∀ w ∈ tblG, w.before args s = true) → s.vm.findClass y.cls = some m.cls → (∀ q : Nat, s.heap.size ≤ q → A q) → va_K g cl tys s → nst s →
      (∀ (H : Heap) (locs : List Loc) (pc : Nat) (ls : Array Slot), va_P g cl w1 H → va_D A w1 → va_S A s.heap H locs → decode cc pc = .ok (.return_, 1) → W p l e rm s m args below meth c H locs 0 0 Q (F0 m pc ls [])) →
      va_P g cl w0 s.heap → va_D A w0 → va_S A s.heap s.heap [] → lv_has ls maxL (lv_args 0 av) → W p l e rm s m args below meth c s.heap [] 0 0 Q (F0 m 0 ls [])) : ct_v l g cl tys y cc maxL none rm av w0 w1 := by
  intro sz
  refine Met.ofW (cc := cc) (maxL := maxL) (ret := none) hy rfl ?_
  intro p e s m args below meth c s₁ B hml hv
  obtain ⟨rfl, hsz, hP, hK, hD0, hN⟩ := hv
  have hts0 := atoms_spec (ws := Cond.code y cc maxL _ :: tblG) B.pre
  have hts : ∀ w ∈ tblG, w.before av.toArray s = true := fun w h => hts0 w (List.mem_cons_of_mem _ h)
  have hown : s.vm.findClass y.cls = some m.cls := findClass_of_methodNamed B.named
  have hlocks := B.notSynchronized
  subst hsz
  have hD := hD0.self (sz := s.heap.size)
  have hl := lv_entry av (n := maxL) hlen
  rw [lg_entry_eq]
  refine body p e s m av.toArray below meth c _ (va_A w0 s.heap.size) _ B.exec B.bytes hml hts hown (fun q h => Or.inr h) hK hN ?_ hP hD va_S.rf hl
  intro H locs pc ls h1 h2 h3 h4
  exact W.vret B.exec B.bytes B.returns (fun t ht hW => ⟨⟨(), rfl, trivial, by rw [ht]; exact h1, va_K.moved hW.alike hK, h2⟩, h3.F ht⟩) h3.2.2 h4
end MYC
theorem my_lc_eq {x y : Int64} : lg_cmp x y = 0 ↔ x = y := by
  unfold lg_cmp
  by_cases h : x > y
  · rw [if_pos h]
    refine ⟨fun q => absurd q (by decide), fun q => ?_⟩
    subst q
    exact absurd h (Int64.lt_irrefl)
  · rw [if_neg h]
    by_cases h2 : x = y
    · rw [if_pos h2]; exact ⟨fun _ => h2, fun _ => rfl⟩
    · rw [if_neg h2]; exact ⟨fun q => absurd q (by decide), fun q => absurd q h2⟩
theorem my_lc_lt {x y : Int64} : lg_cmp x y < 0 ↔ x < y := by
  unfold lg_cmp
  have e : ∀ a b : Int64, a < b ↔ a.toInt < b.toInt := fun a b => Int64.lt_iff_toInt_lt
  have j : ∀ a b : Int64, a = b ↔ a.toInt = b.toInt := fun a b => Int64.toInt_inj.symm
  by_cases h : x > y
  · rw [if_pos h]
    refine ⟨fun q => absurd q (by decide), fun q => ?_⟩
    have h1 := (e y x).mp h
    have h2 := (e x y).mp q
    omega
  · rw [if_neg h]
    by_cases h2 : x = y
    · rw [if_pos h2]; subst h2; exact ⟨fun q => absurd q (by decide), fun q => absurd q h⟩
    · rw [if_neg h2]
      refine ⟨fun _ => ?_, fun _ => by decide⟩
      have h1 : ¬ y.toInt < x.toInt := fun z => h ((e y x).mpr z)
      have h3 : ¬ x.toInt = y.toInt := fun z => h2 ((j x y).mpr z)
      exact (e x y).mpr (by omega)
theorem my_lc_gt {x y : Int64} : 0 < lg_cmp x y ↔ y < x := by
  unfold lg_cmp
  by_cases h : x > y
  · rw [if_pos h]; exact ⟨fun _ => h, fun _ => by decide⟩
  · rw [if_neg h]
    by_cases h2 : x = y
    · rw [if_pos h2]; exact ⟨fun q => absurd q (by decide), fun q => absurd q h⟩
    · rw [if_neg h2]; exact ⟨fun q => absurd q (by decide), fun q => absurd q h⟩
theorem my_i0 (z : Int32) : (0 ≤ z ↔ ¬ z < 0) ∧ (z ≤ 0 ↔ ¬ 0 < z) := by
  rw [Int32.le_iff_toInt_le, Int32.lt_iff_toInt_lt, Int32.le_iff_toInt_le, Int32.lt_iff_toInt_lt]
  omega
theorem my_j0 (x y : Int64) : y ≤ x ↔ ¬ x < y := by
  rw [Int64.le_iff_toInt_le, Int64.lt_iff_toInt_lt]
  omega
theorem my_lc_ge {x y : Int64} : 0 ≤ lg_cmp x y ↔ y ≤ x := by rw [(my_i0 _).1, my_j0, my_lc_lt]
theorem my_lc_le {x y : Int64} : lg_cmp x y ≤ 0 ↔ x ≤ y := by rw [(my_i0 _).2, my_j0, my_lc_gt]
theorem b2_eq0' {b : Bool} : b2 b = 0 ↔ b = false := b2_eq0
section MYR
variable {p : Program} {l : Launch} {e : Env} {R : Room} {s : State} {m : MethodId} {args : Array Value} {below : List Frame} {meth : Method} {c : Code} {H : Heap} {locs : List Loc} {cells slots : Nat} {Q : State → Prop}
variable {cc : ByteArray} {pc : Nat} {ls : Array Slot} {rest st0 : List Value} {g : va_G} {cl : List vw_C} {tys : List (ClassId × FieldType)} {A A1 : Nat → Prop} {w0 w1 : va_W} {av : Array Value} {ws : va_W} {a : Nat} {D : va_G} {H0 : Heap}
theorem my_ei {x y : Int32} (h : x = y) (k : W p l e R s m args below meth c H locs cells slots Q (F0 m pc ls (.int y :: rest))) : W p l e R s m args below meth c H locs cells slots Q (F0 m pc ls (.int x :: rest)) := h ▸ k
theorem my_el {x y : Int64} (h : x = y) (k : W p l e R s m args below meth c H locs cells slots Q (F0 m pc ls (.long y :: rest))) : W p l e R s m args below meth c H locs cells slots Q (F0 m pc ls (.long x :: rest)) := h ▸ k
theorem my_preV {sz ci q0 b : Nat} {q : vw_C} {fs : List Value} {As : List Value} (hsz : H.size = sz) (hN : nst s) (hK : va_K g cl tys s) (hP : va_P g cl w0 H) (hD : va_D A w0) (hc : cl[ci]? = some q) (he : w0[q0]? = some (b, .inr (ci, fs))) :
    PreV s H q.1 b (va_Pc (.ref b :: As) (fun U => U.heap.size = sz ∧ va_P g cl w0 U.heap ∧ va_K g cl tys U ∧ va_D (fun _ => True) w0 ∧ nst U)) As :=
  ⟨fun a U gg mk h => by obtain ⟨q0, q1, qP, qK, qD, qN⟩ := h; exact ⟨q0, q1, qP, va_K.moved (u := U) (U := U.calling gg mk a) (Vm.Alike.refl U.vm) qK, qD, nst.same (u := U) (U := U.calling gg mk a) rfl qN⟩, va_recv hK hP hc he, fun U hU hW => ⟨rfl, by rw [hU]; exact hsz, by rw [hU]; exact hP, va_K.moved hW.alike hK, hD.weaken (fun _ _ _ _ => trivial), nst.warm hW hN⟩⟩
theorem my_preS {sz : Nat} {As : List Value} (hsz : H.size = sz) (hN : nst s) (hK : va_K g cl tys s) (hP : va_P g cl w0 H) (hD : va_D A w0) :
    PreS s H (va_Pc As (fun U => U.heap.size = sz ∧ va_P g cl w0 U.heap ∧ va_K g cl tys U ∧ va_D (fun _ => True) w0 ∧ nst U)) As :=
  ⟨fun a U gg mk h => by obtain ⟨q0, q1, qP, qK, qD, qN⟩ := h; exact ⟨q0, q1, qP, va_K.moved (u := U) (U := U.calling gg mk a) (Vm.Alike.refl U.vm) qK, qD, nst.same (u := U) (U := U.calling gg mk a) rfl qN⟩, fun U hU hW => ⟨rfl, by rw [hU]; exact hsz, by rw [hU]; exact hP, va_K.moved hW.alike hK, hD.weaken (fun _ _ _ _ => trivial), nst.warm hW hN⟩⟩
theorem my_fr (hD : va_D A w0) (hS : va_S A s.heap H locs) (hA : ∀ q : Nat, s.heap.size ≤ q → A q) : ∀ q, va_A w0 H.size q → A q := by
  intro q h
  rcases h with ⟨k, e0, hk⟩ | h
  · exact hD.2 k _ hk
  · exact hA q (Nat.le_trans hS.1 h)
theorem my_calli {r : Int32} (run : va_Run p l e R s m args below meth c H locs cells slots 0 0 (F0 m pc ls st0) rest (va_Qi (fun (x : Int32) (_ : Unit) => x = r) (fun _ t => va_P g cl w1 t.heap ∧ va_K g cl tys t ∧ va_D A1 w1) A1 av) A1) (hS : va_S A s.heap H locs) (hF : ∀ q, A1 q → A q)
    (kk : ∀ (H1 : Heap) (locs1 : List Loc), va_P g cl w1 H1 → va_D A w1 → va_S A s.heap H1 locs1 → W p l e R s m args below meth c H1 locs1 cells slots Q (F0 m (pc + 3) ls (.int r :: rest))) : W p l e R s m args below meth c H locs cells slots Q (F0 m pc ls st0) := by
  refine va_calli run hS (fun q _ h => hF q h) hF (fun r' u t H1 locs1 ht hvm hw hB hz hk hS1 => ?_)
  obtain ⟨hP1, hK1, hD1⟩ := hB
  subst hw
  rw [ht] at hP1
  exact kk H1 locs1 hP1 (hD1.weaken (fun _ _ _ h => hF _ h)) hS1
theorem my_calll {r : Int64} (run : va_Run p l e R s m args below meth c H locs cells slots 0 0 (F0 m pc ls st0) rest (va_Ql (fun (x : Int64) (_ : Unit) => x = r) (fun _ t => va_P g cl w1 t.heap ∧ va_K g cl tys t ∧ va_D A1 w1) A1 av) A1) (hS : va_S A s.heap H locs) (hF : ∀ q, A1 q → A q)
    (kk : ∀ (H1 : Heap) (locs1 : List Loc), va_P g cl w1 H1 → va_D A w1 → va_S A s.heap H1 locs1 → W p l e R s m args below meth c H1 locs1 cells slots Q (F0 m (pc + 3) ls (.long r :: rest))) : W p l e R s m args below meth c H locs cells slots Q (F0 m pc ls st0) := by
  refine va_calll run hS (fun q _ h => hF q h) hF (fun r' u t H1 locs1 ht hvm hw hB hz hk hS1 => ?_)
  obtain ⟨hP1, hK1, hD1⟩ := hB
  subst hw
  rw [ht] at hP1
  exact kk H1 locs1 hP1 (hD1.weaken (fun _ _ _ h => hF _ h)) hS1
theorem my_callv (run : va_Run p l e R s m args below meth c H locs cells slots 0 0 (F0 m pc ls st0) rest (va_Qv (fun (_ : Unit) => True) (fun _ t => va_P g cl w1 t.heap ∧ va_K g cl tys t ∧ va_D A1 w1) A1 av) A1) (hS : va_S A s.heap H locs) (hF : ∀ q, A1 q → A q)
    (kk : ∀ (H1 : Heap) (locs1 : List Loc), va_P g cl w1 H1 → va_D A w1 → va_S A s.heap H1 locs1 → W p l e R s m args below meth c H1 locs1 cells slots Q (F0 m (pc + 3) ls rest)) : W p l e R s m args below meth c H locs cells slots Q (F0 m pc ls st0) := by
  refine va_callv run hS (fun q _ h => hF q h) hF (fun u t H1 locs1 ht hvm hw hB hz hk hS1 => ?_)
  obtain ⟨hP1, hK1, hD1⟩ := hB
  rw [ht] at hP1
  exact kk H1 locs1 hP1 (hD1.weaken (fun _ _ _ h => hF _ h)) hS1
theorem my_icmp_eq (hx : p.tables.exec = Jvm.exec) (hb : c.code = cc) {a b : Nat} {off : Int} {tgt : Nat} (hdg : decode cc pc = .ok (.if_icmp .eq off, 3)) (ht : (pc : Int) + off = (tgt : Int)) (ha : a < 2 ^ 31) (hb2 : b < 2 ^ 31) (kt : a = b → W p l e R s m args below meth c H locs cells slots Q (F0 m tgt ls rest)) (kf : ¬ a = b → W p l e R s m args below meth c H locs cells slots Q (F0 m (pc + 3) ls rest)) : W p l e R s m args below meth c H locs cells slots Q (F0 m pc ls (.int (nI b) :: .int (nI a) :: rest)) := by
  refine lv_icmp_eq hx hb hdg ht (fun q => kt ?_) (fun q => kf ?_)
  all_goals rw [nI_eq ha hb2] at q
  all_goals omega
theorem my_icmp_ne (hx : p.tables.exec = Jvm.exec) (hb : c.code = cc) {a b : Nat} {off : Int} {tgt : Nat} (hdg : decode cc pc = .ok (.if_icmp .ne off, 3)) (ht : (pc : Int) + off = (tgt : Int)) (ha : a < 2 ^ 31) (hb2 : b < 2 ^ 31) (kt : ¬ a = b → W p l e R s m args below meth c H locs cells slots Q (F0 m tgt ls rest)) (kf : a = b → W p l e R s m args below meth c H locs cells slots Q (F0 m (pc + 3) ls rest)) : W p l e R s m args below meth c H locs cells slots Q (F0 m pc ls (.int (nI b) :: .int (nI a) :: rest)) := by
  refine lv_icmp_ne hx hb hdg ht (fun q => kt ?_) (fun q => kf ?_)
  all_goals rw [nI_eq ha hb2] at q
  all_goals omega
theorem my_icmp_lt (hx : p.tables.exec = Jvm.exec) (hb : c.code = cc) {a b : Nat} {off : Int} {tgt : Nat} (hdg : decode cc pc = .ok (.if_icmp .lt off, 3)) (ht : (pc : Int) + off = (tgt : Int)) (ha : a < 2 ^ 31) (hb2 : b < 2 ^ 31) (kt : a < b → W p l e R s m args below meth c H locs cells slots Q (F0 m tgt ls rest)) (kf : b ≤ a → W p l e R s m args below meth c H locs cells slots Q (F0 m (pc + 3) ls rest)) : W p l e R s m args below meth c H locs cells slots Q (F0 m pc ls (.int (nI b) :: .int (nI a) :: rest)) := by
  refine lv_icmp_lt hx hb hdg ht (fun q => kt ?_) (fun q => kf ?_)
  all_goals rw [nI_ltI ha hb2] at q
  all_goals omega
theorem my_icmp_ge (hx : p.tables.exec = Jvm.exec) (hb : c.code = cc) {a b : Nat} {off : Int} {tgt : Nat} (hdg : decode cc pc = .ok (.if_icmp .ge off, 3)) (ht : (pc : Int) + off = (tgt : Int)) (ha : a < 2 ^ 31) (hb2 : b < 2 ^ 31) (kt : b ≤ a → W p l e R s m args below meth c H locs cells slots Q (F0 m tgt ls rest)) (kf : a < b → W p l e R s m args below meth c H locs cells slots Q (F0 m (pc + 3) ls rest)) : W p l e R s m args below meth c H locs cells slots Q (F0 m pc ls (.int (nI b) :: .int (nI a) :: rest)) := by
  refine lv_icmp_ge hx hb hdg ht (fun q => kt ?_) (fun q => kf ?_)
  all_goals rw [nI_leI hb2 ha] at q
  all_goals omega
theorem my_icmp_gt (hx : p.tables.exec = Jvm.exec) (hb : c.code = cc) {a b : Nat} {off : Int} {tgt : Nat} (hdg : decode cc pc = .ok (.if_icmp .gt off, 3)) (ht : (pc : Int) + off = (tgt : Int)) (ha : a < 2 ^ 31) (hb2 : b < 2 ^ 31) (kt : b < a → W p l e R s m args below meth c H locs cells slots Q (F0 m tgt ls rest)) (kf : a ≤ b → W p l e R s m args below meth c H locs cells slots Q (F0 m (pc + 3) ls rest)) : W p l e R s m args below meth c H locs cells slots Q (F0 m pc ls (.int (nI b) :: .int (nI a) :: rest)) := by
  refine lv_icmp_gt hx hb hdg ht (fun q => kt ?_) (fun q => kf ?_)
  all_goals rw [nI_ltI hb2 ha] at q
  all_goals omega
theorem my_icmp_le (hx : p.tables.exec = Jvm.exec) (hb : c.code = cc) {a b : Nat} {off : Int} {tgt : Nat} (hdg : decode cc pc = .ok (.if_icmp .le off, 3)) (ht : (pc : Int) + off = (tgt : Int)) (ha : a < 2 ^ 31) (hb2 : b < 2 ^ 31) (kt : a ≤ b → W p l e R s m args below meth c H locs cells slots Q (F0 m tgt ls rest)) (kf : b < a → W p l e R s m args below meth c H locs cells slots Q (F0 m (pc + 3) ls rest)) : W p l e R s m args below meth c H locs cells slots Q (F0 m pc ls (.int (nI b) :: .int (nI a) :: rest)) := by
  refine lv_icmp_le hx hb hdg ht (fun q => kt ?_) (fun q => kf ?_)
  all_goals rw [nI_leI ha hb2] at q
  all_goals omega
theorem my_if_eq (hx : p.tables.exec = Jvm.exec) (hb : c.code = cc) {a : Nat} {off : Int} {tgt : Nat} (hdg : decode cc pc = .ok (.ifCond .eq off, 3)) (ht : (pc : Int) + off = (tgt : Int)) (ha : a < 2 ^ 31) (kt : a = 0 → W p l e R s m args below meth c H locs cells slots Q (F0 m tgt ls rest)) (kf : 0 < a → W p l e R s m args below meth c H locs cells slots Q (F0 m (pc + 3) ls rest)) : W p l e R s m args below meth c H locs cells slots Q (F0 m pc ls (.int (nI a) :: rest)) := by
  have h0 : (0 : Nat) < 2 ^ 31 := by decide
  refine lv_if_eq hx hb hdg ht (fun q => kt ?_) (fun q => kf ?_)
  all_goals rw [← nI_0, nI_eq ha h0] at q
  all_goals omega
theorem my_if_ne (hx : p.tables.exec = Jvm.exec) (hb : c.code = cc) {a : Nat} {off : Int} {tgt : Nat} (hdg : decode cc pc = .ok (.ifCond .ne off, 3)) (ht : (pc : Int) + off = (tgt : Int)) (ha : a < 2 ^ 31) (kt : 0 < a → W p l e R s m args below meth c H locs cells slots Q (F0 m tgt ls rest)) (kf : a = 0 → W p l e R s m args below meth c H locs cells slots Q (F0 m (pc + 3) ls rest)) : W p l e R s m args below meth c H locs cells slots Q (F0 m pc ls (.int (nI a) :: rest)) := by
  have h0 : (0 : Nat) < 2 ^ 31 := by decide
  refine lv_if_ne hx hb hdg ht (fun q => kt ?_) (fun q => kf ?_)
  all_goals rw [← nI_0, nI_eq ha h0] at q
  all_goals omega
theorem my_if_gt (hx : p.tables.exec = Jvm.exec) (hb : c.code = cc) {a : Nat} {off : Int} {tgt : Nat} (hdg : decode cc pc = .ok (.ifCond .gt off, 3)) (ht : (pc : Int) + off = (tgt : Int)) (ha : a < 2 ^ 31) (kt : 0 < a → W p l e R s m args below meth c H locs cells slots Q (F0 m tgt ls rest)) (kf : a = 0 → W p l e R s m args below meth c H locs cells slots Q (F0 m (pc + 3) ls rest)) : W p l e R s m args below meth c H locs cells slots Q (F0 m pc ls (.int (nI a) :: rest)) := by
  have h0 : (0 : Nat) < 2 ^ 31 := by decide
  refine lv_if_gt hx hb hdg ht (fun q => kt ?_) (fun q => kf ?_)
  all_goals rw [← nI_0, nI_ltI h0 ha] at q
  all_goals omega
theorem my_if_le (hx : p.tables.exec = Jvm.exec) (hb : c.code = cc) {a : Nat} {off : Int} {tgt : Nat} (hdg : decode cc pc = .ok (.ifCond .le off, 3)) (ht : (pc : Int) + off = (tgt : Int)) (ha : a < 2 ^ 31) (kt : a = 0 → W p l e R s m args below meth c H locs cells slots Q (F0 m tgt ls rest)) (kf : 0 < a → W p l e R s m args below meth c H locs cells slots Q (F0 m (pc + 3) ls rest)) : W p l e R s m args below meth c H locs cells slots Q (F0 m pc ls (.int (nI a) :: rest)) := by
  have h0 : (0 : Nat) < 2 ^ 31 := by decide
  refine lv_if_le hx hb hdg ht (fun q => kt ?_) (fun q => kf ?_)
  all_goals rw [← nI_0, nI_leI ha h0] at q
  all_goals omega
theorem my_if_eq_b (hx : p.tables.exec = Jvm.exec) (hb : c.code = cc) {b : Bool} {off : Int} {tgt : Nat} (hdg : decode cc pc = .ok (.ifCond .eq off, 3)) (ht : (pc : Int) + off = (tgt : Int)) (kt : b = false → W p l e R s m args below meth c H locs cells slots Q (F0 m tgt ls rest)) (kf : b = true → W p l e R s m args below meth c H locs cells slots Q (F0 m (pc + 3) ls rest)) : W p l e R s m args below meth c H locs cells slots Q (F0 m pc ls (.int (b2 b) :: rest)) := by
  refine lv_if_eq hx hb hdg ht (fun q => kt ?_) (fun q => kf ?_)
  all_goals rw [b2_eq0] at q
  all_goals cases b <;> simp_all
theorem my_if_ne_b (hx : p.tables.exec = Jvm.exec) (hb : c.code = cc) {b : Bool} {off : Int} {tgt : Nat} (hdg : decode cc pc = .ok (.ifCond .ne off, 3)) (ht : (pc : Int) + off = (tgt : Int)) (kt : b = true → W p l e R s m args below meth c H locs cells slots Q (F0 m tgt ls rest)) (kf : b = false → W p l e R s m args below meth c H locs cells slots Q (F0 m (pc + 3) ls rest)) : W p l e R s m args below meth c H locs cells slots Q (F0 m pc ls (.int (b2 b) :: rest)) := by
  refine lv_if_ne hx hb hdg ht (fun q => kt ?_) (fun q => kf ?_)
  all_goals rw [b2_eq0] at q
  all_goals cases b <;> simp_all
theorem my_lcmpR_eq (hx : p.tables.exec = Jvm.exec) (hb : c.code = cc) {x y : Int64} {off : Int} {tgt : Nat} (hd1 : decode cc pc = .ok (.lcmp, 1)) (hdg : decode cc (pc + 1) = .ok (.ifCond .eq off, 3)) (ht : ((pc + 1 : Nat) : Int) + off = (tgt : Int)) (kt : x = y → W p l e R s m args below meth c H locs cells slots Q (F0 m tgt ls rest)) (kf : ¬ x = y → W p l e R s m args below meth c H locs cells slots Q (F0 m (pc + 4) ls rest)) : W p l e R s m args below meth c H locs cells slots Q (F0 m pc ls (.long y :: .long x :: rest)) := by
  refine W.lcmp hx hb hd1 ?_
  refine lv_if_eq hx hb hdg ht (fun q => kt ?_) (fun q => kf ?_)
  all_goals rw [my_lc_eq] at q
  all_goals exact q
theorem my_lcmpR_ne (hx : p.tables.exec = Jvm.exec) (hb : c.code = cc) {x y : Int64} {off : Int} {tgt : Nat} (hd1 : decode cc pc = .ok (.lcmp, 1)) (hdg : decode cc (pc + 1) = .ok (.ifCond .ne off, 3)) (ht : ((pc + 1 : Nat) : Int) + off = (tgt : Int)) (kt : ¬ x = y → W p l e R s m args below meth c H locs cells slots Q (F0 m tgt ls rest)) (kf : x = y → W p l e R s m args below meth c H locs cells slots Q (F0 m (pc + 4) ls rest)) : W p l e R s m args below meth c H locs cells slots Q (F0 m pc ls (.long y :: .long x :: rest)) := by
  refine W.lcmp hx hb hd1 ?_
  refine lv_if_ne hx hb hdg ht (fun q => kt ?_) (fun q => kf ?_)
  all_goals rw [my_lc_eq] at q
  all_goals exact q
theorem my_lcmpR_lt (hx : p.tables.exec = Jvm.exec) (hb : c.code = cc) {x y : Int64} {off : Int} {tgt : Nat} (hd1 : decode cc pc = .ok (.lcmp, 1)) (hdg : decode cc (pc + 1) = .ok (.ifCond .lt off, 3)) (ht : ((pc + 1 : Nat) : Int) + off = (tgt : Int)) (kt : x < y → W p l e R s m args below meth c H locs cells slots Q (F0 m tgt ls rest)) (kf : ¬ x < y → W p l e R s m args below meth c H locs cells slots Q (F0 m (pc + 4) ls rest)) : W p l e R s m args below meth c H locs cells slots Q (F0 m pc ls (.long y :: .long x :: rest)) := by
  refine W.lcmp hx hb hd1 ?_
  refine lv_if_lt hx hb hdg ht (fun q => kt ?_) (fun q => kf ?_)
  all_goals rw [my_lc_lt] at q
  all_goals exact q
theorem my_lcmpR_ge (hx : p.tables.exec = Jvm.exec) (hb : c.code = cc) {x y : Int64} {off : Int} {tgt : Nat} (hd1 : decode cc pc = .ok (.lcmp, 1)) (hdg : decode cc (pc + 1) = .ok (.ifCond .ge off, 3)) (ht : ((pc + 1 : Nat) : Int) + off = (tgt : Int)) (kt : y ≤ x → W p l e R s m args below meth c H locs cells slots Q (F0 m tgt ls rest)) (kf : ¬ y ≤ x → W p l e R s m args below meth c H locs cells slots Q (F0 m (pc + 4) ls rest)) : W p l e R s m args below meth c H locs cells slots Q (F0 m pc ls (.long y :: .long x :: rest)) := by
  refine W.lcmp hx hb hd1 ?_
  refine lv_if_ge hx hb hdg ht (fun q => kt ?_) (fun q => kf ?_)
  all_goals rw [my_lc_ge] at q
  all_goals exact q
theorem my_lcmpR_gt (hx : p.tables.exec = Jvm.exec) (hb : c.code = cc) {x y : Int64} {off : Int} {tgt : Nat} (hd1 : decode cc pc = .ok (.lcmp, 1)) (hdg : decode cc (pc + 1) = .ok (.ifCond .gt off, 3)) (ht : ((pc + 1 : Nat) : Int) + off = (tgt : Int)) (kt : y < x → W p l e R s m args below meth c H locs cells slots Q (F0 m tgt ls rest)) (kf : ¬ y < x → W p l e R s m args below meth c H locs cells slots Q (F0 m (pc + 4) ls rest)) : W p l e R s m args below meth c H locs cells slots Q (F0 m pc ls (.long y :: .long x :: rest)) := by
  refine W.lcmp hx hb hd1 ?_
  refine lv_if_gt hx hb hdg ht (fun q => kt ?_) (fun q => kf ?_)
  all_goals rw [my_lc_gt] at q
  all_goals exact q
theorem my_lcmpR_le (hx : p.tables.exec = Jvm.exec) (hb : c.code = cc) {x y : Int64} {off : Int} {tgt : Nat} (hd1 : decode cc pc = .ok (.lcmp, 1)) (hdg : decode cc (pc + 1) = .ok (.ifCond .le off, 3)) (ht : ((pc + 1 : Nat) : Int) + off = (tgt : Int)) (kt : x ≤ y → W p l e R s m args below meth c H locs cells slots Q (F0 m tgt ls rest)) (kf : ¬ x ≤ y → W p l e R s m args below meth c H locs cells slots Q (F0 m (pc + 4) ls rest)) : W p l e R s m args below meth c H locs cells slots Q (F0 m pc ls (.long y :: .long x :: rest)) := by
  refine W.lcmp hx hb hd1 ?_
  refine lv_if_le hx hb hdg ht (fun q => kt ?_) (fun q => kf ?_)
  all_goals rw [my_lc_le] at q
  all_goals exact q
theorem my_lcmp_eq (hx : p.tables.exec = Jvm.exec) (hb : c.code = cc) {a b : Nat} {off : Int} {tgt : Nat} (hd1 : decode cc pc = .ok (.lcmp, 1)) (hdg : decode cc (pc + 1) = .ok (.ifCond .eq off, 3)) (ht : ((pc + 1 : Nat) : Int) + off = (tgt : Int)) (ha : a < 2 ^ 63) (hb2 : b < 2 ^ 63) (kt : a = b → W p l e R s m args below meth c H locs cells slots Q (F0 m tgt ls rest)) (kf : ¬ a = b → W p l e R s m args below meth c H locs cells slots Q (F0 m (pc + 4) ls rest)) : W p l e R s m args below meth c H locs cells slots Q (F0 m pc ls (.long (lN b) :: .long (lN a) :: rest)) := by
  refine my_lcmpR_eq hx hb hd1 hdg ht (fun q => kt ?_) (fun q => kf ?_)
  all_goals rw [pk_lEQ ha hb2] at q
  all_goals omega
theorem my_lcmp_ne (hx : p.tables.exec = Jvm.exec) (hb : c.code = cc) {a b : Nat} {off : Int} {tgt : Nat} (hd1 : decode cc pc = .ok (.lcmp, 1)) (hdg : decode cc (pc + 1) = .ok (.ifCond .ne off, 3)) (ht : ((pc + 1 : Nat) : Int) + off = (tgt : Int)) (ha : a < 2 ^ 63) (hb2 : b < 2 ^ 63) (kt : ¬ a = b → W p l e R s m args below meth c H locs cells slots Q (F0 m tgt ls rest)) (kf : a = b → W p l e R s m args below meth c H locs cells slots Q (F0 m (pc + 4) ls rest)) : W p l e R s m args below meth c H locs cells slots Q (F0 m pc ls (.long (lN b) :: .long (lN a) :: rest)) := by
  refine my_lcmpR_ne hx hb hd1 hdg ht (fun q => kt ?_) (fun q => kf ?_)
  all_goals rw [pk_lEQ ha hb2] at q
  all_goals omega
theorem my_lcmp_lt (hx : p.tables.exec = Jvm.exec) (hb : c.code = cc) {a b : Nat} {off : Int} {tgt : Nat} (hd1 : decode cc pc = .ok (.lcmp, 1)) (hdg : decode cc (pc + 1) = .ok (.ifCond .lt off, 3)) (ht : ((pc + 1 : Nat) : Int) + off = (tgt : Int)) (ha : a < 2 ^ 63) (hb2 : b < 2 ^ 63) (kt : a < b → W p l e R s m args below meth c H locs cells slots Q (F0 m tgt ls rest)) (kf : b ≤ a → W p l e R s m args below meth c H locs cells slots Q (F0 m (pc + 4) ls rest)) : W p l e R s m args below meth c H locs cells slots Q (F0 m pc ls (.long (lN b) :: .long (lN a) :: rest)) := by
  refine my_lcmpR_lt hx hb hd1 hdg ht (fun q => kt ?_) (fun q => kf ?_)
  all_goals rw [pk_lLT ha hb2] at q
  all_goals omega
theorem my_lcmp_ge (hx : p.tables.exec = Jvm.exec) (hb : c.code = cc) {a b : Nat} {off : Int} {tgt : Nat} (hd1 : decode cc pc = .ok (.lcmp, 1)) (hdg : decode cc (pc + 1) = .ok (.ifCond .ge off, 3)) (ht : ((pc + 1 : Nat) : Int) + off = (tgt : Int)) (ha : a < 2 ^ 63) (hb2 : b < 2 ^ 63) (kt : b ≤ a → W p l e R s m args below meth c H locs cells slots Q (F0 m tgt ls rest)) (kf : a < b → W p l e R s m args below meth c H locs cells slots Q (F0 m (pc + 4) ls rest)) : W p l e R s m args below meth c H locs cells slots Q (F0 m pc ls (.long (lN b) :: .long (lN a) :: rest)) := by
  refine my_lcmpR_ge hx hb hd1 hdg ht (fun q => kt ?_) (fun q => kf ?_)
  all_goals rw [pk_lLE hb2 ha] at q
  all_goals omega
theorem my_lcmp_gt (hx : p.tables.exec = Jvm.exec) (hb : c.code = cc) {a b : Nat} {off : Int} {tgt : Nat} (hd1 : decode cc pc = .ok (.lcmp, 1)) (hdg : decode cc (pc + 1) = .ok (.ifCond .gt off, 3)) (ht : ((pc + 1 : Nat) : Int) + off = (tgt : Int)) (ha : a < 2 ^ 63) (hb2 : b < 2 ^ 63) (kt : b < a → W p l e R s m args below meth c H locs cells slots Q (F0 m tgt ls rest)) (kf : a ≤ b → W p l e R s m args below meth c H locs cells slots Q (F0 m (pc + 4) ls rest)) : W p l e R s m args below meth c H locs cells slots Q (F0 m pc ls (.long (lN b) :: .long (lN a) :: rest)) := by
  refine my_lcmpR_gt hx hb hd1 hdg ht (fun q => kt ?_) (fun q => kf ?_)
  all_goals rw [pk_lLT hb2 ha] at q
  all_goals omega
theorem my_lcmp_le (hx : p.tables.exec = Jvm.exec) (hb : c.code = cc) {a b : Nat} {off : Int} {tgt : Nat} (hd1 : decode cc pc = .ok (.lcmp, 1)) (hdg : decode cc (pc + 1) = .ok (.ifCond .le off, 3)) (ht : ((pc + 1 : Nat) : Int) + off = (tgt : Int)) (ha : a < 2 ^ 63) (hb2 : b < 2 ^ 63) (kt : a ≤ b → W p l e R s m args below meth c H locs cells slots Q (F0 m tgt ls rest)) (kf : b < a → W p l e R s m args below meth c H locs cells slots Q (F0 m (pc + 4) ls rest)) : W p l e R s m args below meth c H locs cells slots Q (F0 m pc ls (.long (lN b) :: .long (lN a) :: rest)) := by
  refine my_lcmpR_le hx hb hd1 hdg ht (fun q => kt ?_) (fun q => kf ?_)
  all_goals rw [pk_lLE ha hb2] at q
  all_goals omega
theorem my_ldiv (hx : p.tables.exec = Jvm.exec) (hb : c.code = cc) {a b : Nat} (hdg : decode cc pc = .ok (.ldiv, 1)) (ha : a < 2 ^ 63) (h0 : 0 < b) (hb2 : b < 2 ^ 63) (k : W p l e R s m args below meth c H locs cells slots Q (F0 m (pc + 1) ls (.long (lN (a / b)) :: rest))) : W p l e R s m args below meth c H locs cells slots Q (F0 m pc ls (.long (lN b) :: .long (lN a) :: rest)) := by
  refine lv_ldiv hx hb hdg ?_ ?_
  · intro q
    have : lN b = lN 0 := q
    rw [pk_lEQ hb2 (by decide)] at this
    omega
  · rw [pk_lDiv ha h0 hb2]; exact k
theorem my_lrem (hx : p.tables.exec = Jvm.exec) (hb : c.code = cc) {a b : Nat} (hdg : decode cc pc = .ok (.lrem, 1)) (ha : a < 2 ^ 63) (h0 : 0 < b) (hb2 : b < 2 ^ 63) (k : W p l e R s m args below meth c H locs cells slots Q (F0 m (pc + 1) ls (.long (lN (a % b)) :: rest))) : W p l e R s m args below meth c H locs cells slots Q (F0 m pc ls (.long (lN b) :: .long (lN a) :: rest)) := by
  refine lv_lrem hx hb hdg ?_ ?_
  · intro q
    have : lN b = lN 0 := q
    rw [pk_lEQ hb2 (by decide)] at this
    omega
  · rw [pk_lRem ha h0 hb2]; exact k
theorem my_iald (hx : p.tables.exec = Jvm.exec) (hb : c.code = cc) (hK : va_K D cl tys s) (hP : va_P D cl ws H) (q0 t0 : Nat) {cA : ClassId} {n : Nat} {f : Nat → Int32} (ha : ws[q0]? = some (a, .inl (cA, n, .inl f))) (ht : tys[t0]? = some (cA, .int)) {i : Nat} (hi : i < n) (hn : n < 2 ^ 31) {v : Int32} (hv : f i = v) (hdg : decode cc pc = .ok (.iaload, 1)) (kk : W p l e R s m args below meth c H locs cells slots Q (F0 m (pc + 1) ls (.int v :: rest))) : W p l e R s m args below meth c H locs cells slots Q (F0 m pc ls (.int (nI i) :: .ref a :: rest)) :=
  va_iald hx hb hK hP q0 t0 ha ht (vp_in_nI hi hn) hdg (by rw [nI_clamp (by omega), hv]; exact kk)
theorem my_lald (hx : p.tables.exec = Jvm.exec) (hb : c.code = cc) (hK : va_K D cl tys s) (hP : va_P D cl ws H) (q0 t0 : Nat) {cA : ClassId} {n : Nat} {f : Nat → Int64} (ha : ws[q0]? = some (a, .inl (cA, n, .inr (.inl f)))) (ht : tys[t0]? = some (cA, .long)) {i : Nat} (hi : i < n) (hn : n < 2 ^ 31) {v : Int64} (hv : f i = v) (hdg : decode cc pc = .ok (.laload, 1)) (kk : W p l e R s m args below meth c H locs cells slots Q (F0 m (pc + 1) ls (.long v :: rest))) : W p l e R s m args below meth c H locs cells slots Q (F0 m pc ls (.int (nI i) :: .ref a :: rest)) :=
  va_lald hx hb hK hP q0 t0 ha ht (vp_in_nI hi hn) hdg (by rw [nI_clamp (by omega), hv]; exact kk)
theorem my_upN (f : Nat → Nat) (i v : Nat) : upd (fun j => nI (f j)) i (nI v) = fun j => nI (va_up f i v j) := by
  funext j
  simp only [upd, va_up]
  split <;> rfl
theorem my_upL (f : Nat → Nat) (i v : Nat) : vp_updL (fun j => lN (f j)) i (lN v) = fun j => lN (va_up f i v j) := by
  funext j
  simp only [vp_updL, va_up]
  split <;> rfl
theorem my_iast (hx : p.tables.exec = Jvm.exec) (hb : c.code = cc) (hK : va_K D cl tys s) (hP : va_P D cl ws H) (hD : va_D A ws) (hS : va_S A H0 H locs) (q0 t0 : Nat) {cA : ClassId} {n : Nat} {f : Nat → Int32} (ha : ws[q0]? = some (a, .inl (cA, n, .inl f))) (ht : tys[t0]? = some (cA, .int)) {i : Nat} {x : Int32} (hi : i < n) (hn : n < 2 ^ 31) {f' : Nat → Int32} (hf : upd f i x = f') {w' : va_W} (hw : ws.set q0 (a, .inl (cA, n, .inl f')) = w') (hdg : decode cc pc = .ok (.iastore, 1))
    (kk : ∀ (H1 : Heap) (locs1 : List Loc), va_P D cl w' H1 → va_D A w' → va_S A H0 H1 locs1 → W p l e R s m args below meth c H1 locs1 cells slots Q (F0 m (pc + 1) ls rest)) : W p l e R s m args below meth c H locs cells slots Q (F0 m pc ls (.int x :: .int (nI i) :: .ref a :: rest)) := by
  subst hw
  subst hf
  refine va_iast hx hb hK hP hD hS q0 t0 ha ht (vp_in_nI hi hn) hdg ?_
  rw [nI_clamp (by omega)]
  exact kk
theorem my_last (hx : p.tables.exec = Jvm.exec) (hb : c.code = cc) (hK : va_K D cl tys s) (hP : va_P D cl ws H) (hD : va_D A ws) (hS : va_S A H0 H locs) (q0 t0 : Nat) {cA : ClassId} {n : Nat} {f : Nat → Int64} (ha : ws[q0]? = some (a, .inl (cA, n, .inr (.inl f)))) (ht : tys[t0]? = some (cA, .long)) {i : Nat} {x : Int64} (hi : i < n) (hn : n < 2 ^ 31) {f' : Nat → Int64} (hf : vp_updL f i x = f') {w' : va_W} (hw : ws.set q0 (a, .inl (cA, n, .inr (.inl f'))) = w') (hdg : decode cc pc = .ok (.lastore, 1))
    (kk : ∀ (H1 : Heap) (locs1 : List Loc), va_P D cl w' H1 → va_D A w' → va_S A H0 H1 locs1 → W p l e R s m args below meth c H1 locs1 cells slots Q (F0 m (pc + 1) ls rest)) : W p l e R s m args below meth c H locs cells slots Q (F0 m pc ls (.long x :: .int (nI i) :: .ref a :: rest)) := by
  subst hw
  subst hf
  refine va_last hx hb hK hP hD hS q0 t0 ha ht (vp_in_nI hi hn) hdg ?_
  rw [nI_clamp (by omega)]
  exact kk
theorem tg_good {w : Cond} (h : w ∈ tblG) : (w.onTables && w.keeps) = true ∨ ∃ ty, w = .arrayClass ty := good_of_word (List.mem_filter.mp h).2
theorem gC {y : MethodName} {cc : ByteArray} {maxL : Nat} {ret : Option FieldType} (hc : Cond.code y cc maxL ret ∈ tblG) : GoodIn tblG (Cond.code y cc maxL ret :: tblG) := fun w hw => by
  rcases List.mem_cons.mp hw with rfl | h
  · exact ⟨hc, tg_good hc⟩
  · exact ⟨h, tg_good h⟩
theorem gApp {a b : List Cond} (ha : ∀ w ∈ a, w ∈ tblG) (hb : GoodIn tblG b) : GoodIn tblG (a ++ b) := fun w h => by
  rcases List.mem_append.mp h with h | h
  · exact ⟨ha w h, tg_good (ha w h)⟩
  · exact hb w h
theorem my_V_i {r : Int32} {y : MethodName} {bytes : ByteArray} {maxL nL n index q0 ci b : Nat} {ret : Option FieldType} {rm : Room} {own C : String} {As fs : List Value} {T : u_T} {nF : Nat} {lv : List (Nat × Value)} (hM : ct_i l g cl tys y bytes maxL ret rm (.ref b :: As) w0 w1 r) (hx : p.tables.exec = Jvm.exec) (hb : c.code = cc) (hml : c.maxLocals = nL) (hown : s.vm.findClass own = some m.cls) (hT : ∀ w ∈ tblG, w.before args s = true) (hN : nst s) (k1 : Cond.methodLink own index y ∈ tblG) (k2 : Cond.instanceMethod y ∈ tblG) (k3 : Cond.selects C y y ∈ tblG) (k4 : Cond.initialized C ∈ tblG) (k5 : Cond.code y bytes maxL ret ∈ tblG) (hd : y.cls = C ∧ y.cls ≠ "java/lang/invoke/MethodHandle" ∧ y.cls ≠ "java/lang/invoke/VarHandle" ∧ (parseMethodDescriptor y.desc).map (fun d => d.parameters.length) = some n) (hrc : rm.cells = 0) (hrs : rm.slots = 0) (hR : rm.frames + 1 ≤ R.frames ∧ 8 + (maxL + 11) + rm.locals ≤ R.locals) (hf : cells ≤ R.cells ∧ slots ≤ R.slots)
    (hK : va_K g cl tys s) (hP : va_P g cl w0 H) (hD : va_D A w0) (hS : va_S A s.heap H locs) (hA : ∀ q : Nat, s.heap.size ≤ q → A q) (hc : cl[ci]? = some (C, T, nF)) (he : w0[q0]? = some (b, .inr (ci, fs))) (hn : As.length = n) (hl : lv_has ls nL lv) (hst : st0 = As.reverse ++ .ref b :: rest) (hrm : (rest.map fun v => v.category).sum ≤ 8) (hdg : decode cc pc = .ok (.invokevirtual index, 3))
    (kk : ∀ (H1 : Heap) (locs1 : List Loc), va_P g cl w1 H1 → va_D A w1 → va_S A s.heap H1 locs1 → W p l e R s m args below meth c H1 locs1 cells slots Q (F0 m (pc + 3) ls (.int r :: rest))) : W p l e R s m args below meth c H locs cells slots Q (F0 m pc ls st0) :=
  my_calli (va_runV (As := As) (rest := rest) (n := n) ⟨hx, hb, hml, hown, hT⟩ (hM H.size) (cwV n hT (gApp (List.forall_mem_cons.mpr ⟨k1, List.forall_mem_cons.mpr ⟨k2, List.forall_mem_cons.mpr ⟨k3, List.forall_mem_cons.mpr ⟨k4, fun _ h => absurd h List.not_mem_nil⟩⟩⟩⟩) (gC k5)) rfl hrc hrs hd hR) (my_preV rfl hN hK hP hD hc he) rfl hn hl.1 hst (lv_room hrm) hdg hf) hS (my_fr hD hS hA) kk
theorem my_S_i {r : Int32} {y : MethodName} {bytes : ByteArray} {maxL nL n index : Nat} {ret : Option FieldType} {rm : Room} {own : String} {As : List Value} {lv : List (Nat × Value)} (hM : ct_i l g cl tys y bytes maxL ret rm As w0 w1 r) (hx : p.tables.exec = Jvm.exec) (hb : c.code = cc) (hml : c.maxLocals = nL) (hown : s.vm.findClass own = some m.cls) (hT : ∀ w ∈ tblG, w.before args s = true) (hN : nst s) (k1 : Cond.methodLink own index y ∈ tblG) (k2 : Cond.static y ∈ tblG) (k4 : Cond.initialized y.cls ∈ tblG) (k5 : Cond.code y bytes maxL ret ∈ tblG) (hd : y.cls ≠ "java/lang/invoke/MethodHandle" ∧ y.cls ≠ "java/lang/invoke/VarHandle" ∧ (parseMethodDescriptor y.desc).map (fun d => d.parameters.length) = some n) (hrc : rm.cells = 0) (hrs : rm.slots = 0) (hR : rm.frames + 1 ≤ R.frames ∧ 8 + (maxL + 11) + rm.locals ≤ R.locals) (hf : cells ≤ R.cells ∧ slots ≤ R.slots)
    (hK : va_K g cl tys s) (hP : va_P g cl w0 H) (hD : va_D A w0) (hS : va_S A s.heap H locs) (hA : ∀ q : Nat, s.heap.size ≤ q → A q) (hn : As.length = n) (hl : lv_has ls nL lv) (hst : st0 = As.reverse ++ rest) (hrm : (rest.map fun v => v.category).sum ≤ 8) (hdg : decode cc pc = .ok (.invokestatic index, 3))
    (kk : ∀ (H1 : Heap) (locs1 : List Loc), va_P g cl w1 H1 → va_D A w1 → va_S A s.heap H1 locs1 → W p l e R s m args below meth c H1 locs1 cells slots Q (F0 m (pc + 3) ls (.int r :: rest))) : W p l e R s m args below meth c H locs cells slots Q (F0 m pc ls st0) :=
  my_calli (va_runS (As := As) (rest := rest) (n := n) ⟨hx, hb, hml, hown, hT⟩ (hM H.size) (va_cwS n hT (gApp (List.forall_mem_cons.mpr ⟨k1, List.forall_mem_cons.mpr ⟨k2, List.forall_mem_cons.mpr ⟨k4, fun _ h => absurd h List.not_mem_nil⟩⟩⟩) (gC k5)) rfl hrc hrs hd hR) (my_preS rfl hN hK hP hD) rfl hn hl.1 hst (lv_room hrm) hdg hf) hS (my_fr hD hS hA) kk
theorem my_VN_i {r : Int32} {y : MethodName} {bytes : ByteArray} {maxL nL n index q0 ci b : Nat} {ret : Option FieldType} {rm : Room} {own C : String} {host : String} {As fs : List Value} {T : u_T} {nF : Nat} {lv : List (Nat × Value)} (hM : ct_i l g cl tys y bytes maxL ret rm (.ref b :: As) w0 w1 r) (hx : p.tables.exec = Jvm.exec) (hb : c.code = cc) (hml : c.maxLocals = nL) (hown : s.vm.findClass own = some m.cls) (hT : ∀ w ∈ tblG, w.before args s = true) (hN : nst s) (k1 : Cond.methodLinkNest own index y host ∈ tblN) (k2 : Cond.instanceMethod y ∈ tblG) (k3 : Cond.selects C y y ∈ tblG) (k4 : Cond.initialized y.cls ∈ tblG) (k5 : Cond.code y bytes maxL ret ∈ tblG) (hd : y.cls ≠ "java/lang/invoke/MethodHandle" ∧ y.cls ≠ "java/lang/invoke/VarHandle" ∧ (parseMethodDescriptor y.desc).map (fun d => d.parameters.length) = some n) (hrc : rm.cells = 0) (hrs : rm.slots = 0) (hR : rm.frames + 1 ≤ R.frames ∧ 8 + (maxL + 11) + rm.locals ≤ R.locals) (hf : cells ≤ R.cells ∧ slots ≤ R.slots)
    (hK : va_K g cl tys s) (hP : va_P g cl w0 H) (hD : va_D A w0) (hS : va_S A s.heap H locs) (hA : ∀ q : Nat, s.heap.size ≤ q → A q) (hc : cl[ci]? = some (C, T, nF)) (he : w0[q0]? = some (b, .inr (ci, fs))) (hn : As.length = n) (hl : lv_has ls nL lv) (hst : st0 = As.reverse ++ .ref b :: rest) (hrm : (rest.map fun v => v.category).sum ≤ 8) (hdg : decode cc pc = .ok (.invokevirtual index, 3))
    (kk : ∀ (H1 : Heap) (locs1 : List Loc), va_P g cl w1 H1 → va_D A w1 → va_S A s.heap H1 locs1 → W p l e R s m args below meth c H1 locs1 cells slots Q (F0 m (pc + 3) ls (.int r :: rest))) : W p l e R s m args below meth c H locs cells slots Q (F0 m pc ls st0) :=
  my_calli (va_runVN (As := As) (rest := rest) (n := n) ⟨hx, hb, hml, hown, hT⟩ (hM H.size) ⟨va_cnB n hT (gC k5) rfl hrc hrs (hN _ k1) (hT _ k4) hd hR, hT _ k2, hT _ k3⟩ (my_preV rfl hN hK hP hD hc he) rfl hn hl.1 hst (lv_room hrm) hdg hf) hS (my_fr hD hS hA) kk
theorem my_SN_i {r : Int32} {y : MethodName} {bytes : ByteArray} {maxL nL n index : Nat} {ret : Option FieldType} {rm : Room} {own : String} {host : String} {As : List Value} {lv : List (Nat × Value)} (hM : ct_i l g cl tys y bytes maxL ret rm As w0 w1 r) (hx : p.tables.exec = Jvm.exec) (hb : c.code = cc) (hml : c.maxLocals = nL) (hown : s.vm.findClass own = some m.cls) (hT : ∀ w ∈ tblG, w.before args s = true) (hN : nst s) (k1 : Cond.methodLinkNest own index y host ∈ tblN) (k2 : Cond.static y ∈ tblG) (k4 : Cond.initialized y.cls ∈ tblG) (k5 : Cond.code y bytes maxL ret ∈ tblG) (hd : y.cls ≠ "java/lang/invoke/MethodHandle" ∧ y.cls ≠ "java/lang/invoke/VarHandle" ∧ (parseMethodDescriptor y.desc).map (fun d => d.parameters.length) = some n) (hrc : rm.cells = 0) (hrs : rm.slots = 0) (hR : rm.frames + 1 ≤ R.frames ∧ 8 + (maxL + 11) + rm.locals ≤ R.locals) (hf : cells ≤ R.cells ∧ slots ≤ R.slots)
    (hK : va_K g cl tys s) (hP : va_P g cl w0 H) (hD : va_D A w0) (hS : va_S A s.heap H locs) (hA : ∀ q : Nat, s.heap.size ≤ q → A q) (hn : As.length = n) (hl : lv_has ls nL lv) (hst : st0 = As.reverse ++ rest) (hrm : (rest.map fun v => v.category).sum ≤ 8) (hdg : decode cc pc = .ok (.invokestatic index, 3))
    (kk : ∀ (H1 : Heap) (locs1 : List Loc), va_P g cl w1 H1 → va_D A w1 → va_S A s.heap H1 locs1 → W p l e R s m args below meth c H1 locs1 cells slots Q (F0 m (pc + 3) ls (.int r :: rest))) : W p l e R s m args below meth c H locs cells slots Q (F0 m pc ls st0) :=
  my_calli (va_runSN (As := As) (rest := rest) (n := n) ⟨hx, hb, hml, hown, hT⟩ (hM H.size) ⟨va_cnB n hT (gC k5) rfl hrc hrs (hN _ k1) (hT _ k4) hd hR, hT _ k2, trivial⟩ (my_preS rfl hN hK hP hD) rfl hn hl.1 hst (lv_room hrm) hdg hf) hS (my_fr hD hS hA) kk
theorem my_V_l {r : Int64} {y : MethodName} {bytes : ByteArray} {maxL nL n index q0 ci b : Nat} {ret : Option FieldType} {rm : Room} {own C : String} {As fs : List Value} {T : u_T} {nF : Nat} {lv : List (Nat × Value)} (hM : ct_l l g cl tys y bytes maxL ret rm (.ref b :: As) w0 w1 r) (hx : p.tables.exec = Jvm.exec) (hb : c.code = cc) (hml : c.maxLocals = nL) (hown : s.vm.findClass own = some m.cls) (hT : ∀ w ∈ tblG, w.before args s = true) (hN : nst s) (k1 : Cond.methodLink own index y ∈ tblG) (k2 : Cond.instanceMethod y ∈ tblG) (k3 : Cond.selects C y y ∈ tblG) (k4 : Cond.initialized C ∈ tblG) (k5 : Cond.code y bytes maxL ret ∈ tblG) (hd : y.cls = C ∧ y.cls ≠ "java/lang/invoke/MethodHandle" ∧ y.cls ≠ "java/lang/invoke/VarHandle" ∧ (parseMethodDescriptor y.desc).map (fun d => d.parameters.length) = some n) (hrc : rm.cells = 0) (hrs : rm.slots = 0) (hR : rm.frames + 1 ≤ R.frames ∧ 8 + (maxL + 11) + rm.locals ≤ R.locals) (hf : cells ≤ R.cells ∧ slots ≤ R.slots)
    (hK : va_K g cl tys s) (hP : va_P g cl w0 H) (hD : va_D A w0) (hS : va_S A s.heap H locs) (hA : ∀ q : Nat, s.heap.size ≤ q → A q) (hc : cl[ci]? = some (C, T, nF)) (he : w0[q0]? = some (b, .inr (ci, fs))) (hn : As.length = n) (hl : lv_has ls nL lv) (hst : st0 = As.reverse ++ .ref b :: rest) (hrm : (rest.map fun v => v.category).sum ≤ 8) (hdg : decode cc pc = .ok (.invokevirtual index, 3))
    (kk : ∀ (H1 : Heap) (locs1 : List Loc), va_P g cl w1 H1 → va_D A w1 → va_S A s.heap H1 locs1 → W p l e R s m args below meth c H1 locs1 cells slots Q (F0 m (pc + 3) ls (.long r :: rest))) : W p l e R s m args below meth c H locs cells slots Q (F0 m pc ls st0) :=
  my_calll (va_runV (As := As) (rest := rest) (n := n) ⟨hx, hb, hml, hown, hT⟩ (hM H.size) (cwV n hT (gApp (List.forall_mem_cons.mpr ⟨k1, List.forall_mem_cons.mpr ⟨k2, List.forall_mem_cons.mpr ⟨k3, List.forall_mem_cons.mpr ⟨k4, fun _ h => absurd h List.not_mem_nil⟩⟩⟩⟩) (gC k5)) rfl hrc hrs hd hR) (my_preV rfl hN hK hP hD hc he) rfl hn hl.1 hst (lv_room hrm) hdg hf) hS (my_fr hD hS hA) kk
theorem my_S_l {r : Int64} {y : MethodName} {bytes : ByteArray} {maxL nL n index : Nat} {ret : Option FieldType} {rm : Room} {own : String} {As : List Value} {lv : List (Nat × Value)} (hM : ct_l l g cl tys y bytes maxL ret rm As w0 w1 r) (hx : p.tables.exec = Jvm.exec) (hb : c.code = cc) (hml : c.maxLocals = nL) (hown : s.vm.findClass own = some m.cls) (hT : ∀ w ∈ tblG, w.before args s = true) (hN : nst s) (k1 : Cond.methodLink own index y ∈ tblG) (k2 : Cond.static y ∈ tblG) (k4 : Cond.initialized y.cls ∈ tblG) (k5 : Cond.code y bytes maxL ret ∈ tblG) (hd : y.cls ≠ "java/lang/invoke/MethodHandle" ∧ y.cls ≠ "java/lang/invoke/VarHandle" ∧ (parseMethodDescriptor y.desc).map (fun d => d.parameters.length) = some n) (hrc : rm.cells = 0) (hrs : rm.slots = 0) (hR : rm.frames + 1 ≤ R.frames ∧ 8 + (maxL + 11) + rm.locals ≤ R.locals) (hf : cells ≤ R.cells ∧ slots ≤ R.slots)
    (hK : va_K g cl tys s) (hP : va_P g cl w0 H) (hD : va_D A w0) (hS : va_S A s.heap H locs) (hA : ∀ q : Nat, s.heap.size ≤ q → A q) (hn : As.length = n) (hl : lv_has ls nL lv) (hst : st0 = As.reverse ++ rest) (hrm : (rest.map fun v => v.category).sum ≤ 8) (hdg : decode cc pc = .ok (.invokestatic index, 3))
    (kk : ∀ (H1 : Heap) (locs1 : List Loc), va_P g cl w1 H1 → va_D A w1 → va_S A s.heap H1 locs1 → W p l e R s m args below meth c H1 locs1 cells slots Q (F0 m (pc + 3) ls (.long r :: rest))) : W p l e R s m args below meth c H locs cells slots Q (F0 m pc ls st0) :=
  my_calll (va_runS (As := As) (rest := rest) (n := n) ⟨hx, hb, hml, hown, hT⟩ (hM H.size) (va_cwS n hT (gApp (List.forall_mem_cons.mpr ⟨k1, List.forall_mem_cons.mpr ⟨k2, List.forall_mem_cons.mpr ⟨k4, fun _ h => absurd h List.not_mem_nil⟩⟩⟩) (gC k5)) rfl hrc hrs hd hR) (my_preS rfl hN hK hP hD) rfl hn hl.1 hst (lv_room hrm) hdg hf) hS (my_fr hD hS hA) kk
theorem my_VN_l {r : Int64} {y : MethodName} {bytes : ByteArray} {maxL nL n index q0 ci b : Nat} {ret : Option FieldType} {rm : Room} {own C : String} {host : String} {As fs : List Value} {T : u_T} {nF : Nat} {lv : List (Nat × Value)} (hM : ct_l l g cl tys y bytes maxL ret rm (.ref b :: As) w0 w1 r) (hx : p.tables.exec = Jvm.exec) (hb : c.code = cc) (hml : c.maxLocals = nL) (hown : s.vm.findClass own = some m.cls) (hT : ∀ w ∈ tblG, w.before args s = true) (hN : nst s) (k1 : Cond.methodLinkNest own index y host ∈ tblN) (k2 : Cond.instanceMethod y ∈ tblG) (k3 : Cond.selects C y y ∈ tblG) (k4 : Cond.initialized y.cls ∈ tblG) (k5 : Cond.code y bytes maxL ret ∈ tblG) (hd : y.cls ≠ "java/lang/invoke/MethodHandle" ∧ y.cls ≠ "java/lang/invoke/VarHandle" ∧ (parseMethodDescriptor y.desc).map (fun d => d.parameters.length) = some n) (hrc : rm.cells = 0) (hrs : rm.slots = 0) (hR : rm.frames + 1 ≤ R.frames ∧ 8 + (maxL + 11) + rm.locals ≤ R.locals) (hf : cells ≤ R.cells ∧ slots ≤ R.slots)
    (hK : va_K g cl tys s) (hP : va_P g cl w0 H) (hD : va_D A w0) (hS : va_S A s.heap H locs) (hA : ∀ q : Nat, s.heap.size ≤ q → A q) (hc : cl[ci]? = some (C, T, nF)) (he : w0[q0]? = some (b, .inr (ci, fs))) (hn : As.length = n) (hl : lv_has ls nL lv) (hst : st0 = As.reverse ++ .ref b :: rest) (hrm : (rest.map fun v => v.category).sum ≤ 8) (hdg : decode cc pc = .ok (.invokevirtual index, 3))
    (kk : ∀ (H1 : Heap) (locs1 : List Loc), va_P g cl w1 H1 → va_D A w1 → va_S A s.heap H1 locs1 → W p l e R s m args below meth c H1 locs1 cells slots Q (F0 m (pc + 3) ls (.long r :: rest))) : W p l e R s m args below meth c H locs cells slots Q (F0 m pc ls st0) :=
  my_calll (va_runVN (As := As) (rest := rest) (n := n) ⟨hx, hb, hml, hown, hT⟩ (hM H.size) ⟨va_cnB n hT (gC k5) rfl hrc hrs (hN _ k1) (hT _ k4) hd hR, hT _ k2, hT _ k3⟩ (my_preV rfl hN hK hP hD hc he) rfl hn hl.1 hst (lv_room hrm) hdg hf) hS (my_fr hD hS hA) kk
theorem my_SN_l {r : Int64} {y : MethodName} {bytes : ByteArray} {maxL nL n index : Nat} {ret : Option FieldType} {rm : Room} {own : String} {host : String} {As : List Value} {lv : List (Nat × Value)} (hM : ct_l l g cl tys y bytes maxL ret rm As w0 w1 r) (hx : p.tables.exec = Jvm.exec) (hb : c.code = cc) (hml : c.maxLocals = nL) (hown : s.vm.findClass own = some m.cls) (hT : ∀ w ∈ tblG, w.before args s = true) (hN : nst s) (k1 : Cond.methodLinkNest own index y host ∈ tblN) (k2 : Cond.static y ∈ tblG) (k4 : Cond.initialized y.cls ∈ tblG) (k5 : Cond.code y bytes maxL ret ∈ tblG) (hd : y.cls ≠ "java/lang/invoke/MethodHandle" ∧ y.cls ≠ "java/lang/invoke/VarHandle" ∧ (parseMethodDescriptor y.desc).map (fun d => d.parameters.length) = some n) (hrc : rm.cells = 0) (hrs : rm.slots = 0) (hR : rm.frames + 1 ≤ R.frames ∧ 8 + (maxL + 11) + rm.locals ≤ R.locals) (hf : cells ≤ R.cells ∧ slots ≤ R.slots)
    (hK : va_K g cl tys s) (hP : va_P g cl w0 H) (hD : va_D A w0) (hS : va_S A s.heap H locs) (hA : ∀ q : Nat, s.heap.size ≤ q → A q) (hn : As.length = n) (hl : lv_has ls nL lv) (hst : st0 = As.reverse ++ rest) (hrm : (rest.map fun v => v.category).sum ≤ 8) (hdg : decode cc pc = .ok (.invokestatic index, 3))
    (kk : ∀ (H1 : Heap) (locs1 : List Loc), va_P g cl w1 H1 → va_D A w1 → va_S A s.heap H1 locs1 → W p l e R s m args below meth c H1 locs1 cells slots Q (F0 m (pc + 3) ls (.long r :: rest))) : W p l e R s m args below meth c H locs cells slots Q (F0 m pc ls st0) :=
  my_calll (va_runSN (As := As) (rest := rest) (n := n) ⟨hx, hb, hml, hown, hT⟩ (hM H.size) ⟨va_cnB n hT (gC k5) rfl hrc hrs (hN _ k1) (hT _ k4) hd hR, hT _ k2, trivial⟩ (my_preS rfl hN hK hP hD) rfl hn hl.1 hst (lv_room hrm) hdg hf) hS (my_fr hD hS hA) kk
theorem my_V_v  {y : MethodName} {bytes : ByteArray} {maxL nL n index q0 ci b : Nat} {ret : Option FieldType} {rm : Room} {own C : String} {As fs : List Value} {T : u_T} {nF : Nat} {lv : List (Nat × Value)} (hM : ct_v l g cl tys y bytes maxL ret rm (.ref b :: As) w0 w1) (hx : p.tables.exec = Jvm.exec) (hb : c.code = cc) (hml : c.maxLocals = nL) (hown : s.vm.findClass own = some m.cls) (hT : ∀ w ∈ tblG, w.before args s = true) (hN : nst s) (k1 : Cond.methodLink own index y ∈ tblG) (k2 : Cond.instanceMethod y ∈ tblG) (k3 : Cond.selects C y y ∈ tblG) (k4 : Cond.initialized C ∈ tblG) (k5 : Cond.code y bytes maxL ret ∈ tblG) (hd : y.cls = C ∧ y.cls ≠ "java/lang/invoke/MethodHandle" ∧ y.cls ≠ "java/lang/invoke/VarHandle" ∧ (parseMethodDescriptor y.desc).map (fun d => d.parameters.length) = some n) (hrc : rm.cells = 0) (hrs : rm.slots = 0) (hR : rm.frames + 1 ≤ R.frames ∧ 8 + (maxL + 11) + rm.locals ≤ R.locals) (hf : cells ≤ R.cells ∧ slots ≤ R.slots)
    (hK : va_K g cl tys s) (hP : va_P g cl w0 H) (hD : va_D A w0) (hS : va_S A s.heap H locs) (hA : ∀ q : Nat, s.heap.size ≤ q → A q) (hc : cl[ci]? = some (C, T, nF)) (he : w0[q0]? = some (b, .inr (ci, fs))) (hn : As.length = n) (hl : lv_has ls nL lv) (hst : st0 = As.reverse ++ .ref b :: rest) (hrm : (rest.map fun v => v.category).sum ≤ 8) (hdg : decode cc pc = .ok (.invokevirtual index, 3))
    (kk : ∀ (H1 : Heap) (locs1 : List Loc), va_P g cl w1 H1 → va_D A w1 → va_S A s.heap H1 locs1 → W p l e R s m args below meth c H1 locs1 cells slots Q (F0 m (pc + 3) ls rest)) : W p l e R s m args below meth c H locs cells slots Q (F0 m pc ls st0) :=
  my_callv (va_runV (As := As) (rest := rest) (n := n) ⟨hx, hb, hml, hown, hT⟩ (hM H.size) (cwV n hT (gApp (List.forall_mem_cons.mpr ⟨k1, List.forall_mem_cons.mpr ⟨k2, List.forall_mem_cons.mpr ⟨k3, List.forall_mem_cons.mpr ⟨k4, fun _ h => absurd h List.not_mem_nil⟩⟩⟩⟩) (gC k5)) rfl hrc hrs hd hR) (my_preV rfl hN hK hP hD hc he) rfl hn hl.1 hst (lv_room hrm) hdg hf) hS (my_fr hD hS hA) kk
theorem my_S_v  {y : MethodName} {bytes : ByteArray} {maxL nL n index : Nat} {ret : Option FieldType} {rm : Room} {own : String} {As : List Value} {lv : List (Nat × Value)} (hM : ct_v l g cl tys y bytes maxL ret rm As w0 w1) (hx : p.tables.exec = Jvm.exec) (hb : c.code = cc) (hml : c.maxLocals = nL) (hown : s.vm.findClass own = some m.cls) (hT : ∀ w ∈ tblG, w.before args s = true) (hN : nst s) (k1 : Cond.methodLink own index y ∈ tblG) (k2 : Cond.static y ∈ tblG) (k4 : Cond.initialized y.cls ∈ tblG) (k5 : Cond.code y bytes maxL ret ∈ tblG) (hd : y.cls ≠ "java/lang/invoke/MethodHandle" ∧ y.cls ≠ "java/lang/invoke/VarHandle" ∧ (parseMethodDescriptor y.desc).map (fun d => d.parameters.length) = some n) (hrc : rm.cells = 0) (hrs : rm.slots = 0) (hR : rm.frames + 1 ≤ R.frames ∧ 8 + (maxL + 11) + rm.locals ≤ R.locals) (hf : cells ≤ R.cells ∧ slots ≤ R.slots)
    (hK : va_K g cl tys s) (hP : va_P g cl w0 H) (hD : va_D A w0) (hS : va_S A s.heap H locs) (hA : ∀ q : Nat, s.heap.size ≤ q → A q) (hn : As.length = n) (hl : lv_has ls nL lv) (hst : st0 = As.reverse ++ rest) (hrm : (rest.map fun v => v.category).sum ≤ 8) (hdg : decode cc pc = .ok (.invokestatic index, 3))
    (kk : ∀ (H1 : Heap) (locs1 : List Loc), va_P g cl w1 H1 → va_D A w1 → va_S A s.heap H1 locs1 → W p l e R s m args below meth c H1 locs1 cells slots Q (F0 m (pc + 3) ls rest)) : W p l e R s m args below meth c H locs cells slots Q (F0 m pc ls st0) :=
  my_callv (va_runS (As := As) (rest := rest) (n := n) ⟨hx, hb, hml, hown, hT⟩ (hM H.size) (va_cwS n hT (gApp (List.forall_mem_cons.mpr ⟨k1, List.forall_mem_cons.mpr ⟨k2, List.forall_mem_cons.mpr ⟨k4, fun _ h => absurd h List.not_mem_nil⟩⟩⟩) (gC k5)) rfl hrc hrs hd hR) (my_preS rfl hN hK hP hD) rfl hn hl.1 hst (lv_room hrm) hdg hf) hS (my_fr hD hS hA) kk
theorem my_VN_v  {y : MethodName} {bytes : ByteArray} {maxL nL n index q0 ci b : Nat} {ret : Option FieldType} {rm : Room} {own C : String} {host : String} {As fs : List Value} {T : u_T} {nF : Nat} {lv : List (Nat × Value)} (hM : ct_v l g cl tys y bytes maxL ret rm (.ref b :: As) w0 w1) (hx : p.tables.exec = Jvm.exec) (hb : c.code = cc) (hml : c.maxLocals = nL) (hown : s.vm.findClass own = some m.cls) (hT : ∀ w ∈ tblG, w.before args s = true) (hN : nst s) (k1 : Cond.methodLinkNest own index y host ∈ tblN) (k2 : Cond.instanceMethod y ∈ tblG) (k3 : Cond.selects C y y ∈ tblG) (k4 : Cond.initialized y.cls ∈ tblG) (k5 : Cond.code y bytes maxL ret ∈ tblG) (hd : y.cls ≠ "java/lang/invoke/MethodHandle" ∧ y.cls ≠ "java/lang/invoke/VarHandle" ∧ (parseMethodDescriptor y.desc).map (fun d => d.parameters.length) = some n) (hrc : rm.cells = 0) (hrs : rm.slots = 0) (hR : rm.frames + 1 ≤ R.frames ∧ 8 + (maxL + 11) + rm.locals ≤ R.locals) (hf : cells ≤ R.cells ∧ slots ≤ R.slots)
    (hK : va_K g cl tys s) (hP : va_P g cl w0 H) (hD : va_D A w0) (hS : va_S A s.heap H locs) (hA : ∀ q : Nat, s.heap.size ≤ q → A q) (hc : cl[ci]? = some (C, T, nF)) (he : w0[q0]? = some (b, .inr (ci, fs))) (hn : As.length = n) (hl : lv_has ls nL lv) (hst : st0 = As.reverse ++ .ref b :: rest) (hrm : (rest.map fun v => v.category).sum ≤ 8) (hdg : decode cc pc = .ok (.invokevirtual index, 3))
    (kk : ∀ (H1 : Heap) (locs1 : List Loc), va_P g cl w1 H1 → va_D A w1 → va_S A s.heap H1 locs1 → W p l e R s m args below meth c H1 locs1 cells slots Q (F0 m (pc + 3) ls rest)) : W p l e R s m args below meth c H locs cells slots Q (F0 m pc ls st0) :=
  my_callv (va_runVN (As := As) (rest := rest) (n := n) ⟨hx, hb, hml, hown, hT⟩ (hM H.size) ⟨va_cnB n hT (gC k5) rfl hrc hrs (hN _ k1) (hT _ k4) hd hR, hT _ k2, hT _ k3⟩ (my_preV rfl hN hK hP hD hc he) rfl hn hl.1 hst (lv_room hrm) hdg hf) hS (my_fr hD hS hA) kk
theorem my_SN_v  {y : MethodName} {bytes : ByteArray} {maxL nL n index : Nat} {ret : Option FieldType} {rm : Room} {own : String} {host : String} {As : List Value} {lv : List (Nat × Value)} (hM : ct_v l g cl tys y bytes maxL ret rm As w0 w1) (hx : p.tables.exec = Jvm.exec) (hb : c.code = cc) (hml : c.maxLocals = nL) (hown : s.vm.findClass own = some m.cls) (hT : ∀ w ∈ tblG, w.before args s = true) (hN : nst s) (k1 : Cond.methodLinkNest own index y host ∈ tblN) (k2 : Cond.static y ∈ tblG) (k4 : Cond.initialized y.cls ∈ tblG) (k5 : Cond.code y bytes maxL ret ∈ tblG) (hd : y.cls ≠ "java/lang/invoke/MethodHandle" ∧ y.cls ≠ "java/lang/invoke/VarHandle" ∧ (parseMethodDescriptor y.desc).map (fun d => d.parameters.length) = some n) (hrc : rm.cells = 0) (hrs : rm.slots = 0) (hR : rm.frames + 1 ≤ R.frames ∧ 8 + (maxL + 11) + rm.locals ≤ R.locals) (hf : cells ≤ R.cells ∧ slots ≤ R.slots)
    (hK : va_K g cl tys s) (hP : va_P g cl w0 H) (hD : va_D A w0) (hS : va_S A s.heap H locs) (hA : ∀ q : Nat, s.heap.size ≤ q → A q) (hn : As.length = n) (hl : lv_has ls nL lv) (hst : st0 = As.reverse ++ rest) (hrm : (rest.map fun v => v.category).sum ≤ 8) (hdg : decode cc pc = .ok (.invokestatic index, 3))
    (kk : ∀ (H1 : Heap) (locs1 : List Loc), va_P g cl w1 H1 → va_D A w1 → va_S A s.heap H1 locs1 → W p l e R s m args below meth c H1 locs1 cells slots Q (F0 m (pc + 3) ls rest)) : W p l e R s m args below meth c H locs cells slots Q (F0 m pc ls st0) :=
  my_callv (va_runSN (As := As) (rest := rest) (n := n) ⟨hx, hb, hml, hown, hT⟩ (hM H.size) ⟨va_cnB n hT (gC k5) rfl hrc hrs (hN _ k1) (hT _ k4) hd hR, hT _ k2, trivial⟩ (my_preS rfl hN hK hP hD) rfl hn hl.1 hst (lv_room hrm) hdg hf) hS (my_fr hD hS hA) kk
end MYR
end
section
/-! Bits by Nat: rows of this claim (nx_and, nx_xor began as kit/laws/BITS.to-paste) -/
theorem nx_and (a b : Nat) : nI a &&& nI b = nI (a &&& b) := by
  apply Int32.toBitVec_inj.1
  show BitVec.ofNat 32 a &&& BitVec.ofNat 32 b = BitVec.ofNat 32 (a &&& b)
  apply BitVec.eq_of_getLsbD_eq
  intro i hi
  simp [hi]
theorem nx_or (a b : Nat) : nI a ||| nI b = nI (a ||| b) := by
  apply Int32.toBitVec_inj.1
  show BitVec.ofNat 32 a ||| BitVec.ofNat 32 b = BitVec.ofNat 32 (a ||| b)
  apply BitVec.eq_of_getLsbD_eq
  intro i hi
  simp [hi]
theorem nx_xor (a b : Nat) : nI a ^^^ nI b = nI (a ^^^ b) := by
  apply Int32.toBitVec_inj.1
  show BitVec.ofNat 32 a ^^^ BitVec.ofNat 32 b = BitVec.ofNat 32 (a ^^^ b)
  apply BitVec.eq_of_getLsbD_eq
  intro i hi
  simp [hi]
theorem lx_and (a b : Nat) : lN a &&& lN b = lN (a &&& b) := by
  apply Int64.toBitVec_inj.1
  show BitVec.ofNat 64 a &&& BitVec.ofNat 64 b = BitVec.ofNat 64 (a &&& b)
  apply BitVec.eq_of_getLsbD_eq
  intro i hi
  simp [hi]
theorem lx_or (a b : Nat) : lN a ||| lN b = lN (a ||| b) := by
  apply Int64.toBitVec_inj.1
  show BitVec.ofNat 64 a ||| BitVec.ofNat 64 b = BitVec.ofNat 64 (a ||| b)
  apply BitVec.eq_of_getLsbD_eq
  intro i hi
  simp [hi]
theorem nx_shl1 : ∀ k, k < 32 → (nI 1) <<< (nI k &&& 31) = nI (2 ^ k) := by decide +kernel
theorem lx_shl1 : ∀ k, k < 64 → (lN 1) <<< ((nI k).toInt64 &&& 63) = lN (2 ^ k) := by decide +kernel
/-- how many of the first f bits are set -/
def popc (n : Nat) : Nat → Nat
  | 0 => 0
  | f + 1 => popc n f + (n.testBit f).toNat
theorem popc_le (n f : Nat) : popc n f ≤ f := by
  induction f with
  | zero => exact Nat.le_refl _
  | succ f ih =>
    show popc n f + (n.testBit f).toNat ≤ f + 1
    have : (n.testBit f).toNat ≤ 1 := Bool.toNat_le _
    omega
theorem popc_mono {a b : Nat} (f : Nat) (h : ∀ i, i < f → a.testBit i = true → b.testBit i = true) : popc a f ≤ popc b f := by
  induction f with
  | zero => exact Nat.le_refl _
  | succ f ih =>
    show popc a f + (a.testBit f).toNat ≤ popc b f + (b.testBit f).toNat
    have h1 := ih (fun i hi => h i (by omega))
    have h2 : (a.testBit f).toNat ≤ (b.testBit f).toNat := by
      have := h f (by omega)
      cases ha : a.testBit f
      · exact Nat.zero_le _
      · rw [this ha]; exact Nat.le_refl _
    omega
theorem popc_lt {a b : Nat} (f : Nat) (h : ∀ i, i < f → a.testBit i = true → b.testBit i = true) (k : Nat) (hk : k < f) (h1 : a.testBit k = false) (h2 : b.testBit k = true) : popc a f < popc b f := by
  induction f with
  | zero => omega
  | succ f ih =>
    show popc a f + (a.testBit f).toNat < popc b f + (b.testBit f).toNat
    rcases Nat.lt_or_ge k f with q | q
    · have h3 := ih (fun i hi => h i (by omega)) q
      have h4 : (a.testBit f).toNat ≤ (b.testBit f).toNat := by
        have := h f (by omega)
        cases ha : a.testBit f
        · exact Nat.zero_le _
        · rw [this ha]; exact Nat.le_refl _
      omega
    · have e : k = f := by omega
      subst e
      have h3 := popc_mono k (fun i hi => h i (by omega))
      rw [h1, h2]
      show popc a k + 0 < popc b k + 1
      omega
/-! rows of a grid, as a stretch of the world -/
theorem row_get {X Y : va_W} {f : Nat → Nat × va_E} {n i k : Nat} (h : i < n) (hk : k = X.length + i) : (X ++ (List.range n).map f ++ Y)[k]? = some (f i) := by
  subst hk
  rw [List.append_assoc, List.getElem?_append_right (Nat.le_add_right _ _), Nat.add_sub_cancel_left, List.getElem?_append_left (by simpa using h)]
  simp [h]
theorem row_set {X Y : va_W} {f f' : Nat → Nat × va_E} {n i k : Nat} (h : i < n) (hk : k = X.length + i) (hf : ∀ j, j < n → j ≠ i → f' j = f j) : (X ++ (List.range n).map f ++ Y).set k (f' i) = X ++ (List.range n).map f' ++ Y := by
  subst hk
  apply List.ext_getElem?
  intro j
  rw [List.getElem?_set]
  by_cases e : X.length + i = j
  · subst e
    rw [if_pos rfl, row_get h rfl, if_pos]
    simp only [List.length_append, List.length_map, List.length_range]
    omega
  · rw [if_neg e, List.append_assoc, List.append_assoc]
    rcases Nat.lt_or_ge j X.length with q | q
    · rw [List.getElem?_append_left q, List.getElem?_append_left q]
    · rw [List.getElem?_append_right q, List.getElem?_append_right q]
      rcases Nat.lt_or_ge (j - X.length) n with q2 | q2
      · rw [List.getElem?_append_left (by simpa using q2), List.getElem?_append_left (by simpa using q2)]
        simp only [List.getElem?_map, List.getElem?_range q2, Option.map_some]
        rw [hf _ q2 (by omega)]
      · rw [List.getElem?_append_right (by simpa using q2), List.getElem?_append_right (by simpa using q2)]
        simp
end
section
theorem i_ST : ∀ w ∈ u_ws R_ST F_ST 7, w ∈ tblG := by decide +kernel
theorem i_No : ∀ w ∈ u_ws R_No F_No 13, w ∈ tblG := by decide +kernel
theorem i_Tr : ∀ w ∈ u_ws R_Tr F_Tr 2, w ∈ tblG := by decide +kernel
theorem i_Ca : ∀ w ∈ u_ws R_Ca F_Ca 4, w ∈ tblG := by decide +kernel
theorem i_Cu : ∀ w ∈ u_ws R_Cu F_Cu 3, w ∈ tblG := by decide +kernel
theorem i_Od : ∀ w ∈ u_ws R_Od F_Od 7, w ∈ tblG := by decide +kernel
theorem i_Go : ∀ w ∈ u_ws R_Go F_Go 6, w ∈ tblG := by decide +kernel
theorem i_Fr : ∀ w ∈ u_ws R_Fr F_Fr 2, w ∈ tblG := by decide +kernel
theorem i_Mo : ∀ w ∈ u_ws R_Mo F_Mo 35, w ∈ tblG := by decide +kernel
def stX (a : Nat → Nat) (rB rT : Nat → Nat) (cI cJ cII cJJ : ClassId) (nc : Nat) (nv : Nat) (ng : Nat) (kd : Nat → Int32) (vo : Nat → Nat) (nu : Nat → Nat) (nd : Nat → Nat) (en : Nat → Nat) (br : Nat → Nat → Nat) (bc : Nat → Nat) (un : Nat → Nat) (eu : Nat → Nat) (li : Nat → Nat) (tb : Nat → Nat → Int64) (cc0 : Nat) (cp : Nat → Nat) (cu : Nat → Nat) (cd : Nat → Nat) (tc : Nat) (ts : Nat → Nat) (tf : Nat → Nat) (ox : Bool) (ow : Nat → Nat) (ob : Nat → Nat) (ra : Nat) (rb : Nat) (gc : Nat) (gr : Nat) (gk : Nat → Nat) (gg : Nat → Nat) (gp : Nat → Nat) (gt : Nat → Nat) (sa : Nat) (sb : Nat) : va_W :=
  [(a 0, .inr (0, [.ref (a 1), .ref (a 2), .ref (a 3), .ref (a 4), .ref (a 5), .ref (a 6), .ref (a 7)])),
   (a 1, .inr (1, [.int (nI nc), .int (nI nv), .int (nI ng), .ref (a 9), .ref (a 10), .ref (a 11), .ref (a 12), .ref (a 13), .ref (a 14), .ref (a 15), .ref (a 16), .ref (a 17), .ref (a 18)])),
   (a 2, .inr (2, [.ref (a 1), .ref (a 19)])),
   (a 3, .inr (3, [.int (nI cc0), .ref (a 20), .ref (a 21), .ref (a 22)])),
   (a 4, .inr (4, [.int (nI tc), .ref (a 23), .ref (a 24)])),
   (a 5, .inr (5, [.ref (a 1), .ref (a 2), .ref (a 3), .ref (a 8), .int (b2 ox), .ref (a 25), .ref (a 26)])),
   (a 6, .inr (6, [.int (nI gc), .int (nI gr), .ref (a 27), .ref (a 28), .ref (a 29), .ref (a 30)])),
   (a 7, .inr (7, [.long (lN sa), .long (lN sb)])),
   (a 8, .inr (7, [.long (lN ra), .long (lN rb)])),
   (a 9, .inl (cI, 33, .inl kd)),
   (a 10, .inl (cI, 33, .inl (fun j => nI (vo j)))),
   (a 11, .inl (cJ, 33, .inr (.inl (fun j => lN (nu j))))),
   (a 12, .inl (cJ, 33, .inr (.inl (fun j => lN (nd j))))),
   (a 13, .inl (cI, 12, .inl (fun j => nI (en j)))),
   (a 14, .inl (cII, 33, .inr (.inr (.inr (.inr (fun i => if i < 33 then some (rB i) else none)))))),
   (a 15, .inl (cI, 33, .inl (fun j => nI (bc j)))),
   (a 16, .inl (cJ, 33, .inr (.inl (fun j => lN (un j))))),
   (a 17, .inl (cI, 33, .inl (fun j => nI (eu j)))),
   (a 18, .inl (cI, 20, .inl (fun j => nI (li j)))),
   (a 19, .inl (cJJ, 33, .inr (.inr (.inr (.inr (fun i => if i < 33 then some (rT i) else none)))))),
   (a 20, .inl (cI, 4, .inl (fun j => nI (cp j)))),
   (a 21, .inl (cJ, 4, .inr (.inl (fun j => lN (cu j))))),
   (a 22, .inl (cJ, 4, .inr (.inl (fun j => lN (cd j))))),
   (a 23, .inl (cI, 924, .inl (fun j => nI (ts j)))),
   (a 24, .inl (cI, 924, .inl (fun j => nI (tf j)))),
   (a 25, .inl (cJ, 4096, .inr (.inl (fun j => lN (ow j))))),
   (a 26, .inl (cJ, 33, .inr (.inl (fun j => lN (ob j))))),
   (a 27, .inl (cI, 31, .inl (fun j => nI (gk j)))),
   (a 28, .inl (cI, 100, .inl (fun j => nI (gg j)))),
   (a 29, .inl (cI, 100, .inl (fun j => nI (gp j)))),
   (a 30, .inl (cI, 100, .inl (fun j => nI (gt j))))]
def stB (rB : Nat → Nat) (cI : ClassId) (br : Nat → Nat → Nat) : Nat → Nat × va_E := fun i => (rB i, .inl (cI, 10, .inl (fun j => nI (br i j))))
def stT (rT : Nat → Nat) (cJ : ClassId) (tb : Nat → Nat → Int64) : Nat → Nat × va_E := fun i => (rT i, .inl (cJ, 64, .inr (.inl (tb i))))
/-- the class's whole world -/
def stW (a : Nat → Nat) (rB rT : Nat → Nat) (cI cJ cII cJJ : ClassId) (nc : Nat) (nv : Nat) (ng : Nat) (kd : Nat → Int32) (vo : Nat → Nat) (nu : Nat → Nat) (nd : Nat → Nat) (en : Nat → Nat) (br : Nat → Nat → Nat) (bc : Nat → Nat) (un : Nat → Nat) (eu : Nat → Nat) (li : Nat → Nat) (tb : Nat → Nat → Int64) (cc0 : Nat) (cp : Nat → Nat) (cu : Nat → Nat) (cd : Nat → Nat) (tc : Nat) (ts : Nat → Nat) (tf : Nat → Nat) (ox : Bool) (ow : Nat → Nat) (ob : Nat → Nat) (ra : Nat) (rb : Nat) (gc : Nat) (gr : Nat) (gk : Nat → Nat) (gg : Nat → Nat) (gp : Nat → Nat) (gt : Nat → Nat) (sa : Nat) (sb : Nat) : va_W :=
  stX a rB rT cI cJ cII cJJ nc nv ng kd vo nu nd en br bc un eu li tb cc0 cp cu cd tc ts tf ox ow ob ra rb gc gr gk gg gp gt sa sb ++ (List.range 33).map (stB rB cI br) ++ (List.range 33).map (stT rT cJ tb)
abbrev tyS (cI cJ cII cJJ : ClassId) : List (ClassId × FieldType) := [(cI, .int), (cJ, .long), (cII, .array .int), (cJJ, .array .long)]
theorem stX_len {a rB rT : Nat → Nat} {cI cJ cII cJJ : ClassId} {nc : Nat} {nv : Nat} {ng : Nat} {kd : Nat → Int32} {vo : Nat → Nat} {nu : Nat → Nat} {nd : Nat → Nat} {en : Nat → Nat} {br : Nat → Nat → Nat} {bc : Nat → Nat} {un : Nat → Nat} {eu : Nat → Nat} {li : Nat → Nat} {tb : Nat → Nat → Int64} {cc0 : Nat} {cp : Nat → Nat} {cu : Nat → Nat} {cd : Nat → Nat} {tc : Nat} {ts : Nat → Nat} {tf : Nat → Nat} {ox : Bool} {ow : Nat → Nat} {ob : Nat → Nat} {ra : Nat} {rb : Nat} {gc : Nat} {gr : Nat} {gk : Nat → Nat} {gg : Nat → Nat} {gp : Nat → Nat} {gt : Nat → Nat} {sa : Nat} {sb : Nat} : (stX a rB rT cI cJ cII cJJ nc nv ng kd vo nu nd en br bc un eu li tb cc0 cp cu cd tc ts tf ox ow ob ra rb gc gr gk gg gp gt sa sb).length = 31 := rfl
theorem stB_at {a rB rT : Nat → Nat} {cI cJ cII cJJ : ClassId} {nc : Nat} {nv : Nat} {ng : Nat} {kd : Nat → Int32} {vo : Nat → Nat} {nu : Nat → Nat} {nd : Nat → Nat} {en : Nat → Nat} {br : Nat → Nat → Nat} {bc : Nat → Nat} {un : Nat → Nat} {eu : Nat → Nat} {li : Nat → Nat} {tb : Nat → Nat → Int64} {cc0 : Nat} {cp : Nat → Nat} {cu : Nat → Nat} {cd : Nat → Nat} {tc : Nat} {ts : Nat → Nat} {tf : Nat → Nat} {ox : Bool} {ow : Nat → Nat} {ob : Nat → Nat} {ra : Nat} {rb : Nat} {gc : Nat} {gr : Nat} {gk : Nat → Nat} {gg : Nat → Nat} {gp : Nat → Nat} {gt : Nat → Nat} {sa : Nat} {sb : Nat} {i : Nat} (h : i < 33) : (stW a rB rT cI cJ cII cJJ nc nv ng kd vo nu nd en br bc un eu li tb cc0 cp cu cd tc ts tf ox ow ob ra rb gc gr gk gg gp gt sa sb)[31 + i]? = some (rB i, .inl (cI, 10, .inl (fun j => nI (br i j)))) :=
  row_get (X := stX a rB rT cI cJ cII cJJ nc nv ng kd vo nu nd en br bc un eu li tb cc0 cp cu cd tc ts tf ox ow ob ra rb gc gr gk gg gp gt sa sb) (f := stB rB cI br) h rfl
theorem stT_at {a rB rT : Nat → Nat} {cI cJ cII cJJ : ClassId} {nc : Nat} {nv : Nat} {ng : Nat} {kd : Nat → Int32} {vo : Nat → Nat} {nu : Nat → Nat} {nd : Nat → Nat} {en : Nat → Nat} {br : Nat → Nat → Nat} {bc : Nat → Nat} {un : Nat → Nat} {eu : Nat → Nat} {li : Nat → Nat} {tb : Nat → Nat → Int64} {cc0 : Nat} {cp : Nat → Nat} {cu : Nat → Nat} {cd : Nat → Nat} {tc : Nat} {ts : Nat → Nat} {tf : Nat → Nat} {ox : Bool} {ow : Nat → Nat} {ob : Nat → Nat} {ra : Nat} {rb : Nat} {gc : Nat} {gr : Nat} {gk : Nat → Nat} {gg : Nat → Nat} {gp : Nat → Nat} {gt : Nat → Nat} {sa : Nat} {sb : Nat} {i : Nat} (h : i < 33) : (stW a rB rT cI cJ cII cJJ nc nv ng kd vo nu nd en br bc un eu li tb cc0 cp cu cd tc ts tf ox ow ob ra rb gc gr gk gg gp gt sa sb)[64 + i]? = some (rT i, .inl (cJ, 64, .inr (.inl (tb i)))) := by
  have := row_get (X := stX a rB rT cI cJ cII cJJ nc nv ng kd vo nu nd en br bc un eu li tb cc0 cp cu cd tc ts tf ox ow ob ra rb gc gr gk gg gp gt sa sb ++ (List.range 33).map (stB rB cI br)) (Y := []) (f := stT rT cJ tb) (k := 64 + i) h (by simp [stX_len])
  rw [List.append_nil] at this
  exact this
theorem stB_set {a rB rT : Nat → Nat} {cI cJ cII cJJ : ClassId} {nc : Nat} {nv : Nat} {ng : Nat} {kd : Nat → Int32} {vo : Nat → Nat} {nu : Nat → Nat} {nd : Nat → Nat} {en : Nat → Nat} {br : Nat → Nat → Nat} {bc : Nat → Nat} {un : Nat → Nat} {eu : Nat → Nat} {li : Nat → Nat} {tb : Nat → Nat → Int64} {cc0 : Nat} {cp : Nat → Nat} {cu : Nat → Nat} {cd : Nat → Nat} {tc : Nat} {ts : Nat → Nat} {tf : Nat → Nat} {ox : Bool} {ow : Nat → Nat} {ob : Nat → Nat} {ra : Nat} {rb : Nat} {gc : Nat} {gr : Nat} {gk : Nat → Nat} {gg : Nat → Nat} {gp : Nat → Nat} {gt : Nat → Nat} {sa : Nat} {sb : Nat} {i : Nat} {f : Nat → Nat} (h : i < 33) : (stW a rB rT cI cJ cII cJJ nc nv ng kd vo nu nd en br bc un eu li tb cc0 cp cu cd tc ts tf ox ow ob ra rb gc gr gk gg gp gt sa sb).set (31 + i) (rB i, .inl (cI, 10, .inl (fun j => nI (f j)))) = stW a rB rT cI cJ cII cJJ nc nv ng kd vo nu nd en (va_up br i f) bc un eu li tb cc0 cp cu cd tc ts tf ox ow ob ra rb gc gr gk gg gp gt sa sb := by
  have := row_set (X := stX a rB rT cI cJ cII cJJ nc nv ng kd vo nu nd en br bc un eu li tb cc0 cp cu cd tc ts tf ox ow ob ra rb gc gr gk gg gp gt sa sb) (Y := (List.range 33).map (stT rT cJ tb)) (f := stB rB cI br) (f' := stB rB cI (va_up br i f)) (k := 31 + i) h rfl (fun j _ hj => by simp [stB, va_up, hj])
  rw [show stB rB cI (va_up br i f) i = (rB i, .inl (cI, 10, .inl (fun j => nI (f j)))) by simp [stB, va_up]] at this
  exact this
theorem stT_set {a rB rT : Nat → Nat} {cI cJ cII cJJ : ClassId} {nc : Nat} {nv : Nat} {ng : Nat} {kd : Nat → Int32} {vo : Nat → Nat} {nu : Nat → Nat} {nd : Nat → Nat} {en : Nat → Nat} {br : Nat → Nat → Nat} {bc : Nat → Nat} {un : Nat → Nat} {eu : Nat → Nat} {li : Nat → Nat} {tb : Nat → Nat → Int64} {cc0 : Nat} {cp : Nat → Nat} {cu : Nat → Nat} {cd : Nat → Nat} {tc : Nat} {ts : Nat → Nat} {tf : Nat → Nat} {ox : Bool} {ow : Nat → Nat} {ob : Nat → Nat} {ra : Nat} {rb : Nat} {gc : Nat} {gr : Nat} {gk : Nat → Nat} {gg : Nat → Nat} {gp : Nat → Nat} {gt : Nat → Nat} {sa : Nat} {sb : Nat} {i : Nat} {f : Nat → Int64} (h : i < 33) : (stW a rB rT cI cJ cII cJJ nc nv ng kd vo nu nd en br bc un eu li tb cc0 cp cu cd tc ts tf ox ow ob ra rb gc gr gk gg gp gt sa sb).set (64 + i) (rT i, .inl (cJ, 64, .inr (.inl f))) = stW a rB rT cI cJ cII cJJ nc nv ng kd vo nu nd en br bc un eu li (va_up tb i f) cc0 cp cu cd tc ts tf ox ow ob ra rb gc gr gk gg gp gt sa sb := by
  have := row_set (X := stX a rB rT cI cJ cII cJJ nc nv ng kd vo nu nd en br bc un eu li tb cc0 cp cu cd tc ts tf ox ow ob ra rb gc gr gk gg gp gt sa sb ++ (List.range 33).map (stB rB cI br)) (Y := []) (f := stT rT cJ tb) (f' := stT rT cJ (va_up tb i f)) (k := 64 + i) h (by simp [stX_len]) (fun j _ hj => by simp [stT, va_up, hj])
  rw [show stT rT cJ (va_up tb i f) i = (rT i, .inl (cJ, 64, .inr (.inl f))) by simp [stT, va_up], List.append_nil, List.append_nil] at this
  exact this
theorem b2_nar (b : Bool) : narrow .boolean (.int (b2 b)) = .int (b2 b) := by cases b <;> rfl
theorem b2_fit (b : Bool) : fits .boolean (.int (b2 b)) = true := by cases b <;> rfl
theorem my_upI (f : Nat → Int32) (i : Nat) (v : Int32) : upd f i v = va_up f i v := rfl
theorem my_upJ (f : Nat → Int64) (i : Nat) (v : Int64) : vp_updL f i v = va_up f i v := rfl
section MYA
variable {p : Program} {l : Launch} {e : Env} {R : Room} {s : State} {m : MethodId} {args : Array Value} {below : List Frame} {meth : Method} {c : Code} {H : Heap} {locs : List Loc} {cells slots : Nat} {Q : State → Prop}
variable {cc : ByteArray} {pc : Nat} {ls : Array Slot} {rest : List Value} {D : va_G} {cl : List vw_C} {tys : List (ClassId × FieldType)} {ws : va_W} {a : Nat}
/-- a row of a grid -/
theorem my_aald {r : Nat → Nat} {cA : ClassId} {ty : FieldType} {n i : Nat} (hx : p.tables.exec = Jvm.exec) (hb : c.code = cc) (hK : va_K D cl tys s) (hP : va_P D cl ws H) (q0 t0 : Nat) (ha : ws[q0]? = some (a, .inl (cA, n, .inr (.inr (.inr (.inr (fun i => if i < n then some (r i) else none))))))) (ht : tys[t0]? = some (cA, .array ty)) (hi : i < n) (hn : n < 2 ^ 31) (hdg : decode cc pc = .ok (.aaload, 1))
    (kk : W p l e R s m args below meth c H locs cells slots Q (F0 m (pc + 1) ls (.ref (r i) :: rest))) : W p l e R s m args below meth c H locs cells slots Q (F0 m pc ls (.int (nI i) :: .ref a :: rest)) := by
  have hin : vp_in (nI i) n := vp_in_nI hi hn
  have hc : (nI i).toNatClampNeg = i := nI_clamp (by omega)
  have hlt : (nI i).toNatClampNeg < n := by rw [hc]; exact hi
  refine W.aald (v := va_rf ((fun i => if i < n then some (r i) else none) (nI i).toNatClampNeg)) (ty := .array ty) hx hb (hP q0 _ ha) ((hK.2 t0 _ ht).1 n (fun j => va_rf ((fun i => if i < n then some (r i) else none) j))) rfl (fun q => by cases q) (by show ¬ (nI i < 0 ∨ (arrV _ _ _).slots.size ≤ _); rw [arrV_size]; exact hin) (by show (arrV _ _ _).slots[_]? = _; rw [arrV_read _ _ hlt]) rfl rfl hdg ?_
  rw [hc]
  show W p l e R s m args below meth c H locs cells slots Q (F0 m (pc + 1) ls (va_rf (if i < n then some (r i) else none) :: rest))
  rw [if_pos hi]
  exact kk
end MYA
end
section
/-! pasted out of kit/laws/BITS.to-paste (s_l, s_u, the wb_ family up to wb_shr); then rows of this claim -/
theorem s_l : ∀ n, n < 32 → ((nI n &&& 31).toBitVec.smod 32).toNat = n := by decide +kernel
theorem s_u : ∀ n, n < 32 → (((nI n).toUInt32 &&& Int32.toUInt32 31).toBitVec % 32).toNat = n := by decide +kernel
theorem wb_tb (n : Nat) : (lN n).toBitVec = BitVec.ofNat 64 n := rfl
theorem wb_inj {a b : Int64} (h : a.toBitVec = b.toBitVec) : a = b := Int64.toBitVec_inj.mp h
theorem wb_tn {n : Nat} (h : n < 2 ^ 64) : (lN n).toBitVec.toNat = n := by rw [wb_tb, BitVec.toNat_ofNat, Nat.mod_eq_of_lt h]
theorem wb_of (x : Int64) : ∃ n, n < 2 ^ 64 ∧ x = lN n := ⟨x.toBitVec.toNat, x.toBitVec.isLt, wb_inj (by rw [wb_tb]; simp)⟩
theorem wb_of32 (x : Int32) : ∃ n, n < 2 ^ 32 ∧ x = nI n := ⟨x.toBitVec.toNat, x.toBitVec.isLt, Int32.toBitVec_inj.mp (by show _ = BitVec.ofNat 32 _; simp)⟩
theorem wb_c : ∀ k, k < 64 → ((nI k).toInt64 &&& 63) = lN k := by decide +kernel
theorem wb_cu : ∀ k, k < 64 → ((nI k).toInt64.toUInt64 &&& Int64.toUInt64 63) = UInt64.ofNat k := by decide +kernel
theorem wb_sm : ∀ k, k < 64 → (BitVec.ofNat 64 k).smod 64 = BitVec.ofNat 64 k := by decide +kernel
theorem wb_pw {a b : Nat} (h : a ≤ b) : 2 ^ b = 2 ^ a * 2 ^ (b - a) := by rw [← Nat.pow_add]; congr 1; omega
theorem wb_lt2 {a b : Nat} (h : a < b) : 2 ^ a < 2 ^ b := Nat.pow_lt_pow_right (by decide) h
theorem wb_mod (n : Nat) : lN n = lN (n % 2 ^ 64) := wb_inj (by rw [wb_tb, wb_tb]; apply BitVec.eq_of_toNat_eq; rw [BitVec.toNat_ofNat, BitVec.toNat_ofNat, Nat.mod_mod])
theorem wb_shr {n k : Nat} (hn : n < 2 ^ 64) (hk : k < 64) : ((lN n).toUInt64 >>> ((nI k).toInt64.toUInt64 &&& Int64.toUInt64 63)).toInt64 = lN (n / 2 ^ k) := by
  rw [wb_cu k hk]
  apply wb_inj
  apply BitVec.eq_of_toNat_eq
  show ((lN n).toUInt64 >>> UInt64.ofNat k).toNat = (BitVec.ofNat 64 _).toNat
  have h1 : (UInt64.ofNat k).toNat = k := by
    show (BitVec.ofNat 64 k).toNat = k
    rw [BitVec.toNat_ofNat, Nat.mod_eq_of_lt (by omega)]
  have h2 : (lN n).toUInt64.toNat = n := wb_tn hn
  rw [UInt64.toNat_shiftRight, h1, h2, Nat.mod_eq_of_lt hk, Nat.shiftRight_eq_div_pow, BitVec.toNat_ofNat, Nat.mod_eq_of_lt (Nat.lt_of_le_of_lt (Nat.div_le_self _ _) hn)]
theorem tbF {n k : Nat} (h : n &&& 2 ^ k = 0) : n.testBit k = false := by
  cases e : n.testBit k
  · rfl
  · have : (n &&& 2 ^ k).testBit k = true := by rw [Nat.testBit_and, e, Nat.testBit_two_pow_self]; rfl
    rw [h, Nat.zero_testBit] at this
    exact absurd this (by decide)
theorem tbT {n k : Nat} (h : ¬ n &&& 2 ^ k = 0) : n.testBit k = true := by
  cases e : n.testBit k
  · refine absurd ?_ h
    apply Nat.eq_of_testBit_eq
    intro i
    rw [Nat.testBit_and, Nat.zero_testBit, Nat.testBit_two_pow]
    by_cases q : k = i
    · subst q; rw [e]; rfl
    · simp [q]
  · rfl
end
section
/-! Long.bitCount's sum, byte by byte -/
theorem and256 {b m : Nat} (y M : Nat) (hb : b < 256) (hm : m < 256) : (256 * y + b) &&& (256 * M + m) = 256 * (y &&& M) + (b &&& m) := by
  apply Nat.eq_of_testBit_eq
  intro i
  have hbm : b &&& m < 2 ^ 8 := Nat.lt_of_le_of_lt Nat.and_le_left hb
  rw [Nat.testBit_and]
  show ((2 ^ 8 * y + b).testBit i && (2 ^ 8 * M + m).testBit i) = (2 ^ 8 * (y &&& M) + (b &&& m)).testBit i
  rw [Nat.testBit_two_pow_mul_add _ (show b < 2 ^ 8 from hb), Nat.testBit_two_pow_mul_add _ (show m < 2 ^ 8 from hm), Nat.testBit_two_pow_mul_add _ hbm]
  by_cases h : i < 8
  · simp [h]
  · simp [h]
def rep8 (m : Nat) : Nat → Nat
  | 0 => 0
  | n + 1 => 256 * rep8 m n + m
def bA (n x : Nat) : Nat := x - ((x / 2) &&& rep8 0x55 n)
def bB (n x : Nat) : Nat := (bA n x &&& rep8 0x33 n) + ((bA n x / 4) &&& rep8 0x33 n)
def bC (n x : Nat) : Nat := (bB n x + bB n x / 16) &&& rep8 0x0f n
theorem byA : ∀ b, b < 256 → ∀ z, z < 2 → (128 * z + b / 2) &&& 0x55 = (b / 2) &&& 0x55 := by decide +kernel
theorem byA1 : ∀ b, b < 256 → bA 1 b = b - ((b / 2) &&& 0x55) ∧ bA 1 b < 256 := by decide +kernel
theorem byB : ∀ b, b < 256 → ∀ z, z < 4 → (64 * z + bA 1 b / 4) &&& 0x33 = (bA 1 b / 4) &&& 0x33 := by decide +kernel
theorem byB1 : ∀ b, b < 256 → bB 1 b = (bA 1 b &&& 0x33) + ((bA 1 b / 4) &&& 0x33) ∧ bB 1 b ≤ 68 ∧ bB 1 b % 16 ≤ 4 := by decide +kernel
theorem byC1 : ∀ b, b < 256 → (bB 1 b + bB 1 b / 16) % 16 = popc b 8 := by decide +kernel
theorem bA_s (n y b : Nat) (hb : b < 256) : bA (n + 1) (256 * y + b) = 256 * bA n y + bA 1 b := by
  have e : (256 * y + b) / 2 = 256 * (y / 2) + (128 * (y % 2) + b / 2) := by omega
  have h1 : 128 * (y % 2) + b / 2 < 256 := by omega
  have e2 := and256 (y / 2) (rep8 0x55 n) h1 (show (0x55 : Nat) < 256 by decide)
  have e3 := byA b hb (y % 2) (by omega)
  obtain ⟨e4, -⟩ := byA1 b hb
  have l1 : (y / 2) &&& rep8 0x55 n ≤ y / 2 := Nat.and_le_left
  have l2 : (b / 2) &&& 0x55 ≤ b / 2 := Nat.and_le_left
  show 256 * y + b - ((256 * y + b) / 2 &&& (256 * rep8 0x55 n + 0x55)) = 256 * (y - ((y / 2) &&& rep8 0x55 n)) + bA 1 b
  rw [e, e2, e3, e4]
  omega
theorem bB_s (n y b : Nat) (hb : b < 256) : bB (n + 1) (256 * y + b) = 256 * bB n y + bB 1 b := by
  obtain ⟨-, h0⟩ := byA1 b hb
  obtain ⟨h1, h2, -⟩ := byB1 b hb
  have e1 := and256 (bA n y) (rep8 0x33 n) h0 (show (0x33 : Nat) < 256 by decide)
  have e : (256 * bA n y + bA 1 b) / 4 = 256 * (bA n y / 4) + (64 * (bA n y % 4) + bA 1 b / 4) := by omega
  have h3 : 64 * (bA n y % 4) + bA 1 b / 4 < 256 := by omega
  have e2 := and256 (bA n y / 4) (rep8 0x33 n) h3 (show (0x33 : Nat) < 256 by decide)
  have e3 := byB b hb (bA n y % 4) (by omega)
  show (bA (n + 1) (256 * y + b) &&& (256 * rep8 0x33 n + 0x33)) + (bA (n + 1) (256 * y + b) / 4 &&& (256 * rep8 0x33 n + 0x33)) = 256 * ((bA n y &&& rep8 0x33 n) + ((bA n y / 4) &&& rep8 0x33 n)) + bB 1 b
  rw [bA_s n y b hb, e1, e, e2, e3, h1]
  omega
theorem bB_lo (n y : Nat) : bB n y % 16 ≤ 4 := by
  cases n with
  | zero =>
    have : bB 0 y = 0 := by simp [bB, bA, rep8]
    omega
  | succ n =>
    have hb : y % 256 < 256 := Nat.mod_lt _ (by decide)
    have e : y = 256 * (y / 256) + y % 256 := by omega
    obtain ⟨-, -, h⟩ := byB1 _ hb
    have := bB_s n (y / 256) (y % 256) hb
    rw [← e] at this
    omega
theorem bC_s (n y b : Nat) (hb : b < 256) : bC (n + 1) (256 * y + b) = 256 * bC n y + popc b 8 := by
  obtain ⟨-, h2, -⟩ := byB1 b hb
  have h3 := bB_lo n y
  have h4 := byC1 b hb
  have e : 256 * bB n y + bB 1 b + (256 * bB n y + bB 1 b) / 16 = 256 * (bB n y + bB n y / 16) + (16 * (bB n y % 16) + (bB 1 b + bB 1 b / 16)) := by omega
  have h5 : 16 * (bB n y % 16) + (bB 1 b + bB 1 b / 16) < 256 := by omega
  have e2 := and256 (bB n y + bB n y / 16) (rep8 0x0f n) h5 (show (0x0f : Nat) < 256 by decide)
  have e3 : (16 * (bB n y % 16) + (bB 1 b + bB 1 b / 16)) &&& 0x0f = popc b 8 := by
    rw [show (0x0f : Nat) = 2 ^ 4 - 1 from rfl, Nat.and_two_pow_sub_one_eq_mod]
    omega
  show (bB (n + 1) (256 * y + b) + bB (n + 1) (256 * y + b) / 16) &&& (256 * rep8 0x0f n + 0x0f) = 256 * ((bB n y + bB n y / 16) &&& rep8 0x0f n) + popc b 8
  rw [bB_s n y b hb, e, e2, e3]
theorem popc_s (y b : Nat) (hb : b < 256) : ∀ f, popc (256 * y + b) (8 + f) = popc b 8 + popc y f
  | 0 => by
    have h : ∀ k, k ≤ 8 → popc (256 * y + b) k = popc b k := by
      intro k
      induction k with
      | zero => intro _; rfl
      | succ k ih =>
        intro hk
        show popc (256 * y + b) k + ((2 ^ 8 * y + b).testBit k).toNat = popc b k + (b.testBit k).toNat
        rw [ih (by omega), Nat.testBit_two_pow_mul_add _ (show b < 2 ^ 8 from hb), if_pos (by omega)]
    exact h 8 (Nat.le_refl 8)
  | f + 1 => by
    show popc (256 * y + b) (8 + f) + ((2 ^ 8 * y + b).testBit (8 + f)).toNat = popc b 8 + (popc y f + (y.testBit f).toNat)
    rw [popc_s y b hb f, Nat.testBit_two_pow_mul_add _ (show b < 2 ^ 8 from hb), if_neg (by omega), show 8 + f - 8 = f by omega]
    omega
/-- the whole of it, for a long that isn't negative -/
def bcl (x : Nat) : Nat :=
  let i := bC 8 x
  let i := i + i / 256
  let i := i + i / 65536
  let i := i + i / 4294967296
  i % 128
theorem bcl_eq (x : Nat) (hx : x < 2 ^ 64) : bcl x = popc x 64 := by
  have d : ∀ y : Nat, y = 256 * (y / 256) + y % 256 := fun y => by omega
  have m : ∀ y : Nat, y % 256 < 256 := fun y => Nat.mod_lt _ (by decide)
  have c : ∀ n y : Nat, bC (n + 1) y = 256 * bC n (y / 256) + popc (y % 256) 8 := fun n y => by
    have := bC_s n (y / 256) (y % 256) (m y)
    rw [← d y] at this
    exact this
  have q : ∀ f y : Nat, popc y (8 + f) = popc (y % 256) 8 + popc (y / 256) f := fun f y => by
    have := popc_s (y / 256) (y % 256) (m y) f
    rw [← d y] at this
    exact this
  have z : ∀ y, bC 0 y = 0 := fun y => by simp [bC, bB, bA, rep8]
  have p : ∀ y, popc y 8 ≤ 8 := fun y => popc_le y 8
  have e1 : bC 8 x = 256 * bC 7 (x / 256) + popc (x % 256) 8 := c 7 x
  have e2 : bC 7 (x / 256) = 256 * bC 6 (x / 256 / 256) + popc (x / 256 % 256) 8 := c 6 (x / 256)
  have e3 : bC 6 (x / 256 / 256) = 256 * bC 5 (x / 256 / 256 / 256) + popc (x / 256 / 256 % 256) 8 := c 5 (x / 256 / 256)
  have e4 : bC 5 (x / 256 / 256 / 256) = 256 * bC 4 (x / 256 / 256 / 256 / 256) + popc (x / 256 / 256 / 256 % 256) 8 := c 4 (x / 256 / 256 / 256)
  have e5 : bC 4 (x / 256 / 256 / 256 / 256) = 256 * bC 3 (x / 256 / 256 / 256 / 256 / 256) + popc (x / 256 / 256 / 256 / 256 % 256) 8 := c 3 (x / 256 / 256 / 256 / 256)
  have e6 : bC 3 (x / 256 / 256 / 256 / 256 / 256) = 256 * bC 2 (x / 256 / 256 / 256 / 256 / 256 / 256) + popc (x / 256 / 256 / 256 / 256 / 256 % 256) 8 := c 2 (x / 256 / 256 / 256 / 256 / 256)
  have e7 : bC 2 (x / 256 / 256 / 256 / 256 / 256 / 256) = 256 * bC 1 (x / 256 / 256 / 256 / 256 / 256 / 256 / 256) + popc (x / 256 / 256 / 256 / 256 / 256 / 256 % 256) 8 := c 1 (x / 256 / 256 / 256 / 256 / 256 / 256)
  have e8 : bC 1 (x / 256 / 256 / 256 / 256 / 256 / 256 / 256) = 256 * bC 0 (x / 256 / 256 / 256 / 256 / 256 / 256 / 256 / 256) + popc (x / 256 / 256 / 256 / 256 / 256 / 256 / 256 % 256) 8 := c 0 (x / 256 / 256 / 256 / 256 / 256 / 256 / 256)
  rw [z] at e8
  have f1 := q 56 x
  have f2 := q 48 (x / 256)
  have f3 := q 40 (x / 256 / 256)
  have f4 := q 32 (x / 256 / 256 / 256)
  have f5 := q 24 (x / 256 / 256 / 256 / 256)
  have f6 := q 16 (x / 256 / 256 / 256 / 256 / 256)
  have f7 := q 8 (x / 256 / 256 / 256 / 256 / 256 / 256)
  have f8 := q 0 (x / 256 / 256 / 256 / 256 / 256 / 256 / 256)
  have f9 : popc (x / 256 / 256 / 256 / 256 / 256 / 256 / 256 / 256) 0 = 0 := rfl
  rw [f9] at f8
  have p1 := p (x % 256)
  have p2 := p (x / 256 % 256)
  have p3 := p (x / 256 / 256 % 256)
  have p4 := p (x / 256 / 256 / 256 % 256)
  have p5 := p (x / 256 / 256 / 256 / 256 % 256)
  have p6 := p (x / 256 / 256 / 256 / 256 / 256 % 256)
  have p7 := p (x / 256 / 256 / 256 / 256 / 256 / 256 % 256)
  have p8 := p (x / 256 / 256 / 256 / 256 / 256 / 256 / 256 % 256)
  have g : popc x 64 = popc (x % 256) 8 + (popc (x / 256 % 256) 8 + (popc (x / 256 / 256 % 256) 8 + (popc (x / 256 / 256 / 256 % 256) 8 + (popc (x / 256 / 256 / 256 / 256 % 256) 8 + (popc (x / 256 / 256 / 256 / 256 / 256 % 256) 8 + (popc (x / 256 / 256 / 256 / 256 / 256 / 256 % 256) 8 + popc (x / 256 / 256 / 256 / 256 / 256 / 256 / 256 % 256) 8)))))) := by
    have f1 : popc x 64 = _ := f1
    have f2 : popc (x / 256) 56 = _ := f2
    have f3 : popc (x / 256 / 256) 48 = _ := f3
    have f4 : popc (x / 256 / 256 / 256) 40 = _ := f4
    have f5 : popc (x / 256 / 256 / 256 / 256) 32 = _ := f5
    have f6 : popc (x / 256 / 256 / 256 / 256 / 256) 24 = _ := f6
    have f7 : popc (x / 256 / 256 / 256 / 256 / 256 / 256) 16 = _ := f7
    have f8 : popc (x / 256 / 256 / 256 / 256 / 256 / 256 / 256) 8 = _ := f8
    omega
  unfold bcl
  rw [g]
  generalize popc (x % 256) 8 = t0 at *
  generalize popc (x / 256 % 256) 8 = t1 at *
  generalize popc (x / 256 / 256 % 256) 8 = t2 at *
  generalize popc (x / 256 / 256 / 256 % 256) 8 = t3 at *
  generalize popc (x / 256 / 256 / 256 / 256 % 256) 8 = t4 at *
  generalize popc (x / 256 / 256 / 256 / 256 / 256 % 256) 8 = t5 at *
  generalize popc (x / 256 / 256 / 256 / 256 / 256 / 256 % 256) 8 = t6 at *
  generalize popc (x / 256 / 256 / 256 / 256 / 256 / 256 / 256 % 256) 8 = t7 at *
  have e : bC 8 x = t0 + 256 * t1 + 65536 * t2 + 16777216 * t3 + 4294967296 * t4 + 1099511627776 * t5 + 281474976710656 * t6 + 72057594037927936 * t7 := by omega
  rw [e]
  clear e e1 e2 e3 e4 e5 e6 e7 e8 f1 f2 f3 f4 f5 f6 f7 f8 f9 g c q z d m
  have a1 : (t0 + 256 * t1 + 65536 * t2 + 16777216 * t3 + 4294967296 * t4 + 1099511627776 * t5 + 281474976710656 * t6 + 72057594037927936 * t7) / 256 = t1 + 256 * t2 + 65536 * t3 + 16777216 * t4 + 4294967296 * t5 + 1099511627776 * t6 + 281474976710656 * t7 := by omega
  have a2 : (t0 + 256 * t1 + 65536 * t2 + 16777216 * t3 + 4294967296 * t4 + 1099511627776 * t5 + 281474976710656 * t6 + 72057594037927936 * t7 + (t1 + 256 * t2 + 65536 * t3 + 16777216 * t4 + 4294967296 * t5 + 1099511627776 * t6 + 281474976710656 * t7)) / 65536 = (t2 + t3) + 256 * (t3 + t4) + 65536 * (t4 + t5) + 16777216 * (t5 + t6) + 4294967296 * (t6 + t7) + 1099511627776 * t7 := by omega
  have a3 : (t0 + 256 * t1 + 65536 * t2 + 16777216 * t3 + 4294967296 * t4 + 1099511627776 * t5 + 281474976710656 * t6 + 72057594037927936 * t7 + (t1 + 256 * t2 + 65536 * t3 + 16777216 * t4 + 4294967296 * t5 + 1099511627776 * t6 + 281474976710656 * t7) + ((t2 + t3) + 256 * (t3 + t4) + 65536 * (t4 + t5) + 16777216 * (t5 + t6) + 4294967296 * (t6 + t7) + 1099511627776 * t7)) / 4294967296 = (t4 + t5 + t6 + t7) + 256 * (t5 + t6 + t7) + 65536 * (t6 + t7) + 16777216 * t7 := by omega
  show (t0 + 256 * t1 + 65536 * t2 + 16777216 * t3 + 4294967296 * t4 + 1099511627776 * t5 + 281474976710656 * t6 + 72057594037927936 * t7 + _ / 256 + (_ + _ / 256) / 65536 + (_ + _ / 256 + (_ + _ / 256) / 65536) / 4294967296) % 128 = _
  rw [a1, a2, a3]
  omega
end
section
/-! the subsets of a mask, one after the other -/
theorem and2 {p q : Nat} (x y : Nat) (hp : p < 2) (hq : q < 2) : (2 * x + p) &&& (2 * y + q) = 2 * (x &&& y) + (p &&& q) := by
  apply Nat.eq_of_testBit_eq
  intro i
  have hpq : p &&& q < 2 ^ 1 := Nat.lt_of_le_of_lt Nat.and_le_left hp
  rw [Nat.testBit_and]
  show ((2 ^ 1 * x + p).testBit i && (2 ^ 1 * y + q).testBit i) = (2 ^ 1 * (x &&& y) + (p &&& q)).testBit i
  rw [Nat.testBit_two_pow_mul_add _ (show p < 2 ^ 1 from hp), Nat.testBit_two_pow_mul_add _ (show q < 2 ^ 1 from hq), Nat.testBit_two_pow_mul_add _ hpq]
  by_cases h : i < 1
  · simp [h]
  · simp [h]
theorem popc_2 (y b : Nat) (hb : b < 2) : ∀ f, popc (2 * y + b) (f + 1) = popc y f + b
  | 0 => by
    show popc (2 * y + b) 0 + ((2 ^ 1 * y + b).testBit 0).toNat = 0 + b
    rw [Nat.testBit_two_pow_mul_add _ (show b < 2 ^ 1 from hb), if_pos (by omega)]
    have : b = 0 ∨ b = 1 := by omega
    rcases this with rfl | rfl <;> rfl
  | f + 1 => by
    show popc (2 * y + b) (f + 1) + ((2 ^ 1 * y + b).testBit (f + 1)).toNat = (popc y f + (y.testBit f).toNat) + b
    rw [popc_2 y b hb f, Nat.testBit_two_pow_mul_add _ (show b < 2 ^ 1 from hb), if_neg (by omega), Nat.add_sub_cancel]
    omega
def pd : Nat → Nat → Nat → Nat
  | 0, _, _ => 0
  | f + 1, w, k => if w % 2 = 1 then 2 * pd f (w / 2) (k / 2) + k % 2 else 2 * pd f (w / 2) k
theorem pd_0 : ∀ f w, pd f w 0 = 0
  | 0, _ => rfl
  | f + 1, w => by
    show (if w % 2 = 1 then 2 * pd f (w / 2) (0 / 2) + 0 % 2 else 2 * pd f (w / 2) 0) = 0
    rw [show (0 : Nat) / 2 = 0 from rfl, pd_0 f (w / 2)]
    split <;> rfl
theorem pd_sub : ∀ f w k, w < 2 ^ f → pd f w k &&& w = pd f w k
  | 0, w, k, h => by
    show 0 &&& w = 0
    exact Nat.zero_and w
  | f + 1, w, k, h => by
    have hw : w / 2 < 2 ^ f := by rw [Nat.pow_succ] at h; omega
    have e : w = 2 * (w / 2) + w % 2 := by omega
    show (if w % 2 = 1 then 2 * pd f (w / 2) (k / 2) + k % 2 else 2 * pd f (w / 2) k) &&& w = (if w % 2 = 1 then 2 * pd f (w / 2) (k / 2) + k % 2 else 2 * pd f (w / 2) k)
    by_cases c : w % 2 = 1
    · rw [if_pos c]
      have h2 := and2 (pd f (w / 2) (k / 2)) (w / 2) (show k % 2 < 2 by omega) (show w % 2 < 2 by omega)
      rw [← e, pd_sub f (w / 2) (k / 2) hw, c] at h2
      rw [h2]
      have : k % 2 = 0 ∨ k % 2 = 1 := by omega
      rcases this with q | q <;> rw [q] <;> rfl
    · rw [if_neg c]
      have c0 : w % 2 = 0 := by omega
      have h2 := and2 (pd f (w / 2) k) (w / 2) (show 0 < 2 by omega) (show w % 2 < 2 by omega)
      rw [← e, pd_sub f (w / 2) k hw, Nat.zero_and] at h2
      exact h2
theorem sub1 : ∀ (f s w n : Nat), f ≤ n → w < 2 ^ f → s &&& w = s → (s + 2 ^ n - 1 - w) &&& w = s
  | 0, s, w, n, _, hw, hs => by
    have : w = 0 := by omega
    subst this
    rw [Nat.and_zero] at hs ⊢
    exact hs
  | f + 1, s, w, n, hn, hw, hs => by
    obtain ⟨n, rfl⟩ : ∃ k, n = k + 1 := ⟨n - 1, by omega⟩
    have hw2 : w / 2 < 2 ^ f := by rw [Nat.pow_succ] at hw; omega
    have e : w = 2 * (w / 2) + w % 2 := by omega
    have es : s = 2 * (s / 2) + s % 2 := by omega
    have h2 := and2 (s / 2) (w / 2) (show s % 2 < 2 by omega) (show w % 2 < 2 by omega)
    rw [← e, ← es, hs] at h2
    have hb : (s % 2 &&& w % 2) < 2 := Nat.lt_of_le_of_lt Nat.and_le_left (by omega)
    have hs2 : (s / 2) &&& (w / 2) = s / 2 := by omega
    have hb2 : s % 2 &&& w % 2 = s % 2 := by omega
    have ih := sub1 f (s / 2) (w / 2) n (by omega) hw2 hs2
    have hp : w / 2 < 2 ^ n := Nat.lt_of_lt_of_le hw2 (Nat.pow_le_pow_right (by decide) (by omega))
    have hbc : s % 2 ≤ w % 2 := Nat.le_trans (Nat.le_of_eq hb2.symm) Nat.and_le_right
    have e2 : s + 2 ^ (n + 1) - 1 - w = 2 * (s / 2 + 2 ^ n - 1 - w / 2) + (s % 2 + 1 - w % 2) := by
      rw [Nat.pow_succ]
      omega
    have h3 := and2 (s / 2 + 2 ^ n - 1 - w / 2) (w / 2) (show s % 2 + 1 - w % 2 < 2 by omega) (show w % 2 < 2 by omega)
    rw [← e, ← e2, ih] at h3
    rw [h3]
    have a : s % 2 = 0 ∨ s % 2 = 1 := by omega
    have b : w % 2 = 0 ∨ w % 2 = 1 := by omega
    rcases a with a | a <;> rcases b with b | b <;> rw [a, b] <;> first | (simp; omega) | omega
/-- the next larger one -/
theorem pd_next : ∀ (f w k n : Nat), f ≤ n → w < 2 ^ f → k + 1 < 2 ^ popc w f → (pd f w k + 2 ^ n - w) &&& w = pd f w (k + 1)
  | 0, w, k, n, _, hw, hk => by
    have : 2 ^ popc w 0 = 1 := rfl
    omega
  | f + 1, w, k, n, hn, hw, hk => by
    obtain ⟨n, rfl⟩ : ∃ k, n = k + 1 := ⟨n - 1, by omega⟩
    have hw2 : w / 2 < 2 ^ f := by rw [Nat.pow_succ] at hw; omega
    have hp : w / 2 < 2 ^ n := Nat.lt_of_lt_of_le hw2 (Nat.pow_le_pow_right (by decide) (by omega))
    have e : w = 2 * (w / 2) + w % 2 := by omega
    have hc := popc_2 (w / 2) (w % 2) (by omega) f
    rw [← e] at hc
    rw [hc] at hk
    have c : w % 2 = 0 ∨ w % 2 = 1 := by omega
    rcases c with c | c
    · have d1 : pd (f + 1) w k = 2 * pd f (w / 2) k := by show (if w % 2 = 1 then _ else _) = _; rw [if_neg (by omega)]
      have d2 : pd (f + 1) w (k + 1) = 2 * pd f (w / 2) (k + 1) := by show (if w % 2 = 1 then _ else _) = _; rw [if_neg (by omega)]
      rw [c, Nat.add_zero] at hk
      have ih := pd_next f (w / 2) k n (by omega) hw2 hk
      have e2 : 2 * pd f (w / 2) k + 2 ^ (n + 1) - w = 2 * (pd f (w / 2) k + 2 ^ n - w / 2) + 0 := by rw [Nat.pow_succ]; omega
      have h3 := and2 (pd f (w / 2) k + 2 ^ n - w / 2) (w / 2) (show 0 < 2 by omega) (show w % 2 < 2 by omega)
      rw [← e, ← e2, ih, Nat.zero_and] at h3
      rw [d1, d2]
      exact h3
    · have d1 : pd (f + 1) w k = 2 * pd f (w / 2) (k / 2) + k % 2 := by show (if w % 2 = 1 then _ else _) = _; rw [if_pos c]
      have d2 : pd (f + 1) w (k + 1) = 2 * pd f (w / 2) ((k + 1) / 2) + (k + 1) % 2 := by show (if w % 2 = 1 then _ else _) = _; rw [if_pos c]
      rw [c, Nat.pow_succ] at hk
      have b : k % 2 = 0 ∨ k % 2 = 1 := by omega
      rcases b with b | b
      · have ih := sub1 f (pd f (w / 2) (k / 2)) (w / 2) n (by omega) hw2 (pd_sub f (w / 2) (k / 2) hw2)
        have e2 : 2 * pd f (w / 2) (k / 2) + k % 2 + 2 ^ (n + 1) - w = 2 * (pd f (w / 2) (k / 2) + 2 ^ n - 1 - w / 2) + 1 := by rw [Nat.pow_succ]; omega
        have h3 := and2 (pd f (w / 2) (k / 2) + 2 ^ n - 1 - w / 2) (w / 2) (show 1 < 2 by omega) (show w % 2 < 2 by omega)
        rw [← e, ← e2, ih, c] at h3
        rw [d1, d2, h3, show (k + 1) / 2 = k / 2 by omega, show (k + 1) % 2 = 1 by omega]
        rfl
      · have ih := pd_next f (w / 2) (k / 2) n (by omega) hw2 (by omega)
        have e2 : 2 * pd f (w / 2) (k / 2) + k % 2 + 2 ^ (n + 1) - w = 2 * (pd f (w / 2) (k / 2) + 2 ^ n - w / 2) + 0 := by rw [Nat.pow_succ]; omega
        have h3 := and2 (pd f (w / 2) (k / 2) + 2 ^ n - w / 2) (w / 2) (show 0 < 2 by omega) (show w % 2 < 2 by omega)
        rw [← e, ← e2, ih, Nat.zero_and] at h3
        rw [d1, d2, h3, show (k + 1) / 2 = k / 2 + 1 by omega, show (k + 1) % 2 = 0 by omega]
end
section
theorem d_Jm_min_0 : decode c_Jm_min 0 = .ok (.lload_n 0, 1) := by decide +kernel
theorem d_Jm_min_1 : decode c_Jm_min 1 = .ok (.lload_n 2, 1) := by decide +kernel
theorem d_Jm_min_2 : decode c_Jm_min 2 = .ok (.lcmp, 1) := by decide +kernel
theorem d_Jm_min_3 : decode c_Jm_min 3 = .ok (.ifCond .gt 7, 3) := by decide +kernel
theorem d_Jm_min_6 : decode c_Jm_min 6 = .ok (.lload_n 0, 1) := by decide +kernel
theorem d_Jm_min_7 : decode c_Jm_min 7 = .ok (.goto 4, 3) := by decide +kernel
theorem d_Jm_min_10 : decode c_Jm_min 10 = .ok (.lload_n 2, 1) := by decide +kernel
theorem d_Jm_min_11 : decode c_Jm_min 11 = .ok (.lreturn, 1) := by decide +kernel
end
section
def isN (nc : Nat) (x : Int32) : Bool := decide (¬ x < nI 1) && decide (¬ nI nc < x)
def isE (nc : Nat) (kd : Nat → Int32) (x : Int32) : Bool := isN nc x && decide (kd x.toNatClampNeg = -1)
def isG (nc : Nat) (kd : Nat → Int32) (x : Int32) : Bool := isN nc x && decide (¬ kd x.toNatClampNeg = -1)
theorem isN_nat {nc : Nat} {x : Int32} (hnc : nc ≤ 32) (h : isN nc x = true) : ∃ k : Nat, 1 ≤ k ∧ k ≤ nc ∧ x = nI k := by
  simp only [isN, Bool.and_eq_true, decide_eq_true_eq] at h
  obtain ⟨h1, h2⟩ := h
  have h0 : ¬ x < 0 := fun q => h1 (by
    rw [Int32.lt_iff_toInt_lt] at q ⊢
    rw [nI_toInt (by decide)]
    rw [Int32.toInt_zero] at q
    omega)
  obtain ⟨j, hj, rfl⟩ := nI_of h0
  rw [nI_ltI hj (by decide)] at h1
  rw [nI_ltI (by omega) hj] at h2
  exact ⟨j, by omega, by omega, rfl⟩
theorem isN_of {nc k : Nat} (hnc : nc ≤ 32) (h1 : 1 ≤ k) (h2 : k ≤ nc) : isN nc (nI k) = true := by
  simp only [isN, Bool.and_eq_true, decide_eq_true_eq]
  rw [nI_ltI (by omega) (by decide), nI_ltI (by omega) (by omega)]
  omega
def cT (cp : Nat → Nat) (ev : Nat) : Nat → Nat
  | 0 => 0
  | i + 1 => cT cp ev i + (if cp i &&& ev = 0 then 0 else 1)
theorem cT_le (cp : Nat → Nat) (ev i : Nat) : cT cp ev i ≤ i := by
  induction i with
  | zero => exact Nat.le_refl _
  | succ i ih => show cT cp ev i + _ ≤ i + 1; split <;> omega
set_option maxHeartbeats 4000000 in
set_option maxRecDepth 100000 in
theorem k_No_isNode (l : Launch) (g : va_G) (a rB rT : Nat → Nat) (cI cJ cII cJJ : ClassId) (nc : Nat) (nv : Nat) (ng : Nat) (kd : Nat → Int32) (vo : Nat → Nat) (nu : Nat → Nat) (nd : Nat → Nat) (en : Nat → Nat) (br : Nat → Nat → Nat) (bc : Nat → Nat) (un : Nat → Nat) (eu : Nat → Nat) (li : Nat → Nat) (tb : Nat → Nat → Int64) (cc0 : Nat) (cp : Nat → Nat) (cu : Nat → Nat) (cd : Nat → Nat) (tc : Nat) (ts : Nat → Nat) (tf : Nat → Nat) (ox : Bool) (ow : Nat → Nat) (ob : Nat → Nat) (ra : Nat) (rb : Nat) (gc : Nat) (gr : Nat) (gk : Nat → Nat) (gg : Nat → Nat) (gp : Nat → Nat) (gt : Nat → Nat) (sa : Nat) (sb : Nat) (x : Int32)  : ct_i l g vwCl (tyS cI cJ cII cJJ) y_No_isNode c_No_isNode 2 (some .boolean) ({ frames := 0, cells := 0, slots := 0, locals := 0 } : Room) [.ref (a 1), .int x] (stW a rB rT cI cJ cII cJJ nc nv ng kd vo nu nd en br bc un eu li tb cc0 cp cu cd tc ts tf ox ow ob ra rb gc gr gk gg gp gt sa sb) (stW a rB rT cI cJ cII cJJ nc nv ng kd vo nu nd en br bc un eu li tb cc0 cp cu cd tc ts tf ox ow ob ra rb gc gr gk gg gp gt sa sb) (b2 (isN nc x)) := by
  refine ct_i.introZ (by decide) (Nat.le_of_ble_eq_true rfl) ?_
  intro p e s m args below meth c Q A ls hx hb hml hT hown hA hK hN hret hP hD hS hl
  have hown : s.vm.findClass R_No = some m.cls := hown
  have hl : lv_has ls 2 [(0, .ref (a 1)), (1, .int x)] := hl
  refine lv_iload_n hx hb d_No_isNode_0 rfl (lv_at hl 1 rfl) ?_
  refine lv_iconst (v := (nI 1)) hx hb d_No_isNode_1 (by decide) ?_
  refine lv_icmp_lt (tgt := 17) hx hb d_No_isNode_2 (by decide) (fun c_2 => ?_) (fun c_2 => ?_)
  · -- 2: taken
    refine lv_iconst (v := (nI 0)) hx hb d_No_isNode_17 (by decide) ?_
    refine hret _ _ _ _ _ hP hD hS d_No_isNode_18 ?_
    exact b2F (by first | (simp [isN, c_2]; done) | (simp [isN, c_2]; omega))
  · -- 2: not taken
    refine lv_iload_n hx hb d_No_isNode_5 rfl (lv_at hl 1 rfl) ?_
    refine lv_aload_n hx hb d_No_isNode_6 rfl (lv_at hl 0 rfl) ?_
    refine va_get (D := g) (ci := 1) (v := .int (nI nc)) (C := R_No) (T := F_No) (N := 13) hx hb hT i_No hown hK hP 1 rfl rfl 0 (by decide) (hT _ tw_33) (fun _ h9 => h9) rfl d_No_isNode_7 ?_
    refine lv_icmp_gt (tgt := 17) hx hb d_No_isNode_10 (by decide) (fun c_10 => ?_) (fun c_10 => ?_)
    · -- 10: taken
      refine lv_iconst (v := (nI 0)) hx hb d_No_isNode_17 (by decide) ?_
      refine hret _ _ _ _ _ hP hD hS d_No_isNode_18 ?_
      exact b2F (by first | (simp [isN, c_2, c_10]; done) | (simp [isN, c_2, c_10]; omega))
    · -- 10: not taken
      refine lv_iconst (v := (nI 1)) hx hb d_No_isNode_13 (by decide) ?_
      refine lv_goto (tgt := 18) hx hb d_No_isNode_14 (by decide) ?_
      refine hret _ _ _ _ _ hP hD hS d_No_isNode_18 ?_
      exact b2T (by first | (simp [isN, c_2, c_10]; done) | (simp [isN, c_2, c_10]; omega))
set_option maxHeartbeats 4000000 in
set_option maxRecDepth 100000 in
theorem k_No_isEvent (l : Launch) (g : va_G) (a rB rT : Nat → Nat) (cI cJ cII cJJ : ClassId) (nc : Nat) (nv : Nat) (ng : Nat) (kd : Nat → Int32) (vo : Nat → Nat) (nu : Nat → Nat) (nd : Nat → Nat) (en : Nat → Nat) (br : Nat → Nat → Nat) (bc : Nat → Nat) (un : Nat → Nat) (eu : Nat → Nat) (li : Nat → Nat) (tb : Nat → Nat → Int64) (cc0 : Nat) (cp : Nat → Nat) (cu : Nat → Nat) (cd : Nat → Nat) (tc : Nat) (ts : Nat → Nat) (tf : Nat → Nat) (ox : Bool) (ow : Nat → Nat) (ob : Nat → Nat) (ra : Nat) (rb : Nat) (gc : Nat) (gr : Nat) (gk : Nat → Nat) (gg : Nat → Nat) (gp : Nat → Nat) (gt : Nat → Nat) (sa : Nat) (sb : Nat) (x : Int32) (hnc : nc ≤ 32) : ct_i l g vwCl (tyS cI cJ cII cJJ) y_No_isEvent c_No_isEvent 2 (some .boolean) ({ frames := 1, cells := 0, slots := 0, locals := 21 } : Room) [.ref (a 1), .int x] (stW a rB rT cI cJ cII cJJ nc nv ng kd vo nu nd en br bc un eu li tb cc0 cp cu cd tc ts tf ox ow ob ra rb gc gr gk gg gp gt sa sb) (stW a rB rT cI cJ cII cJJ nc nv ng kd vo nu nd en br bc un eu li tb cc0 cp cu cd tc ts tf ox ow ob ra rb gc gr gk gg gp gt sa sb) (b2 (isE nc kd x)) := by
  refine ct_i.introZ (by decide) (Nat.le_of_ble_eq_true rfl) ?_
  intro p e s m args below meth c Q A ls hx hb hml hT hown hA hK hN hret hP hD hS hl
  have hown : s.vm.findClass R_No = some m.cls := hown
  have hl : lv_has ls 2 [(0, .ref (a 1)), (1, .int x)] := hl
  refine lv_aload_n hx hb d_No_isEvent_0 rfl (lv_at hl 0 rfl) ?_
  refine lv_iload_n hx hb d_No_isEvent_1 rfl (lv_at hl 1 rfl) ?_
  refine my_V_i (q0 := 1) (ci := 1) (C := R_No) (As := [.int x]) (n := 1) (k_No_isNode l g a rB rT cI cJ cII cJJ nc nv ng kd vo nu nd en br bc un eu li tb cc0 cp cu cd tc ts tf ox ow ob ra rb gc gr gk gg gp gt sa sb x ) hx hb hml hown hT hN tw_292 tw_293 tw_294 tw_2 tw_295 (by decide +kernel) rfl rfl ⟨Nat.le_of_ble_eq_true rfl, Nat.le_of_ble_eq_true rfl⟩ ⟨Nat.zero_le _, Nat.zero_le _⟩ hK hP hD hS hA rfl rfl rfl hl rfl (Nat.le_of_ble_eq_true rfl) d_No_isEvent_2 (fun H locs hP hD hS => ?_)
  refine my_if_eq_b (tgt := 22) hx hb d_No_isEvent_5 (by decide) (fun c_5 => ?_) (fun c_5 => ?_)
  · -- 5: taken
    refine lv_iconst (v := (nI 0)) hx hb d_No_isEvent_22 (by decide) ?_
    refine hret _ _ _ _ _ hP hD hS d_No_isEvent_23 ?_
    exact b2F (by first | (simp [isE, c_5]; done) | (simp [isE, c_5]; omega))
  · -- 5: not taken
    obtain ⟨k, hk1, hk2, rfl⟩ := isN_nat hnc c_5
    have hkc : (nI k).toNatClampNeg = k := nI_clamp (by omega)
    refine lv_aload_n hx hb d_No_isEvent_8 rfl (lv_at hl 0 rfl) ?_
    refine va_get (D := g) (ci := 1) (v := .ref (a 9)) (C := R_No) (T := F_No) (N := 13) hx hb hT i_No hown hK hP 1 rfl rfl 3 (by decide) (hT _ tw_39) (fun _ h9 => h9) rfl d_No_isEvent_9 ?_
    refine lv_iload_n hx hb d_No_isEvent_12 rfl (lv_at hl 1 rfl) ?_
    refine my_iald (v := (kd k)) (i := k) hx hb hK hP 9 0 rfl rfl (by omega) (by decide) rfl d_No_isEvent_13 ?_
    refine lv_iconst (v := (-1)) hx hb d_No_isEvent_14 (by decide) ?_
    refine lv_icmp_ne (tgt := 22) hx hb d_No_isEvent_15 (by decide) (fun c_15 => ?_) (fun c_15 => ?_)
    · -- 15: taken
      refine lv_iconst (v := (nI 0)) hx hb d_No_isEvent_22 (by decide) ?_
      refine hret _ _ _ _ _ hP hD hS d_No_isEvent_23 ?_
      exact b2F (by first | (simp [isE, c_5, hkc, c_15]; done) | (simp [isE, c_5, hkc, c_15]; omega))
    · -- 15: not taken
      refine lv_iconst (v := (nI 1)) hx hb d_No_isEvent_18 (by decide) ?_
      refine lv_goto (tgt := 23) hx hb d_No_isEvent_19 (by decide) ?_
      refine hret _ _ _ _ _ hP hD hS d_No_isEvent_23 ?_
      exact b2T (by first | (simp [isE, c_5, hkc, c_15]; done) | (simp [isE, c_5, hkc, c_15]; omega))
set_option maxHeartbeats 4000000 in
set_option maxRecDepth 100000 in
theorem k_No_isGate (l : Launch) (g : va_G) (a rB rT : Nat → Nat) (cI cJ cII cJJ : ClassId) (nc : Nat) (nv : Nat) (ng : Nat) (kd : Nat → Int32) (vo : Nat → Nat) (nu : Nat → Nat) (nd : Nat → Nat) (en : Nat → Nat) (br : Nat → Nat → Nat) (bc : Nat → Nat) (un : Nat → Nat) (eu : Nat → Nat) (li : Nat → Nat) (tb : Nat → Nat → Int64) (cc0 : Nat) (cp : Nat → Nat) (cu : Nat → Nat) (cd : Nat → Nat) (tc : Nat) (ts : Nat → Nat) (tf : Nat → Nat) (ox : Bool) (ow : Nat → Nat) (ob : Nat → Nat) (ra : Nat) (rb : Nat) (gc : Nat) (gr : Nat) (gk : Nat → Nat) (gg : Nat → Nat) (gp : Nat → Nat) (gt : Nat → Nat) (sa : Nat) (sb : Nat) (x : Int32) (hnc : nc ≤ 32) : ct_i l g vwCl (tyS cI cJ cII cJJ) y_No_isGate c_No_isGate 2 (some .boolean) ({ frames := 1, cells := 0, slots := 0, locals := 21 } : Room) [.ref (a 1), .int x] (stW a rB rT cI cJ cII cJJ nc nv ng kd vo nu nd en br bc un eu li tb cc0 cp cu cd tc ts tf ox ow ob ra rb gc gr gk gg gp gt sa sb) (stW a rB rT cI cJ cII cJJ nc nv ng kd vo nu nd en br bc un eu li tb cc0 cp cu cd tc ts tf ox ow ob ra rb gc gr gk gg gp gt sa sb) (b2 (isG nc kd x)) := by
  refine ct_i.introZ (by decide) (Nat.le_of_ble_eq_true rfl) ?_
  intro p e s m args below meth c Q A ls hx hb hml hT hown hA hK hN hret hP hD hS hl
  have hown : s.vm.findClass R_No = some m.cls := hown
  have hl : lv_has ls 2 [(0, .ref (a 1)), (1, .int x)] := hl
  refine lv_aload_n hx hb d_No_isGate_0 rfl (lv_at hl 0 rfl) ?_
  refine lv_iload_n hx hb d_No_isGate_1 rfl (lv_at hl 1 rfl) ?_
  refine my_V_i (q0 := 1) (ci := 1) (C := R_No) (As := [.int x]) (n := 1) (k_No_isNode l g a rB rT cI cJ cII cJJ nc nv ng kd vo nu nd en br bc un eu li tb cc0 cp cu cd tc ts tf ox ow ob ra rb gc gr gk gg gp gt sa sb x ) hx hb hml hown hT hN tw_292 tw_293 tw_294 tw_2 tw_295 (by decide +kernel) rfl rfl ⟨Nat.le_of_ble_eq_true rfl, Nat.le_of_ble_eq_true rfl⟩ ⟨Nat.zero_le _, Nat.zero_le _⟩ hK hP hD hS hA rfl rfl rfl hl rfl (Nat.le_of_ble_eq_true rfl) d_No_isGate_2 (fun H locs hP hD hS => ?_)
  refine my_if_eq_b (tgt := 22) hx hb d_No_isGate_5 (by decide) (fun c_5 => ?_) (fun c_5 => ?_)
  · -- 5: taken
    refine lv_iconst (v := (nI 0)) hx hb d_No_isGate_22 (by decide) ?_
    refine hret _ _ _ _ _ hP hD hS d_No_isGate_23 ?_
    exact b2F (by first | (simp [isG, c_5]; done) | (simp [isG, c_5]; omega))
  · -- 5: not taken
    obtain ⟨k, hk1, hk2, rfl⟩ := isN_nat hnc c_5
    have hkc : (nI k).toNatClampNeg = k := nI_clamp (by omega)
    refine lv_aload_n hx hb d_No_isGate_8 rfl (lv_at hl 0 rfl) ?_
    refine va_get (D := g) (ci := 1) (v := .ref (a 9)) (C := R_No) (T := F_No) (N := 13) hx hb hT i_No hown hK hP 1 rfl rfl 3 (by decide) (hT _ tw_39) (fun _ h9 => h9) rfl d_No_isGate_9 ?_
    refine lv_iload_n hx hb d_No_isGate_12 rfl (lv_at hl 1 rfl) ?_
    refine my_iald (v := (kd k)) (i := k) hx hb hK hP 9 0 rfl rfl (by omega) (by decide) rfl d_No_isGate_13 ?_
    refine lv_iconst (v := (-1)) hx hb d_No_isGate_14 (by decide) ?_
    refine lv_icmp_eq (tgt := 22) hx hb d_No_isGate_15 (by decide) (fun c_15 => ?_) (fun c_15 => ?_)
    · -- 15: taken
      refine lv_iconst (v := (nI 0)) hx hb d_No_isGate_22 (by decide) ?_
      refine hret _ _ _ _ _ hP hD hS d_No_isGate_23 ?_
      exact b2F (by first | (simp [isG, c_5, hkc, c_15]; done) | (simp [isG, c_5, hkc, c_15]; omega))
    · -- 15: not taken
      refine lv_iconst (v := (nI 1)) hx hb d_No_isGate_18 (by decide) ?_
      refine lv_goto (tgt := 23) hx hb d_No_isGate_19 (by decide) ?_
      refine hret _ _ _ _ _ hP hD hS d_No_isGate_23 ?_
      exact b2T (by first | (simp [isG, c_5, hkc, c_15]; done) | (simp [isG, c_5, hkc, c_15]; omega))
set_option maxHeartbeats 4000000 in
set_option maxRecDepth 100000 in
theorem k_Ca_touches (l : Launch) (g : va_G) (a rB rT : Nat → Nat) (cI cJ cII cJJ : ClassId) (nc : Nat) (nv : Nat) (ng : Nat) (kd : Nat → Int32) (vo : Nat → Nat) (nu : Nat → Nat) (nd : Nat → Nat) (en : Nat → Nat) (br : Nat → Nat → Nat) (bc : Nat → Nat) (un : Nat → Nat) (eu : Nat → Nat) (li : Nat → Nat) (tb : Nat → Nat → Int64) (cc0 : Nat) (cp : Nat → Nat) (cu : Nat → Nat) (cd : Nat → Nat) (tc : Nat) (ts : Nat → Nat) (tf : Nat → Nat) (ox : Bool) (ow : Nat → Nat) (ob : Nat → Nat) (ra : Nat) (rb : Nat) (gc : Nat) (gr : Nat) (gk : Nat → Nat) (gg : Nat → Nat) (gp : Nat → Nat) (gt : Nat → Nat) (sa : Nat) (sb : Nat) (i : Nat) (ev : Nat) (hi : i < 4) (hp : ∀ j, cp j < 4096) : ct_i l g vwCl (tyS cI cJ cII cJJ) y_Ca_touches c_Ca_touches 3 (some .boolean) ({ frames := 0, cells := 0, slots := 0, locals := 0 } : Room) [.ref (a 3), .int (nI i), .int (nI ev)] (stW a rB rT cI cJ cII cJJ nc nv ng kd vo nu nd en br bc un eu li tb cc0 cp cu cd tc ts tf ox ow ob ra rb gc gr gk gg gp gt sa sb) (stW a rB rT cI cJ cII cJJ nc nv ng kd vo nu nd en br bc un eu li tb cc0 cp cu cd tc ts tf ox ow ob ra rb gc gr gk gg gp gt sa sb) (b2 (decide (cp i &&& ev ≠ 0))) := by
  refine ct_i.introZ (by decide) (Nat.le_of_ble_eq_true rfl) ?_
  intro p e s m args below meth c Q A ls hx hb hml hT hown hA hK hN hret hP hD hS hl
  have hown : s.vm.findClass R_Ca = some m.cls := hown
  have hl : lv_has ls 3 [(0, .ref (a 3)), (1, .int (nI i)), (2, .int (nI ev))] := hl
  refine lv_aload_n hx hb d_Ca_touches_0 rfl (lv_at hl 0 rfl) ?_
  refine va_get (D := g) (ci := 3) (v := .ref (a 20)) (C := R_Ca) (T := F_Ca) (N := 4) hx hb hT i_Ca hown hK hP 3 rfl rfl 1 (by decide) (hT _ tw_120) (fun _ h9 => h9) rfl d_Ca_touches_1 ?_
  refine lv_iload_n hx hb d_Ca_touches_4 rfl (lv_at hl 1 rfl) ?_
  refine my_iald (v := (nI (cp i))) (i := i) hx hb hK hP 20 0 rfl rfl (by omega) (by decide) rfl d_Ca_touches_5 ?_
  refine lv_iload_n hx hb d_Ca_touches_6 rfl (lv_at hl 2 rfl) ?_
  refine lv_iand hx hb d_Ca_touches_7 ?_
  refine my_ei (nx_and (cp i) ev) ?_
  have hlt : cp i &&& ev < 4096 := Nat.lt_of_le_of_lt Nat.and_le_left (hp i)
  refine my_if_eq (tgt := 15) (a := (cp i) &&& ev) hx hb d_Ca_touches_8 (by decide) (by omega) (fun c_8 => ?_) (fun c_8 => ?_)
  · -- 8: taken
    refine lv_iconst (v := (nI 0)) hx hb d_Ca_touches_15 (by decide) ?_
    refine hret _ _ _ _ _ hP hD hS d_Ca_touches_16 ?_
    exact b2F (by first | (simp [c_8]; done) | (simp [c_8]; omega))
  · -- 8: not taken
    have c_8 : ¬ cp i &&& ev = 0 := by omega
    refine lv_iconst (v := (nI 1)) hx hb d_Ca_touches_11 (by decide) ?_
    refine lv_goto (tgt := 16) hx hb d_Ca_touches_12 (by decide) ?_
    refine hret _ _ _ _ _ hP hD hS d_Ca_touches_16 ?_
    exact b2T (by first | (simp [c_8]; done) | (simp [c_8]; omega))
set_option maxHeartbeats 4000000 in
set_option maxRecDepth 100000 in
theorem k_Ca_countTouching (l : Launch) (g : va_G) (a rB rT : Nat → Nat) (cI cJ cII cJJ : ClassId) (nc : Nat) (nv : Nat) (ng : Nat) (kd : Nat → Int32) (vo : Nat → Nat) (nu : Nat → Nat) (nd : Nat → Nat) (en : Nat → Nat) (br : Nat → Nat → Nat) (bc : Nat → Nat) (un : Nat → Nat) (eu : Nat → Nat) (li : Nat → Nat) (tb : Nat → Nat → Int64) (cc0 : Nat) (cp : Nat → Nat) (cu : Nat → Nat) (cd : Nat → Nat) (tc : Nat) (ts : Nat → Nat) (tf : Nat → Nat) (ox : Bool) (ow : Nat → Nat) (ob : Nat → Nat) (ra : Nat) (rb : Nat) (gc : Nat) (gr : Nat) (gk : Nat → Nat) (gg : Nat → Nat) (gp : Nat → Nat) (gt : Nat → Nat) (sa : Nat) (sb : Nat) (ev : Nat) (hc : cc0 ≤ 4) (hp : ∀ j, cp j < 4096) : ct_i l g vwCl (tyS cI cJ cII cJJ) y_Ca_countTouching c_Ca_countTouching 4 (some .int) ({ frames := 1, cells := 0, slots := 0, locals := 22 } : Room) [.ref (a 3), .int (nI ev)] (stW a rB rT cI cJ cII cJJ nc nv ng kd vo nu nd en br bc un eu li tb cc0 cp cu cd tc ts tf ox ow ob ra rb gc gr gk gg gp gt sa sb) (stW a rB rT cI cJ cII cJJ nc nv ng kd vo nu nd en br bc un eu li tb cc0 cp cu cd tc ts tf ox ow ob ra rb gc gr gk gg gp gt sa sb) (nI (cT cp ev cc0)) := by
  refine ct_i.intro (by decide) (Nat.le_of_ble_eq_true rfl) ?_
  intro p e s m args below meth c Q A ls hx hb hml hT hown hA hK hN hret hP hD hS hl
  have hown : s.vm.findClass R_Ca = some m.cls := hown
  have hl : lv_has ls 4 [(0, .ref (a 3)), (1, .int (nI ev))] := hl
  refine lv_iconst (v := (nI 0)) hx hb d_Ca_countTouching_0 (by decide) ?_
  refine lv_istore_n (lv' := [(2, .int (nI 0)), (0, .ref (a 3)), (1, .int (nI ev))]) hx hb d_Ca_countTouching_1 rfl hl (by decide) rfl (fun ls hl => ?_)
  refine lv_iconst (v := (nI 0)) hx hb d_Ca_countTouching_2 (by decide) ?_
  refine lv_istore_n (lv' := [(3, .int (nI 0)), (2, .int (nI 0)), (0, .ref (a 3)), (1, .int (nI ev))]) hx hb d_Ca_countTouching_3 rfl hl (by decide) rfl (fun ls hl => ?_)
  have lp_4 : ∀ (k : Nat) (i : Nat) (f : Nat) (H : Heap) (locs : List Loc) (ls : Array Slot), (cc0 < i + k) → (i ≤ cc0) → (f = cT cp ev i) → va_P g vwCl (stW a rB rT cI cJ cII cJJ nc nv ng kd vo nu nd en br bc un eu li tb cc0 cp cu cd tc ts tf ox ow ob ra rb gc gr gk gg gp gt sa sb) H → va_D A (stW a rB rT cI cJ cII cJJ nc nv ng kd vo nu nd en br bc un eu li tb cc0 cp cu cd tc ts tf ox ow ob ra rb gc gr gk gg gp gt sa sb) → va_S A s.heap H locs → lv_has ls 4 [(0, .ref (a 3)), (1, .int (nI ev)), (2, .int (nI f)), (3, .int (nI i))] → W p l e ({ frames := 1, cells := 0, slots := 0, locals := 22 } : Room) s m args below meth c H locs 0 0 Q (F0 m 4 ls []) := by
    intro k
    induction k with
    | zero =>
      intro i f H locs ls hk hi hf hP hD hS hl
      exfalso
      omega
    | succ k ih_4 =>
      intro i f H locs ls hk hi hf hP hD hS hl
      refine lv_iload_n hx hb d_Ca_countTouching_4 rfl (lv_at hl 3 rfl) ?_
      refine lv_aload_n hx hb d_Ca_countTouching_5 rfl (lv_at hl 0 rfl) ?_
      refine va_get (D := g) (ci := 3) (v := .int (nI cc0)) (C := R_Ca) (T := F_Ca) (N := 4) hx hb hT i_Ca hown hK hP 3 rfl rfl 0 (by decide) (hT _ tw_117) (fun _ h9 => h9) rfl d_Ca_countTouching_6 ?_
      refine my_icmp_ge (tgt := 30) (a := i) (b := cc0) hx hb d_Ca_countTouching_9 (by decide) (by omega) (by omega) (fun c_9 => ?_) (fun c_9 => ?_)
      · -- 9: taken
        refine lv_iload_n hx hb d_Ca_countTouching_30 rfl (lv_at hl 2 rfl) ?_
        refine hret _ _ _ _ _ hP hD hS d_Ca_countTouching_31 ?_
        rw [hf, show i = cc0 by omega]
      · -- 9: not taken
        refine lv_aload_n hx hb d_Ca_countTouching_12 rfl (lv_at hl 0 rfl) ?_
        refine lv_iload_n hx hb d_Ca_countTouching_13 rfl (lv_at hl 3 rfl) ?_
        refine lv_iload_n hx hb d_Ca_countTouching_14 rfl (lv_at hl 1 rfl) ?_
        refine my_V_i (q0 := 3) (ci := 3) (C := R_Ca) (As := [.int (nI i), .int (nI ev)]) (n := 2) (k_Ca_touches l g a rB rT cI cJ cII cJJ nc nv ng kd vo nu nd en br bc un eu li tb cc0 cp cu cd tc ts tf ox ow ob ra rb gc gr gk gg gp gt sa sb i ev (by omega) hp) hx hb hml hown hT hN tw_410 tw_411 tw_412 tw_4 tw_413 (by decide +kernel) rfl rfl ⟨Nat.le_of_ble_eq_true rfl, Nat.le_of_ble_eq_true rfl⟩ ⟨Nat.zero_le _, Nat.zero_le _⟩ hK hP hD hS hA rfl rfl rfl hl rfl (Nat.le_of_ble_eq_true rfl) d_Ca_countTouching_15 (fun H locs hP hD hS => ?_)
        refine my_if_eq_b (tgt := 24) hx hb d_Ca_countTouching_18 (by decide) (fun c_18 => ?_) (fun c_18 => ?_)
        · -- 18: taken
          refine lv_iinc (v := (nI (i + 1))) (lv' := [(3, .int (nI (i + 1))), (0, .ref (a 3)), (1, .int (nI ev)), (2, .int (nI f))]) hx hb d_Ca_countTouching_24 hl (k := 3) rfl (nI_1 i) (by decide) rfl (fun ls hl => ?_)
          refine lv_goto (tgt := 4) hx hb d_Ca_countTouching_27 (by decide) ?_
          refine ih_4 _ _ _ _ _ ?_ ?_ ?_ hP hD hS (lv_sub hl [1, 2, 3, 0] rfl)
          · omega
          · omega
          · rw [hf]; simp at c_18; simp [cT, c_18]
        · -- 18: not taken
          refine lv_iinc (v := (nI (f + 1))) (lv' := [(2, .int (nI (f + 1))), (0, .ref (a 3)), (1, .int (nI ev)), (3, .int (nI i))]) hx hb d_Ca_countTouching_21 hl (k := 2) rfl (nI_1 f) (by decide) rfl (fun ls hl => ?_)
          refine lv_iinc (v := (nI (i + 1))) (lv' := [(3, .int (nI (i + 1))), (2, .int (nI (f + 1))), (0, .ref (a 3)), (1, .int (nI ev))]) hx hb d_Ca_countTouching_24 hl (k := 3) rfl (nI_1 i) (by decide) rfl (fun ls hl => ?_)
          refine lv_goto (tgt := 4) hx hb d_Ca_countTouching_27 (by decide) ?_
          refine ih_4 _ _ _ _ _ ?_ ?_ ?_ hP hD hS (lv_sub hl [2, 3, 1, 0] rfl)
          · omega
          · omega
          · rw [hf]; simp at c_18; simp [cT, c_18]
  refine lp_4 (cc0 + 1) _ _ _ _ _ ?_ ?_ ?_ hP hD hS (lv_sub hl [2, 3, 1, 0] rfl)
  · omega
  · omega
  · rfl
end
section
def hR (gg gp gt : Nat → Nat) (x y z : Nat) : Nat → Bool
  | 0 => false
  | i + 1 => hR gg gp gt x y z i || (decide (gg i = x) && decide (gp i = y) && decide (gt i = z))
theorem hR_t {gg gp gt : Nat → Nat} {x y z i : Nat} : ∀ n, i < n → gg i = x → gp i = y → gt i = z → hR gg gp gt x y z n = true
  | 0, h, _, _, _ => by omega
  | n + 1, h, h1, h2, h3 => by
    show (hR gg gp gt x y z n || _) = true
    rcases Nat.lt_or_ge i n with q | q
    · rw [hR_t n q h1 h2 h3]; rfl
    · have : i = n := by omega
      subst this
      simp [h1, h2, h3]
def rP (gp : Nat → Nat) (x : Int32) : Nat → Nat
  | 0 => 0
  | i + 1 => rP gp x i + (if nI (gp i) = x then 1 else 0)
def tP (gp gt : Nat → Nat) (x : Int32) : Nat → Nat
  | 0 => 0
  | i + 1 => tP gp gt x i + (if nI (gp i) = x ∧ 0 < gt i then 1 else 0)
theorem rP_le (gp : Nat → Nat) (x : Int32) (i : Nat) : rP gp x i ≤ i := by
  induction i with
  | zero => exact Nat.le_refl _
  | succ i ih => show rP gp x i + _ ≤ i + 1; split <;> omega
theorem tP_le (gp gt : Nat → Nat) (x : Int32) (i : Nat) : tP gp gt x i ≤ rP gp x i := by
  induction i with
  | zero => exact Nat.le_refl _
  | succ i ih =>
    show tP gp gt x i + (if nI (gp i) = x ∧ 0 < gt i then 1 else 0) ≤ rP gp x i + (if nI (gp i) = x then 1 else 0)
    by_cases h : nI (gp i) = x
    · by_cases h2 : 0 < gt i
      · simp only [h, h2, and_self, if_true]; omega
      · simp only [h, h2, and_false, if_true, if_false]; omega
    · simp only [h, false_and, if_false]; omega
/-- a row of the goal with a test -/
def hT0 (gg gt : Nat → Nat) (x : Nat) : Nat → Bool
  | 0 => false
  | i + 1 => hT0 gg gt x i || (decide (gg i = x) && decide (0 < gt i))
theorem hT0_t {gg gt : Nat → Nat} {x i : Nat} : ∀ n, i < n → gg i = x → 0 < gt i → hT0 gg gt x n = true
  | 0, h, _, _ => by omega
  | n + 1, h, h1, h2 => by
    show (hT0 gg gt x n || _) = true
    rcases Nat.lt_or_ge i n with q | q
    · rw [hT0_t n q h1 h2]; rfl
    · have : i = n := by omega
      subst this
      simp [h1, h2]
def gOp (gk gg gt : Nat → Nat) (gr x : Nat) : Bool := decide (0 < gk x) && !(hT0 gg gt x gr)
def pOp (gp gt : Nat → Nat) (gr y : Nat) : Bool := decide (0 < rP gp (nI y) gr) && decide (tP gp gt (nI y) gr = 0)
/-- the left-th from j on that is open: its number (0: none), what is left -/
def fL (op : Nat → Bool) : Nat → Nat → Nat → Nat × Nat
  | 0, _, left => (0, left)
  | f + 1, j, left => if op j = true then (if left = 0 then (j, 0) else fL op f (j + 1) (left - 1)) else fL op f (j + 1) left
def fO (op1 op2 : Nat → Bool) (gc n : Nat) : Int32 :=
  if (fL op1 gc 1 n).1 = 0 then (if (fL op2 50 1 (fL op1 gc 1 n).2).1 = 0 then 0 else -(nI (fL op2 50 1 (fL op1 gc 1 n).2).1)) else nI (fL op1 gc 1 n).1
theorem fL_le (op : Nat → Bool) : ∀ f j left, (fL op f j left).2 ≤ left
  | 0, j, left => Nat.le_refl _
  | f + 1, j, left => by
    show (if op j = true then (if left = 0 then (j, 0) else fL op f (j + 1) (left - 1)) else fL op f (j + 1) left).2 ≤ left
    split
    · split
      · exact Nat.zero_le _
      · have := fL_le op f (j + 1) (left - 1); omega
    · exact fL_le op f (j + 1) left
set_option maxHeartbeats 4000000 in
set_option maxRecDepth 100000 in
theorem k_Go_add (l : Launch) (g : va_G) (a rB rT : Nat → Nat) (cI cJ cII cJJ : ClassId) (nc : Nat) (nv : Nat) (ng : Nat) (kd : Nat → Int32) (vo : Nat → Nat) (nu : Nat → Nat) (nd : Nat → Nat) (en : Nat → Nat) (br : Nat → Nat → Nat) (bc : Nat → Nat) (un : Nat → Nat) (eu : Nat → Nat) (li : Nat → Nat) (tb : Nat → Nat → Int64) (cc0 : Nat) (cp : Nat → Nat) (cu : Nat → Nat) (cd : Nat → Nat) (tc : Nat) (ts : Nat → Nat) (tf : Nat → Nat) (ox : Bool) (ow : Nat → Nat) (ob : Nat → Nat) (ra : Nat) (rb : Nat) (gc : Nat) (gr : Nat) (gk : Nat → Nat) (gg : Nat → Nat) (gp : Nat → Nat) (gt : Nat → Nat) (sa : Nat) (sb : Nat) (x : Nat) (hc : gc < 30) : ct_i l g vwCl (tyS cI cJ cII cJJ) y_Go_add c_Go_add 2 (some .int) ({ frames := 0, cells := 0, slots := 0, locals := 0 } : Room) [.ref (a 6), .int (nI x)] (stW a rB rT cI cJ cII cJJ nc nv ng kd vo nu nd en br bc un eu li tb cc0 cp cu cd tc ts tf ox ow ob ra rb gc gr gk gg gp gt sa sb) (stW a rB rT cI cJ cII cJJ nc nv ng kd vo nu nd en br bc un eu li tb cc0 cp cu cd tc ts tf ox ow ob ra rb (gc + 1) gr (va_up gk (gc + 1) x) gg gp gt sa sb) (nI (gc + 1)) := by
  refine ct_i.intro (by decide) (Nat.le_of_ble_eq_true rfl) ?_
  intro p e s m args below meth c Q A ls hx hb hml hT hown hA hK hN hret hP hD hS hl
  have hown : s.vm.findClass R_Go = some m.cls := hown
  have hl : lv_has ls 2 [(0, .ref (a 6)), (1, .int (nI x))] := hl
  refine lv_aload_n hx hb d_Go_add_0 rfl (lv_at hl 0 rfl) ?_
  refine lv_dup hx hb d_Go_add_1 rfl ?_
  refine va_get (D := g) (ci := 6) (v := .int (nI gc)) (C := R_Go) (T := F_Go) (N := 6) hx hb hT i_Go hown hK hP 6 rfl rfl 0 (by decide) (hT _ tw_200) (fun _ h9 => h9) rfl d_Go_add_2 ?_
  refine lv_iconst (v := (nI 1)) hx hb d_Go_add_5 (by decide) ?_
  refine lv_iadd hx hb d_Go_add_6 ?_
  refine my_ei (nI_add gc 1) ?_
  refine va_put (D := g) (ci := 6) (v := .int (nI (gc + 1))) (ty := .int) (C := R_Go) (T := F_Go) (N := 6) hx hb hT i_Go t_Go t_Go_ok n_Go hown hK hP hD hS 6 rfl rfl 0 (by decide) (hT _ tw_200) (fun _ h9 => h9) rfl (by decide +kernel) rfl rfl (Nat.le_of_ble_eq_true rfl) d_Go_add_7 (fun H locs hP hD hS => ?_)
  have hP : va_P g vwCl (stW a rB rT cI cJ cII cJJ nc nv ng kd vo nu nd en br bc un eu li tb cc0 cp cu cd tc ts tf ox ow ob ra rb (gc + 1) gr gk gg gp gt sa sb) H := hP
  have hD : va_D A (stW a rB rT cI cJ cII cJJ nc nv ng kd vo nu nd en br bc un eu li tb cc0 cp cu cd tc ts tf ox ow ob ra rb (gc + 1) gr gk gg gp gt sa sb) := hD
  refine lv_aload_n hx hb d_Go_add_10 rfl (lv_at hl 0 rfl) ?_
  refine va_get (D := g) (ci := 6) (v := .ref (a 27)) (C := R_Go) (T := F_Go) (N := 6) hx hb hT i_Go hown hK hP 6 rfl rfl 2 (by decide) (hT _ tw_204) (fun _ h9 => h9) rfl d_Go_add_11 ?_
  refine lv_aload_n hx hb d_Go_add_14 rfl (lv_at hl 0 rfl) ?_
  refine va_get (D := g) (ci := 6) (v := .int (nI (gc + 1))) (C := R_Go) (T := F_Go) (N := 6) hx hb hT i_Go hown hK hP 6 rfl rfl 0 (by decide) (hT _ tw_200) (fun _ h9 => h9) rfl d_Go_add_15 ?_
  refine lv_iload_n hx hb d_Go_add_18 rfl (lv_at hl 1 rfl) ?_
  refine my_iast (i := gc + 1) hx hb hK hP hD hS 27 0 rfl rfl (by omega) (by decide) (my_upN _ _ _) (w' := (stW a rB rT cI cJ cII cJJ nc nv ng kd vo nu nd en br bc un eu li tb cc0 cp cu cd tc ts tf ox ow ob ra rb (gc + 1) gr (va_up gk (gc + 1) x) gg gp gt sa sb)) rfl d_Go_add_19 (fun H locs hP hD hS => ?_)
  refine lv_aload_n hx hb d_Go_add_20 rfl (lv_at hl 0 rfl) ?_
  refine va_get (D := g) (ci := 6) (v := .int (nI (gc + 1))) (C := R_Go) (T := F_Go) (N := 6) hx hb hT i_Go hown hK hP 6 rfl rfl 0 (by decide) (hT _ tw_200) (fun _ h9 => h9) rfl d_Go_add_21 ?_
  refine hret _ _ _ _ _ hP hD hS d_Go_add_24 ?_
  rfl
set_option maxHeartbeats 4000000 in
set_option maxRecDepth 100000 in
theorem k_Go_addRow (l : Launch) (g : va_G) (a rB rT : Nat → Nat) (cI cJ cII cJJ : ClassId) (nc : Nat) (nv : Nat) (ng : Nat) (kd : Nat → Int32) (vo : Nat → Nat) (nu : Nat → Nat) (nd : Nat → Nat) (en : Nat → Nat) (br : Nat → Nat → Nat) (bc : Nat → Nat) (un : Nat → Nat) (eu : Nat → Nat) (li : Nat → Nat) (tb : Nat → Nat → Int64) (cc0 : Nat) (cp : Nat → Nat) (cu : Nat → Nat) (cd : Nat → Nat) (tc : Nat) (ts : Nat → Nat) (tf : Nat → Nat) (ox : Bool) (ow : Nat → Nat) (ob : Nat → Nat) (ra : Nat) (rb : Nat) (gc : Nat) (gr : Nat) (gk : Nat → Nat) (gg : Nat → Nat) (gp : Nat → Nat) (gt : Nat → Nat) (sa : Nat) (sb : Nat) (x : Nat) (y : Nat) (z : Nat) (hr : gr < 100) : ct_i l g vwCl (tyS cI cJ cII cJJ) y_Go_addRow c_Go_addRow 4 (some .int) ({ frames := 0, cells := 0, slots := 0, locals := 0 } : Room) [.ref (a 6), .int (nI x), .int (nI y), .int (nI z)] (stW a rB rT cI cJ cII cJJ nc nv ng kd vo nu nd en br bc un eu li tb cc0 cp cu cd tc ts tf ox ow ob ra rb gc gr gk gg gp gt sa sb) (stW a rB rT cI cJ cII cJJ nc nv ng kd vo nu nd en br bc un eu li tb cc0 cp cu cd tc ts tf ox ow ob ra rb gc (gr + 1) gk (va_up gg gr x) (va_up gp gr y) (va_up gt gr z) sa sb) (nI (gr + 1)) := by
  refine ct_i.intro (by decide) (Nat.le_of_ble_eq_true rfl) ?_
  intro p e s m args below meth c Q A ls hx hb hml hT hown hA hK hN hret hP hD hS hl
  have hown : s.vm.findClass R_Go = some m.cls := hown
  have hl : lv_has ls 4 [(0, .ref (a 6)), (1, .int (nI x)), (2, .int (nI y)), (3, .int (nI z))] := hl
  refine lv_aload_n hx hb d_Go_addRow_0 rfl (lv_at hl 0 rfl) ?_
  refine va_get (D := g) (ci := 6) (v := .ref (a 28)) (C := R_Go) (T := F_Go) (N := 6) hx hb hT i_Go hown hK hP 6 rfl rfl 3 (by decide) (hT _ tw_205) (fun _ h9 => h9) rfl d_Go_addRow_1 ?_
  refine lv_aload_n hx hb d_Go_addRow_4 rfl (lv_at hl 0 rfl) ?_
  refine va_get (D := g) (ci := 6) (v := .int (nI gr)) (C := R_Go) (T := F_Go) (N := 6) hx hb hT i_Go hown hK hP 6 rfl rfl 1 (by decide) (hT _ tw_202) (fun _ h9 => h9) rfl d_Go_addRow_5 ?_
  refine lv_iload_n hx hb d_Go_addRow_8 rfl (lv_at hl 1 rfl) ?_
  refine my_iast (i := gr) hx hb hK hP hD hS 28 0 rfl rfl (by omega) (by decide) (my_upN _ _ _) (w' := (stW a rB rT cI cJ cII cJJ nc nv ng kd vo nu nd en br bc un eu li tb cc0 cp cu cd tc ts tf ox ow ob ra rb gc gr gk (va_up gg gr x) gp gt sa sb)) rfl d_Go_addRow_9 (fun H locs hP hD hS => ?_)
  refine lv_aload_n hx hb d_Go_addRow_10 rfl (lv_at hl 0 rfl) ?_
  refine va_get (D := g) (ci := 6) (v := .ref (a 29)) (C := R_Go) (T := F_Go) (N := 6) hx hb hT i_Go hown hK hP 6 rfl rfl 4 (by decide) (hT _ tw_206) (fun _ h9 => h9) rfl d_Go_addRow_11 ?_
  refine lv_aload_n hx hb d_Go_addRow_14 rfl (lv_at hl 0 rfl) ?_
  refine va_get (D := g) (ci := 6) (v := .int (nI gr)) (C := R_Go) (T := F_Go) (N := 6) hx hb hT i_Go hown hK hP 6 rfl rfl 1 (by decide) (hT _ tw_202) (fun _ h9 => h9) rfl d_Go_addRow_15 ?_
  refine lv_iload_n hx hb d_Go_addRow_18 rfl (lv_at hl 2 rfl) ?_
  refine my_iast (i := gr) hx hb hK hP hD hS 29 0 rfl rfl (by omega) (by decide) (my_upN _ _ _) (w' := (stW a rB rT cI cJ cII cJJ nc nv ng kd vo nu nd en br bc un eu li tb cc0 cp cu cd tc ts tf ox ow ob ra rb gc gr gk (va_up gg gr x) (va_up gp gr y) gt sa sb)) rfl d_Go_addRow_19 (fun H locs hP hD hS => ?_)
  refine lv_aload_n hx hb d_Go_addRow_20 rfl (lv_at hl 0 rfl) ?_
  refine va_get (D := g) (ci := 6) (v := .ref (a 30)) (C := R_Go) (T := F_Go) (N := 6) hx hb hT i_Go hown hK hP 6 rfl rfl 5 (by decide) (hT _ tw_207) (fun _ h9 => h9) rfl d_Go_addRow_21 ?_
  refine lv_aload_n hx hb d_Go_addRow_24 rfl (lv_at hl 0 rfl) ?_
  refine va_get (D := g) (ci := 6) (v := .int (nI gr)) (C := R_Go) (T := F_Go) (N := 6) hx hb hT i_Go hown hK hP 6 rfl rfl 1 (by decide) (hT _ tw_202) (fun _ h9 => h9) rfl d_Go_addRow_25 ?_
  refine lv_iload_n hx hb d_Go_addRow_28 rfl (lv_at hl 3 rfl) ?_
  refine my_iast (i := gr) hx hb hK hP hD hS 30 0 rfl rfl (by omega) (by decide) (my_upN _ _ _) (w' := (stW a rB rT cI cJ cII cJJ nc nv ng kd vo nu nd en br bc un eu li tb cc0 cp cu cd tc ts tf ox ow ob ra rb gc gr gk (va_up gg gr x) (va_up gp gr y) (va_up gt gr z) sa sb)) rfl d_Go_addRow_29 (fun H locs hP hD hS => ?_)
  refine lv_aload_n hx hb d_Go_addRow_30 rfl (lv_at hl 0 rfl) ?_
  refine lv_dup hx hb d_Go_addRow_31 rfl ?_
  refine va_get (D := g) (ci := 6) (v := .int (nI gr)) (C := R_Go) (T := F_Go) (N := 6) hx hb hT i_Go hown hK hP 6 rfl rfl 1 (by decide) (hT _ tw_202) (fun _ h9 => h9) rfl d_Go_addRow_32 ?_
  refine lv_iconst (v := (nI 1)) hx hb d_Go_addRow_35 (by decide) ?_
  refine lv_iadd hx hb d_Go_addRow_36 ?_
  refine my_ei (nI_add gr 1) ?_
  refine va_put (D := g) (ci := 6) (v := .int (nI (gr + 1))) (ty := .int) (C := R_Go) (T := F_Go) (N := 6) hx hb hT i_Go t_Go t_Go_ok n_Go hown hK hP hD hS 6 rfl rfl 1 (by decide) (hT _ tw_202) (fun _ h9 => h9) rfl (by decide +kernel) rfl rfl (Nat.le_of_ble_eq_true rfl) d_Go_addRow_37 (fun H locs hP hD hS => ?_)
  have hP : va_P g vwCl (stW a rB rT cI cJ cII cJJ nc nv ng kd vo nu nd en br bc un eu li tb cc0 cp cu cd tc ts tf ox ow ob ra rb gc (gr + 1) gk (va_up gg gr x) (va_up gp gr y) (va_up gt gr z) sa sb) H := hP
  have hD : va_D A (stW a rB rT cI cJ cII cJJ nc nv ng kd vo nu nd en br bc un eu li tb cc0 cp cu cd tc ts tf ox ow ob ra rb gc (gr + 1) gk (va_up gg gr x) (va_up gp gr y) (va_up gt gr z) sa sb) := hD
  refine lv_aload_n hx hb d_Go_addRow_40 rfl (lv_at hl 0 rfl) ?_
  refine va_get (D := g) (ci := 6) (v := .int (nI (gr + 1))) (C := R_Go) (T := F_Go) (N := 6) hx hb hT i_Go hown hK hP 6 rfl rfl 1 (by decide) (hT _ tw_202) (fun _ h9 => h9) rfl d_Go_addRow_41 ?_
  refine hret _ _ _ _ _ hP hD hS d_Go_addRow_44 ?_
  rfl
set_option maxHeartbeats 4000000 in
set_option maxRecDepth 100000 in
theorem k_Go_hasRow (l : Launch) (g : va_G) (a rB rT : Nat → Nat) (cI cJ cII cJJ : ClassId) (nc : Nat) (nv : Nat) (ng : Nat) (kd : Nat → Int32) (vo : Nat → Nat) (nu : Nat → Nat) (nd : Nat → Nat) (en : Nat → Nat) (br : Nat → Nat → Nat) (bc : Nat → Nat) (un : Nat → Nat) (eu : Nat → Nat) (li : Nat → Nat) (tb : Nat → Nat → Int64) (cc0 : Nat) (cp : Nat → Nat) (cu : Nat → Nat) (cd : Nat → Nat) (tc : Nat) (ts : Nat → Nat) (tf : Nat → Nat) (ox : Bool) (ow : Nat → Nat) (ob : Nat → Nat) (ra : Nat) (rb : Nat) (gc : Nat) (gr : Nat) (gk : Nat → Nat) (gg : Nat → Nat) (gp : Nat → Nat) (gt : Nat → Nat) (sa : Nat) (sb : Nat) (x : Nat) (y : Nat) (z : Nat) (hr : gr ≤ 100) (hx1 : x < 1000) (hy1 : y < 1000) (hz1 : z < 1000) (hgg : ∀ j, gg j < 1000) (hgp : ∀ j, gp j < 1000) (hgt : ∀ j, gt j < 1000) : ct_i l g vwCl (tyS cI cJ cII cJJ) y_Go_hasRow c_Go_hasRow 5 (some .boolean) ({ frames := 0, cells := 0, slots := 0, locals := 0 } : Room) [.ref (a 6), .int (nI x), .int (nI y), .int (nI z)] (stW a rB rT cI cJ cII cJJ nc nv ng kd vo nu nd en br bc un eu li tb cc0 cp cu cd tc ts tf ox ow ob ra rb gc gr gk gg gp gt sa sb) (stW a rB rT cI cJ cII cJJ nc nv ng kd vo nu nd en br bc un eu li tb cc0 cp cu cd tc ts tf ox ow ob ra rb gc gr gk gg gp gt sa sb) (b2 (hR gg gp gt x y z gr)) := by
  refine ct_i.introZ (by decide) (Nat.le_of_ble_eq_true rfl) ?_
  intro p e s m args below meth c Q A ls hx hb hml hT hown hA hK hN hret hP hD hS hl
  have hown : s.vm.findClass R_Go = some m.cls := hown
  have hl : lv_has ls 5 [(0, .ref (a 6)), (1, .int (nI x)), (2, .int (nI y)), (3, .int (nI z))] := hl
  refine lv_iconst (v := (nI 0)) hx hb d_Go_hasRow_0 (by decide) ?_
  refine lv_istore (lv' := [(4, .int (nI 0)), (0, .ref (a 6)), (1, .int (nI x)), (2, .int (nI y)), (3, .int (nI z))]) hx hb d_Go_hasRow_1 hl (by decide) rfl (fun ls hl => ?_)
  have lp_3 : ∀ (k : Nat) (i : Nat) (H : Heap) (locs : List Loc) (ls : Array Slot), (gr < i + k) → (i ≤ gr) → (hR gg gp gt x y z i = false) → va_P g vwCl (stW a rB rT cI cJ cII cJJ nc nv ng kd vo nu nd en br bc un eu li tb cc0 cp cu cd tc ts tf ox ow ob ra rb gc gr gk gg gp gt sa sb) H → va_D A (stW a rB rT cI cJ cII cJJ nc nv ng kd vo nu nd en br bc un eu li tb cc0 cp cu cd tc ts tf ox ow ob ra rb gc gr gk gg gp gt sa sb) → va_S A s.heap H locs → lv_has ls 5 [(0, .ref (a 6)), (1, .int (nI x)), (2, .int (nI y)), (3, .int (nI z)), (4, .int (nI i))] → W p l e ({ frames := 0, cells := 0, slots := 0, locals := 0 } : Room) s m args below meth c H locs 0 0 Q (F0 m 3 ls []) := by
    intro k
    induction k with
    | zero =>
      intro i H locs ls hk hi hf hP hD hS hl
      exfalso
      omega
    | succ k ih_3 =>
      intro i H locs ls hk hi hf hP hD hS hl
      refine lv_iload hx hb d_Go_hasRow_3 (lv_at hl 4 rfl) ?_
      refine lv_aload_n hx hb d_Go_hasRow_5 rfl (lv_at hl 0 rfl) ?_
      refine va_get (D := g) (ci := 6) (v := .int (nI gr)) (C := R_Go) (T := F_Go) (N := 6) hx hb hT i_Go hown hK hP 6 rfl rfl 1 (by decide) (hT _ tw_202) (fun _ h9 => h9) rfl d_Go_hasRow_6 ?_
      refine my_icmp_ge (tgt := 53) (a := i) (b := gr) hx hb d_Go_hasRow_9 (by decide) (by omega) (by omega) (fun c_9 => ?_) (fun c_9 => ?_)
      · -- 9: taken
        refine lv_iconst (v := (nI 0)) hx hb d_Go_hasRow_53 (by decide) ?_
        refine hret _ _ _ _ _ hP hD hS d_Go_hasRow_54 ?_
        exact b2F (by rw [← hf, show i = gr by omega])
      · -- 9: not taken
        have q1 := hgg i; have q2 := hgp i; have q3 := hgt i
        refine lv_aload_n hx hb d_Go_hasRow_12 rfl (lv_at hl 0 rfl) ?_
        refine va_get (D := g) (ci := 6) (v := .ref (a 28)) (C := R_Go) (T := F_Go) (N := 6) hx hb hT i_Go hown hK hP 6 rfl rfl 3 (by decide) (hT _ tw_205) (fun _ h9 => h9) rfl d_Go_hasRow_13 ?_
        refine lv_iload hx hb d_Go_hasRow_16 (lv_at hl 4 rfl) ?_
        refine my_iald (v := (nI (gg i))) (i := i) hx hb hK hP 28 0 rfl rfl (by omega) (by decide) rfl d_Go_hasRow_18 ?_
        refine lv_iload_n hx hb d_Go_hasRow_19 rfl (lv_at hl 1 rfl) ?_
        refine my_icmp_ne (tgt := 47) (a := gg i) (b := x) hx hb d_Go_hasRow_20 (by decide) (by omega) (by omega) (fun c_20 => ?_) (fun c_20 => ?_)
        · -- 20: taken
          refine lv_iinc (v := (nI (i + 1))) (lv' := [(4, .int (nI (i + 1))), (0, .ref (a 6)), (1, .int (nI x)), (2, .int (nI y)), (3, .int (nI z))]) hx hb d_Go_hasRow_47 hl (k := 4) rfl (nI_1 i) (by decide) rfl (fun ls hl => ?_)
          refine lv_goto (tgt := 3) hx hb d_Go_hasRow_50 (by decide) ?_
          refine ih_3 _ _ _ _ ?_ ?_ ?_ hP hD hS (lv_sub hl [1, 2, 3, 4, 0] rfl)
          · omega
          · omega
          · simp [hR, hf, c_20]
        · -- 20: not taken
          refine lv_aload_n hx hb d_Go_hasRow_23 rfl (lv_at hl 0 rfl) ?_
          refine va_get (D := g) (ci := 6) (v := .ref (a 29)) (C := R_Go) (T := F_Go) (N := 6) hx hb hT i_Go hown hK hP 6 rfl rfl 4 (by decide) (hT _ tw_206) (fun _ h9 => h9) rfl d_Go_hasRow_24 ?_
          refine lv_iload hx hb d_Go_hasRow_27 (lv_at hl 4 rfl) ?_
          refine my_iald (v := (nI (gp i))) (i := i) hx hb hK hP 29 0 rfl rfl (by omega) (by decide) rfl d_Go_hasRow_29 ?_
          refine lv_iload_n hx hb d_Go_hasRow_30 rfl (lv_at hl 2 rfl) ?_
          refine my_icmp_ne (tgt := 47) (a := gp i) (b := y) hx hb d_Go_hasRow_31 (by decide) (by omega) (by omega) (fun c_31 => ?_) (fun c_31 => ?_)
          · -- 31: taken
            refine lv_iinc (v := (nI (i + 1))) (lv' := [(4, .int (nI (i + 1))), (0, .ref (a 6)), (1, .int (nI x)), (2, .int (nI y)), (3, .int (nI z))]) hx hb d_Go_hasRow_47 hl (k := 4) rfl (nI_1 i) (by decide) rfl (fun ls hl => ?_)
            refine lv_goto (tgt := 3) hx hb d_Go_hasRow_50 (by decide) ?_
            refine ih_3 _ _ _ _ ?_ ?_ ?_ hP hD hS (lv_sub hl [1, 2, 3, 4, 0] rfl)
            · omega
            · omega
            · simp [hR, hf, c_20, c_31]
          · -- 31: not taken
            refine lv_aload_n hx hb d_Go_hasRow_34 rfl (lv_at hl 0 rfl) ?_
            refine va_get (D := g) (ci := 6) (v := .ref (a 30)) (C := R_Go) (T := F_Go) (N := 6) hx hb hT i_Go hown hK hP 6 rfl rfl 5 (by decide) (hT _ tw_207) (fun _ h9 => h9) rfl d_Go_hasRow_35 ?_
            refine lv_iload hx hb d_Go_hasRow_38 (lv_at hl 4 rfl) ?_
            refine my_iald (v := (nI (gt i))) (i := i) hx hb hK hP 30 0 rfl rfl (by omega) (by decide) rfl d_Go_hasRow_40 ?_
            refine lv_iload_n hx hb d_Go_hasRow_41 rfl (lv_at hl 3 rfl) ?_
            refine my_icmp_ne (tgt := 47) (a := gt i) (b := z) hx hb d_Go_hasRow_42 (by decide) (by omega) (by omega) (fun c_42 => ?_) (fun c_42 => ?_)
            · -- 42: taken
              refine lv_iinc (v := (nI (i + 1))) (lv' := [(4, .int (nI (i + 1))), (0, .ref (a 6)), (1, .int (nI x)), (2, .int (nI y)), (3, .int (nI z))]) hx hb d_Go_hasRow_47 hl (k := 4) rfl (nI_1 i) (by decide) rfl (fun ls hl => ?_)
              refine lv_goto (tgt := 3) hx hb d_Go_hasRow_50 (by decide) ?_
              refine ih_3 _ _ _ _ ?_ ?_ ?_ hP hD hS (lv_sub hl [1, 2, 3, 4, 0] rfl)
              · omega
              · omega
              · simp [hR, hf, c_20, c_31, c_42]
            · -- 42: not taken
              refine lv_iconst (v := (nI 1)) hx hb d_Go_hasRow_45 (by decide) ?_
              refine hret _ _ _ _ _ hP hD hS d_Go_hasRow_46 ?_
              exact b2T (hR_t gr (by omega) c_20 c_31 c_42)
  refine lp_3 (gr + 1) _ _ _ _ ?_ ?_ ?_ hP hD hS (lv_sub hl [1, 2, 3, 4, 0] rfl)
  · omega
  · omega
  · rfl
set_option maxHeartbeats 4000000 in
set_option maxRecDepth 100000 in
theorem k_Go_rowsOfPart (l : Launch) (g : va_G) (a rB rT : Nat → Nat) (cI cJ cII cJJ : ClassId) (nc : Nat) (nv : Nat) (ng : Nat) (kd : Nat → Int32) (vo : Nat → Nat) (nu : Nat → Nat) (nd : Nat → Nat) (en : Nat → Nat) (br : Nat → Nat → Nat) (bc : Nat → Nat) (un : Nat → Nat) (eu : Nat → Nat) (li : Nat → Nat) (tb : Nat → Nat → Int64) (cc0 : Nat) (cp : Nat → Nat) (cu : Nat → Nat) (cd : Nat → Nat) (tc : Nat) (ts : Nat → Nat) (tf : Nat → Nat) (ox : Bool) (ow : Nat → Nat) (ob : Nat → Nat) (ra : Nat) (rb : Nat) (gc : Nat) (gr : Nat) (gk : Nat → Nat) (gg : Nat → Nat) (gp : Nat → Nat) (gt : Nat → Nat) (sa : Nat) (sb : Nat) (x : Int32) (hr : gr ≤ 100) : ct_i l g vwCl (tyS cI cJ cII cJJ) y_Go_rowsOfPart c_Go_rowsOfPart 4 (some .int) ({ frames := 0, cells := 0, slots := 0, locals := 0 } : Room) [.ref (a 6), .int x] (stW a rB rT cI cJ cII cJJ nc nv ng kd vo nu nd en br bc un eu li tb cc0 cp cu cd tc ts tf ox ow ob ra rb gc gr gk gg gp gt sa sb) (stW a rB rT cI cJ cII cJJ nc nv ng kd vo nu nd en br bc un eu li tb cc0 cp cu cd tc ts tf ox ow ob ra rb gc gr gk gg gp gt sa sb) (nI (rP gp x gr)) := by
  refine ct_i.intro (by decide) (Nat.le_of_ble_eq_true rfl) ?_
  intro p e s m args below meth c Q A ls hx hb hml hT hown hA hK hN hret hP hD hS hl
  have hown : s.vm.findClass R_Go = some m.cls := hown
  have hl : lv_has ls 4 [(0, .ref (a 6)), (1, .int x)] := hl
  refine lv_iconst (v := (nI 0)) hx hb d_Go_rowsOfPart_0 (by decide) ?_
  refine lv_istore_n (lv' := [(2, .int (nI 0)), (0, .ref (a 6)), (1, .int x)]) hx hb d_Go_rowsOfPart_1 rfl hl (by decide) rfl (fun ls hl => ?_)
  refine lv_iconst (v := (nI 0)) hx hb d_Go_rowsOfPart_2 (by decide) ?_
  refine lv_istore_n (lv' := [(3, .int (nI 0)), (2, .int (nI 0)), (0, .ref (a 6)), (1, .int x)]) hx hb d_Go_rowsOfPart_3 rfl hl (by decide) rfl (fun ls hl => ?_)
  have lp_4 : ∀ (k : Nat) (i : Nat) (f : Nat) (H : Heap) (locs : List Loc) (ls : Array Slot), (gr < i + k) → (i ≤ gr) → (f = rP gp x i) → va_P g vwCl (stW a rB rT cI cJ cII cJJ nc nv ng kd vo nu nd en br bc un eu li tb cc0 cp cu cd tc ts tf ox ow ob ra rb gc gr gk gg gp gt sa sb) H → va_D A (stW a rB rT cI cJ cII cJJ nc nv ng kd vo nu nd en br bc un eu li tb cc0 cp cu cd tc ts tf ox ow ob ra rb gc gr gk gg gp gt sa sb) → va_S A s.heap H locs → lv_has ls 4 [(0, .ref (a 6)), (1, .int x), (2, .int (nI f)), (3, .int (nI i))] → W p l e ({ frames := 0, cells := 0, slots := 0, locals := 0 } : Room) s m args below meth c H locs 0 0 Q (F0 m 4 ls []) := by
    intro k
    induction k with
    | zero =>
      intro i f H locs ls hk hi hf hP hD hS hl
      exfalso
      omega
    | succ k ih_4 =>
      intro i f H locs ls hk hi hf hP hD hS hl
      refine lv_iload_n hx hb d_Go_rowsOfPart_4 rfl (lv_at hl 3 rfl) ?_
      refine lv_aload_n hx hb d_Go_rowsOfPart_5 rfl (lv_at hl 0 rfl) ?_
      refine va_get (D := g) (ci := 6) (v := .int (nI gr)) (C := R_Go) (T := F_Go) (N := 6) hx hb hT i_Go hown hK hP 6 rfl rfl 1 (by decide) (hT _ tw_202) (fun _ h9 => h9) rfl d_Go_rowsOfPart_6 ?_
      refine my_icmp_ge (tgt := 31) (a := i) (b := gr) hx hb d_Go_rowsOfPart_9 (by decide) (by omega) (by omega) (fun c_9 => ?_) (fun c_9 => ?_)
      · -- 9: taken
        refine lv_iload_n hx hb d_Go_rowsOfPart_31 rfl (lv_at hl 2 rfl) ?_
        refine hret _ _ _ _ _ hP hD hS d_Go_rowsOfPart_32 ?_
        rw [hf, show i = gr by omega]
      · -- 9: not taken
        refine lv_aload_n hx hb d_Go_rowsOfPart_12 rfl (lv_at hl 0 rfl) ?_
        refine va_get (D := g) (ci := 6) (v := .ref (a 29)) (C := R_Go) (T := F_Go) (N := 6) hx hb hT i_Go hown hK hP 6 rfl rfl 4 (by decide) (hT _ tw_206) (fun _ h9 => h9) rfl d_Go_rowsOfPart_13 ?_
        refine lv_iload_n hx hb d_Go_rowsOfPart_16 rfl (lv_at hl 3 rfl) ?_
        refine my_iald (v := (nI (gp i))) (i := i) hx hb hK hP 29 0 rfl rfl (by omega) (by decide) rfl d_Go_rowsOfPart_17 ?_
        refine lv_iload_n hx hb d_Go_rowsOfPart_18 rfl (lv_at hl 1 rfl) ?_
        refine lv_icmp_ne (tgt := 25) hx hb d_Go_rowsOfPart_19 (by decide) (fun c_19 => ?_) (fun c_19 => ?_)
        · -- 19: taken
          refine lv_iinc (v := (nI (i + 1))) (lv' := [(3, .int (nI (i + 1))), (0, .ref (a 6)), (1, .int x), (2, .int (nI f))]) hx hb d_Go_rowsOfPart_25 hl (k := 3) rfl (nI_1 i) (by decide) rfl (fun ls hl => ?_)
          refine lv_goto (tgt := 4) hx hb d_Go_rowsOfPart_28 (by decide) ?_
          refine ih_4 _ _ _ _ _ ?_ ?_ ?_ hP hD hS (lv_sub hl [1, 2, 3, 0] rfl)
          · omega
          · omega
          · rw [hf]; simp [rP, c_19]
        · -- 19: not taken
          refine lv_iinc (v := (nI (f + 1))) (lv' := [(2, .int (nI (f + 1))), (0, .ref (a 6)), (1, .int x), (3, .int (nI i))]) hx hb d_Go_rowsOfPart_22 hl (k := 2) rfl (nI_1 f) (by decide) rfl (fun ls hl => ?_)
          refine lv_iinc (v := (nI (i + 1))) (lv' := [(3, .int (nI (i + 1))), (2, .int (nI (f + 1))), (0, .ref (a 6)), (1, .int x)]) hx hb d_Go_rowsOfPart_25 hl (k := 3) rfl (nI_1 i) (by decide) rfl (fun ls hl => ?_)
          refine lv_goto (tgt := 4) hx hb d_Go_rowsOfPart_28 (by decide) ?_
          refine ih_4 _ _ _ _ _ ?_ ?_ ?_ hP hD hS (lv_sub hl [2, 3, 1, 0] rfl)
          · omega
          · omega
          · rw [hf]; simp [rP, c_19]
  refine lp_4 (gr + 1) _ _ _ _ _ ?_ ?_ ?_ hP hD hS (lv_sub hl [2, 3, 1, 0] rfl)
  · omega
  · omega
  · rfl
set_option maxHeartbeats 4000000 in
set_option maxRecDepth 100000 in
theorem k_Go_testedRowsOfPart (l : Launch) (g : va_G) (a rB rT : Nat → Nat) (cI cJ cII cJJ : ClassId) (nc : Nat) (nv : Nat) (ng : Nat) (kd : Nat → Int32) (vo : Nat → Nat) (nu : Nat → Nat) (nd : Nat → Nat) (en : Nat → Nat) (br : Nat → Nat → Nat) (bc : Nat → Nat) (un : Nat → Nat) (eu : Nat → Nat) (li : Nat → Nat) (tb : Nat → Nat → Int64) (cc0 : Nat) (cp : Nat → Nat) (cu : Nat → Nat) (cd : Nat → Nat) (tc : Nat) (ts : Nat → Nat) (tf : Nat → Nat) (ox : Bool) (ow : Nat → Nat) (ob : Nat → Nat) (ra : Nat) (rb : Nat) (gc : Nat) (gr : Nat) (gk : Nat → Nat) (gg : Nat → Nat) (gp : Nat → Nat) (gt : Nat → Nat) (sa : Nat) (sb : Nat) (x : Int32) (hr : gr ≤ 100) (hgt : ∀ j, gt j < 1000) : ct_i l g vwCl (tyS cI cJ cII cJJ) y_Go_testedRowsOfPart c_Go_testedRowsOfPart 4 (some .int) ({ frames := 0, cells := 0, slots := 0, locals := 0 } : Room) [.ref (a 6), .int x] (stW a rB rT cI cJ cII cJJ nc nv ng kd vo nu nd en br bc un eu li tb cc0 cp cu cd tc ts tf ox ow ob ra rb gc gr gk gg gp gt sa sb) (stW a rB rT cI cJ cII cJJ nc nv ng kd vo nu nd en br bc un eu li tb cc0 cp cu cd tc ts tf ox ow ob ra rb gc gr gk gg gp gt sa sb) (nI (tP gp gt x gr)) := by
  refine ct_i.intro (by decide) (Nat.le_of_ble_eq_true rfl) ?_
  intro p e s m args below meth c Q A ls hx hb hml hT hown hA hK hN hret hP hD hS hl
  have hown : s.vm.findClass R_Go = some m.cls := hown
  have hl : lv_has ls 4 [(0, .ref (a 6)), (1, .int x)] := hl
  refine lv_iconst (v := (nI 0)) hx hb d_Go_testedRowsOfPart_0 (by decide) ?_
  refine lv_istore_n (lv' := [(2, .int (nI 0)), (0, .ref (a 6)), (1, .int x)]) hx hb d_Go_testedRowsOfPart_1 rfl hl (by decide) rfl (fun ls hl => ?_)
  refine lv_iconst (v := (nI 0)) hx hb d_Go_testedRowsOfPart_2 (by decide) ?_
  refine lv_istore_n (lv' := [(3, .int (nI 0)), (2, .int (nI 0)), (0, .ref (a 6)), (1, .int x)]) hx hb d_Go_testedRowsOfPart_3 rfl hl (by decide) rfl (fun ls hl => ?_)
  have lp_4 : ∀ (k : Nat) (i : Nat) (f : Nat) (H : Heap) (locs : List Loc) (ls : Array Slot), (gr < i + k) → (i ≤ gr) → (f = tP gp gt x i) → va_P g vwCl (stW a rB rT cI cJ cII cJJ nc nv ng kd vo nu nd en br bc un eu li tb cc0 cp cu cd tc ts tf ox ow ob ra rb gc gr gk gg gp gt sa sb) H → va_D A (stW a rB rT cI cJ cII cJJ nc nv ng kd vo nu nd en br bc un eu li tb cc0 cp cu cd tc ts tf ox ow ob ra rb gc gr gk gg gp gt sa sb) → va_S A s.heap H locs → lv_has ls 4 [(0, .ref (a 6)), (1, .int x), (2, .int (nI f)), (3, .int (nI i))] → W p l e ({ frames := 0, cells := 0, slots := 0, locals := 0 } : Room) s m args below meth c H locs 0 0 Q (F0 m 4 ls []) := by
    intro k
    induction k with
    | zero =>
      intro i f H locs ls hk hi hf hP hD hS hl
      exfalso
      omega
    | succ k ih_4 =>
      intro i f H locs ls hk hi hf hP hD hS hl
      refine lv_iload_n hx hb d_Go_testedRowsOfPart_4 rfl (lv_at hl 3 rfl) ?_
      refine lv_aload_n hx hb d_Go_testedRowsOfPart_5 rfl (lv_at hl 0 rfl) ?_
      refine va_get (D := g) (ci := 6) (v := .int (nI gr)) (C := R_Go) (T := F_Go) (N := 6) hx hb hT i_Go hown hK hP 6 rfl rfl 1 (by decide) (hT _ tw_202) (fun _ h9 => h9) rfl d_Go_testedRowsOfPart_6 ?_
      refine my_icmp_ge (tgt := 40) (a := i) (b := gr) hx hb d_Go_testedRowsOfPart_9 (by decide) (by omega) (by omega) (fun c_9 => ?_) (fun c_9 => ?_)
      · -- 9: taken
        refine lv_iload_n hx hb d_Go_testedRowsOfPart_40 rfl (lv_at hl 2 rfl) ?_
        refine hret _ _ _ _ _ hP hD hS d_Go_testedRowsOfPart_41 ?_
        rw [hf, show i = gr by omega]
      · -- 9: not taken
        have q3 := hgt i
        refine lv_aload_n hx hb d_Go_testedRowsOfPart_12 rfl (lv_at hl 0 rfl) ?_
        refine va_get (D := g) (ci := 6) (v := .ref (a 29)) (C := R_Go) (T := F_Go) (N := 6) hx hb hT i_Go hown hK hP 6 rfl rfl 4 (by decide) (hT _ tw_206) (fun _ h9 => h9) rfl d_Go_testedRowsOfPart_13 ?_
        refine lv_iload_n hx hb d_Go_testedRowsOfPart_16 rfl (lv_at hl 3 rfl) ?_
        refine my_iald (v := (nI (gp i))) (i := i) hx hb hK hP 29 0 rfl rfl (by omega) (by decide) rfl d_Go_testedRowsOfPart_17 ?_
        refine lv_iload_n hx hb d_Go_testedRowsOfPart_18 rfl (lv_at hl 1 rfl) ?_
        refine lv_icmp_ne (tgt := 34) hx hb d_Go_testedRowsOfPart_19 (by decide) (fun c_19 => ?_) (fun c_19 => ?_)
        · -- 19: taken
          refine lv_iinc (v := (nI (i + 1))) (lv' := [(3, .int (nI (i + 1))), (0, .ref (a 6)), (1, .int x), (2, .int (nI f))]) hx hb d_Go_testedRowsOfPart_34 hl (k := 3) rfl (nI_1 i) (by decide) rfl (fun ls hl => ?_)
          refine lv_goto (tgt := 4) hx hb d_Go_testedRowsOfPart_37 (by decide) ?_
          refine ih_4 _ _ _ _ _ ?_ ?_ ?_ hP hD hS (lv_sub hl [1, 2, 3, 0] rfl)
          · omega
          · omega
          · rw [hf]; simp [tP, c_19]
        · -- 19: not taken
          refine lv_aload_n hx hb d_Go_testedRowsOfPart_22 rfl (lv_at hl 0 rfl) ?_
          refine va_get (D := g) (ci := 6) (v := .ref (a 30)) (C := R_Go) (T := F_Go) (N := 6) hx hb hT i_Go hown hK hP 6 rfl rfl 5 (by decide) (hT _ tw_207) (fun _ h9 => h9) rfl d_Go_testedRowsOfPart_23 ?_
          refine lv_iload_n hx hb d_Go_testedRowsOfPart_26 rfl (lv_at hl 3 rfl) ?_
          refine my_iald (v := (nI (gt i))) (i := i) hx hb hK hP 30 0 rfl rfl (by omega) (by decide) rfl d_Go_testedRowsOfPart_27 ?_
          refine my_if_eq (tgt := 34) (a := gt i) hx hb d_Go_testedRowsOfPart_28 (by decide) (by omega) (fun c_28 => ?_) (fun c_28 => ?_)
          · -- 28: taken
            refine lv_iinc (v := (nI (i + 1))) (lv' := [(3, .int (nI (i + 1))), (0, .ref (a 6)), (1, .int x), (2, .int (nI f))]) hx hb d_Go_testedRowsOfPart_34 hl (k := 3) rfl (nI_1 i) (by decide) rfl (fun ls hl => ?_)
            refine lv_goto (tgt := 4) hx hb d_Go_testedRowsOfPart_37 (by decide) ?_
            refine ih_4 _ _ _ _ _ ?_ ?_ ?_ hP hD hS (lv_sub hl [1, 2, 3, 0] rfl)
            · omega
            · omega
            · rw [hf]; simp [tP, c_19, c_28]
          · -- 28: not taken
            refine lv_iinc (v := (nI (f + 1))) (lv' := [(2, .int (nI (f + 1))), (0, .ref (a 6)), (1, .int x), (3, .int (nI i))]) hx hb d_Go_testedRowsOfPart_31 hl (k := 2) rfl (nI_1 f) (by decide) rfl (fun ls hl => ?_)
            refine lv_iinc (v := (nI (i + 1))) (lv' := [(3, .int (nI (i + 1))), (2, .int (nI (f + 1))), (0, .ref (a 6)), (1, .int x)]) hx hb d_Go_testedRowsOfPart_34 hl (k := 3) rfl (nI_1 i) (by decide) rfl (fun ls hl => ?_)
            refine lv_goto (tgt := 4) hx hb d_Go_testedRowsOfPart_37 (by decide) ?_
            refine ih_4 _ _ _ _ _ ?_ ?_ ?_ hP hD hS (lv_sub hl [2, 3, 1, 0] rfl)
            · omega
            · omega
            · rw [hf]; simp [tP, c_19, c_28]
  refine lp_4 (gr + 1) _ _ _ _ _ ?_ ?_ ?_ hP hD hS (lv_sub hl [2, 3, 1, 0] rfl)
  · omega
  · omega
  · rfl
set_option maxHeartbeats 4000000 in
set_option maxRecDepth 100000 in
theorem k_Go_isGoalOpen (l : Launch) (g : va_G) (a rB rT : Nat → Nat) (cI cJ cII cJJ : ClassId) (nc : Nat) (nv : Nat) (ng : Nat) (kd : Nat → Int32) (vo : Nat → Nat) (nu : Nat → Nat) (nd : Nat → Nat) (en : Nat → Nat) (br : Nat → Nat → Nat) (bc : Nat → Nat) (un : Nat → Nat) (eu : Nat → Nat) (li : Nat → Nat) (tb : Nat → Nat → Int64) (cc0 : Nat) (cp : Nat → Nat) (cu : Nat → Nat) (cd : Nat → Nat) (tc : Nat) (ts : Nat → Nat) (tf : Nat → Nat) (ox : Bool) (ow : Nat → Nat) (ob : Nat → Nat) (ra : Nat) (rb : Nat) (gc : Nat) (gr : Nat) (gk : Nat → Nat) (gg : Nat → Nat) (gp : Nat → Nat) (gt : Nat → Nat) (sa : Nat) (sb : Nat) (x : Nat) (hx1 : x ≤ 30) (hr : gr ≤ 100) (hgk : ∀ j, gk j < 1000) (hgg : ∀ j, gg j < 1000) (hgt : ∀ j, gt j < 1000) : ct_i l g vwCl (tyS cI cJ cII cJJ) y_Go_isGoalOpen c_Go_isGoalOpen 3 (some .boolean) ({ frames := 0, cells := 0, slots := 0, locals := 0 } : Room) [.ref (a 6), .int (nI x)] (stW a rB rT cI cJ cII cJJ nc nv ng kd vo nu nd en br bc un eu li tb cc0 cp cu cd tc ts tf ox ow ob ra rb gc gr gk gg gp gt sa sb) (stW a rB rT cI cJ cII cJJ nc nv ng kd vo nu nd en br bc un eu li tb cc0 cp cu cd tc ts tf ox ow ob ra rb gc gr gk gg gp gt sa sb) (b2 (gOp gk gg gt gr x)) := by
  refine ct_i.introZ (by decide) (Nat.le_of_ble_eq_true rfl) ?_
  intro p e s m args below meth c Q A ls hx hb hml hT hown hA hK hN hret hP hD hS hl
  have hown : s.vm.findClass R_Go = some m.cls := hown
  have hl : lv_has ls 3 [(0, .ref (a 6)), (1, .int (nI x))] := hl
  refine lv_aload_n hx hb d_Go_isGoalOpen_0 rfl (lv_at hl 0 rfl) ?_
  refine va_get (D := g) (ci := 6) (v := .ref (a 27)) (C := R_Go) (T := F_Go) (N := 6) hx hb hT i_Go hown hK hP 6 rfl rfl 2 (by decide) (hT _ tw_204) (fun _ h9 => h9) rfl d_Go_isGoalOpen_1 ?_
  refine lv_iload_n hx hb d_Go_isGoalOpen_4 rfl (lv_at hl 1 rfl) ?_
  have q0 := hgk x
  refine my_iald (v := (nI (gk x))) (i := x) hx hb hK hP 27 0 rfl rfl (by omega) (by decide) rfl d_Go_isGoalOpen_5 ?_
  refine my_if_ne (tgt := 11) (a := gk x) hx hb d_Go_isGoalOpen_6 (by decide) (by omega) (fun c_6 => ?_) (fun c_6 => ?_)
  · -- 6: taken
    refine lv_iconst (v := (nI 0)) hx hb d_Go_isGoalOpen_11 (by decide) ?_
    refine lv_istore_n (lv' := [(2, .int (nI 0)), (0, .ref (a 6)), (1, .int (nI x))]) hx hb d_Go_isGoalOpen_12 rfl hl (by decide) rfl (fun ls hl => ?_)
    have lp_13 : ∀ (k : Nat) (i : Nat) (H : Heap) (locs : List Loc) (ls : Array Slot), (gr < i + k) → (i ≤ gr) → (hT0 gg gt x i = false) → va_P g vwCl (stW a rB rT cI cJ cII cJJ nc nv ng kd vo nu nd en br bc un eu li tb cc0 cp cu cd tc ts tf ox ow ob ra rb gc gr gk gg gp gt sa sb) H → va_D A (stW a rB rT cI cJ cII cJJ nc nv ng kd vo nu nd en br bc un eu li tb cc0 cp cu cd tc ts tf ox ow ob ra rb gc gr gk gg gp gt sa sb) → va_S A s.heap H locs → lv_has ls 3 [(0, .ref (a 6)), (1, .int (nI x)), (2, .int (nI i))] → W p l e ({ frames := 0, cells := 0, slots := 0, locals := 0 } : Room) s m args below meth c H locs 0 0 Q (F0 m 13 ls []) := by
      intro k
      induction k with
      | zero =>
        intro i H locs ls hk hi hf hP hD hS hl
        exfalso
        omega
      | succ k ih_13 =>
        intro i H locs ls hk hi hf hP hD hS hl
        refine lv_iload_n hx hb d_Go_isGoalOpen_13 rfl (lv_at hl 2 rfl) ?_
        refine lv_aload_n hx hb d_Go_isGoalOpen_14 rfl (lv_at hl 0 rfl) ?_
        refine va_get (D := g) (ci := 6) (v := .int (nI gr)) (C := R_Go) (T := F_Go) (N := 6) hx hb hT i_Go hown hK hP 6 rfl rfl 1 (by decide) (hT _ tw_202) (fun _ h9 => h9) rfl d_Go_isGoalOpen_15 ?_
        refine my_icmp_ge (tgt := 48) (a := i) (b := gr) hx hb d_Go_isGoalOpen_18 (by decide) (by omega) (by omega) (fun c_18 => ?_) (fun c_18 => ?_)
        · -- 18: taken
          refine lv_iconst (v := (nI 1)) hx hb d_Go_isGoalOpen_48 (by decide) ?_
          refine hret _ _ _ _ _ hP hD hS d_Go_isGoalOpen_49 ?_
          exact b2T (by have e : hT0 gg gt x gr = false := by rw [← hf, show i = gr by omega]
                        simp [gOp, c_6, e])
        · -- 18: not taken
          have q1 := hgg i; have q3 := hgt i
          refine lv_aload_n hx hb d_Go_isGoalOpen_21 rfl (lv_at hl 0 rfl) ?_
          refine va_get (D := g) (ci := 6) (v := .ref (a 28)) (C := R_Go) (T := F_Go) (N := 6) hx hb hT i_Go hown hK hP 6 rfl rfl 3 (by decide) (hT _ tw_205) (fun _ h9 => h9) rfl d_Go_isGoalOpen_22 ?_
          refine lv_iload_n hx hb d_Go_isGoalOpen_25 rfl (lv_at hl 2 rfl) ?_
          refine my_iald (v := (nI (gg i))) (i := i) hx hb hK hP 28 0 rfl rfl (by omega) (by decide) rfl d_Go_isGoalOpen_26 ?_
          refine lv_iload_n hx hb d_Go_isGoalOpen_27 rfl (lv_at hl 1 rfl) ?_
          refine my_icmp_ne (tgt := 42) (a := gg i) (b := x) hx hb d_Go_isGoalOpen_28 (by decide) (by omega) (by omega) (fun c_28 => ?_) (fun c_28 => ?_)
          · -- 28: taken
            refine lv_iinc (v := (nI (i + 1))) (lv' := [(2, .int (nI (i + 1))), (0, .ref (a 6)), (1, .int (nI x))]) hx hb d_Go_isGoalOpen_42 hl (k := 2) rfl (nI_1 i) (by decide) rfl (fun ls hl => ?_)
            refine lv_goto (tgt := 13) hx hb d_Go_isGoalOpen_45 (by decide) ?_
            refine ih_13 _ _ _ _ ?_ ?_ ?_ hP hD hS (lv_sub hl [1, 2, 0] rfl)
            · omega
            · omega
            · simp [hT0, hf, c_28]
          · -- 28: not taken
            refine lv_aload_n hx hb d_Go_isGoalOpen_31 rfl (lv_at hl 0 rfl) ?_
            refine va_get (D := g) (ci := 6) (v := .ref (a 30)) (C := R_Go) (T := F_Go) (N := 6) hx hb hT i_Go hown hK hP 6 rfl rfl 5 (by decide) (hT _ tw_207) (fun _ h9 => h9) rfl d_Go_isGoalOpen_32 ?_
            refine lv_iload_n hx hb d_Go_isGoalOpen_35 rfl (lv_at hl 2 rfl) ?_
            refine my_iald (v := (nI (gt i))) (i := i) hx hb hK hP 30 0 rfl rfl (by omega) (by decide) rfl d_Go_isGoalOpen_36 ?_
            refine my_if_eq (tgt := 42) (a := gt i) hx hb d_Go_isGoalOpen_37 (by decide) (by omega) (fun c_37 => ?_) (fun c_37 => ?_)
            · -- 37: taken
              refine lv_iinc (v := (nI (i + 1))) (lv' := [(2, .int (nI (i + 1))), (0, .ref (a 6)), (1, .int (nI x))]) hx hb d_Go_isGoalOpen_42 hl (k := 2) rfl (nI_1 i) (by decide) rfl (fun ls hl => ?_)
              refine lv_goto (tgt := 13) hx hb d_Go_isGoalOpen_45 (by decide) ?_
              refine ih_13 _ _ _ _ ?_ ?_ ?_ hP hD hS (lv_sub hl [1, 2, 0] rfl)
              · omega
              · omega
              · simp [hT0, hf, c_28, c_37]
            · -- 37: not taken
              refine lv_iconst (v := (nI 0)) hx hb d_Go_isGoalOpen_40 (by decide) ?_
              refine hret _ _ _ _ _ hP hD hS d_Go_isGoalOpen_41 ?_
              exact b2F (by simp [gOp, hT0_t gr (by omega) c_28 c_37])
    refine lp_13 (gr + 1) _ _ _ _ ?_ ?_ ?_ hP hD hS (lv_sub hl [1, 2, 0] rfl)
    · omega
    · omega
    · rfl
  · -- 6: not taken
    refine lv_iconst (v := (nI 0)) hx hb d_Go_isGoalOpen_9 (by decide) ?_
    refine hret _ _ _ _ _ hP hD hS d_Go_isGoalOpen_10 ?_
    exact b2F (by simp [gOp, c_6])
set_option maxHeartbeats 4000000 in
set_option maxRecDepth 100000 in
theorem k_Go_isPartOpen (l : Launch) (g : va_G) (a rB rT : Nat → Nat) (cI cJ cII cJJ : ClassId) (nc : Nat) (nv : Nat) (ng : Nat) (kd : Nat → Int32) (vo : Nat → Nat) (nu : Nat → Nat) (nd : Nat → Nat) (en : Nat → Nat) (br : Nat → Nat → Nat) (bc : Nat → Nat) (un : Nat → Nat) (eu : Nat → Nat) (li : Nat → Nat) (tb : Nat → Nat → Int64) (cc0 : Nat) (cp : Nat → Nat) (cu : Nat → Nat) (cd : Nat → Nat) (tc : Nat) (ts : Nat → Nat) (tf : Nat → Nat) (ox : Bool) (ow : Nat → Nat) (ob : Nat → Nat) (ra : Nat) (rb : Nat) (gc : Nat) (gr : Nat) (gk : Nat → Nat) (gg : Nat → Nat) (gp : Nat → Nat) (gt : Nat → Nat) (sa : Nat) (sb : Nat) (y : Nat) (hr : gr ≤ 100) (hgt : ∀ j, gt j < 1000) : ct_i l g vwCl (tyS cI cJ cII cJJ) y_Go_isPartOpen c_Go_isPartOpen 2 (some .boolean) ({ frames := 1, cells := 0, slots := 0, locals := 23 } : Room) [.ref (a 6), .int (nI y)] (stW a rB rT cI cJ cII cJJ nc nv ng kd vo nu nd en br bc un eu li tb cc0 cp cu cd tc ts tf ox ow ob ra rb gc gr gk gg gp gt sa sb) (stW a rB rT cI cJ cII cJJ nc nv ng kd vo nu nd en br bc un eu li tb cc0 cp cu cd tc ts tf ox ow ob ra rb gc gr gk gg gp gt sa sb) (b2 (pOp gp gt gr y)) := by
  refine ct_i.introZ (by decide) (Nat.le_of_ble_eq_true rfl) ?_
  intro p e s m args below meth c Q A ls hx hb hml hT hown hA hK hN hret hP hD hS hl
  have hown : s.vm.findClass R_Go = some m.cls := hown
  have hl : lv_has ls 2 [(0, .ref (a 6)), (1, .int (nI y))] := hl
  have q1 := rP_le gp (nI y) gr
  have q2 := tP_le gp gt (nI y) gr
  refine lv_aload_n hx hb d_Go_isPartOpen_0 rfl (lv_at hl 0 rfl) ?_
  refine lv_iload_n hx hb d_Go_isPartOpen_1 rfl (lv_at hl 1 rfl) ?_
  refine my_V_i (q0 := 6) (ci := 6) (C := R_Go) (As := [.int (nI y)]) (n := 1) (k_Go_rowsOfPart l g a rB rT cI cJ cII cJJ nc nv ng kd vo nu nd en br bc un eu li tb cc0 cp cu cd tc ts tf ox ow ob ra rb gc gr gk gg gp gt sa sb (nI y) (by omega)) hx hb hml hown hT hN tw_520 tw_521 tw_522 tw_8 tw_523 (by decide +kernel) rfl rfl ⟨Nat.le_of_ble_eq_true rfl, Nat.le_of_ble_eq_true rfl⟩ ⟨Nat.zero_le _, Nat.zero_le _⟩ hK hP hD hS hA rfl rfl rfl hl rfl (Nat.le_of_ble_eq_true rfl) d_Go_isPartOpen_2 (fun H locs hP hD hS => ?_)
  refine my_if_le (tgt := 20) (a := rP gp (nI y) gr) hx hb d_Go_isPartOpen_5 (by decide) (by omega) (fun c_5 => ?_) (fun c_5 => ?_)
  · -- 5: taken
    refine lv_iconst (v := (nI 0)) hx hb d_Go_isPartOpen_20 (by decide) ?_
    refine hret _ _ _ _ _ hP hD hS d_Go_isPartOpen_21 ?_
    exact b2F (by first | (simp [pOp, c_5]; done) | (simp [pOp, c_5]; omega))
  · -- 5: not taken
    refine lv_aload_n hx hb d_Go_isPartOpen_8 rfl (lv_at hl 0 rfl) ?_
    refine lv_iload_n hx hb d_Go_isPartOpen_9 rfl (lv_at hl 1 rfl) ?_
    refine my_V_i (q0 := 6) (ci := 6) (C := R_Go) (As := [.int (nI y)]) (n := 1) (k_Go_testedRowsOfPart l g a rB rT cI cJ cII cJJ nc nv ng kd vo nu nd en br bc un eu li tb cc0 cp cu cd tc ts tf ox ow ob ra rb gc gr gk gg gp gt sa sb (nI y) hr hgt) hx hb hml hown hT hN tw_524 tw_525 tw_526 tw_8 tw_527 (by decide +kernel) rfl rfl ⟨Nat.le_of_ble_eq_true rfl, Nat.le_of_ble_eq_true rfl⟩ ⟨Nat.zero_le _, Nat.zero_le _⟩ hK hP hD hS hA rfl rfl rfl hl rfl (Nat.le_of_ble_eq_true rfl) d_Go_isPartOpen_10 (fun H locs hP hD hS => ?_)
    refine my_if_ne (tgt := 20) (a := tP gp gt (nI y) gr) hx hb d_Go_isPartOpen_13 (by decide) (by omega) (fun c_13 => ?_) (fun c_13 => ?_)
    · -- 13: taken
      refine lv_iconst (v := (nI 0)) hx hb d_Go_isPartOpen_20 (by decide) ?_
      refine hret _ _ _ _ _ hP hD hS d_Go_isPartOpen_21 ?_
      exact b2F (by first | (simp [pOp, c_5, c_13]; done) | (simp [pOp, c_5, c_13]; omega))
    · -- 13: not taken
      refine lv_iconst (v := (nI 1)) hx hb d_Go_isPartOpen_16 (by decide) ?_
      refine lv_goto (tgt := 21) hx hb d_Go_isPartOpen_17 (by decide) ?_
      refine hret _ _ _ _ _ hP hD hS d_Go_isPartOpen_21 ?_
      exact b2T (by first | (simp [pOp, c_5, c_13]; done) | (simp [pOp, c_5, c_13]; omega))
set_option maxHeartbeats 4000000 in
set_option maxRecDepth 100000 in
theorem k_Go_findOpen (l : Launch) (g : va_G) (a rB rT : Nat → Nat) (cI cJ cII cJJ : ClassId) (nc : Nat) (nv : Nat) (ng : Nat) (kd : Nat → Int32) (vo : Nat → Nat) (nu : Nat → Nat) (nd : Nat → Nat) (en : Nat → Nat) (br : Nat → Nat → Nat) (bc : Nat → Nat) (un : Nat → Nat) (eu : Nat → Nat) (li : Nat → Nat) (tb : Nat → Nat → Int64) (cc0 : Nat) (cp : Nat → Nat) (cu : Nat → Nat) (cd : Nat → Nat) (tc : Nat) (ts : Nat → Nat) (tf : Nat → Nat) (ox : Bool) (ow : Nat → Nat) (ob : Nat → Nat) (ra : Nat) (rb : Nat) (gc : Nat) (gr : Nat) (gk : Nat → Nat) (gg : Nat → Nat) (gp : Nat → Nat) (gt : Nat → Nat) (sa : Nat) (sb : Nat) (n : Nat) (hn : n < 2 ^ 31) (hc : gc ≤ 30) (hr : gr ≤ 100) (hgk : ∀ j, gk j < 1000) (hgg : ∀ j, gg j < 1000) (hgt : ∀ j, gt j < 1000) : ct_i l g vwCl (tyS cI cJ cII cJJ) y_Go_findOpen c_Go_findOpen 4 (some .int) ({ frames := 2, cells := 0, slots := 0, locals := 44 } : Room) [.ref (a 6), .int (nI n)] (stW a rB rT cI cJ cII cJJ nc nv ng kd vo nu nd en br bc un eu li tb cc0 cp cu cd tc ts tf ox ow ob ra rb gc gr gk gg gp gt sa sb) (stW a rB rT cI cJ cII cJJ nc nv ng kd vo nu nd en br bc un eu li tb cc0 cp cu cd tc ts tf ox ow ob ra rb gc gr gk gg gp gt sa sb) (fO (gOp gk gg gt gr) (pOp gp gt gr) gc n) := by
  refine ct_i.intro (by decide) (Nat.le_of_ble_eq_true rfl) ?_
  intro p e s m args below meth c Q A ls hx hb hml hT hown hA hK hN hret hP hD hS hl
  have hown : s.vm.findClass R_Go = some m.cls := hown
  have hl : lv_has ls 4 [(0, .ref (a 6)), (1, .int (nI n))] := hl
  refine lv_iload_n hx hb d_Go_findOpen_0 rfl (lv_at hl 1 rfl) ?_
  refine lv_istore_n (lv' := [(2, .int (nI n)), (0, .ref (a 6)), (1, .int (nI n))]) hx hb d_Go_findOpen_1 rfl hl (by decide) rfl (fun ls hl => ?_)
  refine lv_iconst (v := (nI 1)) hx hb d_Go_findOpen_2 (by decide) ?_
  refine lv_istore_n (lv' := [(3, .int (nI 1)), (2, .int (nI n)), (0, .ref (a 6)), (1, .int (nI n))]) hx hb d_Go_findOpen_3 rfl hl (by decide) rfl (fun ls hl => ?_)
  have lp_4 : ∀ (k : Nat) (j : Nat) (f : Nat) (lf : Nat) (H : Heap) (locs : List Loc) (ls : Array Slot), (gc + 1 < j + k) → (j + f = gc + 1) → (1 ≤ j) → (lf < 2 ^ 31) → (fL (gOp gk gg gt gr) f j lf = fL (gOp gk gg gt gr) gc 1 n) → va_P g vwCl (stW a rB rT cI cJ cII cJJ nc nv ng kd vo nu nd en br bc un eu li tb cc0 cp cu cd tc ts tf ox ow ob ra rb gc gr gk gg gp gt sa sb) H → va_D A (stW a rB rT cI cJ cII cJJ nc nv ng kd vo nu nd en br bc un eu li tb cc0 cp cu cd tc ts tf ox ow ob ra rb gc gr gk gg gp gt sa sb) → va_S A s.heap H locs → lv_has ls 4 [(0, .ref (a 6)), (1, .int (nI n)), (2, .int (nI lf)), (3, .int (nI j))] → W p l e ({ frames := 2, cells := 0, slots := 0, locals := 44 } : Room) s m args below meth c H locs 0 0 Q (F0 m 4 ls []) := by
    intro k
    induction k with
    | zero =>
      intro j f lf H locs ls hk hj h1 hlf hf hP hD hS hl
      exfalso
      omega
    | succ k ih_4 =>
      intro j f lf H locs ls hk hj h1 hlf hf hP hD hS hl
      refine lv_iload_n hx hb d_Go_findOpen_4 rfl (lv_at hl 3 rfl) ?_
      refine lv_aload_n hx hb d_Go_findOpen_5 rfl (lv_at hl 0 rfl) ?_
      refine va_get (D := g) (ci := 6) (v := .int (nI gc)) (C := R_Go) (T := F_Go) (N := 6) hx hb hT i_Go hown hK hP 6 rfl rfl 0 (by decide) (hT _ tw_200) (fun _ h9 => h9) rfl d_Go_findOpen_6 ?_
      refine my_icmp_gt (tgt := 35) (a := j) (b := gc) hx hb d_Go_findOpen_9 (by decide) (by omega) (by omega) (fun c_9 => ?_) (fun c_9 => ?_)
      · -- 9: taken
        have f0 : f = 0 := by omega
        subst f0
        have hR1 : fL (gOp gk gg gt gr) gc 1 n = (0, lf) := hf.symm
        refine lv_iconst (v := (nI 1)) hx hb d_Go_findOpen_35 (by decide) ?_
        refine lv_istore_n (lv' := [(3, .int (nI 1)), (0, .ref (a 6)), (1, .int (nI n)), (2, .int (nI lf))]) hx hb d_Go_findOpen_36 rfl hl (by decide) rfl (fun ls hl => ?_)
        have lp_37 : ∀ (k : Nat) (j : Nat) (f : Nat) (lf : Nat) (H : Heap) (locs : List Loc) (ls : Array Slot), (51 < j + k) → (j + f = 51) → (1 ≤ j) → (lf < 2 ^ 31) → (fL (pOp gp gt gr) f j lf = fL (pOp gp gt gr) 50 1 (fL (gOp gk gg gt gr) gc 1 n).2) → va_P g vwCl (stW a rB rT cI cJ cII cJJ nc nv ng kd vo nu nd en br bc un eu li tb cc0 cp cu cd tc ts tf ox ow ob ra rb gc gr gk gg gp gt sa sb) H → va_D A (stW a rB rT cI cJ cII cJJ nc nv ng kd vo nu nd en br bc un eu li tb cc0 cp cu cd tc ts tf ox ow ob ra rb gc gr gk gg gp gt sa sb) → va_S A s.heap H locs → lv_has ls 4 [(0, .ref (a 6)), (1, .int (nI n)), (2, .int (nI lf)), (3, .int (nI j))] → W p l e ({ frames := 2, cells := 0, slots := 0, locals := 44 } : Room) s m args below meth c H locs 0 0 Q (F0 m 37 ls []) := by
          intro k
          induction k with
          | zero =>
            intro j f lf H locs ls hk hj h1 hlf hf2 hP hD hS hl
            exfalso
            omega
          | succ k ih_37 =>
            intro j f lf H locs ls hk hj h1 hlf hf2 hP hD hS hl
            refine lv_iload_n hx hb d_Go_findOpen_37 rfl (lv_at hl 3 rfl) ?_
            refine lv_bipush (v := (nI 50)) hx hb d_Go_findOpen_38 (by decide) ?_
            refine my_icmp_gt (tgt := 67) (a := j) (b := 50) hx hb d_Go_findOpen_40 (by decide) (by omega) (by omega) (fun c_40 => ?_) (fun c_40 => ?_)
            · -- 40: taken
              have f0 : f = 0 := by omega
              subst f0
              have hR2 : fL (pOp gp gt gr) 50 1 (fL (gOp gk gg gt gr) gc 1 n).2 = (0, lf) := hf2.symm
              refine lv_iconst (v := (nI 0)) hx hb d_Go_findOpen_67 (by decide) ?_
              refine hret _ _ _ _ _ hP hD hS d_Go_findOpen_68 ?_
              simp [fO, hR1]
              rw [hR1] at hR2
              simp [hR2]
              rfl
            · -- 40: not taken
              obtain ⟨f, rfl⟩ : ∃ q, f = q + 1 := ⟨f - 1, by omega⟩
              refine lv_aload_n hx hb d_Go_findOpen_43 rfl (lv_at hl 0 rfl) ?_
              refine lv_iload_n hx hb d_Go_findOpen_44 rfl (lv_at hl 3 rfl) ?_
              refine my_V_i (q0 := 6) (ci := 6) (C := R_Go) (As := [.int (nI j)]) (n := 1) (k_Go_isPartOpen l g a rB rT cI cJ cII cJJ nc nv ng kd vo nu nd en br bc un eu li tb cc0 cp cu cd tc ts tf ox ow ob ra rb gc gr gk gg gp gt sa sb j hr hgt) hx hb hml hown hT hN tw_516 tw_518 tp_14 tw_8 tw_519 (by decide +kernel) rfl rfl ⟨Nat.le_of_ble_eq_true rfl, Nat.le_of_ble_eq_true rfl⟩ ⟨Nat.zero_le _, Nat.zero_le _⟩ hK hP hD hS hA rfl rfl rfl hl rfl (Nat.le_of_ble_eq_true rfl) d_Go_findOpen_45 (fun H locs hP hD hS => ?_)
              refine my_if_eq_b (tgt := 61) hx hb d_Go_findOpen_48 (by decide) (fun c_48 => ?_) (fun c_48 => ?_)
              · -- 48: taken
                refine lv_iinc (v := (nI (j + 1))) (lv' := [(3, .int (nI (j + 1))), (0, .ref (a 6)), (1, .int (nI n)), (2, .int (nI lf))]) hx hb d_Go_findOpen_61 hl (k := 3) rfl (nI_1 j) (by decide) rfl (fun ls hl => ?_)
                refine lv_goto (tgt := 37) hx hb d_Go_findOpen_64 (by decide) ?_
                refine ih_37 _ f _ _ _ _ ?_ ?_ ?_ ?_ ?_ hP hD hS (lv_sub hl [1, 2, 3, 0] rfl)
                · omega
                · exact (show j + 1 + f = 51 by omega)
                · omega
                · omega
                · rw [← hf2]
                  simp [fL, c_48]
              · -- 48: not taken
                refine lv_iload_n hx hb d_Go_findOpen_51 rfl (lv_at hl 2 rfl) ?_
                refine my_if_ne (tgt := 58) (a := lf) hx hb d_Go_findOpen_52 (by decide) (by omega) (fun c_52 => ?_) (fun c_52 => ?_)
                · -- 52: taken
                  refine lv_iinc (v := (nI (lf - 1))) (lv' := [(2, .int (nI (lf - 1))), (0, .ref (a 6)), (1, .int (nI n)), (3, .int (nI j))]) hx hb d_Go_findOpen_58 hl (k := 2) rfl (sb_m1 (by omega)) (by decide) rfl (fun ls hl => ?_)
                  refine lv_iinc (v := (nI (j + 1))) (lv' := [(3, .int (nI (j + 1))), (2, .int (nI (lf - 1))), (0, .ref (a 6)), (1, .int (nI n))]) hx hb d_Go_findOpen_61 hl (k := 3) rfl (nI_1 j) (by decide) rfl (fun ls hl => ?_)
                  refine lv_goto (tgt := 37) hx hb d_Go_findOpen_64 (by decide) ?_
                  refine ih_37 _ f _ _ _ _ ?_ ?_ ?_ ?_ ?_ hP hD hS (lv_sub hl [2, 3, 1, 0] rfl)
                  · omega
                  · exact (show j + 1 + f = 51 by omega)
                  · omega
                  · omega
                  · rw [← hf2]
                    simp [fL, c_48, show lf ≠ 0 by omega]
                · -- 52: not taken
                  refine lv_iload_n hx hb d_Go_findOpen_55 rfl (lv_at hl 3 rfl) ?_
                  refine lv_ineg hx hb d_Go_findOpen_56 ?_
                  refine hret _ _ _ _ _ hP hD hS d_Go_findOpen_57 ?_
                  have hR2 : fL (pOp gp gt gr) 50 1 (fL (gOp gk gg gt gr) gc 1 n).2 = (j, 0) := by rw [← hf2]; simp [fL, c_48, show lf = 0 by omega]
                  simp [fO, hR1, hR2, show j ≠ 0 by omega]
                  simp [hR1] at hR2
                  simp [hR2, show j ≠ 0 by omega]
        refine lp_37 (52) 1 50 _ _ _ _ ?_ ?_ ?_ ?_ ?_ hP hD hS (lv_sub hl [1, 2, 3, 0] rfl)
        · omega
        · rfl
        · omega
        · omega
        · rw [hR1]
      · -- 9: not taken
        obtain ⟨f, rfl⟩ : ∃ q, f = q + 1 := ⟨f - 1, by omega⟩
        refine lv_aload_n hx hb d_Go_findOpen_12 rfl (lv_at hl 0 rfl) ?_
        refine lv_iload_n hx hb d_Go_findOpen_13 rfl (lv_at hl 3 rfl) ?_
        refine my_V_i (q0 := 6) (ci := 6) (C := R_Go) (As := [.int (nI j)]) (n := 1) (k_Go_isGoalOpen l g a rB rT cI cJ cII cJJ nc nv ng kd vo nu nd en br bc un eu li tb cc0 cp cu cd tc ts tf ox ow ob ra rb gc gr gk gg gp gt sa sb j (by omega) hr hgk hgg hgt) hx hb hml hown hT hN tw_512 tw_514 tp_13 tw_8 tw_515 (by decide +kernel) rfl rfl ⟨Nat.le_of_ble_eq_true rfl, Nat.le_of_ble_eq_true rfl⟩ ⟨Nat.zero_le _, Nat.zero_le _⟩ hK hP hD hS hA rfl rfl rfl hl rfl (Nat.le_of_ble_eq_true rfl) d_Go_findOpen_14 (fun H locs hP hD hS => ?_)
        refine my_if_eq_b (tgt := 29) hx hb d_Go_findOpen_17 (by decide) (fun c_17 => ?_) (fun c_17 => ?_)
        · -- 17: taken
          refine lv_iinc (v := (nI (j + 1))) (lv' := [(3, .int (nI (j + 1))), (0, .ref (a 6)), (1, .int (nI n)), (2, .int (nI lf))]) hx hb d_Go_findOpen_29 hl (k := 3) rfl (nI_1 j) (by decide) rfl (fun ls hl => ?_)
          refine lv_goto (tgt := 4) hx hb d_Go_findOpen_32 (by decide) ?_
          refine ih_4 _ f _ _ _ _ ?_ ?_ ?_ ?_ ?_ hP hD hS (lv_sub hl [1, 2, 3, 0] rfl)
          · omega
          · exact (show j + 1 + f = gc + 1 by omega)
          · omega
          · omega
          · rw [← hf]
            simp [fL, c_17]
        · -- 17: not taken
          refine lv_iload_n hx hb d_Go_findOpen_20 rfl (lv_at hl 2 rfl) ?_
          refine my_if_ne (tgt := 26) (a := lf) hx hb d_Go_findOpen_21 (by decide) (by omega) (fun c_21 => ?_) (fun c_21 => ?_)
          · -- 21: taken
            refine lv_iinc (v := (nI (lf - 1))) (lv' := [(2, .int (nI (lf - 1))), (0, .ref (a 6)), (1, .int (nI n)), (3, .int (nI j))]) hx hb d_Go_findOpen_26 hl (k := 2) rfl (sb_m1 (by omega)) (by decide) rfl (fun ls hl => ?_)
            refine lv_iinc (v := (nI (j + 1))) (lv' := [(3, .int (nI (j + 1))), (2, .int (nI (lf - 1))), (0, .ref (a 6)), (1, .int (nI n))]) hx hb d_Go_findOpen_29 hl (k := 3) rfl (nI_1 j) (by decide) rfl (fun ls hl => ?_)
            refine lv_goto (tgt := 4) hx hb d_Go_findOpen_32 (by decide) ?_
            refine ih_4 _ f _ _ _ _ ?_ ?_ ?_ ?_ ?_ hP hD hS (lv_sub hl [2, 3, 1, 0] rfl)
            · omega
            · exact (show j + 1 + f = gc + 1 by omega)
            · omega
            · omega
            · rw [← hf]
              simp [fL, c_17, show lf ≠ 0 by omega]
          · -- 21: not taken
            refine lv_iload_n hx hb d_Go_findOpen_24 rfl (lv_at hl 3 rfl) ?_
            refine hret _ _ _ _ _ hP hD hS d_Go_findOpen_25 ?_
            have hR1 : fL (gOp gk gg gt gr) gc 1 n = (j, 0) := by rw [← hf]; simp [fL, c_17, show lf = 0 by omega]
            simp [fO, hR1, show j ≠ 0 by omega]
  refine lp_4 (gc + 2) 1 gc n _ _ _ ?_ ?_ ?_ ?_ ?_ hP hD hS (lv_sub hl [2, 3, 1, 0] rfl)
  · omega
  · exact Nat.add_comm 1 gc
  · omega
  · omega
  · rfl
end
section
def bcI (x : Nat) : Nat :=
  let i1 := x - (x / 2 ^ 1 &&& 1431655765)
  let i2 := (i1 &&& 858993459) + (i1 / 2 ^ 2 &&& 858993459)
  let i3 := (i2 + i2 / 2 ^ 4) &&& 252645135
  let i4 := i3 + i3 / 2 ^ 8
  let i5 := i4 + i4 / 2 ^ 16
  i5 &&& 63
theorem bcI_64 : ∀ a, a < 64 → ∀ b, b < 64 → bcI (64 * a + b) = popc (64 * a + b) 12 := by decide +kernel
theorem bcI_eq (x : Nat) (h : x < 4096) : bcI x = popc x 12 := by
  have := bcI_64 (x / 64) (by omega) (x % 64) (by omega)
  rwa [show 64 * (x / 64) + x % 64 = x by omega] at this
def bcL (x : Nat) : Nat :=
  let i1 := x - (x / 2 ^ 1 &&& 6148914691236517205)
  let i2 := (i1 &&& 3689348814741910323) + (i1 / 2 ^ 2 &&& 3689348814741910323)
  let i3 := (i2 + i2 / 2 ^ 4) &&& 1085102592571150095
  let i4 := i3 + i3 / 2 ^ 8
  let i5 := i4 + i4 / 2 ^ 16
  let i6 := i5 + i5 / 2 ^ 32
  i6 &&& 127
theorem bcL_eq (x : Nat) (h : x < 2 ^ 64) : bcL x = popc x 64 := by
  rw [← bcl_eq x h]
  show _ &&& (2 ^ 7 - 1) = _
  rw [Nat.and_two_pow_sub_one_eq_mod]
  rfl
theorem and_lt {a b n : Nat} (h : b < n) : a &&& b < n := Nat.lt_of_le_of_lt Nat.and_le_right h
def cdF : Nat → Nat → Nat → Nat
  | 0, x, _ => x
  | f + 1, x, y => if y = 0 then x else cdF f y (x % y)
theorem cdF_pos : ∀ f x y, 0 < x ∨ 0 < y → 0 < y ∨ 0 < x → (f = 0 → 0 < x) → 0 < cdF f x y
  | 0, x, y, _, _, h => h rfl
  | f + 1, x, y, h, _, _ => by
    show 0 < (if y = 0 then x else cdF f y (x % y))
    split
    · omega
    · exact cdF_pos f y (x % y) (Or.inl (by omega)) (Or.inr (by omega)) (fun _ => by omega)
theorem cdF_lt {n : Nat} : ∀ f x y, x < n → y < n → cdF f x y < n
  | 0, x, y, h, _ => h
  | f + 1, x, y, h1, h2 => by
    show (if y = 0 then x else cdF f y (x % y)) < n
    split
    · exact h1
    · exact cdF_lt f y (x % y) h2 (Nat.lt_of_le_of_lt (Nat.mod_le _ _) h1)
def iB (br : Nat → Nat → Nat) (y x : Nat) : Nat → Bool
  | 0 => false
  | i + 1 => iB br y x i || decide (br y i = x)
theorem iB_t {br : Nat → Nat → Nat} {y x i : Nat} : ∀ n, i < n → br y i = x → iB br y x n = true
  | 0, h, _ => by omega
  | n + 1, h, h1 => by
    show (iB br y x n || _) = true
    rcases Nat.lt_or_ge i n with q | q
    · rw [iB_t n q h1]; rfl
    · have : i = n := by omega
      subst this
      simp [h1]
set_option maxHeartbeats 4000000 in
set_option maxRecDepth 100000 in
theorem k_Ji_bitCount (l : Launch) (g : va_G) (cl : List vw_C) (tys : List (ClassId × FieldType)) (ww : va_W) (x : Nat) (hxx : x < 4096) : ct_i l g cl tys y_Ji_bitCount c_Ji_bitCount 1 (some .int) ({ frames := 0, cells := 0, slots := 0, locals := 0 } : Room) [.int (nI x)] ww ww (nI (popc x 12)) := by
  refine ct_i.intro (by decide) (Nat.le_of_ble_eq_true rfl) ?_
  intro p e s m args below meth c Q A ls hx hb hml hT hown hA hK hN hret hP hD hS hl
  have hown : s.vm.findClass R_Ji = some m.cls := hown
  have hl : lv_has ls 1 [(0, .int (nI x))] := hl
  refine lv_iload_n hx hb d_Ji_bitCount_0 rfl (lv_at hl 0 rfl) ?_
  refine lv_iload_n hx hb d_Ji_bitCount_1 rfl (lv_at hl 0 rfl) ?_
  refine lv_iconst (v := (nI 1)) hx hb d_Ji_bitCount_2 (by decide) ?_
  refine lv_iushr (v := nI (x / 2 ^ 1)) hx hb d_Ji_bitCount_3 (pk_ushrN (n := x) (by omega) _ 1 (s_u 1 (by omega))) ?_
  refine lv_ldcw (v := (nI 1431655765)) hx hb hown (hT _ tw_320) d_Ji_bitCount_4 ?_
  refine lv_iand hx hb d_Ji_bitCount_7 ?_
  refine my_ei (nx_and (x / 2 ^ 1) 1431655765) ?_
  have q1 : x / 2 ^ 1 &&& 1431655765 ≤ x := Nat.le_trans Nat.and_le_left (by omega)
  refine lv_isub hx hb d_Ji_bitCount_8 ?_
  refine my_ei (pk_sub (a := x) (b := (x / 2 ^ 1) &&& 1431655765) (by omega)) ?_
  generalize e_i1 : x - ((x / 2 ^ 1) &&& 1431655765) = i1
  have q2 : i1 < 4096 := by omega
  refine lv_istore_n (lv' := [(0, .int (nI i1))]) hx hb d_Ji_bitCount_9 rfl hl (by decide) rfl (fun ls hl => ?_)
  refine lv_iload_n hx hb d_Ji_bitCount_10 rfl (lv_at hl 0 rfl) ?_
  refine lv_ldcw (v := (nI 858993459)) hx hb hown (hT _ tw_321) d_Ji_bitCount_11 ?_
  refine lv_iand hx hb d_Ji_bitCount_14 ?_
  refine my_ei (nx_and i1 858993459) ?_
  refine lv_iload_n hx hb d_Ji_bitCount_15 rfl (lv_at hl 0 rfl) ?_
  refine lv_iconst (v := (nI 2)) hx hb d_Ji_bitCount_16 (by decide) ?_
  refine lv_iushr (v := nI (i1 / 2 ^ 2)) hx hb d_Ji_bitCount_17 (pk_ushrN (n := i1) (by omega) _ 2 (s_u 2 (by omega))) ?_
  refine lv_ldcw (v := (nI 858993459)) hx hb hown (hT _ tw_321) d_Ji_bitCount_18 ?_
  refine lv_iand hx hb d_Ji_bitCount_21 ?_
  refine my_ei (nx_and (i1 / 2 ^ 2) 858993459) ?_
  refine lv_iadd hx hb d_Ji_bitCount_22 ?_
  refine my_ei (nI_add (i1 &&& 858993459) ((i1 / 2 ^ 2) &&& 858993459)) ?_
  generalize e_i2 : (i1 &&& 858993459) + ((i1 / 2 ^ 2) &&& 858993459) = i2
  have q3 : i2 < 8192 := by have := @Nat.and_le_left i1 858993459; have := @Nat.and_le_left (i1 / 2 ^ 2) 858993459; omega
  refine lv_istore_n (lv' := [(0, .int (nI i2))]) hx hb d_Ji_bitCount_23 rfl hl (by decide) rfl (fun ls hl => ?_)
  refine lv_iload_n hx hb d_Ji_bitCount_24 rfl (lv_at hl 0 rfl) ?_
  refine lv_iload_n hx hb d_Ji_bitCount_25 rfl (lv_at hl 0 rfl) ?_
  refine lv_iconst (v := (nI 4)) hx hb d_Ji_bitCount_26 (by decide) ?_
  refine lv_iushr (v := nI (i2 / 2 ^ 4)) hx hb d_Ji_bitCount_27 (pk_ushrN (n := i2) (by omega) _ 4 (s_u 4 (by omega))) ?_
  refine lv_iadd hx hb d_Ji_bitCount_28 ?_
  refine my_ei (nI_add i2 (i2 / 2 ^ 4)) ?_
  refine lv_ldcw (v := (nI 252645135)) hx hb hown (hT _ tw_322) d_Ji_bitCount_29 ?_
  refine lv_iand hx hb d_Ji_bitCount_32 ?_
  refine my_ei (nx_and (i2 + (i2 / 2 ^ 4)) 252645135) ?_
  generalize e_i3 : (i2 + (i2 / 2 ^ 4)) &&& 252645135 = i3
  have q4 : i3 < 16384 := by have := @Nat.and_le_left (i2 + i2 / 2 ^ 4) 252645135; omega
  refine lv_istore_n (lv' := [(0, .int (nI i3))]) hx hb d_Ji_bitCount_33 rfl hl (by decide) rfl (fun ls hl => ?_)
  refine lv_iload_n hx hb d_Ji_bitCount_34 rfl (lv_at hl 0 rfl) ?_
  refine lv_iload_n hx hb d_Ji_bitCount_35 rfl (lv_at hl 0 rfl) ?_
  refine lv_bipush (v := (nI 8)) hx hb d_Ji_bitCount_36 (by decide) ?_
  refine lv_iushr (v := nI (i3 / 2 ^ 8)) hx hb d_Ji_bitCount_38 (pk_ushrN (n := i3) (by omega) _ 8 (s_u 8 (by omega))) ?_
  refine lv_iadd hx hb d_Ji_bitCount_39 ?_
  refine my_ei (nI_add i3 (i3 / 2 ^ 8)) ?_
  generalize e_i4 : i3 + (i3 / 2 ^ 8) = i4
  have q5 : i4 < 32768 := by omega
  refine lv_istore_n (lv' := [(0, .int (nI i4))]) hx hb d_Ji_bitCount_40 rfl hl (by decide) rfl (fun ls hl => ?_)
  refine lv_iload_n hx hb d_Ji_bitCount_41 rfl (lv_at hl 0 rfl) ?_
  refine lv_iload_n hx hb d_Ji_bitCount_42 rfl (lv_at hl 0 rfl) ?_
  refine lv_bipush (v := (nI 16)) hx hb d_Ji_bitCount_43 (by decide) ?_
  refine lv_iushr (v := nI (i4 / 2 ^ 16)) hx hb d_Ji_bitCount_45 (pk_ushrN (n := i4) (by omega) _ 16 (s_u 16 (by omega))) ?_
  refine lv_iadd hx hb d_Ji_bitCount_46 ?_
  refine my_ei (nI_add i4 (i4 / 2 ^ 16)) ?_
  generalize e_i5 : i4 + (i4 / 2 ^ 16) = i5
  refine lv_istore_n (lv' := [(0, .int (nI i5))]) hx hb d_Ji_bitCount_47 rfl hl (by decide) rfl (fun ls hl => ?_)
  refine lv_iload_n hx hb d_Ji_bitCount_48 rfl (lv_at hl 0 rfl) ?_
  refine lv_bipush (v := (nI 63)) hx hb d_Ji_bitCount_49 (by decide) ?_
  refine lv_iand hx hb d_Ji_bitCount_51 ?_
  refine my_ei (nx_and i5 63) ?_
  refine hret _ _ _ _ _ hP hD hS d_Ji_bitCount_52 ?_
  subst e_i5 e_i4 e_i3 e_i2 e_i1
  exact congrArg nI (bcI_eq x hxx)
set_option maxHeartbeats 4000000 in
set_option maxRecDepth 100000 in
theorem k_Jl_bitCount (l : Launch) (g : va_G) (cl : List vw_C) (tys : List (ClassId × FieldType)) (ww : va_W) (x : Nat) (hxx : x < 2 ^ 63) : ct_i l g cl tys y_Jl_bitCount c_Jl_bitCount 2 (some .int) ({ frames := 0, cells := 0, slots := 0, locals := 0 } : Room) [.long (lN x)] ww ww (nI (popc x 64)) := by
  refine ct_i.intro (by decide) (Nat.le_of_ble_eq_true rfl) ?_
  intro p e s m args below meth c Q A ls hx hb hml hT hown hA hK hN hret hP hD hS hl
  have hown : s.vm.findClass R_Jl = some m.cls := hown
  have hl : lv_has ls 2 [(0, .long (lN x))] := hl
  refine lv_lload_n hx hb d_Jl_bitCount_0 rfl (lv_at hl 0 rfl) ?_
  refine lv_lload_n hx hb d_Jl_bitCount_1 rfl (lv_at hl 0 rfl) ?_
  refine lv_iconst (v := (nI 1)) hx hb d_Jl_bitCount_2 (by decide) ?_
  refine lv_lushr (v := lN (x / 2 ^ 1)) hx hb d_Jl_bitCount_3 (wb_shr (n := x) (by omega) (by omega)) ?_
  refine lv_ldc2 (v := (lN 6148914691236517205)) hx hb hown (hT _ tw_339) d_Jl_bitCount_4 ?_
  refine lv_land hx hb d_Jl_bitCount_7 ?_
  refine my_el (lx_and (x / 2 ^ 1) 6148914691236517205) ?_
  have q1 : x / 2 ^ 1 &&& 6148914691236517205 ≤ x := Nat.le_trans Nat.and_le_left (by omega)
  refine lv_lsub hx hb d_Jl_bitCount_8 ?_
  refine my_el (lN_sub (a := x) (b := (x / 2 ^ 1) &&& 6148914691236517205) (by omega)) ?_
  generalize e_i1 : x - ((x / 2 ^ 1) &&& 6148914691236517205) = i1
  have q2 : i1 < 2 ^ 63 := by omega
  refine lv_lstore_n (lv' := [(0, .long (lN i1))]) hx hb d_Jl_bitCount_9 rfl hl (by decide) rfl (fun ls hl => ?_)
  refine lv_lload_n hx hb d_Jl_bitCount_10 rfl (lv_at hl 0 rfl) ?_
  refine lv_ldc2 (v := (lN 3689348814741910323)) hx hb hown (hT _ tw_340) d_Jl_bitCount_11 ?_
  refine lv_land hx hb d_Jl_bitCount_14 ?_
  refine my_el (lx_and i1 3689348814741910323) ?_
  refine lv_lload_n hx hb d_Jl_bitCount_15 rfl (lv_at hl 0 rfl) ?_
  refine lv_iconst (v := (nI 2)) hx hb d_Jl_bitCount_16 (by decide) ?_
  refine lv_lushr (v := lN (i1 / 2 ^ 2)) hx hb d_Jl_bitCount_17 (wb_shr (n := i1) (by omega) (by omega)) ?_
  refine lv_ldc2 (v := (lN 3689348814741910323)) hx hb hown (hT _ tw_340) d_Jl_bitCount_18 ?_
  refine lv_land hx hb d_Jl_bitCount_21 ?_
  refine my_el (lx_and (i1 / 2 ^ 2) 3689348814741910323) ?_
  refine lv_ladd hx hb d_Jl_bitCount_22 ?_
  refine my_el (lN_add (i1 &&& 3689348814741910323) ((i1 / 2 ^ 2) &&& 3689348814741910323)) ?_
  generalize e_i2 : (i1 &&& 3689348814741910323) + ((i1 / 2 ^ 2) &&& 3689348814741910323) = i2
  have q3 : i2 < 2 ^ 63 := by have := @Nat.and_le_right i1 3689348814741910323; have := @Nat.and_le_right (i1 / 2 ^ 2) 3689348814741910323; omega
  refine lv_lstore_n (lv' := [(0, .long (lN i2))]) hx hb d_Jl_bitCount_23 rfl hl (by decide) rfl (fun ls hl => ?_)
  refine lv_lload_n hx hb d_Jl_bitCount_24 rfl (lv_at hl 0 rfl) ?_
  refine lv_lload_n hx hb d_Jl_bitCount_25 rfl (lv_at hl 0 rfl) ?_
  refine lv_iconst (v := (nI 4)) hx hb d_Jl_bitCount_26 (by decide) ?_
  refine lv_lushr (v := lN (i2 / 2 ^ 4)) hx hb d_Jl_bitCount_27 (wb_shr (n := i2) (by omega) (by omega)) ?_
  refine lv_ladd hx hb d_Jl_bitCount_28 ?_
  refine my_el (lN_add i2 (i2 / 2 ^ 4)) ?_
  refine lv_ldc2 (v := (lN 1085102592571150095)) hx hb hown (hT _ tw_341) d_Jl_bitCount_29 ?_
  refine lv_land hx hb d_Jl_bitCount_32 ?_
  refine my_el (lx_and (i2 + (i2 / 2 ^ 4)) 1085102592571150095) ?_
  generalize e_i3 : (i2 + (i2 / 2 ^ 4)) &&& 1085102592571150095 = i3
  have q4 : i3 < 2 ^ 60 + 1 := by have := @Nat.and_le_right (i2 + i2 / 2 ^ 4) 1085102592571150095; omega
  refine lv_lstore_n (lv' := [(0, .long (lN i3))]) hx hb d_Jl_bitCount_33 rfl hl (by decide) rfl (fun ls hl => ?_)
  refine lv_lload_n hx hb d_Jl_bitCount_34 rfl (lv_at hl 0 rfl) ?_
  refine lv_lload_n hx hb d_Jl_bitCount_35 rfl (lv_at hl 0 rfl) ?_
  refine lv_bipush (v := (nI 8)) hx hb d_Jl_bitCount_36 (by decide) ?_
  refine lv_lushr (v := lN (i3 / 2 ^ 8)) hx hb d_Jl_bitCount_38 (wb_shr (n := i3) (by omega) (by omega)) ?_
  refine lv_ladd hx hb d_Jl_bitCount_39 ?_
  refine my_el (lN_add i3 (i3 / 2 ^ 8)) ?_
  generalize e_i4 : i3 + (i3 / 2 ^ 8) = i4
  have q5 : i4 < 2 ^ 62 := by omega
  refine lv_lstore_n (lv' := [(0, .long (lN i4))]) hx hb d_Jl_bitCount_40 rfl hl (by decide) rfl (fun ls hl => ?_)
  refine lv_lload_n hx hb d_Jl_bitCount_41 rfl (lv_at hl 0 rfl) ?_
  refine lv_lload_n hx hb d_Jl_bitCount_42 rfl (lv_at hl 0 rfl) ?_
  refine lv_bipush (v := (nI 16)) hx hb d_Jl_bitCount_43 (by decide) ?_
  refine lv_lushr (v := lN (i4 / 2 ^ 16)) hx hb d_Jl_bitCount_45 (wb_shr (n := i4) (by omega) (by omega)) ?_
  refine lv_ladd hx hb d_Jl_bitCount_46 ?_
  refine my_el (lN_add i4 (i4 / 2 ^ 16)) ?_
  generalize e_i5 : i4 + (i4 / 2 ^ 16) = i5
  have q6 : i5 < 2 ^ 63 := by omega
  refine lv_lstore_n (lv' := [(0, .long (lN i5))]) hx hb d_Jl_bitCount_47 rfl hl (by decide) rfl (fun ls hl => ?_)
  refine lv_lload_n hx hb d_Jl_bitCount_48 rfl (lv_at hl 0 rfl) ?_
  refine lv_lload_n hx hb d_Jl_bitCount_49 rfl (lv_at hl 0 rfl) ?_
  refine lv_bipush (v := (nI 32)) hx hb d_Jl_bitCount_50 (by decide) ?_
  refine lv_lushr (v := lN (i5 / 2 ^ 32)) hx hb d_Jl_bitCount_52 (wb_shr (n := i5) (by omega) (by omega)) ?_
  refine lv_ladd hx hb d_Jl_bitCount_53 ?_
  refine my_el (lN_add i5 (i5 / 2 ^ 32)) ?_
  generalize e_i6 : i5 + (i5 / 2 ^ 32) = i6
  refine lv_lstore_n (lv' := [(0, .long (lN i6))]) hx hb d_Jl_bitCount_54 rfl hl (by decide) rfl (fun ls hl => ?_)
  refine lv_lload_n hx hb d_Jl_bitCount_55 rfl (lv_at hl 0 rfl) ?_
  refine lv_l2i (v := nI i6) hx hb d_Jl_bitCount_56 (lN_i _) ?_
  refine lv_bipush (v := (nI 127)) hx hb d_Jl_bitCount_57 (by decide) ?_
  refine lv_iand hx hb d_Jl_bitCount_59 ?_
  refine my_ei (nx_and i6 127) ?_
  refine hret _ _ _ _ _ hP hD hS d_Jl_bitCount_60 ?_
  subst e_i6 e_i5 e_i4 e_i3 e_i2 e_i1
  exact congrArg nI (bcL_eq x (by omega))
set_option maxHeartbeats 4000000 in
set_option maxRecDepth 100000 in
theorem k_Fr_commonDivisor (l : Launch) (g : va_G) (cl : List vw_C) (tys : List (ClassId × FieldType)) (ww : va_W) (x : Nat) (y : Nat) (hxx : x < 2 ^ 62) (hyy : y < 2 ^ 62) : ct_l l g cl tys y_Fr_commonDivisor c_Fr_commonDivisor 11 (some .long) ({ frames := 0, cells := 0, slots := 0, locals := 0 } : Room) [.long (lN x), .long (lN y)] ww ww (lN (cdF 100 x y)) := by
  refine ct_l.intro (by decide) (Nat.le_of_ble_eq_true rfl) ?_
  intro p e s m args below meth c Q A ls hx hb hml hT hown hA hK hN hret hP hD hS hl
  have hown : s.vm.findClass R_Fr = some m.cls := hown
  have hl : lv_has ls 11 [(0, .long (lN x)), (2, .long (lN y))] := hl
  refine lv_lload_n hx hb d_Fr_commonDivisor_0 rfl (lv_at hl 0 rfl) ?_
  refine lv_lstore (lv' := [(4, .long (lN x)), (0, .long (lN x)), (2, .long (lN y))]) hx hb d_Fr_commonDivisor_1 hl (by decide) rfl (fun ls hl => ?_)
  refine lv_lload_n hx hb d_Fr_commonDivisor_3 rfl (lv_at hl 2 rfl) ?_
  refine lv_lstore (lv' := [(6, .long (lN y)), (4, .long (lN x)), (0, .long (lN x)), (2, .long (lN y))]) hx hb d_Fr_commonDivisor_4 hl (by decide) rfl (fun ls hl => ?_)
  refine lv_iconst (v := (nI 0)) hx hb d_Fr_commonDivisor_6 (by decide) ?_
  refine lv_istore (lv' := [(8, .int (nI 0)), (6, .long (lN y)), (4, .long (lN x)), (0, .long (lN x)), (2, .long (lN y))]) hx hb d_Fr_commonDivisor_7 hl (by decide) rfl (fun ls hl => ?_)
  have lp_9 : ∀ (k : Nat) (i : Nat) (f : Nat) (u : Nat) (v : Nat) (H : Heap) (locs : List Loc) (ls : Array Slot), (100 < i + k) → (i + f = 100) → (u < 2 ^ 62) → (v < 2 ^ 62) → (cdF f u v = cdF 100 x y) → va_P g cl ww H → va_D A ww → va_S A s.heap H locs → lv_has ls 11 [(0, .long (lN x)), (2, .long (lN y)), (4, .long (lN u)), (6, .long (lN v)), (8, .int (nI i))] → W p l e ({ frames := 0, cells := 0, slots := 0, locals := 0 } : Room) s m args below meth c H locs 0 0 Q (F0 m 9 ls []) := by
    intro k
    induction k with
    | zero =>
      intro i f u v H locs ls hk hi hu hv hf hP hD hS hl
      exfalso
      omega
    | succ k ih_9 =>
      intro i f u v H locs ls hk hi hu hv hf hP hD hS hl
      refine lv_iload hx hb d_Fr_commonDivisor_9 (lv_at hl 4 rfl) ?_
      refine lv_bipush (v := (nI 100)) hx hb d_Fr_commonDivisor_11 (by decide) ?_
      refine my_icmp_ge (tgt := 44) (a := i) (b := 100) hx hb d_Fr_commonDivisor_13 (by decide) (by omega) (by omega) (fun c_13 => ?_) (fun c_13 => ?_)
      · -- 13: taken
        have f0 : f = 0 := by omega
        subst f0
        refine lv_lload hx hb d_Fr_commonDivisor_44 (lv_at hl 2 rfl) ?_
        refine hret _ _ _ _ _ hP hD hS d_Fr_commonDivisor_46 ?_
        exact congrArg lN (by rw [← hf]; rfl)
      · -- 13: not taken
        obtain ⟨f, rfl⟩ : ∃ q, f = q + 1 := ⟨f - 1, by omega⟩
        refine lv_lload hx hb d_Fr_commonDivisor_16 (lv_at hl 3 rfl) ?_
        refine lv_lconst (v := (lN 0)) hx hb d_Fr_commonDivisor_18 (by decide) ?_
        refine my_lcmp_eq (tgt := 44) (a := v) (b := 0) hx hb d_Fr_commonDivisor_19 d_Fr_commonDivisor_20 (by decide) (by omega) (by omega) (fun c_19 => ?_) (fun c_19 => ?_)
        · -- 19: taken
          refine lv_lload hx hb d_Fr_commonDivisor_44 (lv_at hl 2 rfl) ?_
          refine hret _ _ _ _ _ hP hD hS d_Fr_commonDivisor_46 ?_
          exact congrArg lN (by rw [← hf]; simp [cdF, c_19])
        · -- 19: not taken
          refine lv_lload hx hb d_Fr_commonDivisor_23 (lv_at hl 2 rfl) ?_
          refine lv_lload hx hb d_Fr_commonDivisor_25 (lv_at hl 3 rfl) ?_
          refine my_lrem (a := u) (b := v) hx hb d_Fr_commonDivisor_27 (by omega) (by omega) (by omega) ?_
          refine lv_lstore (lv' := [(9, .long (lN (u % v))), (0, .long (lN x)), (2, .long (lN y)), (4, .long (lN u)), (6, .long (lN v)), (8, .int (nI i))]) hx hb d_Fr_commonDivisor_28 hl (by decide) rfl (fun ls hl => ?_)
          refine lv_lload hx hb d_Fr_commonDivisor_30 (lv_at hl 4 rfl) ?_
          refine lv_lstore (lv' := [(4, .long (lN v)), (9, .long (lN (u % v))), (0, .long (lN x)), (2, .long (lN y)), (6, .long (lN v)), (8, .int (nI i))]) hx hb d_Fr_commonDivisor_32 hl (by decide) rfl (fun ls hl => ?_)
          refine lv_lload hx hb d_Fr_commonDivisor_34 (lv_at hl 1 rfl) ?_
          refine lv_lstore (lv' := [(6, .long (lN (u % v))), (4, .long (lN v)), (9, .long (lN (u % v))), (0, .long (lN x)), (2, .long (lN y)), (8, .int (nI i))]) hx hb d_Fr_commonDivisor_36 hl (by decide) rfl (fun ls hl => ?_)
          refine lv_iinc (v := (nI (i + 1))) (lv' := [(8, .int (nI (i + 1))), (6, .long (lN (u % v))), (4, .long (lN v)), (9, .long (lN (u % v))), (0, .long (lN x)), (2, .long (lN y))]) hx hb d_Fr_commonDivisor_38 hl (k := 5) rfl (nI_1 i) (by decide) rfl (fun ls hl => ?_)
          refine lv_goto (tgt := 9) hx hb d_Fr_commonDivisor_41 (by decide) ?_
          refine ih_9 _ f _ _ _ _ _ ?_ ?_ ?_ ?_ ?_ hP hD hS (lv_sub hl [4, 5, 2, 1, 0] rfl)
          · omega
          · exact (show i + 1 + f = 100 by omega)
          · omega
          · exact (Nat.lt_of_le_of_lt (Nat.mod_le _ _) hu)
          · rw [← hf]; simp [cdF, c_19]
  refine lp_9 (101) 0 100 _ _ _ _ _ ?_ ?_ ?_ ?_ ?_ hP hD hS (lv_sub hl [3, 4, 2, 1, 0] rfl)
  · omega
  · rfl
  · omega
  · omega
  · rfl
set_option maxHeartbeats 4000000 in
set_option maxRecDepth 100000 in
theorem k_Fr_set7 (l : Launch) (g : va_G) (a rB rT : Nat → Nat) (cI cJ cII cJJ : ClassId) (nc : Nat) (nv : Nat) (ng : Nat) (kd : Nat → Int32) (vo : Nat → Nat) (nu : Nat → Nat) (nd : Nat → Nat) (en : Nat → Nat) (br : Nat → Nat → Nat) (bc : Nat → Nat) (un : Nat → Nat) (eu : Nat → Nat) (li : Nat → Nat) (tb : Nat → Nat → Int64) (cc0 : Nat) (cp : Nat → Nat) (cu : Nat → Nat) (cd : Nat → Nat) (tc : Nat) (ts : Nat → Nat) (tf : Nat → Nat) (ox : Bool) (ow : Nat → Nat) (ob : Nat → Nat) (ra : Nat) (rb : Nat) (gc : Nat) (gr : Nat) (gk : Nat → Nat) (gg : Nat → Nat) (gp : Nat → Nat) (gt : Nat → Nat) (sa : Nat) (sb : Nat) (x : Nat) (y : Nat) (hxx : x < 2 ^ 62) (hyy : y < 2 ^ 62) (hy0 : 0 < y) : ct_v l g vwCl (tyS cI cJ cII cJJ) y_Fr_set c_Fr_set 7 none ({ frames := 1, cells := 0, slots := 0, locals := 30 } : Room) [.ref (a 7), .long (lN x), .long (lN y)] (stW a rB rT cI cJ cII cJJ nc nv ng kd vo nu nd en br bc un eu li tb cc0 cp cu cd tc ts tf ox ow ob ra rb gc gr gk gg gp gt sa sb) (stW a rB rT cI cJ cII cJJ nc nv ng kd vo nu nd en br bc un eu li tb cc0 cp cu cd tc ts tf ox ow ob ra rb gc gr gk gg gp gt (x / cdF 100 x y) (y / cdF 100 x y)) := by
  refine ct_v.intro (by decide) (Nat.le_of_ble_eq_true rfl) ?_
  intro p e s m args below meth c Q A ls hx hb hml hT hown hA hK hN hret hP hD hS hl
  have hown : s.vm.findClass R_Fr = some m.cls := hown
  have hl : lv_has ls 7 [(0, .ref (a 7)), (1, .long (lN x)), (3, .long (lN y))] := hl
  have q1 : 0 < cdF 100 x y := cdF_pos 100 x y (Or.inr hy0) (Or.inl hy0) (fun h => by omega)
  have q2 : cdF 100 x y < 2 ^ 62 := cdF_lt 100 x y hxx hyy
  refine lv_lload_n hx hb d_Fr_set_0 rfl (lv_at hl 1 rfl) ?_
  refine lv_lload_n hx hb d_Fr_set_1 rfl (lv_at hl 2 rfl) ?_
  refine my_S_l (As := [.long (lN x), .long (lN y)]) (n := 2) (k_Fr_commonDivisor l g vwCl (tyS cI cJ cII cJJ) (stW a rB rT cI cJ cII cJJ nc nv ng kd vo nu nd en br bc un eu li tb cc0 cp cu cd tc ts tf ox ow ob ra rb gc gr gk gg gp gt sa sb) x y (by omega) (by omega)) hx hb hml hown hT hN tw_437 tw_438 tw_7 tw_439 (by decide +kernel) rfl rfl ⟨Nat.le_of_ble_eq_true rfl, Nat.le_of_ble_eq_true rfl⟩ ⟨Nat.zero_le _, Nat.zero_le _⟩ hK hP hD hS hA rfl hl rfl (Nat.le_of_ble_eq_true rfl) d_Fr_set_2 (fun H locs hP hD hS => ?_)
  refine lv_lstore (lv' := [(5, .long (lN (cdF 100 x y))), (0, .ref (a 7)), (1, .long (lN x)), (3, .long (lN y))]) hx hb d_Fr_set_5 hl (by decide) rfl (fun ls hl => ?_)
  refine lv_lload hx hb d_Fr_set_7 (lv_at hl 0 rfl) ?_
  refine lv_lconst (v := (lN 0)) hx hb d_Fr_set_9 (by decide) ?_
  refine my_lcmp_le (tgt := 30) (a := cdF 100 x y) (b := 0) hx hb d_Fr_set_10 d_Fr_set_11 (by decide) (by omega) (by omega) (fun c_10 => ?_) (fun c_10 => ?_)
  · -- 10: taken
    exact absurd c_10 (by omega)
  · -- 10: not taken
    refine lv_aload_n hx hb d_Fr_set_14 rfl (lv_at hl 1 rfl) ?_
    refine lv_lload_n hx hb d_Fr_set_15 rfl (lv_at hl 2 rfl) ?_
    refine lv_lload hx hb d_Fr_set_16 (lv_at hl 0 rfl) ?_
    refine my_ldiv (a := x) (b := cdF 100 x y) hx hb d_Fr_set_18 (by omega) (by omega) (by omega) ?_
    refine va_put (D := g) (ci := 7) (v := .long (lN (x / (cdF 100 x y)))) (ty := .long) (C := R_Fr) (T := F_Fr) (N := 2) hx hb hT i_Fr t_Fr t_Fr_ok n_Fr hown hK hP hD hS 7 rfl rfl 0 (by decide) (hT _ tw_163) (fun _ h9 => h9) rfl (by decide +kernel) rfl rfl (Nat.le_of_ble_eq_true rfl) d_Fr_set_19 (fun H locs hP hD hS => ?_)
    have hP : va_P g vwCl (stW a rB rT cI cJ cII cJJ nc nv ng kd vo nu nd en br bc un eu li tb cc0 cp cu cd tc ts tf ox ow ob ra rb gc gr gk gg gp gt (x / (cdF 100 x y)) sb) H := hP
    have hD : va_D A (stW a rB rT cI cJ cII cJJ nc nv ng kd vo nu nd en br bc un eu li tb cc0 cp cu cd tc ts tf ox ow ob ra rb gc gr gk gg gp gt (x / (cdF 100 x y)) sb) := hD
    refine lv_aload_n hx hb d_Fr_set_22 rfl (lv_at hl 1 rfl) ?_
    refine lv_lload_n hx hb d_Fr_set_23 rfl (lv_at hl 3 rfl) ?_
    refine lv_lload hx hb d_Fr_set_24 (lv_at hl 0 rfl) ?_
    refine my_ldiv (a := y) (b := cdF 100 x y) hx hb d_Fr_set_26 (by omega) (by omega) (by omega) ?_
    refine va_put (D := g) (ci := 7) (v := .long (lN (y / (cdF 100 x y)))) (ty := .long) (C := R_Fr) (T := F_Fr) (N := 2) hx hb hT i_Fr t_Fr t_Fr_ok n_Fr hown hK hP hD hS 7 rfl rfl 1 (by decide) (hT _ tw_164) (fun _ h9 => h9) rfl (by decide +kernel) rfl rfl (Nat.le_of_ble_eq_true rfl) d_Fr_set_27 (fun H locs hP hD hS => ?_)
    have hP : va_P g vwCl (stW a rB rT cI cJ cII cJJ nc nv ng kd vo nu nd en br bc un eu li tb cc0 cp cu cd tc ts tf ox ow ob ra rb gc gr gk gg gp gt (x / (cdF 100 x y)) (y / (cdF 100 x y))) H := hP
    have hD : va_D A (stW a rB rT cI cJ cII cJJ nc nv ng kd vo nu nd en br bc un eu li tb cc0 cp cu cd tc ts tf ox ow ob ra rb gc gr gk gg gp gt (x / (cdF 100 x y)) (y / (cdF 100 x y))) := hD
    exact hret _ _ _ _ hP hD hS d_Fr_set_30
set_option maxHeartbeats 4000000 in
set_option maxRecDepth 100000 in
theorem k_Fr_side7 (l : Launch) (g : va_G) (a rB rT : Nat → Nat) (cI cJ cII cJJ : ClassId) (nc : Nat) (nv : Nat) (ng : Nat) (kd : Nat → Int32) (vo : Nat → Nat) (nu : Nat → Nat) (nd : Nat → Nat) (en : Nat → Nat) (br : Nat → Nat → Nat) (bc : Nat → Nat) (un : Nat → Nat) (eu : Nat → Nat) (li : Nat → Nat) (tb : Nat → Nat → Int64) (cc0 : Nat) (cp : Nat → Nat) (cu : Nat → Nat) (cd : Nat → Nat) (tc : Nat) (ts : Nat → Nat) (tf : Nat → Nat) (ox : Bool) (ow : Nat → Nat) (ob : Nat → Nat) (ra : Nat) (rb : Nat) (gc : Nat) (gr : Nat) (gk : Nat → Nat) (gg : Nat → Nat) (gp : Nat → Nat) (gt : Nat → Nat) (sa : Nat) (sb : Nat) (z : Int32)  : ct_l l g vwCl (tyS cI cJ cII cJJ) y_Fr_side c_Fr_side 2 (some .long) ({ frames := 0, cells := 0, slots := 0, locals := 0 } : Room) [.ref (a 7), .int z] (stW a rB rT cI cJ cII cJJ nc nv ng kd vo nu nd en br bc un eu li tb cc0 cp cu cd tc ts tf ox ow ob ra rb gc gr gk gg gp gt sa sb) (stW a rB rT cI cJ cII cJJ nc nv ng kd vo nu nd en br bc un eu li tb cc0 cp cu cd tc ts tf ox ow ob ra rb gc gr gk gg gp gt sa sb) (lN (if z = 0 then sa else sb)) := by
  refine ct_l.intro (by decide) (Nat.le_of_ble_eq_true rfl) ?_
  intro p e s m args below meth c Q A ls hx hb hml hT hown hA hK hN hret hP hD hS hl
  have hown : s.vm.findClass R_Fr = some m.cls := hown
  have hl : lv_has ls 2 [(0, .ref (a 7)), (1, .int z)] := hl
  refine lv_iload_n hx hb d_Fr_side_0 rfl (lv_at hl 1 rfl) ?_
  refine lv_if_ne (tgt := 11) hx hb d_Fr_side_1 (by decide) (fun c_1 => ?_) (fun c_1 => ?_)
  · -- 1: taken
    refine lv_aload_n hx hb d_Fr_side_11 rfl (lv_at hl 0 rfl) ?_
    refine va_get (D := g) (ci := 7) (v := .long (lN sb)) (C := R_Fr) (T := F_Fr) (N := 2) hx hb hT i_Fr hown hK hP 7 rfl rfl 1 (by decide) (hT _ tw_164) (fun _ h9 => h9) rfl d_Fr_side_12 ?_
    refine hret _ _ _ _ _ hP hD hS d_Fr_side_15 ?_
    simp [c_1]
  · -- 1: not taken
    refine lv_aload_n hx hb d_Fr_side_4 rfl (lv_at hl 0 rfl) ?_
    refine va_get (D := g) (ci := 7) (v := .long (lN sa)) (C := R_Fr) (T := F_Fr) (N := 2) hx hb hT i_Fr hown hK hP 7 rfl rfl 0 (by decide) (hT _ tw_163) (fun _ h9 => h9) rfl d_Fr_side_5 ?_
    refine lv_goto (tgt := 15) hx hb d_Fr_side_8 (by decide) ?_
    refine hret _ _ _ _ _ hP hD hS d_Fr_side_15 ?_
    simp [c_1]
set_option maxHeartbeats 4000000 in
set_option maxRecDepth 100000 in
theorem k_Fr_set8 (l : Launch) (g : va_G) (a rB rT : Nat → Nat) (cI cJ cII cJJ : ClassId) (nc : Nat) (nv : Nat) (ng : Nat) (kd : Nat → Int32) (vo : Nat → Nat) (nu : Nat → Nat) (nd : Nat → Nat) (en : Nat → Nat) (br : Nat → Nat → Nat) (bc : Nat → Nat) (un : Nat → Nat) (eu : Nat → Nat) (li : Nat → Nat) (tb : Nat → Nat → Int64) (cc0 : Nat) (cp : Nat → Nat) (cu : Nat → Nat) (cd : Nat → Nat) (tc : Nat) (ts : Nat → Nat) (tf : Nat → Nat) (ox : Bool) (ow : Nat → Nat) (ob : Nat → Nat) (ra : Nat) (rb : Nat) (gc : Nat) (gr : Nat) (gk : Nat → Nat) (gg : Nat → Nat) (gp : Nat → Nat) (gt : Nat → Nat) (sa : Nat) (sb : Nat) (x : Nat) (y : Nat) (hxx : x < 2 ^ 62) (hyy : y < 2 ^ 62) (hy0 : 0 < y) : ct_v l g vwCl (tyS cI cJ cII cJJ) y_Fr_set c_Fr_set 7 none ({ frames := 1, cells := 0, slots := 0, locals := 30 } : Room) [.ref (a 8), .long (lN x), .long (lN y)] (stW a rB rT cI cJ cII cJJ nc nv ng kd vo nu nd en br bc un eu li tb cc0 cp cu cd tc ts tf ox ow ob ra rb gc gr gk gg gp gt sa sb) (stW a rB rT cI cJ cII cJJ nc nv ng kd vo nu nd en br bc un eu li tb cc0 cp cu cd tc ts tf ox ow ob (x / cdF 100 x y) (y / cdF 100 x y) gc gr gk gg gp gt sa sb) := by
  refine ct_v.intro (by decide) (Nat.le_of_ble_eq_true rfl) ?_
  intro p e s m args below meth c Q A ls hx hb hml hT hown hA hK hN hret hP hD hS hl
  have hown : s.vm.findClass R_Fr = some m.cls := hown
  have hl : lv_has ls 7 [(0, .ref (a 8)), (1, .long (lN x)), (3, .long (lN y))] := hl
  have q1 : 0 < cdF 100 x y := cdF_pos 100 x y (Or.inr hy0) (Or.inl hy0) (fun h => by omega)
  have q2 : cdF 100 x y < 2 ^ 62 := cdF_lt 100 x y hxx hyy
  refine lv_lload_n hx hb d_Fr_set_0 rfl (lv_at hl 1 rfl) ?_
  refine lv_lload_n hx hb d_Fr_set_1 rfl (lv_at hl 2 rfl) ?_
  refine my_S_l (As := [.long (lN x), .long (lN y)]) (n := 2) (k_Fr_commonDivisor l g vwCl (tyS cI cJ cII cJJ) (stW a rB rT cI cJ cII cJJ nc nv ng kd vo nu nd en br bc un eu li tb cc0 cp cu cd tc ts tf ox ow ob ra rb gc gr gk gg gp gt sa sb) x y (by omega) (by omega)) hx hb hml hown hT hN tw_437 tw_438 tw_7 tw_439 (by decide +kernel) rfl rfl ⟨Nat.le_of_ble_eq_true rfl, Nat.le_of_ble_eq_true rfl⟩ ⟨Nat.zero_le _, Nat.zero_le _⟩ hK hP hD hS hA rfl hl rfl (Nat.le_of_ble_eq_true rfl) d_Fr_set_2 (fun H locs hP hD hS => ?_)
  refine lv_lstore (lv' := [(5, .long (lN (cdF 100 x y))), (0, .ref (a 8)), (1, .long (lN x)), (3, .long (lN y))]) hx hb d_Fr_set_5 hl (by decide) rfl (fun ls hl => ?_)
  refine lv_lload hx hb d_Fr_set_7 (lv_at hl 0 rfl) ?_
  refine lv_lconst (v := (lN 0)) hx hb d_Fr_set_9 (by decide) ?_
  refine my_lcmp_le (tgt := 30) (a := cdF 100 x y) (b := 0) hx hb d_Fr_set_10 d_Fr_set_11 (by decide) (by omega) (by omega) (fun c_10 => ?_) (fun c_10 => ?_)
  · -- 10: taken
    exact absurd c_10 (by omega)
  · -- 10: not taken
    refine lv_aload_n hx hb d_Fr_set_14 rfl (lv_at hl 1 rfl) ?_
    refine lv_lload_n hx hb d_Fr_set_15 rfl (lv_at hl 2 rfl) ?_
    refine lv_lload hx hb d_Fr_set_16 (lv_at hl 0 rfl) ?_
    refine my_ldiv (a := x) (b := cdF 100 x y) hx hb d_Fr_set_18 (by omega) (by omega) (by omega) ?_
    refine va_put (D := g) (ci := 7) (v := .long (lN (x / (cdF 100 x y)))) (ty := .long) (C := R_Fr) (T := F_Fr) (N := 2) hx hb hT i_Fr t_Fr t_Fr_ok n_Fr hown hK hP hD hS 8 rfl rfl 0 (by decide) (hT _ tw_163) (fun _ h9 => h9) rfl (by decide +kernel) rfl rfl (Nat.le_of_ble_eq_true rfl) d_Fr_set_19 (fun H locs hP hD hS => ?_)
    have hP : va_P g vwCl (stW a rB rT cI cJ cII cJJ nc nv ng kd vo nu nd en br bc un eu li tb cc0 cp cu cd tc ts tf ox ow ob (x / (cdF 100 x y)) rb gc gr gk gg gp gt sa sb) H := hP
    have hD : va_D A (stW a rB rT cI cJ cII cJJ nc nv ng kd vo nu nd en br bc un eu li tb cc0 cp cu cd tc ts tf ox ow ob (x / (cdF 100 x y)) rb gc gr gk gg gp gt sa sb) := hD
    refine lv_aload_n hx hb d_Fr_set_22 rfl (lv_at hl 1 rfl) ?_
    refine lv_lload_n hx hb d_Fr_set_23 rfl (lv_at hl 3 rfl) ?_
    refine lv_lload hx hb d_Fr_set_24 (lv_at hl 0 rfl) ?_
    refine my_ldiv (a := y) (b := cdF 100 x y) hx hb d_Fr_set_26 (by omega) (by omega) (by omega) ?_
    refine va_put (D := g) (ci := 7) (v := .long (lN (y / (cdF 100 x y)))) (ty := .long) (C := R_Fr) (T := F_Fr) (N := 2) hx hb hT i_Fr t_Fr t_Fr_ok n_Fr hown hK hP hD hS 8 rfl rfl 1 (by decide) (hT _ tw_164) (fun _ h9 => h9) rfl (by decide +kernel) rfl rfl (Nat.le_of_ble_eq_true rfl) d_Fr_set_27 (fun H locs hP hD hS => ?_)
    have hP : va_P g vwCl (stW a rB rT cI cJ cII cJJ nc nv ng kd vo nu nd en br bc un eu li tb cc0 cp cu cd tc ts tf ox ow ob (x / (cdF 100 x y)) (y / (cdF 100 x y)) gc gr gk gg gp gt sa sb) H := hP
    have hD : va_D A (stW a rB rT cI cJ cII cJJ nc nv ng kd vo nu nd en br bc un eu li tb cc0 cp cu cd tc ts tf ox ow ob (x / (cdF 100 x y)) (y / (cdF 100 x y)) gc gr gk gg gp gt sa sb) := hD
    exact hret _ _ _ _ hP hD hS d_Fr_set_30
set_option maxHeartbeats 4000000 in
set_option maxRecDepth 100000 in
theorem k_Fr_side8 (l : Launch) (g : va_G) (a rB rT : Nat → Nat) (cI cJ cII cJJ : ClassId) (nc : Nat) (nv : Nat) (ng : Nat) (kd : Nat → Int32) (vo : Nat → Nat) (nu : Nat → Nat) (nd : Nat → Nat) (en : Nat → Nat) (br : Nat → Nat → Nat) (bc : Nat → Nat) (un : Nat → Nat) (eu : Nat → Nat) (li : Nat → Nat) (tb : Nat → Nat → Int64) (cc0 : Nat) (cp : Nat → Nat) (cu : Nat → Nat) (cd : Nat → Nat) (tc : Nat) (ts : Nat → Nat) (tf : Nat → Nat) (ox : Bool) (ow : Nat → Nat) (ob : Nat → Nat) (ra : Nat) (rb : Nat) (gc : Nat) (gr : Nat) (gk : Nat → Nat) (gg : Nat → Nat) (gp : Nat → Nat) (gt : Nat → Nat) (sa : Nat) (sb : Nat) (z : Int32)  : ct_l l g vwCl (tyS cI cJ cII cJJ) y_Fr_side c_Fr_side 2 (some .long) ({ frames := 0, cells := 0, slots := 0, locals := 0 } : Room) [.ref (a 8), .int z] (stW a rB rT cI cJ cII cJJ nc nv ng kd vo nu nd en br bc un eu li tb cc0 cp cu cd tc ts tf ox ow ob ra rb gc gr gk gg gp gt sa sb) (stW a rB rT cI cJ cII cJJ nc nv ng kd vo nu nd en br bc un eu li tb cc0 cp cu cd tc ts tf ox ow ob ra rb gc gr gk gg gp gt sa sb) (lN (if z = 0 then ra else rb)) := by
  refine ct_l.intro (by decide) (Nat.le_of_ble_eq_true rfl) ?_
  intro p e s m args below meth c Q A ls hx hb hml hT hown hA hK hN hret hP hD hS hl
  have hown : s.vm.findClass R_Fr = some m.cls := hown
  have hl : lv_has ls 2 [(0, .ref (a 8)), (1, .int z)] := hl
  refine lv_iload_n hx hb d_Fr_side_0 rfl (lv_at hl 1 rfl) ?_
  refine lv_if_ne (tgt := 11) hx hb d_Fr_side_1 (by decide) (fun c_1 => ?_) (fun c_1 => ?_)
  · -- 1: taken
    refine lv_aload_n hx hb d_Fr_side_11 rfl (lv_at hl 0 rfl) ?_
    refine va_get (D := g) (ci := 7) (v := .long (lN rb)) (C := R_Fr) (T := F_Fr) (N := 2) hx hb hT i_Fr hown hK hP 8 rfl rfl 1 (by decide) (hT _ tw_164) (fun _ h9 => h9) rfl d_Fr_side_12 ?_
    refine hret _ _ _ _ _ hP hD hS d_Fr_side_15 ?_
    simp [c_1]
  · -- 1: not taken
    refine lv_aload_n hx hb d_Fr_side_4 rfl (lv_at hl 0 rfl) ?_
    refine va_get (D := g) (ci := 7) (v := .long (lN ra)) (C := R_Fr) (T := F_Fr) (N := 2) hx hb hT i_Fr hown hK hP 8 rfl rfl 0 (by decide) (hT _ tw_163) (fun _ h9 => h9) rfl d_Fr_side_5 ?_
    refine lv_goto (tgt := 15) hx hb d_Fr_side_8 (by decide) ?_
    refine hret _ _ _ _ _ hP hD hS d_Fr_side_15 ?_
    simp [c_1]
end
section
set_option maxHeartbeats 4000000 in
set_option maxRecDepth 100000 in
theorem k_No_eventBit (l : Launch) (g : va_G) (cl : List vw_C) (tys : List (ClassId × FieldType)) (ww : va_W) (i : Nat) (hi : i ≤ 11) : ct_i l g cl tys y_No_eventBit c_No_eventBit 1 (some .int) ({ frames := 0, cells := 0, slots := 0, locals := 0 } : Room) [.int (nI i)] ww ww (nI (2 ^ (11 - i))) := by
  refine ct_i.intro (by decide) (Nat.le_of_ble_eq_true rfl) ?_
  intro p e s m args below meth c Q A ls hx hb hml hT hown hA hK hN hret hP hD hS hl
  have hown : s.vm.findClass R_No = some m.cls := hown
  have hl : lv_has ls 1 [(0, .int (nI i))] := hl
  refine lv_iconst (v := (nI 1)) hx hb d_No_eventBit_0 (by decide) ?_
  refine lv_bipush (v := (nI 11)) hx hb d_No_eventBit_1 (by decide) ?_
  refine lv_iload_n hx hb d_No_eventBit_3 rfl (lv_at hl 0 rfl) ?_
  refine lv_isub hx hb d_No_eventBit_4 ?_
  refine my_ei (pk_sub (a := 11) (b := i) (by omega)) ?_
  refine lv_ishl hx hb d_No_eventBit_5 ?_
  refine my_ei (nx_shl1 (11 - i) (by omega)) ?_
  refine hret _ _ _ _ _ hP hD hS d_No_eventBit_6 ?_
  rfl
set_option maxHeartbeats 4000000 in
set_option maxRecDepth 100000 in
theorem k_No_addEvent (l : Launch) (g : va_G) (a rB rT : Nat → Nat) (cI cJ cII cJJ : ClassId) (nc : Nat) (nv : Nat) (ng : Nat) (kd : Nat → Int32) (vo : Nat → Nat) (nu : Nat → Nat) (nd : Nat → Nat) (en : Nat → Nat) (br : Nat → Nat → Nat) (bc : Nat → Nat) (un : Nat → Nat) (eu : Nat → Nat) (li : Nat → Nat) (tb : Nat → Nat → Int64) (cc0 : Nat) (cp : Nat → Nat) (cu : Nat → Nat) (cd : Nat → Nat) (tc : Nat) (ts : Nat → Nat) (tf : Nat → Nat) (ox : Bool) (ow : Nat → Nat) (ob : Nat → Nat) (ra : Nat) (rb : Nat) (gc : Nat) (gr : Nat) (gk : Nat → Nat) (gg : Nat → Nat) (gp : Nat → Nat) (gt : Nat → Nat) (sa : Nat) (sb : Nat) (x : Nat) (y : Nat) (hc : nc < 32) (hv : nv < 12) : ct_i l g vwCl (tyS cI cJ cII cJJ) y_No_addEvent c_No_addEvent 5 (some .int) ({ frames := 1, cells := 0, slots := 0, locals := 20 } : Room) [.ref (a 1), .long (lN x), .long (lN y)] (stW a rB rT cI cJ cII cJJ nc nv ng kd vo nu nd en br bc un eu li tb cc0 cp cu cd tc ts tf ox ow ob ra rb gc gr gk gg gp gt sa sb) (stW a rB rT cI cJ cII cJJ (nc + 1) (nv + 1) ng (va_up kd (nc + 1) (-1)) vo (va_up nu (nc + 1) x) (va_up nd (nc + 1) y) (va_up en nv (nc + 1)) br bc un (va_up eu (nc + 1) (2 ^ (11 - nv))) li tb cc0 cp cu cd tc ts tf ox ow ob ra rb gc gr gk gg gp gt sa sb) (nI (nc + 1)) := by
  refine ct_i.intro (by decide) (Nat.le_of_ble_eq_true rfl) ?_
  intro p e s m args below meth c Q A ls hx hb hml hT hown hA hK hN hret hP hD hS hl
  have hown : s.vm.findClass R_No = some m.cls := hown
  have hl : lv_has ls 5 [(0, .ref (a 1)), (1, .long (lN x)), (3, .long (lN y))] := hl
  refine lv_aload_n hx hb d_No_addEvent_0 rfl (lv_at hl 0 rfl) ?_
  refine lv_dup hx hb d_No_addEvent_1 rfl ?_
  refine va_get (D := g) (ci := 1) (v := .int (nI nc)) (C := R_No) (T := F_No) (N := 13) hx hb hT i_No hown hK hP 1 rfl rfl 0 (by decide) (hT _ tw_33) (fun _ h9 => h9) rfl d_No_addEvent_2 ?_
  refine lv_iconst (v := (nI 1)) hx hb d_No_addEvent_5 (by decide) ?_
  refine lv_iadd hx hb d_No_addEvent_6 ?_
  refine my_ei (nI_add nc 1) ?_
  refine va_put (D := g) (ci := 1) (v := .int (nI (nc + 1))) (ty := .int) (C := R_No) (T := F_No) (N := 13) hx hb hT i_No t_No t_No_ok n_No hown hK hP hD hS 1 rfl rfl 0 (by decide) (hT _ tw_33) (fun _ h9 => h9) rfl (by decide +kernel) rfl rfl (Nat.le_of_ble_eq_true rfl) d_No_addEvent_7 (fun H locs hP hD hS => ?_)
  have hP : va_P g vwCl (stW a rB rT cI cJ cII cJJ (nc + 1) nv ng kd vo nu nd en br bc un eu li tb cc0 cp cu cd tc ts tf ox ow ob ra rb gc gr gk gg gp gt sa sb) H := hP
  have hD : va_D A (stW a rB rT cI cJ cII cJJ (nc + 1) nv ng kd vo nu nd en br bc un eu li tb cc0 cp cu cd tc ts tf ox ow ob ra rb gc gr gk gg gp gt sa sb) := hD
  refine lv_aload_n hx hb d_No_addEvent_10 rfl (lv_at hl 0 rfl) ?_
  refine va_get (D := g) (ci := 1) (v := .ref (a 9)) (C := R_No) (T := F_No) (N := 13) hx hb hT i_No hown hK hP 1 rfl rfl 3 (by decide) (hT _ tw_39) (fun _ h9 => h9) rfl d_No_addEvent_11 ?_
  refine lv_aload_n hx hb d_No_addEvent_14 rfl (lv_at hl 0 rfl) ?_
  refine va_get (D := g) (ci := 1) (v := .int (nI (nc + 1))) (C := R_No) (T := F_No) (N := 13) hx hb hT i_No hown hK hP 1 rfl rfl 0 (by decide) (hT _ tw_33) (fun _ h9 => h9) rfl d_No_addEvent_15 ?_
  refine lv_iconst (v := (-1)) hx hb d_No_addEvent_18 (by decide) ?_
  refine my_iast (i := nc + 1) hx hb hK hP hD hS 9 0 rfl rfl (by omega) (by decide) (my_upI _ _ _) (w' := (stW a rB rT cI cJ cII cJJ (nc + 1) nv ng (va_up kd (nc + 1) (-1)) vo nu nd en br bc un eu li tb cc0 cp cu cd tc ts tf ox ow ob ra rb gc gr gk gg gp gt sa sb)) rfl d_No_addEvent_19 (fun H locs hP hD hS => ?_)
  refine lv_aload_n hx hb d_No_addEvent_20 rfl (lv_at hl 0 rfl) ?_
  refine va_get (D := g) (ci := 1) (v := .ref (a 11)) (C := R_No) (T := F_No) (N := 13) hx hb hT i_No hown hK hP 1 rfl rfl 5 (by decide) (hT _ tw_45) (fun _ h9 => h9) rfl d_No_addEvent_21 ?_
  refine lv_aload_n hx hb d_No_addEvent_24 rfl (lv_at hl 0 rfl) ?_
  refine va_get (D := g) (ci := 1) (v := .int (nI (nc + 1))) (C := R_No) (T := F_No) (N := 13) hx hb hT i_No hown hK hP 1 rfl rfl 0 (by decide) (hT _ tw_33) (fun _ h9 => h9) rfl d_No_addEvent_25 ?_
  refine lv_lload_n hx hb d_No_addEvent_28 rfl (lv_at hl 1 rfl) ?_
  refine my_last (i := nc + 1) hx hb hK hP hD hS 11 1 rfl rfl (by omega) (by decide) (my_upL _ _ _) (w' := (stW a rB rT cI cJ cII cJJ (nc + 1) nv ng (va_up kd (nc + 1) (-1)) vo (va_up nu (nc + 1) x) nd en br bc un eu li tb cc0 cp cu cd tc ts tf ox ow ob ra rb gc gr gk gg gp gt sa sb)) rfl d_No_addEvent_29 (fun H locs hP hD hS => ?_)
  refine lv_aload_n hx hb d_No_addEvent_30 rfl (lv_at hl 0 rfl) ?_
  refine va_get (D := g) (ci := 1) (v := .ref (a 12)) (C := R_No) (T := F_No) (N := 13) hx hb hT i_No hown hK hP 1 rfl rfl 6 (by decide) (hT _ tw_47) (fun _ h9 => h9) rfl d_No_addEvent_31 ?_
  refine lv_aload_n hx hb d_No_addEvent_34 rfl (lv_at hl 0 rfl) ?_
  refine va_get (D := g) (ci := 1) (v := .int (nI (nc + 1))) (C := R_No) (T := F_No) (N := 13) hx hb hT i_No hown hK hP 1 rfl rfl 0 (by decide) (hT _ tw_33) (fun _ h9 => h9) rfl d_No_addEvent_35 ?_
  refine lv_lload_n hx hb d_No_addEvent_38 rfl (lv_at hl 2 rfl) ?_
  refine my_last (i := nc + 1) hx hb hK hP hD hS 12 1 rfl rfl (by omega) (by decide) (my_upL _ _ _) (w' := (stW a rB rT cI cJ cII cJJ (nc + 1) nv ng (va_up kd (nc + 1) (-1)) vo (va_up nu (nc + 1) x) (va_up nd (nc + 1) y) en br bc un eu li tb cc0 cp cu cd tc ts tf ox ow ob ra rb gc gr gk gg gp gt sa sb)) rfl d_No_addEvent_39 (fun H locs hP hD hS => ?_)
  refine lv_aload_n hx hb d_No_addEvent_40 rfl (lv_at hl 0 rfl) ?_
  refine va_get (D := g) (ci := 1) (v := .ref (a 13)) (C := R_No) (T := F_No) (N := 13) hx hb hT i_No hown hK hP 1 rfl rfl 7 (by decide) (hT _ tw_49) (fun _ h9 => h9) rfl d_No_addEvent_41 ?_
  refine lv_aload_n hx hb d_No_addEvent_44 rfl (lv_at hl 0 rfl) ?_
  refine va_get (D := g) (ci := 1) (v := .int (nI nv)) (C := R_No) (T := F_No) (N := 13) hx hb hT i_No hown hK hP 1 rfl rfl 1 (by decide) (hT _ tw_34) (fun _ h9 => h9) rfl d_No_addEvent_45 ?_
  refine lv_aload_n hx hb d_No_addEvent_48 rfl (lv_at hl 0 rfl) ?_
  refine va_get (D := g) (ci := 1) (v := .int (nI (nc + 1))) (C := R_No) (T := F_No) (N := 13) hx hb hT i_No hown hK hP 1 rfl rfl 0 (by decide) (hT _ tw_33) (fun _ h9 => h9) rfl d_No_addEvent_49 ?_
  refine my_iast (i := nv) hx hb hK hP hD hS 13 0 rfl rfl (by omega) (by decide) (my_upN _ _ _) (w' := (stW a rB rT cI cJ cII cJJ (nc + 1) nv ng (va_up kd (nc + 1) (-1)) vo (va_up nu (nc + 1) x) (va_up nd (nc + 1) y) (va_up en nv (nc + 1)) br bc un eu li tb cc0 cp cu cd tc ts tf ox ow ob ra rb gc gr gk gg gp gt sa sb)) rfl d_No_addEvent_52 (fun H locs hP hD hS => ?_)
  refine lv_aload_n hx hb d_No_addEvent_53 rfl (lv_at hl 0 rfl) ?_
  refine va_get (D := g) (ci := 1) (v := .ref (a 17)) (C := R_No) (T := F_No) (N := 13) hx hb hT i_No hown hK hP 1 rfl rfl 11 (by decide) (hT _ tw_60) (fun _ h9 => h9) rfl d_No_addEvent_54 ?_
  refine lv_aload_n hx hb d_No_addEvent_57 rfl (lv_at hl 0 rfl) ?_
  refine va_get (D := g) (ci := 1) (v := .int (nI (nc + 1))) (C := R_No) (T := F_No) (N := 13) hx hb hT i_No hown hK hP 1 rfl rfl 0 (by decide) (hT _ tw_33) (fun _ h9 => h9) rfl d_No_addEvent_58 ?_
  refine lv_aload_n hx hb d_No_addEvent_61 rfl (lv_at hl 0 rfl) ?_
  refine va_get (D := g) (ci := 1) (v := .int (nI nv)) (C := R_No) (T := F_No) (N := 13) hx hb hT i_No hown hK hP 1 rfl rfl 1 (by decide) (hT _ tw_34) (fun _ h9 => h9) rfl d_No_addEvent_62 ?_
  refine my_S_i (As := [.int (nI nv)]) (n := 1) (k_No_eventBit l g vwCl (tyS cI cJ cII cJJ) (stW a rB rT cI cJ cII cJJ (nc + 1) nv ng (va_up kd (nc + 1) (-1)) vo (va_up nu (nc + 1) x) (va_up nd (nc + 1) y) (va_up en nv (nc + 1)) br bc un eu li tb cc0 cp cu cd tc ts tf ox ow ob ra rb gc gr gk gg gp gt sa sb) nv (by omega)) hx hb hml hown hT hN tw_257 tw_258 tw_2 tw_259 (by decide +kernel) rfl rfl ⟨Nat.le_of_ble_eq_true rfl, Nat.le_of_ble_eq_true rfl⟩ ⟨Nat.zero_le _, Nat.zero_le _⟩ hK hP hD hS hA rfl hl rfl (Nat.le_of_ble_eq_true rfl) d_No_addEvent_65 (fun H locs hP hD hS => ?_)
  refine my_iast (i := nc + 1) hx hb hK hP hD hS 17 0 rfl rfl (by omega) (by decide) (my_upN _ _ _) (w' := (stW a rB rT cI cJ cII cJJ (nc + 1) nv ng (va_up kd (nc + 1) (-1)) vo (va_up nu (nc + 1) x) (va_up nd (nc + 1) y) (va_up en nv (nc + 1)) br bc un (va_up eu (nc + 1) (2 ^ (11 - nv))) li tb cc0 cp cu cd tc ts tf ox ow ob ra rb gc gr gk gg gp gt sa sb)) rfl d_No_addEvent_68 (fun H locs hP hD hS => ?_)
  refine lv_aload_n hx hb d_No_addEvent_69 rfl (lv_at hl 0 rfl) ?_
  refine lv_dup hx hb d_No_addEvent_70 rfl ?_
  refine va_get (D := g) (ci := 1) (v := .int (nI nv)) (C := R_No) (T := F_No) (N := 13) hx hb hT i_No hown hK hP 1 rfl rfl 1 (by decide) (hT _ tw_34) (fun _ h9 => h9) rfl d_No_addEvent_71 ?_
  refine lv_iconst (v := (nI 1)) hx hb d_No_addEvent_74 (by decide) ?_
  refine lv_iadd hx hb d_No_addEvent_75 ?_
  refine my_ei (nI_add nv 1) ?_
  refine va_put (D := g) (ci := 1) (v := .int (nI (nv + 1))) (ty := .int) (C := R_No) (T := F_No) (N := 13) hx hb hT i_No t_No t_No_ok n_No hown hK hP hD hS 1 rfl rfl 1 (by decide) (hT _ tw_34) (fun _ h9 => h9) rfl (by decide +kernel) rfl rfl (Nat.le_of_ble_eq_true rfl) d_No_addEvent_76 (fun H locs hP hD hS => ?_)
  have hP : va_P g vwCl (stW a rB rT cI cJ cII cJJ (nc + 1) (nv + 1) ng (va_up kd (nc + 1) (-1)) vo (va_up nu (nc + 1) x) (va_up nd (nc + 1) y) (va_up en nv (nc + 1)) br bc un (va_up eu (nc + 1) (2 ^ (11 - nv))) li tb cc0 cp cu cd tc ts tf ox ow ob ra rb gc gr gk gg gp gt sa sb) H := hP
  have hD : va_D A (stW a rB rT cI cJ cII cJJ (nc + 1) (nv + 1) ng (va_up kd (nc + 1) (-1)) vo (va_up nu (nc + 1) x) (va_up nd (nc + 1) y) (va_up en nv (nc + 1)) br bc un (va_up eu (nc + 1) (2 ^ (11 - nv))) li tb cc0 cp cu cd tc ts tf ox ow ob ra rb gc gr gk gg gp gt sa sb) := hD
  refine lv_aload_n hx hb d_No_addEvent_79 rfl (lv_at hl 0 rfl) ?_
  refine va_get (D := g) (ci := 1) (v := .int (nI (nc + 1))) (C := R_No) (T := F_No) (N := 13) hx hb hT i_No hown hK hP 1 rfl rfl 0 (by decide) (hT _ tw_33) (fun _ h9 => h9) rfl d_No_addEvent_80 ?_
  refine hret _ _ _ _ _ hP hD hS d_No_addEvent_83 ?_
  rfl
set_option maxHeartbeats 4000000 in
set_option maxRecDepth 100000 in
theorem k_No_addGate (l : Launch) (g : va_G) (a rB rT : Nat → Nat) (cI cJ cII cJJ : ClassId) (nc : Nat) (nv : Nat) (ng : Nat) (kd : Nat → Int32) (vo : Nat → Nat) (nu : Nat → Nat) (nd : Nat → Nat) (en : Nat → Nat) (br : Nat → Nat → Nat) (bc : Nat → Nat) (un : Nat → Nat) (eu : Nat → Nat) (li : Nat → Nat) (tb : Nat → Nat → Int64) (cc0 : Nat) (cp : Nat → Nat) (cu : Nat → Nat) (cd : Nat → Nat) (tc : Nat) (ts : Nat → Nat) (tf : Nat → Nat) (ox : Bool) (ow : Nat → Nat) (ob : Nat → Nat) (ra : Nat) (rb : Nat) (gc : Nat) (gr : Nat) (gk : Nat → Nat) (gg : Nat → Nat) (gp : Nat → Nat) (gt : Nat → Nat) (sa : Nat) (sb : Nat) (x : Int32) (y : Nat) (hc : nc < 32) : ct_i l g vwCl (tyS cI cJ cII cJJ) y_No_addGate c_No_addGate 3 (some .int) ({ frames := 0, cells := 0, slots := 0, locals := 0 } : Room) [.ref (a 1), .int x, .int (nI y)] (stW a rB rT cI cJ cII cJJ nc nv ng kd vo nu nd en br bc un eu li tb cc0 cp cu cd tc ts tf ox ow ob ra rb gc gr gk gg gp gt sa sb) (stW a rB rT cI cJ cII cJJ (nc + 1) nv (ng + 1) (va_up kd (nc + 1) x) (va_up vo (nc + 1) y) nu nd en br bc un eu li tb cc0 cp cu cd tc ts tf ox ow ob ra rb gc gr gk gg gp gt sa sb) (nI (nc + 1)) := by
  refine ct_i.intro (by decide) (Nat.le_of_ble_eq_true rfl) ?_
  intro p e s m args below meth c Q A ls hx hb hml hT hown hA hK hN hret hP hD hS hl
  have hown : s.vm.findClass R_No = some m.cls := hown
  have hl : lv_has ls 3 [(0, .ref (a 1)), (1, .int x), (2, .int (nI y))] := hl
  refine lv_aload_n hx hb d_No_addGate_0 rfl (lv_at hl 0 rfl) ?_
  refine lv_dup hx hb d_No_addGate_1 rfl ?_
  refine va_get (D := g) (ci := 1) (v := .int (nI nc)) (C := R_No) (T := F_No) (N := 13) hx hb hT i_No hown hK hP 1 rfl rfl 0 (by decide) (hT _ tw_33) (fun _ h9 => h9) rfl d_No_addGate_2 ?_
  refine lv_iconst (v := (nI 1)) hx hb d_No_addGate_5 (by decide) ?_
  refine lv_iadd hx hb d_No_addGate_6 ?_
  refine my_ei (nI_add nc 1) ?_
  refine va_put (D := g) (ci := 1) (v := .int (nI (nc + 1))) (ty := .int) (C := R_No) (T := F_No) (N := 13) hx hb hT i_No t_No t_No_ok n_No hown hK hP hD hS 1 rfl rfl 0 (by decide) (hT _ tw_33) (fun _ h9 => h9) rfl (by decide +kernel) rfl rfl (Nat.le_of_ble_eq_true rfl) d_No_addGate_7 (fun H locs hP hD hS => ?_)
  have hP : va_P g vwCl (stW a rB rT cI cJ cII cJJ (nc + 1) nv ng kd vo nu nd en br bc un eu li tb cc0 cp cu cd tc ts tf ox ow ob ra rb gc gr gk gg gp gt sa sb) H := hP
  have hD : va_D A (stW a rB rT cI cJ cII cJJ (nc + 1) nv ng kd vo nu nd en br bc un eu li tb cc0 cp cu cd tc ts tf ox ow ob ra rb gc gr gk gg gp gt sa sb) := hD
  refine lv_aload_n hx hb d_No_addGate_10 rfl (lv_at hl 0 rfl) ?_
  refine va_get (D := g) (ci := 1) (v := .ref (a 9)) (C := R_No) (T := F_No) (N := 13) hx hb hT i_No hown hK hP 1 rfl rfl 3 (by decide) (hT _ tw_39) (fun _ h9 => h9) rfl d_No_addGate_11 ?_
  refine lv_aload_n hx hb d_No_addGate_14 rfl (lv_at hl 0 rfl) ?_
  refine va_get (D := g) (ci := 1) (v := .int (nI (nc + 1))) (C := R_No) (T := F_No) (N := 13) hx hb hT i_No hown hK hP 1 rfl rfl 0 (by decide) (hT _ tw_33) (fun _ h9 => h9) rfl d_No_addGate_15 ?_
  refine lv_iload_n hx hb d_No_addGate_18 rfl (lv_at hl 1 rfl) ?_
  refine my_iast (i := nc + 1) hx hb hK hP hD hS 9 0 rfl rfl (by omega) (by decide) (my_upI _ _ _) (w' := (stW a rB rT cI cJ cII cJJ (nc + 1) nv ng (va_up kd (nc + 1) x) vo nu nd en br bc un eu li tb cc0 cp cu cd tc ts tf ox ow ob ra rb gc gr gk gg gp gt sa sb)) rfl d_No_addGate_19 (fun H locs hP hD hS => ?_)
  refine lv_aload_n hx hb d_No_addGate_20 rfl (lv_at hl 0 rfl) ?_
  refine va_get (D := g) (ci := 1) (v := .ref (a 10)) (C := R_No) (T := F_No) (N := 13) hx hb hT i_No hown hK hP 1 rfl rfl 4 (by decide) (hT _ tw_42) (fun _ h9 => h9) rfl d_No_addGate_21 ?_
  refine lv_aload_n hx hb d_No_addGate_24 rfl (lv_at hl 0 rfl) ?_
  refine va_get (D := g) (ci := 1) (v := .int (nI (nc + 1))) (C := R_No) (T := F_No) (N := 13) hx hb hT i_No hown hK hP 1 rfl rfl 0 (by decide) (hT _ tw_33) (fun _ h9 => h9) rfl d_No_addGate_25 ?_
  refine lv_iload_n hx hb d_No_addGate_28 rfl (lv_at hl 2 rfl) ?_
  refine my_iast (i := nc + 1) hx hb hK hP hD hS 10 0 rfl rfl (by omega) (by decide) (my_upN _ _ _) (w' := (stW a rB rT cI cJ cII cJJ (nc + 1) nv ng (va_up kd (nc + 1) x) (va_up vo (nc + 1) y) nu nd en br bc un eu li tb cc0 cp cu cd tc ts tf ox ow ob ra rb gc gr gk gg gp gt sa sb)) rfl d_No_addGate_29 (fun H locs hP hD hS => ?_)
  refine lv_aload_n hx hb d_No_addGate_30 rfl (lv_at hl 0 rfl) ?_
  refine lv_dup hx hb d_No_addGate_31 rfl ?_
  refine va_get (D := g) (ci := 1) (v := .int (nI ng)) (C := R_No) (T := F_No) (N := 13) hx hb hT i_No hown hK hP 1 rfl rfl 2 (by decide) (hT _ tw_37) (fun _ h9 => h9) rfl d_No_addGate_32 ?_
  refine lv_iconst (v := (nI 1)) hx hb d_No_addGate_35 (by decide) ?_
  refine lv_iadd hx hb d_No_addGate_36 ?_
  refine my_ei (nI_add ng 1) ?_
  refine va_put (D := g) (ci := 1) (v := .int (nI (ng + 1))) (ty := .int) (C := R_No) (T := F_No) (N := 13) hx hb hT i_No t_No t_No_ok n_No hown hK hP hD hS 1 rfl rfl 2 (by decide) (hT _ tw_37) (fun _ h9 => h9) rfl (by decide +kernel) rfl rfl (Nat.le_of_ble_eq_true rfl) d_No_addGate_37 (fun H locs hP hD hS => ?_)
  have hP : va_P g vwCl (stW a rB rT cI cJ cII cJJ (nc + 1) nv (ng + 1) (va_up kd (nc + 1) x) (va_up vo (nc + 1) y) nu nd en br bc un eu li tb cc0 cp cu cd tc ts tf ox ow ob ra rb gc gr gk gg gp gt sa sb) H := hP
  have hD : va_D A (stW a rB rT cI cJ cII cJJ (nc + 1) nv (ng + 1) (va_up kd (nc + 1) x) (va_up vo (nc + 1) y) nu nd en br bc un eu li tb cc0 cp cu cd tc ts tf ox ow ob ra rb gc gr gk gg gp gt sa sb) := hD
  refine lv_aload_n hx hb d_No_addGate_40 rfl (lv_at hl 0 rfl) ?_
  refine va_get (D := g) (ci := 1) (v := .int (nI (nc + 1))) (C := R_No) (T := F_No) (N := 13) hx hb hT i_No hown hK hP 1 rfl rfl 0 (by decide) (hT _ tw_33) (fun _ h9 => h9) rfl d_No_addGate_41 ?_
  refine hret _ _ _ _ _ hP hD hS d_No_addGate_44 ?_
  rfl
set_option maxHeartbeats 4000000 in
set_option maxRecDepth 100000 in
theorem k_No_isBelow (l : Launch) (g : va_G) (a rB rT : Nat → Nat) (cI cJ cII cJJ : ClassId) (nc : Nat) (nv : Nat) (ng : Nat) (kd : Nat → Int32) (vo : Nat → Nat) (nu : Nat → Nat) (nd : Nat → Nat) (en : Nat → Nat) (br : Nat → Nat → Nat) (bc : Nat → Nat) (un : Nat → Nat) (eu : Nat → Nat) (li : Nat → Nat) (tb : Nat → Nat → Int64) (cc0 : Nat) (cp : Nat → Nat) (cu : Nat → Nat) (cd : Nat → Nat) (tc : Nat) (ts : Nat → Nat) (tf : Nat → Nat) (ox : Bool) (ow : Nat → Nat) (ob : Nat → Nat) (ra : Nat) (rb : Nat) (gc : Nat) (gr : Nat) (gk : Nat → Nat) (gg : Nat → Nat) (gp : Nat → Nat) (gt : Nat → Nat) (sa : Nat) (sb : Nat) (x : Nat) (y : Nat) (hx1 : x ≤ 32) (hy1 : y ≤ 32) (hbc : ∀ j, bc j ≤ 10) (hbr : ∀ j i, br j i ≤ 32) : ct_i l g vwCl (tyS cI cJ cII cJJ) y_No_isBelow c_No_isBelow 4 (some .boolean) ({ frames := 0, cells := 0, slots := 0, locals := 0 } : Room) [.ref (a 1), .int (nI x), .int (nI y)] (stW a rB rT cI cJ cII cJJ nc nv ng kd vo nu nd en br bc un eu li tb cc0 cp cu cd tc ts tf ox ow ob ra rb gc gr gk gg gp gt sa sb) (stW a rB rT cI cJ cII cJJ nc nv ng kd vo nu nd en br bc un eu li tb cc0 cp cu cd tc ts tf ox ow ob ra rb gc gr gk gg gp gt sa sb) (b2 (iB br y x (bc y))) := by
  refine ct_i.introZ (by decide) (Nat.le_of_ble_eq_true rfl) ?_
  intro p e s m args below meth c Q A ls hx hb hml hT hown hA hK hN hret hP hD hS hl
  have hown : s.vm.findClass R_No = some m.cls := hown
  have hl : lv_has ls 4 [(0, .ref (a 1)), (1, .int (nI x)), (2, .int (nI y))] := hl
  have q1 := hbc y
  refine lv_iconst (v := (nI 0)) hx hb d_No_isBelow_0 (by decide) ?_
  refine lv_istore_n (lv' := [(3, .int (nI 0)), (0, .ref (a 1)), (1, .int (nI x)), (2, .int (nI y))]) hx hb d_No_isBelow_1 rfl hl (by decide) rfl (fun ls hl => ?_)
  have lp_2 : ∀ (k : Nat) (i : Nat) (H : Heap) (locs : List Loc) (ls : Array Slot), (bc y < i + k) → (i ≤ bc y) → (iB br y x i = false) → va_P g vwCl (stW a rB rT cI cJ cII cJJ nc nv ng kd vo nu nd en br bc un eu li tb cc0 cp cu cd tc ts tf ox ow ob ra rb gc gr gk gg gp gt sa sb) H → va_D A (stW a rB rT cI cJ cII cJJ nc nv ng kd vo nu nd en br bc un eu li tb cc0 cp cu cd tc ts tf ox ow ob ra rb gc gr gk gg gp gt sa sb) → va_S A s.heap H locs → lv_has ls 4 [(0, .ref (a 1)), (1, .int (nI x)), (2, .int (nI y)), (3, .int (nI i))] → W p l e ({ frames := 0, cells := 0, slots := 0, locals := 0 } : Room) s m args below meth c H locs 0 0 Q (F0 m 2 ls []) := by
    intro k
    induction k with
    | zero =>
      intro i H locs ls hk hi hf hP hD hS hl
      exfalso
      omega
    | succ k ih_2 =>
      intro i H locs ls hk hi hf hP hD hS hl
      refine lv_iload_n hx hb d_No_isBelow_2 rfl (lv_at hl 3 rfl) ?_
      refine lv_aload_n hx hb d_No_isBelow_3 rfl (lv_at hl 0 rfl) ?_
      refine va_get (D := g) (ci := 1) (v := .ref (a 15)) (C := R_No) (T := F_No) (N := 13) hx hb hT i_No hown hK hP 1 rfl rfl 9 (by decide) (hT _ tw_55) (fun _ h9 => h9) rfl d_No_isBelow_4 ?_
      refine lv_iload_n hx hb d_No_isBelow_7 rfl (lv_at hl 2 rfl) ?_
      refine my_iald (v := (nI (bc y))) (i := y) hx hb hK hP 15 0 rfl rfl (by omega) (by decide) rfl d_No_isBelow_8 ?_
      refine my_icmp_ge (tgt := 32) (a := i) (b := bc y) hx hb d_No_isBelow_9 (by decide) (by omega) (by omega) (fun c_9 => ?_) (fun c_9 => ?_)
      · -- 9: taken
        refine lv_iconst (v := (nI 0)) hx hb d_No_isBelow_32 (by decide) ?_
        refine hret _ _ _ _ _ hP hD hS d_No_isBelow_33 ?_
        exact b2F (by rw [← hf, show i = bc y by omega])
      · -- 9: not taken
        refine lv_aload_n hx hb d_No_isBelow_12 rfl (lv_at hl 0 rfl) ?_
        refine va_get (D := g) (ci := 1) (v := .ref (a 14)) (C := R_No) (T := F_No) (N := 13) hx hb hT i_No hown hK hP 1 rfl rfl 8 (by decide) (hT _ tw_52) (fun _ h9 => h9) rfl d_No_isBelow_13 ?_
        refine lv_iload_n hx hb d_No_isBelow_16 rfl (lv_at hl 2 rfl) ?_
        refine my_aald (r := rB) (i := y) hx hb hK hP 14 2 rfl rfl (by omega) (by decide) d_No_isBelow_17 ?_
        refine lv_iload_n hx hb d_No_isBelow_18 rfl (lv_at hl 3 rfl) ?_
        have q2 := hbr y i
        refine my_iald (v := (nI (br y i))) (i := i) hx hb hK hP (31 + y) 0 (stB_at (by omega)) rfl (by omega) (by decide) rfl d_No_isBelow_19 ?_
        refine lv_iload_n hx hb d_No_isBelow_20 rfl (lv_at hl 1 rfl) ?_
        refine my_icmp_ne (tgt := 26) (a := br y i) (b := x) hx hb d_No_isBelow_21 (by decide) (by omega) (by omega) (fun c_21 => ?_) (fun c_21 => ?_)
        · -- 21: taken
          refine lv_iinc (v := (nI (i + 1))) (lv' := [(3, .int (nI (i + 1))), (0, .ref (a 1)), (1, .int (nI x)), (2, .int (nI y))]) hx hb d_No_isBelow_26 hl (k := 3) rfl (nI_1 i) (by decide) rfl (fun ls hl => ?_)
          refine lv_goto (tgt := 2) hx hb d_No_isBelow_29 (by decide) ?_
          refine ih_2 _ _ _ _ ?_ ?_ ?_ hP hD hS (lv_sub hl [1, 2, 3, 0] rfl)
          · omega
          · omega
          · simp [iB, hf, c_21]
        · -- 21: not taken
          refine lv_iconst (v := (nI 1)) hx hb d_No_isBelow_24 (by decide) ?_
          refine hret _ _ _ _ _ hP hD hS d_No_isBelow_25 ?_
          exact b2T (iB_t (bc y) (by omega) c_21)
  refine lp_2 (bc y + 1) _ _ _ _ ?_ ?_ ?_ hP hD hS (lv_sub hl [1, 2, 3, 0] rfl)
  · omega
  · omega
  · rfl
set_option maxHeartbeats 4000000 in
set_option maxRecDepth 100000 in
theorem k_No_isUnder (l : Launch) (g : va_G) (a rB rT : Nat → Nat) (cI cJ cII cJJ : ClassId) (nc : Nat) (nv : Nat) (ng : Nat) (kd : Nat → Int32) (vo : Nat → Nat) (nu : Nat → Nat) (nd : Nat → Nat) (en : Nat → Nat) (br : Nat → Nat → Nat) (bc : Nat → Nat) (un : Nat → Nat) (eu : Nat → Nat) (li : Nat → Nat) (tb : Nat → Nat → Int64) (cc0 : Nat) (cp : Nat → Nat) (cu : Nat → Nat) (cd : Nat → Nat) (tc : Nat) (ts : Nat → Nat) (tf : Nat → Nat) (ox : Bool) (ow : Nat → Nat) (ob : Nat → Nat) (ra : Nat) (rb : Nat) (gc : Nat) (gr : Nat) (gk : Nat → Nat) (gg : Nat → Nat) (gp : Nat → Nat) (gt : Nat → Nat) (sa : Nat) (sb : Nat) (x : Nat) (y : Nat) (hx1 : x ≤ 32) (hy1 : y ≤ 32) (hun : ∀ j, un j < 2 ^ 33) : ct_i l g vwCl (tyS cI cJ cII cJJ) y_No_isUnder c_No_isUnder 3 (some .boolean) ({ frames := 0, cells := 0, slots := 0, locals := 0 } : Room) [.ref (a 1), .int (nI x), .int (nI y)] (stW a rB rT cI cJ cII cJJ nc nv ng kd vo nu nd en br bc un eu li tb cc0 cp cu cd tc ts tf ox ow ob ra rb gc gr gk gg gp gt sa sb) (stW a rB rT cI cJ cII cJJ nc nv ng kd vo nu nd en br bc un eu li tb cc0 cp cu cd tc ts tf ox ow ob ra rb gc gr gk gg gp gt sa sb) (b2 ((un y).testBit x)) := by
  refine ct_i.introZ (by decide) (Nat.le_of_ble_eq_true rfl) ?_
  intro p e s m args below meth c Q A ls hx hb hml hT hown hA hK hN hret hP hD hS hl
  have hown : s.vm.findClass R_No = some m.cls := hown
  have hl : lv_has ls 3 [(0, .ref (a 1)), (1, .int (nI x)), (2, .int (nI y))] := hl
  refine lv_aload_n hx hb d_No_isUnder_0 rfl (lv_at hl 0 rfl) ?_
  refine va_get (D := g) (ci := 1) (v := .ref (a 16)) (C := R_No) (T := F_No) (N := 13) hx hb hT i_No hown hK hP 1 rfl rfl 10 (by decide) (hT _ tw_59) (fun _ h9 => h9) rfl d_No_isUnder_1 ?_
  refine lv_iload_n hx hb d_No_isUnder_4 rfl (lv_at hl 2 rfl) ?_
  refine my_lald (v := (lN (un y))) (i := y) hx hb hK hP 16 1 rfl rfl (by omega) (by decide) rfl d_No_isUnder_5 ?_
  refine lv_lconst (v := (lN 1)) hx hb d_No_isUnder_6 (by decide) ?_
  refine lv_iload_n hx hb d_No_isUnder_7 rfl (lv_at hl 1 rfl) ?_
  refine lv_lshl (v := lN (2 ^ x)) hx hb d_No_isUnder_8 (lx_shl1 x (by omega)) ?_
  refine lv_land hx hb d_No_isUnder_9 ?_
  refine my_el (lx_and (un y) (2 ^ x)) ?_
  refine lv_lconst (v := (lN 0)) hx hb d_No_isUnder_10 (by decide) ?_
  have q1 : un y &&& 2 ^ x < 2 ^ 33 := Nat.lt_of_le_of_lt Nat.and_le_left (hun y)
  refine my_lcmp_eq (tgt := 19) (a := (un y) &&& (2 ^ x)) (b := 0) hx hb d_No_isUnder_11 d_No_isUnder_12 (by decide) (by omega) (by omega) (fun c_11 => ?_) (fun c_11 => ?_)
  · -- 11: taken
    refine lv_iconst (v := (nI 0)) hx hb d_No_isUnder_19 (by decide) ?_
    refine hret _ _ _ _ _ hP hD hS d_No_isUnder_20 ?_
    exact b2F (tbF c_11)
  · -- 11: not taken
    refine lv_iconst (v := (nI 1)) hx hb d_No_isUnder_15 (by decide) ?_
    refine lv_goto (tgt := 20) hx hb d_No_isUnder_16 (by decide) ?_
    refine hret _ _ _ _ _ hP hD hS d_No_isUnder_20 ?_
    exact b2T (tbT c_11)
end
section
/-- putBelow's loop: (nodesUnder, eventsUnder) after the nodes 1 .. i -/
def pbS (un eu : Nat → Nat) (y x : Nat) : Nat → (Nat → Nat) × (Nat → Nat)
  | 0 => (un, eu)
  | i + 1 => if i + 1 = y ∨ ((pbS un eu y x i).1 (i + 1)).testBit y = true then
      (va_up (pbS un eu y x i).1 (i + 1) ((pbS un eu y x i).1 (i + 1) ||| (un x ||| 2 ^ x)), va_up (pbS un eu y x i).2 (i + 1) ((pbS un eu y x i).2 (i + 1) ||| (pbS un eu y x i).2 x))
    else pbS un eu y x i
theorem up_lt {f : Nat → Nat} {n k v : Nat} (h : ∀ j, f j < n) (hv : v < n) : ∀ j, va_up f k v j < n := fun j => by
  unfold va_up
  split
  · exact hv
  · exact h j
theorem or_lt {a b k : Nat} (ha : a < 2 ^ k) (hb : b < 2 ^ k) : a ||| b < 2 ^ k := Nat.or_lt_two_pow ha hb
theorem pbS_t {un eu : Nat → Nat} {y x i : Nat} (h : i + 1 = y ∨ ((pbS un eu y x i).1 (i + 1)).testBit y = true) : pbS un eu y x (i + 1) = (va_up (pbS un eu y x i).1 (i + 1) ((pbS un eu y x i).1 (i + 1) ||| (un x ||| 2 ^ x)), va_up (pbS un eu y x i).2 (i + 1) ((pbS un eu y x i).2 (i + 1) ||| (pbS un eu y x i).2 x)) := if_pos h
theorem pbS_f {un eu : Nat → Nat} {y x i : Nat} (h : ¬ i + 1 = y) (h2 : ((pbS un eu y x i).1 (i + 1)).testBit y = false) : pbS un eu y x (i + 1) = pbS un eu y x i := if_neg (by simp [h, h2])
/-- lineUp: the nodes 1 .. j of one size -/
def luN (cnd : Nat → Bool) (s : Nat × (Nat → Nat)) : Nat → Nat × (Nat → Nat)
  | 0 => s
  | j + 1 => if cnd (j + 1) = true ∧ (luN cnd s j).1 < 20 then ((luN cnd s j).1 + 1, va_up (luN cnd s j).2 (luN cnd s j).1 (j + 1)) else luN cnd s j
def luS (cnd : Nat → Nat → Bool) (nc : Nat) (s : Nat × (Nat → Nat)) : Nat → Nat × (Nat → Nat)
  | 0 => s
  | z + 1 => luN (cnd z) (luS cnd nc s z) nc
theorem luN_t {cnd : Nat → Bool} {s : Nat × (Nat → Nat)} {j : Nat} (h : cnd (j + 1) = true) (h2 : (luN cnd s j).1 < 20) : luN cnd s (j + 1) = ((luN cnd s j).1 + 1, va_up (luN cnd s j).2 (luN cnd s j).1 (j + 1)) := if_pos ⟨h, h2⟩
theorem luN_f {cnd : Nat → Bool} {s : Nat × (Nat → Nat)} {j : Nat} (h : ¬ (cnd (j + 1) = true ∧ (luN cnd s j).1 < 20)) : luN cnd s (j + 1) = luN cnd s j := if_neg h
def luC (nc : Nat) (kd : Nat → Int32) (un : Nat → Nat) (x : Nat) (z j : Nat) : Bool := (decide (j = x) || (un x).testBit j) && isG nc kd (nI j) && decide (popc (un j) 64 = z)
theorem luN_le (cnd : Nat → Bool) (s : Nat × (Nat → Nat)) (h : s.1 ≤ 20) : ∀ j, (luN cnd s j).1 ≤ 20
  | 0 => h
  | j + 1 => by
    show (if cnd (j + 1) = true ∧ (luN cnd s j).1 < 20 then ((luN cnd s j).1 + 1, va_up (luN cnd s j).2 (luN cnd s j).1 (j + 1)) else luN cnd s j).1 ≤ 20
    have := luN_le cnd s h j
    split
    · rename_i q; show (luN cnd s j).1 + 1 ≤ 20; omega
    · exact this
set_option maxHeartbeats 4000000 in
set_option maxRecDepth 100000 in
theorem k_No_putBelow (l : Launch) (g : va_G) (a rB rT : Nat → Nat) (cI cJ cII cJJ : ClassId) (nc : Nat) (nv : Nat) (ng : Nat) (kd : Nat → Int32) (vo : Nat → Nat) (nu : Nat → Nat) (nd : Nat → Nat) (en : Nat → Nat) (br : Nat → Nat → Nat) (bc : Nat → Nat) (un : Nat → Nat) (eu : Nat → Nat) (li : Nat → Nat) (tb : Nat → Nat → Int64) (cc0 : Nat) (cp : Nat → Nat) (cu : Nat → Nat) (cd : Nat → Nat) (tc : Nat) (ts : Nat → Nat) (tf : Nat → Nat) (ox : Bool) (ow : Nat → Nat) (ob : Nat → Nat) (ra : Nat) (rb : Nat) (gc : Nat) (gr : Nat) (gk : Nat → Nat) (gg : Nat → Nat) (gp : Nat → Nat) (gt : Nat → Nat) (sa : Nat) (sb : Nat) (x : Nat) (y : Nat) (hx1 : x ≤ 32) (hy1 : y ≤ 32) (hnc : nc ≤ 32) (hby : bc y < 10) (hun : ∀ j, un j < 2 ^ 33) (heu : ∀ j, eu j < 2 ^ 12) : ct_v l g vwCl (tyS cI cJ cII cJJ) y_No_putBelow c_No_putBelow 6 none ({ frames := 1, cells := 0, slots := 0, locals := 22 } : Room) [.ref (a 1), .int (nI x), .int (nI y)] (stW a rB rT cI cJ cII cJJ nc nv ng kd vo nu nd en br bc un eu li tb cc0 cp cu cd tc ts tf ox ow ob ra rb gc gr gk gg gp gt sa sb) (stW a rB rT cI cJ cII cJJ nc nv ng kd vo nu nd en (va_up br y (va_up (br y) (bc y) x)) (va_up bc y (bc y + 1)) ((pbS un eu y x nc).1) ((pbS un eu y x nc).2) li tb cc0 cp cu cd tc ts tf ox ow ob ra rb gc gr gk gg gp gt sa sb) := by
  refine ct_v.intro (by decide) (Nat.le_of_ble_eq_true rfl) ?_
  intro p e s m args below meth c Q A ls hx hb hml hT hown hA hK hN hret hP hD hS hl
  have hown : s.vm.findClass R_No = some m.cls := hown
  have hl : lv_has ls 6 [(0, .ref (a 1)), (1, .int (nI x)), (2, .int (nI y))] := hl
  refine lv_aload_n hx hb d_No_putBelow_0 rfl (lv_at hl 0 rfl) ?_
  refine va_get (D := g) (ci := 1) (v := .ref (a 14)) (C := R_No) (T := F_No) (N := 13) hx hb hT i_No hown hK hP 1 rfl rfl 8 (by decide) (hT _ tw_52) (fun _ h9 => h9) rfl d_No_putBelow_1 ?_
  refine lv_iload_n hx hb d_No_putBelow_4 rfl (lv_at hl 2 rfl) ?_
  refine my_aald (r := rB) (i := y) hx hb hK hP 14 2 rfl rfl (by omega) (by decide) d_No_putBelow_5 ?_
  refine lv_aload_n hx hb d_No_putBelow_6 rfl (lv_at hl 0 rfl) ?_
  refine va_get (D := g) (ci := 1) (v := .ref (a 15)) (C := R_No) (T := F_No) (N := 13) hx hb hT i_No hown hK hP 1 rfl rfl 9 (by decide) (hT _ tw_55) (fun _ h9 => h9) rfl d_No_putBelow_7 ?_
  refine lv_iload_n hx hb d_No_putBelow_10 rfl (lv_at hl 2 rfl) ?_
  refine my_iald (v := (nI (bc y))) (i := y) hx hb hK hP 15 0 rfl rfl (by omega) (by decide) rfl d_No_putBelow_11 ?_
  refine lv_iload_n hx hb d_No_putBelow_12 rfl (lv_at hl 1 rfl) ?_
  refine my_iast (i := bc y) hx hb hK hP hD hS (31 + y) 0 (stB_at (by omega)) rfl (by omega) (by decide) (my_upN _ _ _) (stB_set (by omega)) d_No_putBelow_13 (fun H locs hP hD hS => ?_)
  have hP : va_P g vwCl (stW a rB rT cI cJ cII cJJ nc nv ng kd vo nu nd en (va_up br y (va_up (br y) (bc y) x)) bc un eu li tb cc0 cp cu cd tc ts tf ox ow ob ra rb gc gr gk gg gp gt sa sb) H := hP
  have hD : va_D A (stW a rB rT cI cJ cII cJJ nc nv ng kd vo nu nd en (va_up br y (va_up (br y) (bc y) x)) bc un eu li tb cc0 cp cu cd tc ts tf ox ow ob ra rb gc gr gk gg gp gt sa sb) := hD
  refine lv_aload_n hx hb d_No_putBelow_14 rfl (lv_at hl 0 rfl) ?_
  refine va_get (D := g) (ci := 1) (v := .ref (a 15)) (C := R_No) (T := F_No) (N := 13) hx hb hT i_No hown hK hP 1 rfl rfl 9 (by decide) (hT _ tw_55) (fun _ h9 => h9) rfl d_No_putBelow_15 ?_
  refine lv_iload_n hx hb d_No_putBelow_18 rfl (lv_at hl 2 rfl) ?_
  refine lv_dup2_11 hx hb d_No_putBelow_19 rfl rfl ?_
  refine my_iald (v := (nI (bc y))) (i := y) hx hb hK hP 15 0 rfl rfl (by omega) (by decide) rfl d_No_putBelow_20 ?_
  refine lv_iconst (v := (nI 1)) hx hb d_No_putBelow_21 (by decide) ?_
  refine lv_iadd hx hb d_No_putBelow_22 ?_
  refine my_ei (nI_add (bc y) 1) ?_
  refine my_iast (i := y) hx hb hK hP hD hS 15 0 rfl rfl (by omega) (by decide) (my_upN _ _ _) (w' := (stW a rB rT cI cJ cII cJJ nc nv ng kd vo nu nd en (va_up br y (va_up (br y) (bc y) x)) (va_up bc y ((bc y) + 1)) un eu li tb cc0 cp cu cd tc ts tf ox ow ob ra rb gc gr gk gg gp gt sa sb)) rfl d_No_putBelow_23 (fun H locs hP hD hS => ?_)
  refine lv_aload_n hx hb d_No_putBelow_24 rfl (lv_at hl 0 rfl) ?_
  refine va_get (D := g) (ci := 1) (v := .ref (a 16)) (C := R_No) (T := F_No) (N := 13) hx hb hT i_No hown hK hP 1 rfl rfl 10 (by decide) (hT _ tw_59) (fun _ h9 => h9) rfl d_No_putBelow_25 ?_
  refine lv_iload_n hx hb d_No_putBelow_28 rfl (lv_at hl 1 rfl) ?_
  refine my_lald (v := (lN (un x))) (i := x) hx hb hK hP 16 1 rfl rfl (by omega) (by decide) rfl d_No_putBelow_29 ?_
  refine lv_lconst (v := (lN 1)) hx hb d_No_putBelow_30 (by decide) ?_
  refine lv_iload_n hx hb d_No_putBelow_31 rfl (lv_at hl 1 rfl) ?_
  refine lv_lshl (v := lN (2 ^ x)) hx hb d_No_putBelow_32 (lx_shl1 x (by omega)) ?_
  refine lv_lor hx hb d_No_putBelow_33 ?_
  refine my_el (lx_or (un x) (2 ^ x)) ?_
  refine lv_lstore_n (lv' := [(3, .long (lN ((un x) ||| (2 ^ x)))), (0, .ref (a 1)), (1, .int (nI x)), (2, .int (nI y))]) hx hb d_No_putBelow_34 rfl hl (by decide) rfl (fun ls hl => ?_)
  refine lv_iconst (v := (nI 1)) hx hb d_No_putBelow_35 (by decide) ?_
  refine lv_istore (lv' := [(5, .int (nI 1)), (3, .long (lN ((un x) ||| (2 ^ x)))), (0, .ref (a 1)), (1, .int (nI x)), (2, .int (nI y))]) hx hb d_No_putBelow_36 hl (by decide) rfl (fun ls hl => ?_)
  have lp_38 : ∀ (k : Nat) (i : Nat) (u : Nat → Nat) (v : Nat → Nat) (H : Heap) (locs : List Loc) (ls : Array Slot), (nc < i + k) → (i ≤ nc) → (∀ j, u j < 2 ^ 33) → (∀ j, v j < 2 ^ 12) → ((u, v) = pbS un eu y x i) → va_P g vwCl (stW a rB rT cI cJ cII cJJ nc nv ng kd vo nu nd en (va_up br y (va_up (br y) (bc y) x)) (va_up bc y ((bc y) + 1)) u v li tb cc0 cp cu cd tc ts tf ox ow ob ra rb gc gr gk gg gp gt sa sb) H → va_D A (stW a rB rT cI cJ cII cJJ nc nv ng kd vo nu nd en (va_up br y (va_up (br y) (bc y) x)) (va_up bc y ((bc y) + 1)) u v li tb cc0 cp cu cd tc ts tf ox ow ob ra rb gc gr gk gg gp gt sa sb) → va_S A s.heap H locs → lv_has ls 6 [(0, .ref (a 1)), (1, .int (nI x)), (2, .int (nI y)), (3, .long (lN (un x ||| 2 ^ x))), (5, .int (nI (i + 1)))] → W p l e ({ frames := 1, cells := 0, slots := 0, locals := 22 } : Room) s m args below meth c H locs 0 0 Q (F0 m 38 ls []) := by
    intro k
    induction k with
    | zero =>
      intro i u v H locs ls hk hi hu hv hf hP hD hS hl
      exfalso
      omega
    | succ k ih_38 =>
      intro i u v H locs ls hk hi hu hv hf hP hD hS hl
      refine lv_iload hx hb d_No_putBelow_38 (lv_at hl 4 rfl) ?_
      refine lv_aload_n hx hb d_No_putBelow_40 rfl (lv_at hl 0 rfl) ?_
      refine va_get (D := g) (ci := 1) (v := .int (nI nc)) (C := R_No) (T := F_No) (N := 13) hx hb hT i_No hown hK hP 1 rfl rfl 0 (by decide) (hT _ tw_33) (fun _ h9 => h9) rfl d_No_putBelow_41 ?_
      refine my_icmp_gt (tgt := 96) (a := i + 1) (b := nc) hx hb d_No_putBelow_44 (by decide) (by omega) (by omega) (fun c_44 => ?_) (fun c_44 => ?_)
      · -- 44: taken
        have e1 : (pbS un eu y x nc).1 = u := by rw [show nc = i by omega, ← hf]
        have e2 : (pbS un eu y x nc).2 = v := by rw [show nc = i by omega, ← hf]
        rw [← e1, ← e2] at hP hD
        exact hret _ _ _ _ hP hD hS d_No_putBelow_96
      · -- 44: not taken
        refine lv_iload hx hb d_No_putBelow_47 (lv_at hl 4 rfl) ?_
        refine lv_iload_n hx hb d_No_putBelow_49 rfl (lv_at hl 2 rfl) ?_
        refine my_icmp_eq (tgt := 63) (a := i + 1) (b := y) hx hb d_No_putBelow_50 (by decide) (by omega) (by omega) (fun c_50 => ?_) (fun c_50 => ?_)
        · -- 50: taken
          refine lv_aload_n hx hb d_No_putBelow_63 rfl (lv_at hl 0 rfl) ?_
          refine va_get (D := g) (ci := 1) (v := .ref (a 16)) (C := R_No) (T := F_No) (N := 13) hx hb hT i_No hown hK hP 1 rfl rfl 10 (by decide) (hT _ tw_59) (fun _ h9 => h9) rfl d_No_putBelow_64 ?_
          refine lv_iload hx hb d_No_putBelow_67 (lv_at hl 4 rfl) ?_
          refine lv_dup2_11 hx hb d_No_putBelow_69 rfl rfl ?_
          refine my_lald (v := (lN (u (i + 1)))) (i := i + 1) hx hb hK hP 16 1 rfl rfl (by omega) (by decide) rfl d_No_putBelow_70 ?_
          refine lv_lload_n hx hb d_No_putBelow_71 rfl (lv_at hl 3 rfl) ?_
          refine lv_lor hx hb d_No_putBelow_72 ?_
          refine my_el (lx_or (u (i + 1)) (un x ||| 2 ^ x)) ?_
          refine my_last (i := i + 1) hx hb hK hP hD hS 16 1 rfl rfl (by omega) (by decide) (my_upL _ _ _) (w' := (stW a rB rT cI cJ cII cJJ nc nv ng kd vo nu nd en (va_up br y (va_up (br y) (bc y) x)) (va_up bc y ((bc y) + 1)) (va_up u (i + 1) ((u (i + 1)) ||| (un x ||| 2 ^ x))) v li tb cc0 cp cu cd tc ts tf ox ow ob ra rb gc gr gk gg gp gt sa sb)) rfl d_No_putBelow_73 (fun H locs hP hD hS => ?_)
          refine lv_aload_n hx hb d_No_putBelow_74 rfl (lv_at hl 0 rfl) ?_
          refine va_get (D := g) (ci := 1) (v := .ref (a 17)) (C := R_No) (T := F_No) (N := 13) hx hb hT i_No hown hK hP 1 rfl rfl 11 (by decide) (hT _ tw_60) (fun _ h9 => h9) rfl d_No_putBelow_75 ?_
          refine lv_iload hx hb d_No_putBelow_78 (lv_at hl 4 rfl) ?_
          refine lv_dup2_11 hx hb d_No_putBelow_80 rfl rfl ?_
          refine my_iald (v := (nI (v (i + 1)))) (i := i + 1) hx hb hK hP 17 0 rfl rfl (by omega) (by decide) rfl d_No_putBelow_81 ?_
          refine lv_aload_n hx hb d_No_putBelow_82 rfl (lv_at hl 0 rfl) ?_
          refine va_get (D := g) (ci := 1) (v := .ref (a 17)) (C := R_No) (T := F_No) (N := 13) hx hb hT i_No hown hK hP 1 rfl rfl 11 (by decide) (hT _ tw_60) (fun _ h9 => h9) rfl d_No_putBelow_83 ?_
          refine lv_iload_n hx hb d_No_putBelow_86 rfl (lv_at hl 1 rfl) ?_
          refine my_iald (v := (nI (v x))) (i := x) hx hb hK hP 17 0 rfl rfl (by omega) (by decide) rfl d_No_putBelow_87 ?_
          refine lv_ior hx hb d_No_putBelow_88 ?_
          refine my_ei (nx_or (v (i + 1)) (v x)) ?_
          refine my_iast (i := i + 1) hx hb hK hP hD hS 17 0 rfl rfl (by omega) (by decide) (my_upN _ _ _) (w' := (stW a rB rT cI cJ cII cJJ nc nv ng kd vo nu nd en (va_up br y (va_up (br y) (bc y) x)) (va_up bc y ((bc y) + 1)) (va_up u (i + 1) ((u (i + 1)) ||| (un x ||| 2 ^ x))) (va_up v (i + 1) ((v (i + 1)) ||| (v x))) li tb cc0 cp cu cd tc ts tf ox ow ob ra rb gc gr gk gg gp gt sa sb)) rfl d_No_putBelow_89 (fun H locs hP hD hS => ?_)
          refine lv_iinc (v := (nI (i + 1 + 1))) (lv' := [(5, .int (nI (i + 1 + 1))), (0, .ref (a 1)), (1, .int (nI x)), (2, .int (nI y)), (3, .long (lN (un x ||| 2 ^ x)))]) hx hb d_No_putBelow_90 hl (k := 4) rfl (nI_1 (i + 1)) (by decide) rfl (fun ls hl => ?_)
          refine lv_goto (tgt := 38) hx hb d_No_putBelow_93 (by decide) ?_
          refine ih_38 (i + 1) _ _ _ _ _ ?_ ?_ ?_ ?_ ?_ hP hD hS (lv_sub hl [1, 2, 3, 4, 0] rfl)
          · omega
          · omega
          · exact up_lt hu (or_lt (hu _) (or_lt (hun _) (Nat.pow_lt_pow_right (by decide) (by omega))))
          · exact up_lt hv (or_lt (hv _) (hv _))
          · have e1 : (pbS un eu y x i).1 = u := by rw [← hf]
            have e2 : (pbS un eu y x i).2 = v := by rw [← hf]
            rw [pbS_t (by rw [e1]; exact Or.inl c_50), e1, e2]
        · -- 50: not taken
          refine lv_aload_n hx hb d_No_putBelow_53 rfl (lv_at hl 0 rfl) ?_
          refine lv_iload_n hx hb d_No_putBelow_54 rfl (lv_at hl 2 rfl) ?_
          refine lv_iload hx hb d_No_putBelow_55 (lv_at hl 4 rfl) ?_
          refine my_V_i (q0 := 1) (ci := 1) (C := R_No) (As := [.int (nI y), .int (nI (i + 1))]) (n := 2) (k_No_isUnder l g a rB rT cI cJ cII cJJ nc nv ng kd vo nu nd en (va_up br y (va_up (br y) (bc y) x)) (va_up bc y ((bc y) + 1)) u v li tb cc0 cp cu cd tc ts tf ox ow ob ra rb gc gr gk gg gp gt sa sb y (i + 1) (by omega) (by omega) hu) hx hb hml hown hT hN tw_309 tw_302 tw_303 tw_2 tw_304 (by decide +kernel) rfl rfl ⟨Nat.le_of_ble_eq_true rfl, Nat.le_of_ble_eq_true rfl⟩ ⟨Nat.zero_le _, Nat.zero_le _⟩ hK hP hD hS hA rfl rfl rfl hl rfl (Nat.le_of_ble_eq_true rfl) d_No_putBelow_57 (fun H locs hP hD hS => ?_)
          refine my_if_eq_b (tgt := 90) hx hb d_No_putBelow_60 (by decide) (fun c_60 => ?_) (fun c_60 => ?_)
          · -- 60: taken
            refine lv_iinc (v := (nI (i + 1 + 1))) (lv' := [(5, .int (nI (i + 1 + 1))), (0, .ref (a 1)), (1, .int (nI x)), (2, .int (nI y)), (3, .long (lN (un x ||| 2 ^ x)))]) hx hb d_No_putBelow_90 hl (k := 4) rfl (nI_1 (i + 1)) (by decide) rfl (fun ls hl => ?_)
            refine lv_goto (tgt := 38) hx hb d_No_putBelow_93 (by decide) ?_
            refine ih_38 (i + 1) _ _ _ _ _ ?_ ?_ ?_ ?_ ?_ hP hD hS (lv_sub hl [1, 2, 3, 4, 0] rfl)
            · omega
            · omega
            · exact hu
            · exact hv
            · have e1 : (pbS un eu y x i).1 = u := by rw [← hf]
              have e2 : (pbS un eu y x i).2 = v := by rw [← hf]
              rw [pbS_f c_50 (by rw [e1]; exact c_60), hf]
          · -- 60: not taken
            refine lv_aload_n hx hb d_No_putBelow_63 rfl (lv_at hl 0 rfl) ?_
            refine va_get (D := g) (ci := 1) (v := .ref (a 16)) (C := R_No) (T := F_No) (N := 13) hx hb hT i_No hown hK hP 1 rfl rfl 10 (by decide) (hT _ tw_59) (fun _ h9 => h9) rfl d_No_putBelow_64 ?_
            refine lv_iload hx hb d_No_putBelow_67 (lv_at hl 4 rfl) ?_
            refine lv_dup2_11 hx hb d_No_putBelow_69 rfl rfl ?_
            refine my_lald (v := (lN (u (i + 1)))) (i := i + 1) hx hb hK hP 16 1 rfl rfl (by omega) (by decide) rfl d_No_putBelow_70 ?_
            refine lv_lload_n hx hb d_No_putBelow_71 rfl (lv_at hl 3 rfl) ?_
            refine lv_lor hx hb d_No_putBelow_72 ?_
            refine my_el (lx_or (u (i + 1)) (un x ||| 2 ^ x)) ?_
            refine my_last (i := i + 1) hx hb hK hP hD hS 16 1 rfl rfl (by omega) (by decide) (my_upL _ _ _) (w' := (stW a rB rT cI cJ cII cJJ nc nv ng kd vo nu nd en (va_up br y (va_up (br y) (bc y) x)) (va_up bc y ((bc y) + 1)) (va_up u (i + 1) ((u (i + 1)) ||| (un x ||| 2 ^ x))) v li tb cc0 cp cu cd tc ts tf ox ow ob ra rb gc gr gk gg gp gt sa sb)) rfl d_No_putBelow_73 (fun H locs hP hD hS => ?_)
            refine lv_aload_n hx hb d_No_putBelow_74 rfl (lv_at hl 0 rfl) ?_
            refine va_get (D := g) (ci := 1) (v := .ref (a 17)) (C := R_No) (T := F_No) (N := 13) hx hb hT i_No hown hK hP 1 rfl rfl 11 (by decide) (hT _ tw_60) (fun _ h9 => h9) rfl d_No_putBelow_75 ?_
            refine lv_iload hx hb d_No_putBelow_78 (lv_at hl 4 rfl) ?_
            refine lv_dup2_11 hx hb d_No_putBelow_80 rfl rfl ?_
            refine my_iald (v := (nI (v (i + 1)))) (i := i + 1) hx hb hK hP 17 0 rfl rfl (by omega) (by decide) rfl d_No_putBelow_81 ?_
            refine lv_aload_n hx hb d_No_putBelow_82 rfl (lv_at hl 0 rfl) ?_
            refine va_get (D := g) (ci := 1) (v := .ref (a 17)) (C := R_No) (T := F_No) (N := 13) hx hb hT i_No hown hK hP 1 rfl rfl 11 (by decide) (hT _ tw_60) (fun _ h9 => h9) rfl d_No_putBelow_83 ?_
            refine lv_iload_n hx hb d_No_putBelow_86 rfl (lv_at hl 1 rfl) ?_
            refine my_iald (v := (nI (v x))) (i := x) hx hb hK hP 17 0 rfl rfl (by omega) (by decide) rfl d_No_putBelow_87 ?_
            refine lv_ior hx hb d_No_putBelow_88 ?_
            refine my_ei (nx_or (v (i + 1)) (v x)) ?_
            refine my_iast (i := i + 1) hx hb hK hP hD hS 17 0 rfl rfl (by omega) (by decide) (my_upN _ _ _) (w' := (stW a rB rT cI cJ cII cJJ nc nv ng kd vo nu nd en (va_up br y (va_up (br y) (bc y) x)) (va_up bc y ((bc y) + 1)) (va_up u (i + 1) ((u (i + 1)) ||| (un x ||| 2 ^ x))) (va_up v (i + 1) ((v (i + 1)) ||| (v x))) li tb cc0 cp cu cd tc ts tf ox ow ob ra rb gc gr gk gg gp gt sa sb)) rfl d_No_putBelow_89 (fun H locs hP hD hS => ?_)
            refine lv_iinc (v := (nI (i + 1 + 1))) (lv' := [(5, .int (nI (i + 1 + 1))), (0, .ref (a 1)), (1, .int (nI x)), (2, .int (nI y)), (3, .long (lN (un x ||| 2 ^ x)))]) hx hb d_No_putBelow_90 hl (k := 4) rfl (nI_1 (i + 1)) (by decide) rfl (fun ls hl => ?_)
            refine lv_goto (tgt := 38) hx hb d_No_putBelow_93 (by decide) ?_
            refine ih_38 (i + 1) _ _ _ _ _ ?_ ?_ ?_ ?_ ?_ hP hD hS (lv_sub hl [1, 2, 3, 4, 0] rfl)
            · omega
            · omega
            · exact up_lt hu (or_lt (hu _) (or_lt (hun _) (Nat.pow_lt_pow_right (by decide) (by omega))))
            · exact up_lt hv (or_lt (hv _) (hv _))
            · have e1 : (pbS un eu y x i).1 = u := by rw [← hf]
              have e2 : (pbS un eu y x i).2 = v := by rw [← hf]
              rw [pbS_t (by rw [e1]; exact Or.inr c_60), e1, e2]
  refine lp_38 (nc + 1) 0 _ _ _ _ _ ?_ ?_ ?_ ?_ ?_ hP hD hS (lv_sub hl [2, 3, 4, 1, 0] rfl)
  · omega
  · omega
  · exact hun
  · exact heu
  · rfl
set_option maxHeartbeats 4000000 in
set_option maxRecDepth 100000 in
theorem k_No_lineUp (l : Launch) (g : va_G) (a rB rT : Nat → Nat) (cI cJ cII cJJ : ClassId) (nc : Nat) (nv : Nat) (ng : Nat) (kd : Nat → Int32) (vo : Nat → Nat) (nu : Nat → Nat) (nd : Nat → Nat) (en : Nat → Nat) (br : Nat → Nat → Nat) (bc : Nat → Nat) (un : Nat → Nat) (eu : Nat → Nat) (li : Nat → Nat) (tb : Nat → Nat → Int64) (cc0 : Nat) (cp : Nat → Nat) (cu : Nat → Nat) (cd : Nat → Nat) (tc : Nat) (ts : Nat → Nat) (tf : Nat → Nat) (ox : Bool) (ow : Nat → Nat) (ob : Nat → Nat) (ra : Nat) (rb : Nat) (gc : Nat) (gr : Nat) (gk : Nat → Nat) (gg : Nat → Nat) (gp : Nat → Nat) (gt : Nat → Nat) (sa : Nat) (sb : Nat) (x : Nat) (hx1 : x ≤ 32) (hnc : nc ≤ 32) (hun : ∀ j, un j < 2 ^ 33) : ct_i l g vwCl (tyS cI cJ cII cJJ) y_No_lineUp c_No_lineUp 6 (some .int) ({ frames := 2, cells := 0, slots := 0, locals := 42 } : Room) [.ref (a 1), .int (nI x)] (stW a rB rT cI cJ cII cJJ nc nv ng kd vo nu nd en br bc un eu li tb cc0 cp cu cd tc ts tf ox ow ob ra rb gc gr gk gg gp gt sa sb) (stW a rB rT cI cJ cII cJJ nc nv ng kd vo nu nd en br bc un eu ((luS (luC nc kd un x) nc (0, li) 33).2) tb cc0 cp cu cd tc ts tf ox ow ob ra rb gc gr gk gg gp gt sa sb) (nI ((luS (luC nc kd un x) nc (0, li) 33).1)) := by
  refine ct_i.intro (by decide) (Nat.le_of_ble_eq_true rfl) ?_
  intro p e s m args below meth c Q A ls hx hb hml hT hown hA hK hN hret hP hD hS hl
  have hown : s.vm.findClass R_No = some m.cls := hown
  have hl : lv_has ls 6 [(0, .ref (a 1)), (1, .int (nI x))] := hl
  refine lv_iconst (v := (nI 0)) hx hb d_No_lineUp_0 (by decide) ?_
  refine lv_istore_n (lv' := [(2, .int (nI 0)), (0, .ref (a 1)), (1, .int (nI x))]) hx hb d_No_lineUp_1 rfl hl (by decide) rfl (fun ls hl => ?_)
  refine lv_iconst (v := (nI 0)) hx hb d_No_lineUp_2 (by decide) ?_
  refine lv_istore_n (lv' := [(3, .int (nI 0)), (2, .int (nI 0)), (0, .ref (a 1)), (1, .int (nI x))]) hx hb d_No_lineUp_3 rfl hl (by decide) rfl (fun ls hl => ?_)
  have lp_4 : ∀ (k : Nat) (z : Nat) (n : Nat) (q : Nat → Nat) (H : Heap) (locs : List Loc) (ls : Array Slot), (33 < z + k) → (z ≤ 33) → (n ≤ 20) → ((n, q) = luS (luC nc kd un x) nc (0, li) z) → va_P g vwCl (stW a rB rT cI cJ cII cJJ nc nv ng kd vo nu nd en br bc un eu q tb cc0 cp cu cd tc ts tf ox ow ob ra rb gc gr gk gg gp gt sa sb) H → va_D A (stW a rB rT cI cJ cII cJJ nc nv ng kd vo nu nd en br bc un eu q tb cc0 cp cu cd tc ts tf ox ow ob ra rb gc gr gk gg gp gt sa sb) → va_S A s.heap H locs → lv_has ls 6 [(0, .ref (a 1)), (1, .int (nI x)), (2, .int (nI n)), (3, .int (nI z))] → W p l e ({ frames := 2, cells := 0, slots := 0, locals := 42 } : Room) s m args below meth c H locs 0 0 Q (F0 m 4 ls []) := by
    intro k
    induction k with
    | zero =>
      intro z n q H locs ls hk hz hn hf hP hD hS hl
      exfalso
      omega
    | succ k ih_4 =>
      intro z n q H locs ls hk hz hn hf hP hD hS hl
      refine lv_iload_n hx hb d_No_lineUp_4 rfl (lv_at hl 3 rfl) ?_
      refine lv_bipush (v := (nI 32)) hx hb d_No_lineUp_5 (by decide) ?_
      refine my_icmp_gt (tgt := 102) (a := z) (b := 32) hx hb d_No_lineUp_7 (by decide) (by omega) (by omega) (fun c_7 => ?_) (fun c_7 => ?_)
      · -- 7: taken
        have e1 : (luS (luC nc kd un x) nc (0, li) 33).1 = n := by rw [show 33 = z by omega, ← hf]
        have e2 : (luS (luC nc kd un x) nc (0, li) 33).2 = q := by rw [show 33 = z by omega, ← hf]
        rw [← e2] at hP hD
        refine lv_iload_n hx hb d_No_lineUp_102 rfl (lv_at hl 2 rfl) ?_
        refine hret _ _ _ _ _ hP hD hS d_No_lineUp_103 ?_
        rw [e1]
      · -- 7: not taken
        refine lv_iconst (v := (nI 1)) hx hb d_No_lineUp_10 (by decide) ?_
        refine lv_istore (lv' := [(4, .int (nI 1)), (0, .ref (a 1)), (1, .int (nI x)), (2, .int (nI n)), (3, .int (nI z))]) hx hb d_No_lineUp_11 hl (by decide) rfl (fun ls hl => ?_)
        have lp_13 : ∀ (k2 : Nat) (j : Nat) (n2 : Nat) (q2 : Nat → Nat) (H : Heap) (locs : List Loc) (ls : Array Slot), (nc < j + k2) → (j ≤ nc) → (n2 ≤ 20) → ((n2, q2) = luN (luC nc kd un x z) (luS (luC nc kd un x) nc (0, li) z) j) → va_P g vwCl (stW a rB rT cI cJ cII cJJ nc nv ng kd vo nu nd en br bc un eu q2 tb cc0 cp cu cd tc ts tf ox ow ob ra rb gc gr gk gg gp gt sa sb) H → va_D A (stW a rB rT cI cJ cII cJJ nc nv ng kd vo nu nd en br bc un eu q2 tb cc0 cp cu cd tc ts tf ox ow ob ra rb gc gr gk gg gp gt sa sb) → va_S A s.heap H locs → lv_has ls 6 [(0, .ref (a 1)), (1, .int (nI x)), (2, .int (nI n2)), (3, .int (nI z)), (4, .int (nI (j + 1)))] → W p l e ({ frames := 2, cells := 0, slots := 0, locals := 42 } : Room) s m args below meth c H locs 0 0 Q (F0 m 13 ls []) := by
          intro k2
          induction k2 with
          | zero =>
            intro j n2 q2 H locs ls hk2 hj hn2 hf2 hP hD hS hl
            exfalso
            omega
          | succ k2 ih_13 =>
            intro j n2 q2 H locs ls hk2 hj hn2 hf2 hP hD hS hl
            refine lv_iload hx hb d_No_lineUp_13 (lv_at hl 4 rfl) ?_
            refine lv_aload_n hx hb d_No_lineUp_15 rfl (lv_at hl 0 rfl) ?_
            refine va_get (D := g) (ci := 1) (v := .int (nI nc)) (C := R_No) (T := F_No) (N := 13) hx hb hT i_No hown hK hP 1 rfl rfl 0 (by decide) (hT _ tw_33) (fun _ h9 => h9) rfl d_No_lineUp_16 ?_
            refine my_icmp_gt (tgt := 96) (a := j + 1) (b := nc) hx hb d_No_lineUp_19 (by decide) (by omega) (by omega) (fun c_19 => ?_) (fun c_19 => ?_)
            · -- 19: taken
              refine lv_iinc (v := (nI (z + 1))) (lv' := [(3, .int (nI (z + 1))), (0, .ref (a 1)), (1, .int (nI x)), (2, .int (nI n2)), (4, .int (nI (j + 1)))]) hx hb d_No_lineUp_96 hl (k := 3) rfl (nI_1 z) (by decide) rfl (fun ls hl => ?_)
              refine lv_goto (tgt := 4) hx hb d_No_lineUp_99 (by decide) ?_
              refine ih_4 _ _ _ _ _ _ ?_ ?_ ?_ ?_ hP hD hS (lv_sub hl [1, 2, 3, 0] rfl)
              · omega
              · omega
              · exact hn2
              · rw [hf2, show nc = j by omega]; rfl
            · -- 19: not taken
              refine lv_iload hx hb d_No_lineUp_22 (lv_at hl 4 rfl) ?_
              refine lv_iload_n hx hb d_No_lineUp_24 rfl (lv_at hl 1 rfl) ?_
              refine my_icmp_eq (tgt := 38) (a := j + 1) (b := x) hx hb d_No_lineUp_25 (by decide) (by omega) (by omega) (fun c_25 => ?_) (fun c_25 => ?_)
              · -- 25: taken
                refine lv_iconst (v := (nI 1)) hx hb d_No_lineUp_38 (by decide) ?_
                refine lv_goto (tgt := 43) hx hb d_No_lineUp_39 (by decide) ?_
                refine lv_istore (lv' := [(5, .int (nI 1)), (0, .ref (a 1)), (1, .int (nI x)), (2, .int (nI n2)), (3, .int (nI z)), (4, .int (nI (j + 1)))]) hx hb d_No_lineUp_43 hl (by decide) rfl (fun ls hl => ?_)
                refine lv_iload hx hb d_No_lineUp_45 (lv_at hl 0 rfl) ?_
                refine lv_if_eq (tgt := 90) hx hb d_No_lineUp_47 (by decide) (fun q => absurd q (by decide)) (fun _ => ?_)
                refine lv_aload_n hx hb d_No_lineUp_50 rfl (lv_at hl 1 rfl) ?_
                refine lv_iload hx hb d_No_lineUp_51 (lv_at hl 5 rfl) ?_
                refine my_V_i (q0 := 1) (ci := 1) (C := R_No) (As := [.int (nI (j + 1))]) (n := 1) (k_No_isGate l g a rB rT cI cJ cII cJJ nc nv ng kd vo nu nd en br bc un eu q2 tb cc0 cp cu cd tc ts tf ox ow ob ra rb gc gr gk gg gp gt sa sb (nI (j + 1)) hnc) hx hb hml hown hT hN tw_335 tw_289 tw_290 tw_2 tw_291 (by decide +kernel) rfl rfl ⟨Nat.le_of_ble_eq_true rfl, Nat.le_of_ble_eq_true rfl⟩ ⟨Nat.zero_le _, Nat.zero_le _⟩ hK hP hD hS hA rfl rfl rfl hl rfl (Nat.le_of_ble_eq_true rfl) d_No_lineUp_53 (fun H locs hP hD hS => ?_)
                refine my_if_eq_b (tgt := 90) hx hb d_No_lineUp_56 (by decide) (fun c_56 => ?_) (fun c_56 => ?_)
                · -- 56: taken
                  refine lv_iinc (v := (nI (j + 1 + 1))) (lv' := [(4, .int (nI (j + 1 + 1))), (5, .int (nI 1)), (0, .ref (a 1)), (1, .int (nI x)), (2, .int (nI n2)), (3, .int (nI z))]) hx hb d_No_lineUp_90 hl (k := 5) rfl (nI_1 (j + 1)) (by decide) rfl (fun ls hl => ?_)
                  refine lv_goto (tgt := 13) hx hb d_No_lineUp_93 (by decide) ?_
                  refine ih_13 (j + 1) _ _ _ _ _ ?_ ?_ ?_ ?_ hP hD hS (lv_sub hl [2, 3, 4, 5, 0] rfl)
                  · omega
                  · omega
                  · omega
                  · have e1 : (luN (luC nc kd un x z) (luS (luC nc kd un x) nc (0, li) z) j).1 = n2 := by rw [← hf2]
                    have e2 : (luN (luC nc kd un x z) (luS (luC nc kd un x) nc (0, li) z) j).2 = q2 := by rw [← hf2]
                    rw [luN_f (fun hh => by simp [luC, c_56] at hh), hf2]
                · -- 56: not taken
                  refine lv_aload_n hx hb d_No_lineUp_59 rfl (lv_at hl 1 rfl) ?_
                  refine va_get (D := g) (ci := 1) (v := .ref (a 16)) (C := R_No) (T := F_No) (N := 13) hx hb hT i_No hown hK hP 1 rfl rfl 10 (by decide) (hT _ tw_59) (fun _ h9 => h9) rfl d_No_lineUp_60 ?_
                  refine lv_iload hx hb d_No_lineUp_63 (lv_at hl 5 rfl) ?_
                  refine my_lald (v := (lN (un (j + 1)))) (i := j + 1) hx hb hK hP 16 1 rfl rfl (by omega) (by decide) rfl d_No_lineUp_65 ?_
                  refine my_S_i (As := [.long (lN (un (j + 1)))]) (n := 1) (k_Jl_bitCount l g vwCl (tyS cI cJ cII cJJ) (stW a rB rT cI cJ cII cJJ nc nv ng kd vo nu nd en br bc un eu q2 tb cc0 cp cu cd tc ts tf ox ow ob ra rb gc gr gk gg gp gt sa sb) (un (j + 1)) (Nat.lt_trans (hun _) (by decide))) hx hb hml hown hT hN tw_336 tw_337 tw_11 tw_338 (by decide +kernel) rfl rfl ⟨Nat.le_of_ble_eq_true rfl, Nat.le_of_ble_eq_true rfl⟩ ⟨Nat.zero_le _, Nat.zero_le _⟩ hK hP hD hS hA rfl hl rfl (Nat.le_of_ble_eq_true rfl) d_No_lineUp_66 (fun H locs hP hD hS => ?_)
                  refine lv_iload_n hx hb d_No_lineUp_69 rfl (lv_at hl 4 rfl) ?_
                  have qz := popc_le (un (j + 1)) 64
                  refine my_icmp_ne (tgt := 90) (a := popc (un (j + 1)) 64) (b := z) hx hb d_No_lineUp_70 (by decide) (by omega) (by omega) (fun c_70 => ?_) (fun c_70 => ?_)
                  · -- 70: taken
                    refine lv_iinc (v := (nI (j + 1 + 1))) (lv' := [(4, .int (nI (j + 1 + 1))), (5, .int (nI 1)), (0, .ref (a 1)), (1, .int (nI x)), (2, .int (nI n2)), (3, .int (nI z))]) hx hb d_No_lineUp_90 hl (k := 5) rfl (nI_1 (j + 1)) (by decide) rfl (fun ls hl => ?_)
                    refine lv_goto (tgt := 13) hx hb d_No_lineUp_93 (by decide) ?_
                    refine ih_13 (j + 1) _ _ _ _ _ ?_ ?_ ?_ ?_ hP hD hS (lv_sub hl [2, 3, 4, 5, 0] rfl)
                    · omega
                    · omega
                    · omega
                    · have e1 : (luN (luC nc kd un x z) (luS (luC nc kd un x) nc (0, li) z) j).1 = n2 := by rw [← hf2]
                      have e2 : (luN (luC nc kd un x z) (luS (luC nc kd un x) nc (0, li) z) j).2 = q2 := by rw [← hf2]
                      rw [luN_f (fun hh => by simp [luC, c_70] at hh), hf2]
                  · -- 70: not taken
                    refine lv_iload_n hx hb d_No_lineUp_73 rfl (lv_at hl 3 rfl) ?_
                    refine lv_bipush (v := (nI 20)) hx hb d_No_lineUp_74 (by decide) ?_
                    refine my_icmp_ge (tgt := 90) (a := n2) (b := 20) hx hb d_No_lineUp_76 (by decide) (by omega) (by omega) (fun c_76 => ?_) (fun c_76 => ?_)
                    · -- 76: taken
                      refine lv_iinc (v := (nI (j + 1 + 1))) (lv' := [(4, .int (nI (j + 1 + 1))), (5, .int (nI 1)), (0, .ref (a 1)), (1, .int (nI x)), (2, .int (nI n2)), (3, .int (nI z))]) hx hb d_No_lineUp_90 hl (k := 5) rfl (nI_1 (j + 1)) (by decide) rfl (fun ls hl => ?_)
                      refine lv_goto (tgt := 13) hx hb d_No_lineUp_93 (by decide) ?_
                      refine ih_13 (j + 1) _ _ _ _ _ ?_ ?_ ?_ ?_ hP hD hS (lv_sub hl [2, 3, 4, 5, 0] rfl)
                      · omega
                      · omega
                      · omega
                      · have e1 : (luN (luC nc kd un x z) (luS (luC nc kd un x) nc (0, li) z) j).1 = n2 := by rw [← hf2]
                        have e2 : (luN (luC nc kd un x z) (luS (luC nc kd un x) nc (0, li) z) j).2 = q2 := by rw [← hf2]
                        rw [luN_f (fun hh => by omega), hf2]
                    · -- 76: not taken
                      refine lv_aload_n hx hb d_No_lineUp_79 rfl (lv_at hl 1 rfl) ?_
                      refine va_get (D := g) (ci := 1) (v := .ref (a 18)) (C := R_No) (T := F_No) (N := 13) hx hb hT i_No hown hK hP 1 rfl rfl 12 (by decide) (hT _ tw_64) (fun _ h9 => h9) rfl d_No_lineUp_80 ?_
                      refine lv_iload_n hx hb d_No_lineUp_83 rfl (lv_at hl 3 rfl) ?_
                      refine lv_iload hx hb d_No_lineUp_84 (lv_at hl 5 rfl) ?_
                      refine my_iast (i := n2) hx hb hK hP hD hS 18 0 rfl rfl (by omega) (by decide) (my_upN _ _ _) (w' := (stW a rB rT cI cJ cII cJJ nc nv ng kd vo nu nd en br bc un eu (va_up q2 n2 (j + 1)) tb cc0 cp cu cd tc ts tf ox ow ob ra rb gc gr gk gg gp gt sa sb)) rfl d_No_lineUp_86 (fun H locs hP hD hS => ?_)
                      refine lv_iinc (v := (nI (n2 + 1))) (lv' := [(2, .int (nI (n2 + 1))), (5, .int (nI 1)), (0, .ref (a 1)), (1, .int (nI x)), (3, .int (nI z)), (4, .int (nI (j + 1)))]) hx hb d_No_lineUp_87 hl (k := 3) rfl (nI_1 n2) (by decide) rfl (fun ls hl => ?_)
                      refine lv_iinc (v := (nI (j + 1 + 1))) (lv' := [(4, .int (nI (j + 1 + 1))), (2, .int (nI (n2 + 1))), (5, .int (nI 1)), (0, .ref (a 1)), (1, .int (nI x)), (3, .int (nI z))]) hx hb d_No_lineUp_90 hl (k := 5) rfl (nI_1 (j + 1)) (by decide) rfl (fun ls hl => ?_)
                      refine lv_goto (tgt := 13) hx hb d_No_lineUp_93 (by decide) ?_
                      refine ih_13 (j + 1) _ _ _ _ _ ?_ ?_ ?_ ?_ hP hD hS (lv_sub hl [3, 4, 1, 5, 0] rfl)
                      · omega
                      · omega
                      · omega
                      · have e1 : (luN (luC nc kd un x z) (luS (luC nc kd un x) nc (0, li) z) j).1 = n2 := by rw [← hf2]
                        have e2 : (luN (luC nc kd un x z) (luS (luC nc kd un x) nc (0, li) z) j).2 = q2 := by rw [← hf2]
                        rw [luN_t (by show ((decide _ || _) && _ && _) = true; rw [c_56, decide_eq_true c_70]; simp [c_25]) (by omega), e1, e2]
              · -- 25: not taken
                refine lv_aload_n hx hb d_No_lineUp_28 rfl (lv_at hl 0 rfl) ?_
                refine lv_iload hx hb d_No_lineUp_29 (lv_at hl 4 rfl) ?_
                refine lv_iload_n hx hb d_No_lineUp_31 rfl (lv_at hl 1 rfl) ?_
                refine my_V_i (q0 := 1) (ci := 1) (C := R_No) (As := [.int (nI (j + 1)), .int (nI x)]) (n := 2) (k_No_isUnder l g a rB rT cI cJ cII cJJ nc nv ng kd vo nu nd en br bc un eu q2 tb cc0 cp cu cd tc ts tf ox ow ob ra rb gc gr gk gg gp gt sa sb (j + 1) x (by omega) (by omega) hun) hx hb hml hown hT hN tw_309 tw_302 tw_303 tw_2 tw_304 (by decide +kernel) rfl rfl ⟨Nat.le_of_ble_eq_true rfl, Nat.le_of_ble_eq_true rfl⟩ ⟨Nat.zero_le _, Nat.zero_le _⟩ hK hP hD hS hA rfl rfl rfl hl rfl (Nat.le_of_ble_eq_true rfl) d_No_lineUp_32 (fun H locs hP hD hS => ?_)
                refine my_if_eq_b (tgt := 42) hx hb d_No_lineUp_35 (by decide) (fun c_35 => ?_) (fun c_35 => ?_)
                · -- 35: taken
                  refine lv_iconst (v := (nI 0)) hx hb d_No_lineUp_42 (by decide) ?_
                  refine lv_istore (lv' := [(5, .int (nI 0)), (0, .ref (a 1)), (1, .int (nI x)), (2, .int (nI n2)), (3, .int (nI z)), (4, .int (nI (j + 1)))]) hx hb d_No_lineUp_43 hl (by decide) rfl (fun ls hl => ?_)
                  refine lv_iload hx hb d_No_lineUp_45 (lv_at hl 0 rfl) ?_
                  refine lv_if_eq (tgt := 90) hx hb d_No_lineUp_47 (by decide) (fun _ => ?_) (fun q => absurd (by decide) q)
                  refine lv_iinc (v := (nI (j + 1 + 1))) (lv' := [(4, .int (nI (j + 1 + 1))), (5, .int (nI 0)), (0, .ref (a 1)), (1, .int (nI x)), (2, .int (nI n2)), (3, .int (nI z))]) hx hb d_No_lineUp_90 hl (k := 5) rfl (nI_1 (j + 1)) (by decide) rfl (fun ls hl => ?_)
                  refine lv_goto (tgt := 13) hx hb d_No_lineUp_93 (by decide) ?_
                  refine ih_13 (j + 1) _ _ _ _ _ ?_ ?_ ?_ ?_ hP hD hS (lv_sub hl [2, 3, 4, 5, 0] rfl)
                  · omega
                  · omega
                  · omega
                  · have e1 : (luN (luC nc kd un x z) (luS (luC nc kd un x) nc (0, li) z) j).1 = n2 := by rw [← hf2]
                    have e2 : (luN (luC nc kd un x z) (luS (luC nc kd un x) nc (0, li) z) j).2 = q2 := by rw [← hf2]
                    rw [luN_f (fun hh => by simp [luC, c_25, c_35] at hh), hf2]
                · -- 35: not taken
                  refine lv_iconst (v := (nI 1)) hx hb d_No_lineUp_38 (by decide) ?_
                  refine lv_goto (tgt := 43) hx hb d_No_lineUp_39 (by decide) ?_
                  refine lv_istore (lv' := [(5, .int (nI 1)), (0, .ref (a 1)), (1, .int (nI x)), (2, .int (nI n2)), (3, .int (nI z)), (4, .int (nI (j + 1)))]) hx hb d_No_lineUp_43 hl (by decide) rfl (fun ls hl => ?_)
                  refine lv_iload hx hb d_No_lineUp_45 (lv_at hl 0 rfl) ?_
                  refine lv_if_eq (tgt := 90) hx hb d_No_lineUp_47 (by decide) (fun q => absurd q (by decide)) (fun _ => ?_)
                  refine lv_aload_n hx hb d_No_lineUp_50 rfl (lv_at hl 1 rfl) ?_
                  refine lv_iload hx hb d_No_lineUp_51 (lv_at hl 5 rfl) ?_
                  refine my_V_i (q0 := 1) (ci := 1) (C := R_No) (As := [.int (nI (j + 1))]) (n := 1) (k_No_isGate l g a rB rT cI cJ cII cJJ nc nv ng kd vo nu nd en br bc un eu q2 tb cc0 cp cu cd tc ts tf ox ow ob ra rb gc gr gk gg gp gt sa sb (nI (j + 1)) hnc) hx hb hml hown hT hN tw_335 tw_289 tw_290 tw_2 tw_291 (by decide +kernel) rfl rfl ⟨Nat.le_of_ble_eq_true rfl, Nat.le_of_ble_eq_true rfl⟩ ⟨Nat.zero_le _, Nat.zero_le _⟩ hK hP hD hS hA rfl rfl rfl hl rfl (Nat.le_of_ble_eq_true rfl) d_No_lineUp_53 (fun H locs hP hD hS => ?_)
                  refine my_if_eq_b (tgt := 90) hx hb d_No_lineUp_56 (by decide) (fun c_56 => ?_) (fun c_56 => ?_)
                  · -- 56: taken
                    refine lv_iinc (v := (nI (j + 1 + 1))) (lv' := [(4, .int (nI (j + 1 + 1))), (5, .int (nI 1)), (0, .ref (a 1)), (1, .int (nI x)), (2, .int (nI n2)), (3, .int (nI z))]) hx hb d_No_lineUp_90 hl (k := 5) rfl (nI_1 (j + 1)) (by decide) rfl (fun ls hl => ?_)
                    refine lv_goto (tgt := 13) hx hb d_No_lineUp_93 (by decide) ?_
                    refine ih_13 (j + 1) _ _ _ _ _ ?_ ?_ ?_ ?_ hP hD hS (lv_sub hl [2, 3, 4, 5, 0] rfl)
                    · omega
                    · omega
                    · omega
                    · have e1 : (luN (luC nc kd un x z) (luS (luC nc kd un x) nc (0, li) z) j).1 = n2 := by rw [← hf2]
                      have e2 : (luN (luC nc kd un x z) (luS (luC nc kd un x) nc (0, li) z) j).2 = q2 := by rw [← hf2]
                      rw [luN_f (fun hh => by simp [luC, c_56] at hh), hf2]
                  · -- 56: not taken
                    refine lv_aload_n hx hb d_No_lineUp_59 rfl (lv_at hl 1 rfl) ?_
                    refine va_get (D := g) (ci := 1) (v := .ref (a 16)) (C := R_No) (T := F_No) (N := 13) hx hb hT i_No hown hK hP 1 rfl rfl 10 (by decide) (hT _ tw_59) (fun _ h9 => h9) rfl d_No_lineUp_60 ?_
                    refine lv_iload hx hb d_No_lineUp_63 (lv_at hl 5 rfl) ?_
                    refine my_lald (v := (lN (un (j + 1)))) (i := j + 1) hx hb hK hP 16 1 rfl rfl (by omega) (by decide) rfl d_No_lineUp_65 ?_
                    refine my_S_i (As := [.long (lN (un (j + 1)))]) (n := 1) (k_Jl_bitCount l g vwCl (tyS cI cJ cII cJJ) (stW a rB rT cI cJ cII cJJ nc nv ng kd vo nu nd en br bc un eu q2 tb cc0 cp cu cd tc ts tf ox ow ob ra rb gc gr gk gg gp gt sa sb) (un (j + 1)) (Nat.lt_trans (hun _) (by decide))) hx hb hml hown hT hN tw_336 tw_337 tw_11 tw_338 (by decide +kernel) rfl rfl ⟨Nat.le_of_ble_eq_true rfl, Nat.le_of_ble_eq_true rfl⟩ ⟨Nat.zero_le _, Nat.zero_le _⟩ hK hP hD hS hA rfl hl rfl (Nat.le_of_ble_eq_true rfl) d_No_lineUp_66 (fun H locs hP hD hS => ?_)
                    refine lv_iload_n hx hb d_No_lineUp_69 rfl (lv_at hl 4 rfl) ?_
                    have qz := popc_le (un (j + 1)) 64
                    refine my_icmp_ne (tgt := 90) (a := popc (un (j + 1)) 64) (b := z) hx hb d_No_lineUp_70 (by decide) (by omega) (by omega) (fun c_70 => ?_) (fun c_70 => ?_)
                    · -- 70: taken
                      refine lv_iinc (v := (nI (j + 1 + 1))) (lv' := [(4, .int (nI (j + 1 + 1))), (5, .int (nI 1)), (0, .ref (a 1)), (1, .int (nI x)), (2, .int (nI n2)), (3, .int (nI z))]) hx hb d_No_lineUp_90 hl (k := 5) rfl (nI_1 (j + 1)) (by decide) rfl (fun ls hl => ?_)
                      refine lv_goto (tgt := 13) hx hb d_No_lineUp_93 (by decide) ?_
                      refine ih_13 (j + 1) _ _ _ _ _ ?_ ?_ ?_ ?_ hP hD hS (lv_sub hl [2, 3, 4, 5, 0] rfl)
                      · omega
                      · omega
                      · omega
                      · have e1 : (luN (luC nc kd un x z) (luS (luC nc kd un x) nc (0, li) z) j).1 = n2 := by rw [← hf2]
                        have e2 : (luN (luC nc kd un x z) (luS (luC nc kd un x) nc (0, li) z) j).2 = q2 := by rw [← hf2]
                        rw [luN_f (fun hh => by simp [luC, c_70] at hh), hf2]
                    · -- 70: not taken
                      refine lv_iload_n hx hb d_No_lineUp_73 rfl (lv_at hl 3 rfl) ?_
                      refine lv_bipush (v := (nI 20)) hx hb d_No_lineUp_74 (by decide) ?_
                      refine my_icmp_ge (tgt := 90) (a := n2) (b := 20) hx hb d_No_lineUp_76 (by decide) (by omega) (by omega) (fun c_76 => ?_) (fun c_76 => ?_)
                      · -- 76: taken
                        refine lv_iinc (v := (nI (j + 1 + 1))) (lv' := [(4, .int (nI (j + 1 + 1))), (5, .int (nI 1)), (0, .ref (a 1)), (1, .int (nI x)), (2, .int (nI n2)), (3, .int (nI z))]) hx hb d_No_lineUp_90 hl (k := 5) rfl (nI_1 (j + 1)) (by decide) rfl (fun ls hl => ?_)
                        refine lv_goto (tgt := 13) hx hb d_No_lineUp_93 (by decide) ?_
                        refine ih_13 (j + 1) _ _ _ _ _ ?_ ?_ ?_ ?_ hP hD hS (lv_sub hl [2, 3, 4, 5, 0] rfl)
                        · omega
                        · omega
                        · omega
                        · have e1 : (luN (luC nc kd un x z) (luS (luC nc kd un x) nc (0, li) z) j).1 = n2 := by rw [← hf2]
                          have e2 : (luN (luC nc kd un x z) (luS (luC nc kd un x) nc (0, li) z) j).2 = q2 := by rw [← hf2]
                          rw [luN_f (fun hh => by omega), hf2]
                      · -- 76: not taken
                        refine lv_aload_n hx hb d_No_lineUp_79 rfl (lv_at hl 1 rfl) ?_
                        refine va_get (D := g) (ci := 1) (v := .ref (a 18)) (C := R_No) (T := F_No) (N := 13) hx hb hT i_No hown hK hP 1 rfl rfl 12 (by decide) (hT _ tw_64) (fun _ h9 => h9) rfl d_No_lineUp_80 ?_
                        refine lv_iload_n hx hb d_No_lineUp_83 rfl (lv_at hl 3 rfl) ?_
                        refine lv_iload hx hb d_No_lineUp_84 (lv_at hl 5 rfl) ?_
                        refine my_iast (i := n2) hx hb hK hP hD hS 18 0 rfl rfl (by omega) (by decide) (my_upN _ _ _) (w' := (stW a rB rT cI cJ cII cJJ nc nv ng kd vo nu nd en br bc un eu (va_up q2 n2 (j + 1)) tb cc0 cp cu cd tc ts tf ox ow ob ra rb gc gr gk gg gp gt sa sb)) rfl d_No_lineUp_86 (fun H locs hP hD hS => ?_)
                        refine lv_iinc (v := (nI (n2 + 1))) (lv' := [(2, .int (nI (n2 + 1))), (5, .int (nI 1)), (0, .ref (a 1)), (1, .int (nI x)), (3, .int (nI z)), (4, .int (nI (j + 1)))]) hx hb d_No_lineUp_87 hl (k := 3) rfl (nI_1 n2) (by decide) rfl (fun ls hl => ?_)
                        refine lv_iinc (v := (nI (j + 1 + 1))) (lv' := [(4, .int (nI (j + 1 + 1))), (2, .int (nI (n2 + 1))), (5, .int (nI 1)), (0, .ref (a 1)), (1, .int (nI x)), (3, .int (nI z))]) hx hb d_No_lineUp_90 hl (k := 5) rfl (nI_1 (j + 1)) (by decide) rfl (fun ls hl => ?_)
                        refine lv_goto (tgt := 13) hx hb d_No_lineUp_93 (by decide) ?_
                        refine ih_13 (j + 1) _ _ _ _ _ ?_ ?_ ?_ ?_ hP hD hS (lv_sub hl [3, 4, 1, 5, 0] rfl)
                        · omega
                        · omega
                        · omega
                        · have e1 : (luN (luC nc kd un x z) (luS (luC nc kd un x) nc (0, li) z) j).1 = n2 := by rw [← hf2]
                          have e2 : (luN (luC nc kd un x z) (luS (luC nc kd un x) nc (0, li) z) j).2 = q2 := by rw [← hf2]
                          rw [luN_t (by show ((decide _ || _) && _ && _) = true; rw [c_56, decide_eq_true c_70]; simp [c_35]) (by omega), e1, e2]
        refine lp_13 (nc + 1) 0 _ _ _ _ _ ?_ ?_ ?_ ?_ hP hD hS (lv_sub hl [1, 2, 3, 4, 0] rfl)
        · omega
        · omega
        · exact hn
        · rw [hf]; rfl
  refine lp_4 (34) _ _ _ _ _ _ ?_ ?_ ?_ ?_ hP hD hS (lv_sub hl [2, 3, 1, 0] rfl)
  · omega
  · omega
  · omega
  · rfl
end
section
def isW (v lo hi : Int32) : Bool := decide (¬ v < lo) && decide (¬ hi < v)
def isD (d : Int64) : Bool := decide (¬ d < lN 1) && decide (¬ lN 10 < d)
def isK (k n : Int32) : Bool := if k = nI 2 then isW n (nI 1) (nI 10) else (decide (k = 0) || decide (k = nI 1)) && decide (n = 0)
theorem and4095 {w : Nat} (h : w < 4096) : w &&& 4095 = w := by
  rw [show (4095 : Nat) = 2 ^ 12 - 1 from rfl, Nat.and_two_pow_sub_one_eq_mod, Nat.mod_eq_of_lt h]
theorem nxS {s w : Nat} (hw : w < 2 ^ 32) : nI s - nI w = nI (s + 2 ^ 32 - w) := by
  apply Int32.toBitVec_inj.1
  show BitVec.ofNat 32 s - BitVec.ofNat 32 w = BitVec.ofNat 32 (s + 2 ^ 32 - w)
  rw [BitVec.ofNat_sub_ofNat, Nat.mod_eq_of_lt hw]
  congr 1
  omega
def wD (n : Nat) (d e : Int64) : Int64 := if n &&& 1 = 0 then d ||| e else d &&& e
def alF (tb : Nat → Nat → Int64) (br : Nat → Nat → Nat) (x w : Nat) : Nat → Int64
  | 0 => -1
  | i + 1 => alF tb br x w i &&& tb (br x i) w
def anF (tb : Nat → Nat → Int64) (br : Nat → Nat → Nat) (x w : Nat) : Nat → Int64
  | 0 => lN 0
  | i + 1 => anF tb br x w i ||| tb (br x i) w
/-- the votes so far, by digits -/
def vS (tb : Nat → Nat → Int64) (br : Nat → Nat → Nat) (x w : Nat) : Nat → Int64 × Int64 × Int64 × Int64
  | 0 => (lN 0, lN 0, lN 0, lN 0)
  | i + 1 =>
    ((vS tb br x w i).1 ^^^ tb (br x i) w,
     (vS tb br x w i).2.1 ^^^ ((vS tb br x w i).1 &&& tb (br x i) w),
     (vS tb br x w i).2.2.1 ^^^ ((vS tb br x w i).2.1 &&& ((vS tb br x w i).1 &&& tb (br x i) w)),
     (vS tb br x w i).2.2.2 ^^^ ((vS tb br x w i).2.2.1 &&& ((vS tb br x w i).2.1 &&& ((vS tb br x w i).1 &&& tb (br x i) w))))
def voF (n : Nat) (s : Int64 × Int64 × Int64 × Int64) : Int64 := wD (n / 2 ^ 3) s.2.2.2 (wD (n / 2 ^ 2) s.2.2.1 (wD (n / 2 ^ 1) s.2.1 (wD n s.1 (-1))))
def gwF (tb : Nat → Nat → Int64) (br : Nat → Nat → Nat) (kd : Nat → Int32) (vo bc : Nat → Nat) (x w : Nat) : Int64 :=
  if kd x = 0 then alF tb br x w (bc x) else if kd x = 1 then anF tb br x w (bc x) else voF (vo x) (vS tb br x w (bc x))
def fgF (tb : Nat → Nat → Int64) (br : Nat → Nat → Nat) (kd : Nat → Int32) (vo bc : Nat → Nat) (x r : Nat) : Nat → (Nat → Nat → Int64)
  | 0 => tb
  | i + 1 => if i &&& r = i then va_up (fgF tb br kd vo bc x r i) x (va_up (fgF tb br kd vo bc x r i x) i (gwF (fgF tb br kd vo bc x r i) br kd vo bc x i)) else fgF tb br kd vo bc x r i
def fsF (tb : Nat → Nat → Int64) (br : Nat → Nat → Nat) (kd : Nat → Int32) (vo bc : Nat → Nat) (li : Nat → Nat) (r : Nat) : Nat → (Nat → Nat → Int64)
  | 0 => tb
  | i + 1 => fgF (fsF tb br kd vo bc li r i) br kd vo bc (li i) r 64
theorem luN_in (cnd : Nat → Bool) (s : Nat × (Nat → Nat)) {n : Nat} (h : ∀ i, i < s.1 → 1 ≤ s.2 i ∧ s.2 i ≤ n) : ∀ j, j ≤ n → ∀ i, i < (luN cnd s j).1 → 1 ≤ (luN cnd s j).2 i ∧ (luN cnd s j).2 i ≤ n
  | 0, _ => h
  | j + 1, hj => by
    have ih := luN_in cnd s h j (by omega)
    by_cases c : cnd (j + 1) = true ∧ (luN cnd s j).1 < 20
    · rw [luN_t c.1 c.2]
      intro i hi
      show 1 ≤ va_up _ _ _ i ∧ va_up _ _ _ i ≤ n
      unfold va_up
      split
      · omega
      · exact ih i (by have hi2 : i < (luN cnd s j).1 + 1 := hi; omega)
    · rw [luN_f c]; exact ih
theorem luS_in (cnd : Nat → Nat → Bool) (nc : Nat) (li : Nat → Nat) : ∀ z i, i < (luS cnd nc (0, li) z).1 → 1 ≤ (luS cnd nc (0, li) z).2 i ∧ (luS cnd nc (0, li) z).2 i ≤ nc
  | 0, i, h => absurd h (Nat.not_lt_zero i)
  | z + 1, i, h => luN_in (cnd z) _ (luS_in cnd nc li z) nc (Nat.le_refl _) i h
theorem luS_le (cnd : Nat → Nat → Bool) (nc : Nat) (li : Nat → Nat) : ∀ z, (luS cnd nc (0, li) z).1 ≤ 20
  | 0 => Nat.zero_le _
  | z + 1 => luN_le (cnd z) _ (luS_le cnd nc li z) nc
def tbit (w : Int64) (j : Nat) : Bool := w.toBitVec.getLsbD j
theorem ts_bit {w : Int64} {s : UInt64} {j : Nat} (hj : j < 64) (hs : s.toNat = j) : ((w.toUInt64 >>> s).toInt64 &&& 1) = 0 ↔ w.toBitVec.getLsbD j = false := by
  have e : ((w.toUInt64 >>> s).toInt64 &&& 1).toBitVec = (w.toBitVec >>> j) &&& 1#64 := by
    show (w.toUInt64 >>> s).toBitVec &&& 1#64 = _
    rw [UInt64.toBitVec_shiftRight]
    show (w.toBitVec >>> (s.toBitVec % 64).toNat) &&& 1#64 = _
    have : (s.toBitVec % 64).toNat = j := by
      show s.toNat % 64 = j
      rw [hs, Nat.mod_eq_of_lt hj]
    rw [this]
  rw [← Int64.toBitVec_inj, e]
  show (w.toBitVec >>> j) &&& 1#64 = 0#64 ↔ _
  constructor
  · intro h
    have := congrArg (fun b => b.getLsbD 0) h
    simpa using this
  · intro h
    apply BitVec.eq_of_getLsbD_eq
    intro i hi
    by_cases q : i = 0
    · subst q; simp [h]
    · simp [q]
theorem tbit0 {w : Int64} {k : Nat} (hk : k < 64) : ((w.toUInt64 >>> ((nI k).toInt64.toUInt64 &&& Int64.toUInt64 63)).toInt64 &&& lN 1) = lN 0 ↔ tbit w k = false := by
  rw [wb_cu k hk]
  exact ts_bit hk (by show (BitVec.ofNat 64 k).toNat = k; rw [BitVec.toNat_ofNat, Nat.mod_eq_of_lt (by omega)])
def isT (tb : Nat → Nat → Int64) (x s : Nat) : Bool := tbit (tb x (s / 2 ^ 6 &&& 63)) (s &&& 63)
def ctF (tb : Nat → Nat → Int64) (x w : Nat) : Nat → Nat
  | 0 => 0
  | i + 1 => ctF tb x w i + (if isT tb x (pd 12 w i) = true then 1 else 0)
theorem ctF_le (tb : Nat → Nat → Int64) (x w i : Nat) : ctF tb x w i ≤ i := by
  induction i with
  | zero => exact Nat.le_refl _
  | succ i ih => show ctF tb x w i + _ ≤ i + 1; split <;> omega
def imF (tb : Nat → Nat → Int64) (x s : Nat) : Nat → Bool
  | 0 => true
  | i + 1 => imF tb x s i && !(s.testBit i && isT tb x (s ^^^ 2 ^ i))
def isM (tb : Nat → Nat → Int64) (x s : Nat) : Bool := isT tb x s && imF tb x s 12
theorem imF_f {tb : Nat → Nat → Int64} {x s i : Nat} (h : imF tb x s (i + 1) = false) : ∀ n, i < n → imF tb x s n = false
  | 0, q => by omega
  | n + 1, q => by
    rcases Nat.lt_or_ge i n with r | r
    · show (imF tb x s n && _) = false
      rw [imF_f h n r]; rfl
    · rw [show n = i by omega]; exact h
theorem tbit1 {w : Int64} {k : Nat} (hk : k < 64) (h : ¬ ((w.toUInt64 >>> ((nI k).toInt64.toUInt64 &&& Int64.toUInt64 63)).toInt64 &&& lN 1) = lN 0) : tbit w k = true := by
  cases e : tbit w k
  · exact absurd ((tbit0 hk).mpr e) h
  · rfl
theorem pw12c {i : Nat} (h : i ≤ 12) : 2 ^ i ≤ 4096 := Nat.pow_le_pow_right (n := 2) (by decide) h
theorem pw12a {i : Nat} (hi : i ≤ 12) (h : 4096 ≤ 2 ^ i) : i = 12 := by
  rcases Nat.lt_or_ge i 12 with q | q
  · have := Nat.pow_lt_pow_right (a := 2) (by decide) q
    omega
  · omega
theorem pw12b {i : Nat} (h : 2 ^ i < 4096) : i < 12 := by
  rcases Nat.lt_or_ge i 12 with q | q
  · exact q
  · have := Nat.pow_le_pow_right (n := 2) (by decide) q
    omega
theorem pop12 (w : Nat) : 2 ^ popc w 12 ≤ 4096 := Nat.pow_le_pow_right (n := 2) (by decide) (popc_le w 12)
theorem pd_lt {w k : Nat} (h : w < 4096) : pd 12 w k < 4096 := by
  rw [← pd_sub 12 w k h]
  exact Nat.lt_of_le_of_lt Nat.and_le_right h
set_option maxHeartbeats 4000000 in
set_option maxRecDepth 100000 in
theorem k_ST_isWithin (l : Launch) (g : va_G) (cl : List vw_C) (tys : List (ClassId × FieldType)) (ww : va_W) (v : Int32) (lo : Int32) (hi : Int32)  : ct_i l g cl tys y_ST_isWithin c_ST_isWithin 3 (some .boolean) ({ frames := 0, cells := 0, slots := 0, locals := 0 } : Room) [.int v, .int lo, .int hi] ww ww (b2 (isW v lo hi)) := by
  refine ct_i.introZ (by decide) (Nat.le_of_ble_eq_true rfl) ?_
  intro p e s m args below meth c Q A ls hx hb hml hT hown hA hK hN hret hP hD hS hl
  have hown : s.vm.findClass R_ST = some m.cls := hown
  have hl : lv_has ls 3 [(0, .int v), (1, .int lo), (2, .int hi)] := hl
  refine lv_iload_n hx hb d_ST_isWithin_0 rfl (lv_at hl 0 rfl) ?_
  refine lv_iload_n hx hb d_ST_isWithin_1 rfl (lv_at hl 1 rfl) ?_
  refine lv_icmp_lt (tgt := 14) hx hb d_ST_isWithin_2 (by decide) (fun c_2 => ?_) (fun c_2 => ?_)
  · -- 2: taken
    refine lv_iconst (v := (nI 0)) hx hb d_ST_isWithin_14 (by decide) ?_
    refine hret _ _ _ _ _ hP hD hS d_ST_isWithin_15 ?_
    exact b2F (by first | (simp [isW, c_2]; done) | (simp [isW, c_2]; omega))
  · -- 2: not taken
    refine lv_iload_n hx hb d_ST_isWithin_5 rfl (lv_at hl 0 rfl) ?_
    refine lv_iload_n hx hb d_ST_isWithin_6 rfl (lv_at hl 2 rfl) ?_
    refine lv_icmp_gt (tgt := 14) hx hb d_ST_isWithin_7 (by decide) (fun c_7 => ?_) (fun c_7 => ?_)
    · -- 7: taken
      refine lv_iconst (v := (nI 0)) hx hb d_ST_isWithin_14 (by decide) ?_
      refine hret _ _ _ _ _ hP hD hS d_ST_isWithin_15 ?_
      exact b2F (by first | (simp [isW, c_2, c_7]; done) | (simp [isW, c_2, c_7]; omega))
    · -- 7: not taken
      refine lv_iconst (v := (nI 1)) hx hb d_ST_isWithin_10 (by decide) ?_
      refine lv_goto (tgt := 15) hx hb d_ST_isWithin_11 (by decide) ?_
      refine hret _ _ _ _ _ hP hD hS d_ST_isWithin_15 ?_
      exact b2T (by first | (simp [isW, c_2, c_7]; done) | (simp [isW, c_2, c_7]; omega))
set_option maxHeartbeats 4000000 in
set_option maxRecDepth 100000 in
theorem k_ST_isDown (l : Launch) (g : va_G) (cl : List vw_C) (tys : List (ClassId × FieldType)) (ww : va_W) (d : Int64)  : ct_i l g cl tys y_ST_isDown c_ST_isDown 2 (some .boolean) ({ frames := 0, cells := 0, slots := 0, locals := 0 } : Room) [.long d] ww ww (b2 (isD d)) := by
  refine ct_i.introZ (by decide) (Nat.le_of_ble_eq_true rfl) ?_
  intro p e s m args below meth c Q A ls hx hb hml hT hown hA hK hN hret hP hD hS hl
  have hown : s.vm.findClass R_ST = some m.cls := hown
  have hl : lv_has ls 2 [(0, .long d)] := hl
  refine lv_lload_n hx hb d_ST_isDown_0 rfl (lv_at hl 0 rfl) ?_
  refine lv_lconst (v := (lN 1)) hx hb d_ST_isDown_1 (by decide) ?_
  refine my_lcmpR_lt (tgt := 18) hx hb d_ST_isDown_2 d_ST_isDown_3 (by decide) (fun c_2 => ?_) (fun c_2 => ?_)
  · -- 2: taken
    refine lv_iconst (v := (nI 0)) hx hb d_ST_isDown_18 (by decide) ?_
    refine hret _ _ _ _ _ hP hD hS d_ST_isDown_19 ?_
    exact b2F (by first | (simp [isD, c_2]; done) | (simp [isD, c_2]; omega))
  · -- 2: not taken
    refine lv_lload_n hx hb d_ST_isDown_6 rfl (lv_at hl 0 rfl) ?_
    refine lv_ldc2 (v := (lN 10)) hx hb hown (hT _ tw_252) d_ST_isDown_7 ?_
    refine my_lcmpR_gt (tgt := 18) hx hb d_ST_isDown_10 d_ST_isDown_11 (by decide) (fun c_10 => ?_) (fun c_10 => ?_)
    · -- 10: taken
      refine lv_iconst (v := (nI 0)) hx hb d_ST_isDown_18 (by decide) ?_
      refine hret _ _ _ _ _ hP hD hS d_ST_isDown_19 ?_
      exact b2F (by first | (simp [isD, c_2, c_10]; done) | (simp [isD, c_2, c_10]; omega))
    · -- 10: not taken
      refine lv_iconst (v := (nI 1)) hx hb d_ST_isDown_14 (by decide) ?_
      refine lv_goto (tgt := 19) hx hb d_ST_isDown_15 (by decide) ?_
      refine hret _ _ _ _ _ hP hD hS d_ST_isDown_19 ?_
      exact b2T (by first | (simp [isD, c_2, c_10]; done) | (simp [isD, c_2, c_10]; omega))
set_option maxHeartbeats 4000000 in
set_option maxRecDepth 100000 in
theorem k_ST_isKind (l : Launch) (g : va_G) (cl : List vw_C) (tys : List (ClassId × FieldType)) (ww : va_W) (k : Int32) (n : Int32)  : ct_i l g cl tys y_ST_isKind c_ST_isKind 2 (some .boolean) ({ frames := 1, cells := 0, slots := 0, locals := 22 } : Room) [.int k, .int n] ww ww (b2 (isK k n)) := by
  refine ct_i.introZ (by decide) (Nat.le_of_ble_eq_true rfl) ?_
  intro p e s m args below meth c Q A ls hx hb hml hT hown hA hK hN hret hP hD hS hl
  have hown : s.vm.findClass R_ST = some m.cls := hown
  have hl : lv_has ls 2 [(0, .int k), (1, .int n)] := hl
  refine lv_iload_n hx hb d_ST_isKind_0 rfl (lv_at hl 0 rfl) ?_
  refine lv_iconst (v := (nI 2)) hx hb d_ST_isKind_1 (by decide) ?_
  refine lv_icmp_ne (tgt := 13) hx hb d_ST_isKind_2 (by decide) (fun c_2 => ?_) (fun c_2 => ?_)
  · -- 2: taken
    refine lv_iload_n hx hb d_ST_isKind_13 rfl (lv_at hl 0 rfl) ?_
    refine lv_if_eq (tgt := 22) hx hb d_ST_isKind_14 (by decide) (fun c_14 => ?_) (fun c_14 => ?_)
    · -- 14: taken
      refine lv_iload_n hx hb d_ST_isKind_22 rfl (lv_at hl 1 rfl) ?_
      refine lv_if_ne (tgt := 30) hx hb d_ST_isKind_23 (by decide) (fun c_23 => ?_) (fun c_23 => ?_)
      · -- 23: taken
        refine lv_iconst (v := (nI 0)) hx hb d_ST_isKind_30 (by decide) ?_
        refine hret _ _ _ _ _ hP hD hS d_ST_isKind_31 ?_
        exact b2F (by rw [isK, if_neg c_2, decide_eq_true c_14, decide_eq_false c_23]; rfl)
      · -- 23: not taken
        refine lv_iconst (v := (nI 1)) hx hb d_ST_isKind_26 (by decide) ?_
        refine lv_goto (tgt := 31) hx hb d_ST_isKind_27 (by decide) ?_
        refine hret _ _ _ _ _ hP hD hS d_ST_isKind_31 ?_
        exact b2T (by rw [isK, if_neg c_2, decide_eq_true c_14, decide_eq_true c_23]; rfl)
    · -- 14: not taken
      refine lv_iload_n hx hb d_ST_isKind_17 rfl (lv_at hl 0 rfl) ?_
      refine lv_iconst (v := (nI 1)) hx hb d_ST_isKind_18 (by decide) ?_
      refine lv_icmp_ne (tgt := 30) hx hb d_ST_isKind_19 (by decide) (fun c_19 => ?_) (fun c_19 => ?_)
      · -- 19: taken
        refine lv_iconst (v := (nI 0)) hx hb d_ST_isKind_30 (by decide) ?_
        refine hret _ _ _ _ _ hP hD hS d_ST_isKind_31 ?_
        exact b2F (by rw [isK, if_neg c_2, decide_eq_false c_14, decide_eq_false c_19]; rfl)
      · -- 19: not taken
        refine lv_iload_n hx hb d_ST_isKind_22 rfl (lv_at hl 1 rfl) ?_
        refine lv_if_ne (tgt := 30) hx hb d_ST_isKind_23 (by decide) (fun c_23 => ?_) (fun c_23 => ?_)
        · -- 23: taken
          refine lv_iconst (v := (nI 0)) hx hb d_ST_isKind_30 (by decide) ?_
          refine hret _ _ _ _ _ hP hD hS d_ST_isKind_31 ?_
          exact b2F (by rw [isK, if_neg c_2, decide_eq_false c_14, decide_eq_true c_19, decide_eq_false c_23]; rfl)
        · -- 23: not taken
          refine lv_iconst (v := (nI 1)) hx hb d_ST_isKind_26 (by decide) ?_
          refine lv_goto (tgt := 31) hx hb d_ST_isKind_27 (by decide) ?_
          refine hret _ _ _ _ _ hP hD hS d_ST_isKind_31 ?_
          exact b2T (by rw [isK, if_neg c_2, decide_eq_false c_14, decide_eq_true c_19, decide_eq_true c_23]; rfl)
  · -- 2: not taken
    refine lv_iload_n hx hb d_ST_isKind_5 rfl (lv_at hl 1 rfl) ?_
    refine lv_iconst (v := (nI 1)) hx hb d_ST_isKind_6 (by decide) ?_
    refine lv_bipush (v := (nI 10)) hx hb d_ST_isKind_7 (by decide) ?_
    refine my_S_i (As := [.int n, .int (nI 1), .int (nI 10)]) (n := 3) (k_ST_isWithin l g cl tys ww n (nI 1) (nI 10) ) hx hb hml hown hT hN tw_277 tw_278 tw_1 tw_279 (by decide +kernel) rfl rfl ⟨Nat.le_of_ble_eq_true rfl, Nat.le_of_ble_eq_true rfl⟩ ⟨Nat.zero_le _, Nat.zero_le _⟩ hK hP hD hS hA rfl hl rfl (Nat.le_of_ble_eq_true rfl) d_ST_isKind_9 (fun H locs hP hD hS => ?_)
    refine hret _ _ _ _ _ hP hD hS d_ST_isKind_12 ?_
    exact congrArg b2 (by rw [isK, if_pos c_2])
set_option maxHeartbeats 4000000 in
set_option maxRecDepth 100000 in
theorem k_ST_countOfSets (l : Launch) (g : va_G) (cl : List vw_C) (tys : List (ClassId × FieldType)) (ww : va_W) (w : Nat) (hw : w < 4096) : ct_i l g cl tys y_ST_countOfSets c_ST_countOfSets 1 (some .int) ({ frames := 1, cells := 0, slots := 0, locals := 20 } : Room) [.int (nI w)] ww ww (nI (2 ^ popc w 12)) := by
  refine ct_i.intro (by decide) (Nat.le_of_ble_eq_true rfl) ?_
  intro p e s m args below meth c Q A ls hx hb hml hT hown hA hK hN hret hP hD hS hl
  have hown : s.vm.findClass R_ST = some m.cls := hown
  have hl : lv_has ls 1 [(0, .int (nI w))] := hl
  have q1 := and4095 hw
  have q2 := popc_le (w &&& 4095) 12
  refine lv_iconst (v := (nI 1)) hx hb d_ST_countOfSets_0 (by decide) ?_
  refine lv_iload_n hx hb d_ST_countOfSets_1 rfl (lv_at hl 0 rfl) ?_
  refine lv_sipush (v := (nI 4095)) hx hb d_ST_countOfSets_2 (by decide) ?_
  refine lv_iand hx hb d_ST_countOfSets_5 ?_
  refine my_ei (nx_and w 4095) ?_
  refine my_S_i (As := [.int (nI (w &&& 4095))]) (n := 1) (k_Ji_bitCount l g cl tys ww (w &&& 4095) (by omega)) hx hb hml hown hT hN tw_317 tw_318 tw_10 tw_319 (by decide +kernel) rfl rfl ⟨Nat.le_of_ble_eq_true rfl, Nat.le_of_ble_eq_true rfl⟩ ⟨Nat.zero_le _, Nat.zero_le _⟩ hK hP hD hS hA rfl hl rfl (Nat.le_of_ble_eq_true rfl) d_ST_countOfSets_6 (fun H locs hP hD hS => ?_)
  refine lv_ishl hx hb d_ST_countOfSets_9 ?_
  refine my_ei (nx_shl1 (popc (w &&& 4095) 12) (by omega)) ?_
  refine hret _ _ _ _ _ hP hD hS d_ST_countOfSets_10 ?_
  rw [q1]
set_option maxHeartbeats 4000000 in
set_option maxRecDepth 100000 in
theorem k_ST_nextSet (l : Launch) (g : va_G) (cl : List vw_C) (tys : List (ClassId × FieldType)) (ww : va_W) (s1 : Nat) (w : Nat) (hw : w < 4096) : ct_i l g cl tys y_ST_nextSet c_ST_nextSet 2 (some .int) ({ frames := 0, cells := 0, slots := 0, locals := 0 } : Room) [.int (nI s1), .int (nI w)] ww ww (nI ((s1 + 2 ^ 32 - w) &&& w)) := by
  refine ct_i.intro (by decide) (Nat.le_of_ble_eq_true rfl) ?_
  intro p e s m args below meth c Q A ls hx hb hml hT hown hA hK hN hret hP hD hS hl
  have hown : s.vm.findClass R_ST = some m.cls := hown
  have hl : lv_has ls 2 [(0, .int (nI s1)), (1, .int (nI w))] := hl
  refine lv_iload_n hx hb d_ST_nextSet_0 rfl (lv_at hl 0 rfl) ?_
  refine lv_iload_n hx hb d_ST_nextSet_1 rfl (lv_at hl 1 rfl) ?_
  refine lv_isub hx hb d_ST_nextSet_2 ?_
  refine my_ei (nxS (by omega)) ?_
  refine lv_iload_n hx hb d_ST_nextSet_3 rfl (lv_at hl 1 rfl) ?_
  refine lv_iand hx hb d_ST_nextSet_4 ?_
  refine my_ei (nx_and (s1 + 2 ^ 32 - w) w) ?_
  refine hret _ _ _ _ _ hP hD hS d_ST_nextSet_5 ?_
  rfl
set_option maxHeartbeats 4000000 in
set_option maxRecDepth 100000 in
theorem k_Tr_withDigit (l : Launch) (g : va_G) (cl : List vw_C) (tys : List (ClassId × FieldType)) (ww : va_W) (n : Nat) (d : Int64) (e1 : Int64)  : ct_l l g cl tys y_Tr_withDigit c_Tr_withDigit 5 (some .long) ({ frames := 0, cells := 0, slots := 0, locals := 0 } : Room) [.int (nI n), .long d, .long e1] ww ww (wD n d e1) := by
  refine ct_l.intro (by decide) (Nat.le_of_ble_eq_true rfl) ?_
  intro p e s m args below meth c Q A ls hx hb hml hT hown hA hK hN hret hP hD hS hl
  have hown : s.vm.findClass R_Tr = some m.cls := hown
  have hl : lv_has ls 5 [(0, .int (nI n)), (1, .long d), (3, .long e1)] := hl
  refine lv_iload_n hx hb d_Tr_withDigit_0 rfl (lv_at hl 0 rfl) ?_
  refine lv_iconst (v := (nI 1)) hx hb d_Tr_withDigit_1 (by decide) ?_
  refine lv_iand hx hb d_Tr_withDigit_2 ?_
  refine my_ei (nx_and n 1) ?_
  have q1 : n &&& 1 < 2 := Nat.lt_of_le_of_lt Nat.and_le_right (by decide)
  refine my_if_eq (tgt := 12) (a := n &&& 1) hx hb d_Tr_withDigit_3 (by decide) (by omega) (fun c_3 => ?_) (fun c_3 => ?_)
  · -- 3: taken
    refine lv_lload_n hx hb d_Tr_withDigit_12 rfl (lv_at hl 1 rfl) ?_
    refine lv_lload_n hx hb d_Tr_withDigit_13 rfl (lv_at hl 2 rfl) ?_
    refine lv_lor hx hb d_Tr_withDigit_14 ?_
    refine hret _ _ _ _ _ hP hD hS d_Tr_withDigit_15 ?_
    first | (simp [wD, c_3]; done) | (rw [wD, if_neg (by omega)])
  · -- 3: not taken
    refine lv_lload_n hx hb d_Tr_withDigit_6 rfl (lv_at hl 1 rfl) ?_
    refine lv_lload_n hx hb d_Tr_withDigit_7 rfl (lv_at hl 2 rfl) ?_
    refine lv_land hx hb d_Tr_withDigit_8 ?_
    refine lv_goto (tgt := 15) hx hb d_Tr_withDigit_9 (by decide) ?_
    refine hret _ _ _ _ _ hP hD hS d_Tr_withDigit_15 ?_
    first | (simp [wD, c_3]; done) | (rw [wD, if_neg (by omega)])
set_option maxHeartbeats 4000000 in
set_option maxRecDepth 100000 in
theorem k_Tr_allOf (l : Launch) (g : va_G) (a rB rT : Nat → Nat) (cI cJ cII cJJ : ClassId) (nc : Nat) (nv : Nat) (ng : Nat) (kd : Nat → Int32) (vo : Nat → Nat) (nu : Nat → Nat) (nd : Nat → Nat) (en : Nat → Nat) (br : Nat → Nat → Nat) (bc : Nat → Nat) (un : Nat → Nat) (eu : Nat → Nat) (li : Nat → Nat) (tb : Nat → Nat → Int64) (cc0 : Nat) (cp : Nat → Nat) (cu : Nat → Nat) (cd : Nat → Nat) (tc : Nat) (ts : Nat → Nat) (tf : Nat → Nat) (ox : Bool) (ow : Nat → Nat) (ob : Nat → Nat) (ra : Nat) (rb : Nat) (gc : Nat) (gr : Nat) (gk : Nat → Nat) (gg : Nat → Nat) (gp : Nat → Nat) (gt : Nat → Nat) (sa : Nat) (sb : Nat) (x : Nat) (w : Nat) (hx1 : x ≤ 32) (hw : w < 64) (hbc : ∀ j, bc j ≤ 10) (hbr : ∀ j i, br j i ≤ 32) : ct_l l g vwCl (tyS cI cJ cII cJJ) y_Tr_allOf c_Tr_allOf 6 (some .long) ({ frames := 0, cells := 0, slots := 0, locals := 0 } : Room) [.ref (a 2), .int (nI x), .int (nI w)] (stW a rB rT cI cJ cII cJJ nc nv ng kd vo nu nd en br bc un eu li tb cc0 cp cu cd tc ts tf ox ow ob ra rb gc gr gk gg gp gt sa sb) (stW a rB rT cI cJ cII cJJ nc nv ng kd vo nu nd en br bc un eu li tb cc0 cp cu cd tc ts tf ox ow ob ra rb gc gr gk gg gp gt sa sb) (alF tb br x w (bc x)) := by
  refine ct_l.intro (by decide) (Nat.le_of_ble_eq_true rfl) ?_
  intro p e s m args below meth c Q A ls hx hb hml hT hown hA hK hN hret hP hD hS hl
  have hown : s.vm.findClass R_Tr = some m.cls := hown
  have hl : lv_has ls 6 [(0, .ref (a 2)), (1, .int (nI x)), (2, .int (nI w))] := hl
  have q1 := hbc x
  refine lv_ldc2 (v := (-1)) hx hb hown (hT _ tw_269) d_Tr_allOf_0 ?_
  refine lv_lstore_n (lv' := [(3, .long (-1)), (0, .ref (a 2)), (1, .int (nI x)), (2, .int (nI w))]) hx hb d_Tr_allOf_3 rfl hl (by decide) rfl (fun ls hl => ?_)
  refine lv_iconst (v := (nI 0)) hx hb d_Tr_allOf_4 (by decide) ?_
  refine lv_istore (lv' := [(5, .int (nI 0)), (3, .long (-1)), (0, .ref (a 2)), (1, .int (nI x)), (2, .int (nI w))]) hx hb d_Tr_allOf_5 hl (by decide) rfl (fun ls hl => ?_)
  have lp_7 : ∀ (k : Nat) (i : Nat) (v : Int64) (H : Heap) (locs : List Loc) (ls : Array Slot), (bc x < i + k) → (i ≤ bc x) → (v = alF tb br x w i) → va_P g vwCl (stW a rB rT cI cJ cII cJJ nc nv ng kd vo nu nd en br bc un eu li tb cc0 cp cu cd tc ts tf ox ow ob ra rb gc gr gk gg gp gt sa sb) H → va_D A (stW a rB rT cI cJ cII cJJ nc nv ng kd vo nu nd en br bc un eu li tb cc0 cp cu cd tc ts tf ox ow ob ra rb gc gr gk gg gp gt sa sb) → va_S A s.heap H locs → lv_has ls 6 [(0, .ref (a 2)), (1, .int (nI x)), (2, .int (nI w)), (3, .long v), (5, .int (nI i))] → W p l e ({ frames := 0, cells := 0, slots := 0, locals := 0 } : Room) s m args below meth c H locs 0 0 Q (F0 m 7 ls []) := by
    intro k
    induction k with
    | zero =>
      intro i v H locs ls hk hi hf hP hD hS hl
      exfalso
      omega
    | succ k ih_7 =>
      intro i v H locs ls hk hi hf hP hD hS hl
      refine lv_iload hx hb d_Tr_allOf_7 (lv_at hl 4 rfl) ?_
      refine lv_aload_n hx hb d_Tr_allOf_9 rfl (lv_at hl 0 rfl) ?_
      refine va_get (D := g) (ci := 2) (v := .ref (a 1)) (C := R_Tr) (T := F_Tr) (N := 2) hx hb hT i_Tr hown hK hP 2 rfl rfl 0 (by decide) (hT _ tw_104) (fun _ h9 => h9) rfl d_Tr_allOf_10 ?_
      refine va_getN (D := g) (ci := 1) (v := .ref (a 15)) (C := R_No) (T := F_No) (N := 13) hx hb hT i_No hown hK hP 1 rfl rfl 9 (by decide) (va_Nw.use rfl (hN _ tw_57)) (fun _ h9 => h9) rfl d_Tr_allOf_13 ?_
      refine lv_iload_n hx hb d_Tr_allOf_16 rfl (lv_at hl 1 rfl) ?_
      refine my_iald (v := (nI (bc x))) (i := x) hx hb hK hP 15 0 rfl rfl (by omega) (by decide) rfl d_Tr_allOf_17 ?_
      refine my_icmp_ge (tgt := 49) (a := i) (b := bc x) hx hb d_Tr_allOf_18 (by decide) (by omega) (by omega) (fun c_18 => ?_) (fun c_18 => ?_)
      · -- 18: taken
        refine lv_lload_n hx hb d_Tr_allOf_49 rfl (lv_at hl 3 rfl) ?_
        refine hret _ _ _ _ _ hP hD hS d_Tr_allOf_50 ?_
        rw [hf, show i = bc x by omega]
      · -- 18: not taken
        have q2 := hbr x i
        refine lv_lload_n hx hb d_Tr_allOf_21 rfl (lv_at hl 3 rfl) ?_
        refine lv_aload_n hx hb d_Tr_allOf_22 rfl (lv_at hl 0 rfl) ?_
        refine va_get (D := g) (ci := 2) (v := .ref (a 19)) (C := R_Tr) (T := F_Tr) (N := 2) hx hb hT i_Tr hown hK hP 2 rfl rfl 1 (by decide) (hT _ tw_105) (fun _ h9 => h9) rfl d_Tr_allOf_23 ?_
        refine lv_aload_n hx hb d_Tr_allOf_26 rfl (lv_at hl 0 rfl) ?_
        refine va_get (D := g) (ci := 2) (v := .ref (a 1)) (C := R_Tr) (T := F_Tr) (N := 2) hx hb hT i_Tr hown hK hP 2 rfl rfl 0 (by decide) (hT _ tw_104) (fun _ h9 => h9) rfl d_Tr_allOf_27 ?_
        refine va_getN (D := g) (ci := 1) (v := .ref (a 14)) (C := R_No) (T := F_No) (N := 13) hx hb hT i_No hown hK hP 1 rfl rfl 8 (by decide) (va_Nw.use rfl (hN _ tw_53)) (fun _ h9 => h9) rfl d_Tr_allOf_30 ?_
        refine lv_iload_n hx hb d_Tr_allOf_33 rfl (lv_at hl 1 rfl) ?_
        refine my_aald (r := rB) (i := x) hx hb hK hP 14 2 rfl rfl (by omega) (by decide) d_Tr_allOf_34 ?_
        refine lv_iload hx hb d_Tr_allOf_35 (lv_at hl 4 rfl) ?_
        refine my_iald (v := (nI (br x i))) (i := i) hx hb hK hP (31 + x) 0 (stB_at (by omega)) rfl (by omega) (by decide) rfl d_Tr_allOf_37 ?_
        refine my_aald (r := rT) (i := br x i) hx hb hK hP 19 3 rfl rfl (by omega) (by decide) d_Tr_allOf_38 ?_
        refine lv_iload_n hx hb d_Tr_allOf_39 rfl (lv_at hl 2 rfl) ?_
        refine my_lald (v := (tb (br x i) w)) (i := w) hx hb hK hP (64 + (br x i)) 1 (stT_at (by omega)) rfl (by omega) (by decide) rfl d_Tr_allOf_40 ?_
        refine lv_land hx hb d_Tr_allOf_41 ?_
        refine lv_lstore_n (lv' := [(3, .long (v &&& (tb (br x i) w))), (0, .ref (a 2)), (1, .int (nI x)), (2, .int (nI w)), (5, .int (nI i))]) hx hb d_Tr_allOf_42 rfl hl (by decide) rfl (fun ls hl => ?_)
        refine lv_iinc (v := (nI (i + 1))) (lv' := [(5, .int (nI (i + 1))), (3, .long (v &&& (tb (br x i) w))), (0, .ref (a 2)), (1, .int (nI x)), (2, .int (nI w))]) hx hb d_Tr_allOf_43 hl (k := 4) rfl (nI_1 i) (by decide) rfl (fun ls hl => ?_)
        refine lv_goto (tgt := 7) hx hb d_Tr_allOf_46 (by decide) ?_
        refine ih_7 (i + 1) _ _ _ _ ?_ ?_ ?_ hP hD hS (lv_sub hl [2, 3, 4, 1, 0] rfl)
        · omega
        · omega
        · rw [hf]; rfl
  refine lp_7 (bc x + 1) 0 _ _ _ _ ?_ ?_ ?_ hP hD hS (lv_sub hl [2, 3, 4, 1, 0] rfl)
  · omega
  · omega
  · rfl
set_option maxHeartbeats 4000000 in
set_option maxRecDepth 100000 in
theorem k_Tr_anyOf (l : Launch) (g : va_G) (a rB rT : Nat → Nat) (cI cJ cII cJJ : ClassId) (nc : Nat) (nv : Nat) (ng : Nat) (kd : Nat → Int32) (vo : Nat → Nat) (nu : Nat → Nat) (nd : Nat → Nat) (en : Nat → Nat) (br : Nat → Nat → Nat) (bc : Nat → Nat) (un : Nat → Nat) (eu : Nat → Nat) (li : Nat → Nat) (tb : Nat → Nat → Int64) (cc0 : Nat) (cp : Nat → Nat) (cu : Nat → Nat) (cd : Nat → Nat) (tc : Nat) (ts : Nat → Nat) (tf : Nat → Nat) (ox : Bool) (ow : Nat → Nat) (ob : Nat → Nat) (ra : Nat) (rb : Nat) (gc : Nat) (gr : Nat) (gk : Nat → Nat) (gg : Nat → Nat) (gp : Nat → Nat) (gt : Nat → Nat) (sa : Nat) (sb : Nat) (x : Nat) (w : Nat) (hx1 : x ≤ 32) (hw : w < 64) (hbc : ∀ j, bc j ≤ 10) (hbr : ∀ j i, br j i ≤ 32) : ct_l l g vwCl (tyS cI cJ cII cJJ) y_Tr_anyOf c_Tr_anyOf 6 (some .long) ({ frames := 0, cells := 0, slots := 0, locals := 0 } : Room) [.ref (a 2), .int (nI x), .int (nI w)] (stW a rB rT cI cJ cII cJJ nc nv ng kd vo nu nd en br bc un eu li tb cc0 cp cu cd tc ts tf ox ow ob ra rb gc gr gk gg gp gt sa sb) (stW a rB rT cI cJ cII cJJ nc nv ng kd vo nu nd en br bc un eu li tb cc0 cp cu cd tc ts tf ox ow ob ra rb gc gr gk gg gp gt sa sb) (anF tb br x w (bc x)) := by
  refine ct_l.intro (by decide) (Nat.le_of_ble_eq_true rfl) ?_
  intro p e s m args below meth c Q A ls hx hb hml hT hown hA hK hN hret hP hD hS hl
  have hown : s.vm.findClass R_Tr = some m.cls := hown
  have hl : lv_has ls 6 [(0, .ref (a 2)), (1, .int (nI x)), (2, .int (nI w))] := hl
  have q1 := hbc x
  refine lv_lconst (v := (lN 0)) hx hb d_Tr_anyOf_0 (by decide) ?_
  refine lv_lstore_n (lv' := [(3, .long (lN 0)), (0, .ref (a 2)), (1, .int (nI x)), (2, .int (nI w))]) hx hb d_Tr_anyOf_1 rfl hl (by decide) rfl (fun ls hl => ?_)
  refine lv_iconst (v := (nI 0)) hx hb d_Tr_anyOf_2 (by decide) ?_
  refine lv_istore (lv' := [(5, .int (nI 0)), (3, .long (lN 0)), (0, .ref (a 2)), (1, .int (nI x)), (2, .int (nI w))]) hx hb d_Tr_anyOf_3 hl (by decide) rfl (fun ls hl => ?_)
  have lp_5 : ∀ (k : Nat) (i : Nat) (v : Int64) (H : Heap) (locs : List Loc) (ls : Array Slot), (bc x < i + k) → (i ≤ bc x) → (v = anF tb br x w i) → va_P g vwCl (stW a rB rT cI cJ cII cJJ nc nv ng kd vo nu nd en br bc un eu li tb cc0 cp cu cd tc ts tf ox ow ob ra rb gc gr gk gg gp gt sa sb) H → va_D A (stW a rB rT cI cJ cII cJJ nc nv ng kd vo nu nd en br bc un eu li tb cc0 cp cu cd tc ts tf ox ow ob ra rb gc gr gk gg gp gt sa sb) → va_S A s.heap H locs → lv_has ls 6 [(0, .ref (a 2)), (1, .int (nI x)), (2, .int (nI w)), (3, .long v), (5, .int (nI i))] → W p l e ({ frames := 0, cells := 0, slots := 0, locals := 0 } : Room) s m args below meth c H locs 0 0 Q (F0 m 5 ls []) := by
    intro k
    induction k with
    | zero =>
      intro i v H locs ls hk hi hf hP hD hS hl
      exfalso
      omega
    | succ k ih_5 =>
      intro i v H locs ls hk hi hf hP hD hS hl
      refine lv_iload hx hb d_Tr_anyOf_5 (lv_at hl 4 rfl) ?_
      refine lv_aload_n hx hb d_Tr_anyOf_7 rfl (lv_at hl 0 rfl) ?_
      refine va_get (D := g) (ci := 2) (v := .ref (a 1)) (C := R_Tr) (T := F_Tr) (N := 2) hx hb hT i_Tr hown hK hP 2 rfl rfl 0 (by decide) (hT _ tw_104) (fun _ h9 => h9) rfl d_Tr_anyOf_8 ?_
      refine va_getN (D := g) (ci := 1) (v := .ref (a 15)) (C := R_No) (T := F_No) (N := 13) hx hb hT i_No hown hK hP 1 rfl rfl 9 (by decide) (va_Nw.use rfl (hN _ tw_57)) (fun _ h9 => h9) rfl d_Tr_anyOf_11 ?_
      refine lv_iload_n hx hb d_Tr_anyOf_14 rfl (lv_at hl 1 rfl) ?_
      refine my_iald (v := (nI (bc x))) (i := x) hx hb hK hP 15 0 rfl rfl (by omega) (by decide) rfl d_Tr_anyOf_15 ?_
      refine my_icmp_ge (tgt := 47) (a := i) (b := bc x) hx hb d_Tr_anyOf_16 (by decide) (by omega) (by omega) (fun c_16 => ?_) (fun c_16 => ?_)
      · -- 16: taken
        refine lv_lload_n hx hb d_Tr_anyOf_47 rfl (lv_at hl 3 rfl) ?_
        refine hret _ _ _ _ _ hP hD hS d_Tr_anyOf_48 ?_
        rw [hf, show i = bc x by omega]
      · -- 16: not taken
        have q2 := hbr x i
        refine lv_lload_n hx hb d_Tr_anyOf_19 rfl (lv_at hl 3 rfl) ?_
        refine lv_aload_n hx hb d_Tr_anyOf_20 rfl (lv_at hl 0 rfl) ?_
        refine va_get (D := g) (ci := 2) (v := .ref (a 19)) (C := R_Tr) (T := F_Tr) (N := 2) hx hb hT i_Tr hown hK hP 2 rfl rfl 1 (by decide) (hT _ tw_105) (fun _ h9 => h9) rfl d_Tr_anyOf_21 ?_
        refine lv_aload_n hx hb d_Tr_anyOf_24 rfl (lv_at hl 0 rfl) ?_
        refine va_get (D := g) (ci := 2) (v := .ref (a 1)) (C := R_Tr) (T := F_Tr) (N := 2) hx hb hT i_Tr hown hK hP 2 rfl rfl 0 (by decide) (hT _ tw_104) (fun _ h9 => h9) rfl d_Tr_anyOf_25 ?_
        refine va_getN (D := g) (ci := 1) (v := .ref (a 14)) (C := R_No) (T := F_No) (N := 13) hx hb hT i_No hown hK hP 1 rfl rfl 8 (by decide) (va_Nw.use rfl (hN _ tw_53)) (fun _ h9 => h9) rfl d_Tr_anyOf_28 ?_
        refine lv_iload_n hx hb d_Tr_anyOf_31 rfl (lv_at hl 1 rfl) ?_
        refine my_aald (r := rB) (i := x) hx hb hK hP 14 2 rfl rfl (by omega) (by decide) d_Tr_anyOf_32 ?_
        refine lv_iload hx hb d_Tr_anyOf_33 (lv_at hl 4 rfl) ?_
        refine my_iald (v := (nI (br x i))) (i := i) hx hb hK hP (31 + x) 0 (stB_at (by omega)) rfl (by omega) (by decide) rfl d_Tr_anyOf_35 ?_
        refine my_aald (r := rT) (i := br x i) hx hb hK hP 19 3 rfl rfl (by omega) (by decide) d_Tr_anyOf_36 ?_
        refine lv_iload_n hx hb d_Tr_anyOf_37 rfl (lv_at hl 2 rfl) ?_
        refine my_lald (v := (tb (br x i) w)) (i := w) hx hb hK hP (64 + (br x i)) 1 (stT_at (by omega)) rfl (by omega) (by decide) rfl d_Tr_anyOf_38 ?_
        refine lv_lor hx hb d_Tr_anyOf_39 ?_
        refine lv_lstore_n (lv' := [(3, .long (v ||| (tb (br x i) w))), (0, .ref (a 2)), (1, .int (nI x)), (2, .int (nI w)), (5, .int (nI i))]) hx hb d_Tr_anyOf_40 rfl hl (by decide) rfl (fun ls hl => ?_)
        refine lv_iinc (v := (nI (i + 1))) (lv' := [(5, .int (nI (i + 1))), (3, .long (v ||| (tb (br x i) w))), (0, .ref (a 2)), (1, .int (nI x)), (2, .int (nI w))]) hx hb d_Tr_anyOf_41 hl (k := 4) rfl (nI_1 i) (by decide) rfl (fun ls hl => ?_)
        refine lv_goto (tgt := 5) hx hb d_Tr_anyOf_44 (by decide) ?_
        refine ih_5 (i + 1) _ _ _ _ ?_ ?_ ?_ hP hD hS (lv_sub hl [2, 3, 4, 1, 0] rfl)
        · omega
        · omega
        · rw [hf]; rfl
  refine lp_5 (bc x + 1) 0 _ _ _ _ ?_ ?_ ?_ hP hD hS (lv_sub hl [2, 3, 4, 1, 0] rfl)
  · omega
  · omega
  · rfl
set_option maxHeartbeats 4000000 in
set_option maxRecDepth 100000 in
theorem k_Tr_votesOf (l : Launch) (g : va_G) (a rB rT : Nat → Nat) (cI cJ cII cJJ : ClassId) (nc : Nat) (nv : Nat) (ng : Nat) (kd : Nat → Int32) (vo : Nat → Nat) (nu : Nat → Nat) (nd : Nat → Nat) (en : Nat → Nat) (br : Nat → Nat → Nat) (bc : Nat → Nat) (un : Nat → Nat) (eu : Nat → Nat) (li : Nat → Nat) (tb : Nat → Nat → Int64) (cc0 : Nat) (cp : Nat → Nat) (cu : Nat → Nat) (cd : Nat → Nat) (tc : Nat) (ts : Nat → Nat) (tf : Nat → Nat) (ox : Bool) (ow : Nat → Nat) (ob : Nat → Nat) (ra : Nat) (rb : Nat) (gc : Nat) (gr : Nat) (gk : Nat → Nat) (gg : Nat → Nat) (gp : Nat → Nat) (gt : Nat → Nat) (sa : Nat) (sb : Nat) (x : Nat) (w : Nat) (hx1 : x ≤ 32) (hw : w < 64) (hbc : ∀ j, bc j ≤ 10) (hbr : ∀ j i, br j i ≤ 32) (hvo : ∀ j, vo j ≤ 10) : ct_l l g vwCl (tyS cI cJ cII cJJ) y_Tr_votesOf c_Tr_votesOf 20 (some .long) ({ frames := 1, cells := 0, slots := 0, locals := 24 } : Room) [.ref (a 2), .int (nI x), .int (nI w)] (stW a rB rT cI cJ cII cJJ nc nv ng kd vo nu nd en br bc un eu li tb cc0 cp cu cd tc ts tf ox ow ob ra rb gc gr gk gg gp gt sa sb) (stW a rB rT cI cJ cII cJJ nc nv ng kd vo nu nd en br bc un eu li tb cc0 cp cu cd tc ts tf ox ow ob ra rb gc gr gk gg gp gt sa sb) (voF (vo x) (vS tb br x w (bc x))) := by
  refine ct_l.intro (by decide) (Nat.le_of_ble_eq_true rfl) ?_
  intro p e s m args below meth c Q A ls hx hb hml hT hown hA hK hN hret hP hD hS hl
  have hown : s.vm.findClass R_Tr = some m.cls := hown
  have hl : lv_has ls 20 [(0, .ref (a 2)), (1, .int (nI x)), (2, .int (nI w))] := hl
  have q1 := hbc x
  have q3 := hvo x
  refine lv_lconst (v := (lN 0)) hx hb d_Tr_votesOf_0 (by decide) ?_
  refine lv_lstore_n (lv' := [(3, .long (lN 0)), (0, .ref (a 2)), (1, .int (nI x)), (2, .int (nI w))]) hx hb d_Tr_votesOf_1 rfl hl (by decide) rfl (fun ls hl => ?_)
  refine lv_lconst (v := (lN 0)) hx hb d_Tr_votesOf_2 (by decide) ?_
  refine lv_lstore (lv' := [(5, .long (lN 0)), (3, .long (lN 0)), (0, .ref (a 2)), (1, .int (nI x)), (2, .int (nI w))]) hx hb d_Tr_votesOf_3 hl (by decide) rfl (fun ls hl => ?_)
  refine lv_lconst (v := (lN 0)) hx hb d_Tr_votesOf_5 (by decide) ?_
  refine lv_lstore (lv' := [(7, .long (lN 0)), (5, .long (lN 0)), (3, .long (lN 0)), (0, .ref (a 2)), (1, .int (nI x)), (2, .int (nI w))]) hx hb d_Tr_votesOf_6 hl (by decide) rfl (fun ls hl => ?_)
  refine lv_lconst (v := (lN 0)) hx hb d_Tr_votesOf_8 (by decide) ?_
  refine lv_lstore (lv' := [(9, .long (lN 0)), (7, .long (lN 0)), (5, .long (lN 0)), (3, .long (lN 0)), (0, .ref (a 2)), (1, .int (nI x)), (2, .int (nI w))]) hx hb d_Tr_votesOf_9 hl (by decide) rfl (fun ls hl => ?_)
  refine lv_iconst (v := (nI 0)) hx hb d_Tr_votesOf_11 (by decide) ?_
  refine lv_istore (lv' := [(11, .int (nI 0)), (9, .long (lN 0)), (7, .long (lN 0)), (5, .long (lN 0)), (3, .long (lN 0)), (0, .ref (a 2)), (1, .int (nI x)), (2, .int (nI w))]) hx hb d_Tr_votesOf_12 hl (by decide) rfl (fun ls hl => ?_)
  have lp_14 : ∀ (k : Nat) (i : Nat) (o : Int64) (t : Int64) (f : Int64) (e8 : Int64) (H : Heap) (locs : List Loc) (ls : Array Slot), (bc x < i + k) → (i ≤ bc x) → ((o, t, f, e8) = vS tb br x w i) → va_P g vwCl (stW a rB rT cI cJ cII cJJ nc nv ng kd vo nu nd en br bc un eu li tb cc0 cp cu cd tc ts tf ox ow ob ra rb gc gr gk gg gp gt sa sb) H → va_D A (stW a rB rT cI cJ cII cJJ nc nv ng kd vo nu nd en br bc un eu li tb cc0 cp cu cd tc ts tf ox ow ob ra rb gc gr gk gg gp gt sa sb) → va_S A s.heap H locs → lv_has ls 20 [(0, .ref (a 2)), (1, .int (nI x)), (2, .int (nI w)), (3, .long o), (5, .long t), (7, .long f), (9, .long e8), (11, .int (nI i))] → W p l e ({ frames := 1, cells := 0, slots := 0, locals := 24 } : Room) s m args below meth c H locs 0 0 Q (F0 m 14 ls []) := by
    intro k
    induction k with
    | zero =>
      intro i o t f e8 H locs ls hk hi hf hP hD hS hl
      exfalso
      omega
    | succ k ih_14 =>
      intro i o t f e8 H locs ls hk hi hf hP hD hS hl
      refine lv_iload hx hb d_Tr_votesOf_14 (lv_at hl 7 rfl) ?_
      refine lv_aload_n hx hb d_Tr_votesOf_16 rfl (lv_at hl 0 rfl) ?_
      refine va_get (D := g) (ci := 2) (v := .ref (a 1)) (C := R_Tr) (T := F_Tr) (N := 2) hx hb hT i_Tr hown hK hP 2 rfl rfl 0 (by decide) (hT _ tw_104) (fun _ h9 => h9) rfl d_Tr_votesOf_17 ?_
      refine va_getN (D := g) (ci := 1) (v := .ref (a 15)) (C := R_No) (T := F_No) (N := 13) hx hb hT i_No hown hK hP 1 rfl rfl 9 (by decide) (va_Nw.use rfl (hN _ tw_57)) (fun _ h9 => h9) rfl d_Tr_votesOf_20 ?_
      refine lv_iload_n hx hb d_Tr_votesOf_23 rfl (lv_at hl 1 rfl) ?_
      refine my_iald (v := (nI (bc x))) (i := x) hx hb hK hP 15 0 rfl rfl (by omega) (by decide) rfl d_Tr_votesOf_24 ?_
      refine my_icmp_ge (tgt := 101) (a := i) (b := bc x) hx hb d_Tr_votesOf_25 (by decide) (by omega) (by omega) (fun c_25 => ?_) (fun c_25 => ?_)
      · -- 25: taken
        refine lv_aload_n hx hb d_Tr_votesOf_101 rfl (lv_at hl 0 rfl) ?_
        refine va_get (D := g) (ci := 2) (v := .ref (a 1)) (C := R_Tr) (T := F_Tr) (N := 2) hx hb hT i_Tr hown hK hP 2 rfl rfl 0 (by decide) (hT _ tw_104) (fun _ h9 => h9) rfl d_Tr_votesOf_102 ?_
        refine va_getN (D := g) (ci := 1) (v := .ref (a 10)) (C := R_No) (T := F_No) (N := 13) hx hb hT i_No hown hK hP 1 rfl rfl 4 (by decide) (va_Nw.use rfl (hN _ tw_44)) (fun _ h9 => h9) rfl d_Tr_votesOf_105 ?_
        refine lv_iload_n hx hb d_Tr_votesOf_108 rfl (lv_at hl 1 rfl) ?_
        refine my_iald (v := (nI (vo x))) (i := x) hx hb hK hP 10 0 rfl rfl (by omega) (by decide) rfl d_Tr_votesOf_109 ?_
        refine lv_istore (lv' := [(11, .int (nI (vo x))), (0, .ref (a 2)), (1, .int (nI x)), (2, .int (nI w)), (3, .long o), (5, .long t), (7, .long f), (9, .long e8)]) hx hb d_Tr_votesOf_110 hl (by decide) rfl (fun ls hl => ?_)
        refine lv_iload hx hb d_Tr_votesOf_112 (lv_at hl 0 rfl) ?_
        refine lv_lload_n hx hb d_Tr_votesOf_114 rfl (lv_at hl 4 rfl) ?_
        refine lv_ldc2 (v := (-1)) hx hb hown (hT _ tw_269) d_Tr_votesOf_115 ?_
        refine my_S_l (As := [.int (nI (vo x)), .long o, .long (-1)]) (n := 3) (k_Tr_withDigit l g vwCl (tyS cI cJ cII cJJ) (stW a rB rT cI cJ cII cJJ nc nv ng kd vo nu nd en br bc un eu li tb cc0 cp cu cd tc ts tf ox ow ob ra rb gc gr gk gg gp gt sa sb) (vo x) o (-1) ) hx hb hml hown hT hN tw_362 tw_363 tw_3 tw_364 (by decide +kernel) rfl rfl ⟨Nat.le_of_ble_eq_true rfl, Nat.le_of_ble_eq_true rfl⟩ ⟨Nat.zero_le _, Nat.zero_le _⟩ hK hP hD hS hA rfl hl rfl (Nat.le_of_ble_eq_true rfl) d_Tr_votesOf_118 (fun H locs hP hD hS => ?_)
        refine lv_lstore (lv' := [(12, .long (wD (vo x) o (-1))), (11, .int (nI (vo x))), (0, .ref (a 2)), (1, .int (nI x)), (2, .int (nI w)), (3, .long o), (5, .long t), (7, .long f), (9, .long e8)]) hx hb d_Tr_votesOf_121 hl (by decide) rfl (fun ls hl => ?_)
        refine lv_iload hx hb d_Tr_votesOf_123 (lv_at hl 1 rfl) ?_
        refine lv_iconst (v := (nI 1)) hx hb d_Tr_votesOf_125 (by decide) ?_
        refine lv_ishr hx hb d_Tr_votesOf_126 ?_
        refine my_ei (pk_shrN (n := vo x) (by omega) _ 1 (s_l 1 (by omega))) ?_
        refine lv_lload hx hb d_Tr_votesOf_127 (lv_at hl 6 rfl) ?_
        refine lv_lload hx hb d_Tr_votesOf_129 (lv_at hl 0 rfl) ?_
        refine my_S_l (As := [.int (nI ((vo x) / 2 ^ 1)), .long t, .long (wD (vo x) o (-1))]) (n := 3) (k_Tr_withDigit l g vwCl (tyS cI cJ cII cJJ) (stW a rB rT cI cJ cII cJJ nc nv ng kd vo nu nd en br bc un eu li tb cc0 cp cu cd tc ts tf ox ow ob ra rb gc gr gk gg gp gt sa sb) ((vo x) / 2 ^ 1) t (wD (vo x) o (-1)) ) hx hb hml hown hT hN tw_362 tw_363 tw_3 tw_364 (by decide +kernel) rfl rfl ⟨Nat.le_of_ble_eq_true rfl, Nat.le_of_ble_eq_true rfl⟩ ⟨Nat.zero_le _, Nat.zero_le _⟩ hK hP hD hS hA rfl hl rfl (Nat.le_of_ble_eq_true rfl) d_Tr_votesOf_131 (fun H locs hP hD hS => ?_)
        refine lv_lstore (lv' := [(12, .long (wD ((vo x) / 2 ^ 1) t (wD (vo x) o (-1)))), (11, .int (nI (vo x))), (0, .ref (a 2)), (1, .int (nI x)), (2, .int (nI w)), (3, .long o), (5, .long t), (7, .long f), (9, .long e8)]) hx hb d_Tr_votesOf_134 hl (by decide) rfl (fun ls hl => ?_)
        refine lv_iload hx hb d_Tr_votesOf_136 (lv_at hl 1 rfl) ?_
        refine lv_iconst (v := (nI 2)) hx hb d_Tr_votesOf_138 (by decide) ?_
        refine lv_ishr hx hb d_Tr_votesOf_139 ?_
        refine my_ei (pk_shrN (n := vo x) (by omega) _ 2 (s_l 2 (by omega))) ?_
        refine lv_lload hx hb d_Tr_votesOf_140 (lv_at hl 7 rfl) ?_
        refine lv_lload hx hb d_Tr_votesOf_142 (lv_at hl 0 rfl) ?_
        refine my_S_l (As := [.int (nI ((vo x) / 2 ^ 2)), .long f, .long (wD ((vo x) / 2 ^ 1) t (wD (vo x) o (-1)))]) (n := 3) (k_Tr_withDigit l g vwCl (tyS cI cJ cII cJJ) (stW a rB rT cI cJ cII cJJ nc nv ng kd vo nu nd en br bc un eu li tb cc0 cp cu cd tc ts tf ox ow ob ra rb gc gr gk gg gp gt sa sb) ((vo x) / 2 ^ 2) f (wD ((vo x) / 2 ^ 1) t (wD (vo x) o (-1))) ) hx hb hml hown hT hN tw_362 tw_363 tw_3 tw_364 (by decide +kernel) rfl rfl ⟨Nat.le_of_ble_eq_true rfl, Nat.le_of_ble_eq_true rfl⟩ ⟨Nat.zero_le _, Nat.zero_le _⟩ hK hP hD hS hA rfl hl rfl (Nat.le_of_ble_eq_true rfl) d_Tr_votesOf_144 (fun H locs hP hD hS => ?_)
        refine lv_lstore (lv' := [(12, .long (wD ((vo x) / 2 ^ 2) f (wD ((vo x) / 2 ^ 1) t (wD (vo x) o (-1))))), (11, .int (nI (vo x))), (0, .ref (a 2)), (1, .int (nI x)), (2, .int (nI w)), (3, .long o), (5, .long t), (7, .long f), (9, .long e8)]) hx hb d_Tr_votesOf_147 hl (by decide) rfl (fun ls hl => ?_)
        refine lv_iload hx hb d_Tr_votesOf_149 (lv_at hl 1 rfl) ?_
        refine lv_iconst (v := (nI 3)) hx hb d_Tr_votesOf_151 (by decide) ?_
        refine lv_ishr hx hb d_Tr_votesOf_152 ?_
        refine my_ei (pk_shrN (n := vo x) (by omega) _ 3 (s_l 3 (by omega))) ?_
        refine lv_lload hx hb d_Tr_votesOf_153 (lv_at hl 8 rfl) ?_
        refine lv_lload hx hb d_Tr_votesOf_155 (lv_at hl 0 rfl) ?_
        refine my_S_l (As := [.int (nI ((vo x) / 2 ^ 3)), .long e8, .long (wD ((vo x) / 2 ^ 2) f (wD ((vo x) / 2 ^ 1) t (wD (vo x) o (-1))))]) (n := 3) (k_Tr_withDigit l g vwCl (tyS cI cJ cII cJJ) (stW a rB rT cI cJ cII cJJ nc nv ng kd vo nu nd en br bc un eu li tb cc0 cp cu cd tc ts tf ox ow ob ra rb gc gr gk gg gp gt sa sb) ((vo x) / 2 ^ 3) e8 (wD ((vo x) / 2 ^ 2) f (wD ((vo x) / 2 ^ 1) t (wD (vo x) o (-1)))) ) hx hb hml hown hT hN tw_362 tw_363 tw_3 tw_364 (by decide +kernel) rfl rfl ⟨Nat.le_of_ble_eq_true rfl, Nat.le_of_ble_eq_true rfl⟩ ⟨Nat.zero_le _, Nat.zero_le _⟩ hK hP hD hS hA rfl hl rfl (Nat.le_of_ble_eq_true rfl) d_Tr_votesOf_157 (fun H locs hP hD hS => ?_)
        refine hret _ _ _ _ _ hP hD hS d_Tr_votesOf_160 ?_
        rw [show bc x = i by omega, ← hf]; rfl
      · -- 25: not taken
        have q2 := hbr x i
        refine lv_aload_n hx hb d_Tr_votesOf_28 rfl (lv_at hl 0 rfl) ?_
        refine va_get (D := g) (ci := 2) (v := .ref (a 19)) (C := R_Tr) (T := F_Tr) (N := 2) hx hb hT i_Tr hown hK hP 2 rfl rfl 1 (by decide) (hT _ tw_105) (fun _ h9 => h9) rfl d_Tr_votesOf_29 ?_
        refine lv_aload_n hx hb d_Tr_votesOf_32 rfl (lv_at hl 0 rfl) ?_
        refine va_get (D := g) (ci := 2) (v := .ref (a 1)) (C := R_Tr) (T := F_Tr) (N := 2) hx hb hT i_Tr hown hK hP 2 rfl rfl 0 (by decide) (hT _ tw_104) (fun _ h9 => h9) rfl d_Tr_votesOf_33 ?_
        refine va_getN (D := g) (ci := 1) (v := .ref (a 14)) (C := R_No) (T := F_No) (N := 13) hx hb hT i_No hown hK hP 1 rfl rfl 8 (by decide) (va_Nw.use rfl (hN _ tw_53)) (fun _ h9 => h9) rfl d_Tr_votesOf_36 ?_
        refine lv_iload_n hx hb d_Tr_votesOf_39 rfl (lv_at hl 1 rfl) ?_
        refine my_aald (r := rB) (i := x) hx hb hK hP 14 2 rfl rfl (by omega) (by decide) d_Tr_votesOf_40 ?_
        refine lv_iload hx hb d_Tr_votesOf_41 (lv_at hl 7 rfl) ?_
        refine my_iald (v := (nI (br x i))) (i := i) hx hb hK hP (31 + x) 0 (stB_at (by omega)) rfl (by omega) (by decide) rfl d_Tr_votesOf_43 ?_
        refine my_aald (r := rT) (i := br x i) hx hb hK hP 19 3 rfl rfl (by omega) (by decide) d_Tr_votesOf_44 ?_
        refine lv_iload_n hx hb d_Tr_votesOf_45 rfl (lv_at hl 2 rfl) ?_
        refine my_lald (v := (tb (br x i) w)) (i := w) hx hb hK hP (64 + (br x i)) 1 (stT_at (by omega)) rfl (by omega) (by decide) rfl d_Tr_votesOf_46 ?_
        refine lv_lstore (lv' := [(12, .long (tb (br x i) w)), (0, .ref (a 2)), (1, .int (nI x)), (2, .int (nI w)), (3, .long o), (5, .long t), (7, .long f), (9, .long e8), (11, .int (nI i))]) hx hb d_Tr_votesOf_47 hl (by decide) rfl (fun ls hl => ?_)
        refine lv_lload_n hx hb d_Tr_votesOf_49 rfl (lv_at hl 4 rfl) ?_
        refine lv_lload hx hb d_Tr_votesOf_50 (lv_at hl 0 rfl) ?_
        refine lv_land hx hb d_Tr_votesOf_52 ?_
        refine lv_lstore (lv' := [(14, .long (o &&& (tb (br x i) w))), (12, .long (tb (br x i) w)), (0, .ref (a 2)), (1, .int (nI x)), (2, .int (nI w)), (3, .long o), (5, .long t), (7, .long f), (9, .long e8), (11, .int (nI i))]) hx hb d_Tr_votesOf_53 hl (by decide) rfl (fun ls hl => ?_)
        refine lv_lload hx hb d_Tr_votesOf_55 (lv_at hl 6 rfl) ?_
        refine lv_lload hx hb d_Tr_votesOf_57 (lv_at hl 0 rfl) ?_
        refine lv_land hx hb d_Tr_votesOf_59 ?_
        refine lv_lstore (lv' := [(16, .long (t &&& (o &&& (tb (br x i) w)))), (14, .long (o &&& (tb (br x i) w))), (12, .long (tb (br x i) w)), (0, .ref (a 2)), (1, .int (nI x)), (2, .int (nI w)), (3, .long o), (5, .long t), (7, .long f), (9, .long e8), (11, .int (nI i))]) hx hb d_Tr_votesOf_60 hl (by decide) rfl (fun ls hl => ?_)
        refine lv_lload hx hb d_Tr_votesOf_62 (lv_at hl 8 rfl) ?_
        refine lv_lload hx hb d_Tr_votesOf_64 (lv_at hl 0 rfl) ?_
        refine lv_land hx hb d_Tr_votesOf_66 ?_
        refine lv_lstore (lv' := [(18, .long (f &&& (t &&& (o &&& (tb (br x i) w))))), (16, .long (t &&& (o &&& (tb (br x i) w)))), (14, .long (o &&& (tb (br x i) w))), (12, .long (tb (br x i) w)), (0, .ref (a 2)), (1, .int (nI x)), (2, .int (nI w)), (3, .long o), (5, .long t), (7, .long f), (9, .long e8), (11, .int (nI i))]) hx hb d_Tr_votesOf_67 hl (by decide) rfl (fun ls hl => ?_)
        refine lv_lload_n hx hb d_Tr_votesOf_69 rfl (lv_at hl 7 rfl) ?_
        refine lv_lload hx hb d_Tr_votesOf_70 (lv_at hl 3 rfl) ?_
        refine lv_lxor hx hb d_Tr_votesOf_72 ?_
        refine lv_lstore_n (lv' := [(3, .long (o ^^^ (tb (br x i) w))), (18, .long (f &&& (t &&& (o &&& (tb (br x i) w))))), (16, .long (t &&& (o &&& (tb (br x i) w)))), (14, .long (o &&& (tb (br x i) w))), (12, .long (tb (br x i) w)), (0, .ref (a 2)), (1, .int (nI x)), (2, .int (nI w)), (5, .long t), (7, .long f), (9, .long e8), (11, .int (nI i))]) hx hb d_Tr_votesOf_73 rfl hl (by decide) rfl (fun ls hl => ?_)
        refine lv_lload hx hb d_Tr_votesOf_74 (lv_at hl 8 rfl) ?_
        refine lv_lload hx hb d_Tr_votesOf_76 (lv_at hl 3 rfl) ?_
        refine lv_lxor hx hb d_Tr_votesOf_78 ?_
        refine lv_lstore (lv' := [(5, .long (t ^^^ (o &&& (tb (br x i) w)))), (3, .long (o ^^^ (tb (br x i) w))), (18, .long (f &&& (t &&& (o &&& (tb (br x i) w))))), (16, .long (t &&& (o &&& (tb (br x i) w)))), (14, .long (o &&& (tb (br x i) w))), (12, .long (tb (br x i) w)), (0, .ref (a 2)), (1, .int (nI x)), (2, .int (nI w)), (7, .long f), (9, .long e8), (11, .int (nI i))]) hx hb d_Tr_votesOf_79 hl (by decide) rfl (fun ls hl => ?_)
        refine lv_lload hx hb d_Tr_votesOf_81 (lv_at hl 9 rfl) ?_
        refine lv_lload hx hb d_Tr_votesOf_83 (lv_at hl 3 rfl) ?_
        refine lv_lxor hx hb d_Tr_votesOf_85 ?_
        refine lv_lstore (lv' := [(7, .long (f ^^^ (t &&& (o &&& (tb (br x i) w))))), (5, .long (t ^^^ (o &&& (tb (br x i) w)))), (3, .long (o ^^^ (tb (br x i) w))), (18, .long (f &&& (t &&& (o &&& (tb (br x i) w))))), (16, .long (t &&& (o &&& (tb (br x i) w)))), (14, .long (o &&& (tb (br x i) w))), (12, .long (tb (br x i) w)), (0, .ref (a 2)), (1, .int (nI x)), (2, .int (nI w)), (9, .long e8), (11, .int (nI i))]) hx hb d_Tr_votesOf_86 hl (by decide) rfl (fun ls hl => ?_)
        refine lv_lload hx hb d_Tr_votesOf_88 (lv_at hl 10 rfl) ?_
        refine lv_lload hx hb d_Tr_votesOf_90 (lv_at hl 3 rfl) ?_
        refine lv_lxor hx hb d_Tr_votesOf_92 ?_
        refine lv_lstore (lv' := [(9, .long (e8 ^^^ (f &&& (t &&& (o &&& (tb (br x i) w)))))), (7, .long (f ^^^ (t &&& (o &&& (tb (br x i) w))))), (5, .long (t ^^^ (o &&& (tb (br x i) w)))), (3, .long (o ^^^ (tb (br x i) w))), (18, .long (f &&& (t &&& (o &&& (tb (br x i) w))))), (16, .long (t &&& (o &&& (tb (br x i) w)))), (14, .long (o &&& (tb (br x i) w))), (12, .long (tb (br x i) w)), (0, .ref (a 2)), (1, .int (nI x)), (2, .int (nI w)), (11, .int (nI i))]) hx hb d_Tr_votesOf_93 hl (by decide) rfl (fun ls hl => ?_)
        refine lv_iinc (v := (nI (i + 1))) (lv' := [(11, .int (nI (i + 1))), (9, .long (e8 ^^^ (f &&& (t &&& (o &&& (tb (br x i) w)))))), (7, .long (f ^^^ (t &&& (o &&& (tb (br x i) w))))), (5, .long (t ^^^ (o &&& (tb (br x i) w)))), (3, .long (o ^^^ (tb (br x i) w))), (18, .long (f &&& (t &&& (o &&& (tb (br x i) w))))), (16, .long (t &&& (o &&& (tb (br x i) w)))), (14, .long (o &&& (tb (br x i) w))), (12, .long (tb (br x i) w)), (0, .ref (a 2)), (1, .int (nI x)), (2, .int (nI w))]) hx hb d_Tr_votesOf_95 hl (k := 11) rfl (nI_1 i) (by decide) rfl (fun ls hl => ?_)
        refine lv_goto (tgt := 14) hx hb d_Tr_votesOf_98 (by decide) ?_
        refine ih_14 (i + 1) _ _ _ _ _ _ _ ?_ ?_ ?_ hP hD hS (lv_sub hl [9, 10, 11, 4, 3, 2, 1, 0] rfl)
        · omega
        · omega
        · simp only [vS, ← hf]
  refine lp_14 (bc x + 1) 0 _ _ _ _ _ _ _ ?_ ?_ ?_ hP hD hS (lv_sub hl [5, 6, 7, 4, 3, 2, 1, 0] rfl)
  · omega
  · omega
  · rfl
set_option maxHeartbeats 4000000 in
set_option maxRecDepth 100000 in
theorem k_Tr_gateWord (l : Launch) (g : va_G) (a rB rT : Nat → Nat) (cI cJ cII cJJ : ClassId) (nc : Nat) (nv : Nat) (ng : Nat) (kd : Nat → Int32) (vo : Nat → Nat) (nu : Nat → Nat) (nd : Nat → Nat) (en : Nat → Nat) (br : Nat → Nat → Nat) (bc : Nat → Nat) (un : Nat → Nat) (eu : Nat → Nat) (li : Nat → Nat) (tb : Nat → Nat → Int64) (cc0 : Nat) (cp : Nat → Nat) (cu : Nat → Nat) (cd : Nat → Nat) (tc : Nat) (ts : Nat → Nat) (tf : Nat → Nat) (ox : Bool) (ow : Nat → Nat) (ob : Nat → Nat) (ra : Nat) (rb : Nat) (gc : Nat) (gr : Nat) (gk : Nat → Nat) (gg : Nat → Nat) (gp : Nat → Nat) (gt : Nat → Nat) (sa : Nat) (sb : Nat) (x : Nat) (w : Nat) (hx1 : x ≤ 32) (hw : w < 64) (hbc : ∀ j, bc j ≤ 10) (hbr : ∀ j i, br j i ≤ 32) (hvo : ∀ j, vo j ≤ 10) : ct_l l g vwCl (tyS cI cJ cII cJJ) y_Tr_gateWord c_Tr_gateWord 3 (some .long) ({ frames := 2, cells := 0, slots := 0, locals := 63 } : Room) [.ref (a 2), .int (nI x), .int (nI w)] (stW a rB rT cI cJ cII cJJ nc nv ng kd vo nu nd en br bc un eu li tb cc0 cp cu cd tc ts tf ox ow ob ra rb gc gr gk gg gp gt sa sb) (stW a rB rT cI cJ cII cJJ nc nv ng kd vo nu nd en br bc un eu li tb cc0 cp cu cd tc ts tf ox ow ob ra rb gc gr gk gg gp gt sa sb) (gwF tb br kd vo bc x w) := by
  refine ct_l.intro (by decide) (Nat.le_of_ble_eq_true rfl) ?_
  intro p e s m args below meth c Q A ls hx hb hml hT hown hA hK hN hret hP hD hS hl
  have hown : s.vm.findClass R_Tr = some m.cls := hown
  have hl : lv_has ls 3 [(0, .ref (a 2)), (1, .int (nI x)), (2, .int (nI w))] := hl
  refine lv_aload_n hx hb d_Tr_gateWord_0 rfl (lv_at hl 0 rfl) ?_
  refine va_get (D := g) (ci := 2) (v := .ref (a 1)) (C := R_Tr) (T := F_Tr) (N := 2) hx hb hT i_Tr hown hK hP 2 rfl rfl 0 (by decide) (hT _ tw_104) (fun _ h9 => h9) rfl d_Tr_gateWord_1 ?_
  refine va_getN (D := g) (ci := 1) (v := .ref (a 9)) (C := R_No) (T := F_No) (N := 13) hx hb hT i_No hown hK hP 1 rfl rfl 3 (by decide) (va_Nw.use rfl (hN _ tw_40)) (fun _ h9 => h9) rfl d_Tr_gateWord_4 ?_
  refine lv_iload_n hx hb d_Tr_gateWord_7 rfl (lv_at hl 1 rfl) ?_
  refine my_iald (v := (kd x)) (i := x) hx hb hK hP 9 0 rfl rfl (by omega) (by decide) rfl d_Tr_gateWord_8 ?_
  by_cases h0 : kd x = 0
  · refine lv_lookup (off := 27) (tgt := 36) hx hb d_Tr_gateWord_9 (by decide) (by rw [h0]; decide) (by decide) ?_
    refine lv_aload_n hx hb d_Tr_gateWord_36 rfl (lv_at hl 0 rfl) ?_
    refine lv_iload_n hx hb d_Tr_gateWord_37 rfl (lv_at hl 1 rfl) ?_
    refine lv_iload_n hx hb d_Tr_gateWord_38 rfl (lv_at hl 2 rfl) ?_
    refine my_V_l (q0 := 2) (ci := 2) (C := R_Tr) (As := [.int (nI x), .int (nI w)]) (n := 2) (k_Tr_allOf l g a rB rT cI cJ cII cJJ nc nv ng kd vo nu nd en br bc un eu li tb cc0 cp cu cd tc ts tf ox ow ob ra rb gc gr gk gg gp gt sa sb x w hx1 hw hbc hbr) hx hb hml hown hT hN tw_350 tw_352 tp_2 tw_3 tw_353 (by decide +kernel) rfl rfl ⟨Nat.le_of_ble_eq_true rfl, Nat.le_of_ble_eq_true rfl⟩ ⟨Nat.zero_le _, Nat.zero_le _⟩ hK hP hD hS hA rfl rfl rfl hl rfl (Nat.le_of_ble_eq_true rfl) d_Tr_gateWord_39 (fun H locs hP hD hS => ?_)
    refine hret _ _ _ _ _ hP hD hS d_Tr_gateWord_42 ?_
    simp [gwF, h0]
  by_cases h1 : kd x = 1
  · refine lv_lookup (off := 34) (tgt := 43) hx hb d_Tr_gateWord_9 (by decide) (by rw [h1]; decide) (by decide) ?_
    refine lv_aload_n hx hb d_Tr_gateWord_43 rfl (lv_at hl 0 rfl) ?_
    refine lv_iload_n hx hb d_Tr_gateWord_44 rfl (lv_at hl 1 rfl) ?_
    refine lv_iload_n hx hb d_Tr_gateWord_45 rfl (lv_at hl 2 rfl) ?_
    refine my_V_l (q0 := 2) (ci := 2) (C := R_Tr) (As := [.int (nI x), .int (nI w)]) (n := 2) (k_Tr_anyOf l g a rB rT cI cJ cII cJJ nc nv ng kd vo nu nd en br bc un eu li tb cc0 cp cu cd tc ts tf ox ow ob ra rb gc gr gk gg gp gt sa sb x w hx1 hw hbc hbr) hx hb hml hown hT hN tw_354 tw_356 tp_3 tw_3 tw_357 (by decide +kernel) rfl rfl ⟨Nat.le_of_ble_eq_true rfl, Nat.le_of_ble_eq_true rfl⟩ ⟨Nat.zero_le _, Nat.zero_le _⟩ hK hP hD hS hA rfl rfl rfl hl rfl (Nat.le_of_ble_eq_true rfl) d_Tr_gateWord_46 (fun H locs hP hD hS => ?_)
    refine hret _ _ _ _ _ hP hD hS d_Tr_gateWord_49 ?_
    simp [gwF, h1]
  have z0 : ¬ (kd x).toInt = 0 := fun q => h0 (Int32.toInt_inj.mp (by rw [q]; rfl))
  have z1 : ¬ (kd x).toInt = 1 := fun q => h1 (Int32.toInt_inj.mp (by rw [q]; rfl))
  refine lv_lookup (off := 41) (tgt := 50) hx hb d_Tr_gateWord_9 (by decide) (by simp [Op.lookupswitch.offset, Ne.symm z0, Ne.symm z1]) (by decide) ?_
  refine lv_aload_n hx hb d_Tr_gateWord_50 rfl (lv_at hl 0 rfl) ?_
  refine lv_iload_n hx hb d_Tr_gateWord_51 rfl (lv_at hl 1 rfl) ?_
  refine lv_iload_n hx hb d_Tr_gateWord_52 rfl (lv_at hl 2 rfl) ?_
  refine my_V_l (q0 := 2) (ci := 2) (C := R_Tr) (As := [.int (nI x), .int (nI w)]) (n := 2) (k_Tr_votesOf l g a rB rT cI cJ cII cJJ nc nv ng kd vo nu nd en br bc un eu li tb cc0 cp cu cd tc ts tf ox ow ob ra rb gc gr gk gg gp gt sa sb x w hx1 hw hbc hbr hvo) hx hb hml hown hT hN tw_358 tw_360 tp_4 tw_3 tw_361 (by decide +kernel) rfl rfl ⟨Nat.le_of_ble_eq_true rfl, Nat.le_of_ble_eq_true rfl⟩ ⟨Nat.zero_le _, Nat.zero_le _⟩ hK hP hD hS hA rfl rfl rfl hl rfl (Nat.le_of_ble_eq_true rfl) d_Tr_gateWord_53 (fun H locs hP hD hS => ?_)
  refine hret _ _ _ _ _ hP hD hS d_Tr_gateWord_56 ?_
  simp [gwF, h0, h1]
end
section
set_option maxHeartbeats 4000000 in
set_option maxRecDepth 100000 in
theorem k_Tr_isTrue (l : Launch) (g : va_G) (a rB rT : Nat → Nat) (cI cJ cII cJJ : ClassId) (nc : Nat) (nv : Nat) (ng : Nat) (kd : Nat → Int32) (vo : Nat → Nat) (nu : Nat → Nat) (nd : Nat → Nat) (en : Nat → Nat) (br : Nat → Nat → Nat) (bc : Nat → Nat) (un : Nat → Nat) (eu : Nat → Nat) (li : Nat → Nat) (tb : Nat → Nat → Int64) (cc0 : Nat) (cp : Nat → Nat) (cu : Nat → Nat) (cd : Nat → Nat) (tc : Nat) (ts : Nat → Nat) (tf : Nat → Nat) (ox : Bool) (ow : Nat → Nat) (ob : Nat → Nat) (ra : Nat) (rb : Nat) (gc : Nat) (gr : Nat) (gk : Nat → Nat) (gg : Nat → Nat) (gp : Nat → Nat) (gt : Nat → Nat) (sa : Nat) (sb : Nat) (x : Nat) (s1 : Nat) (hx1 : x ≤ 32) (hs1 : s1 < 4096) : ct_i l g vwCl (tyS cI cJ cII cJJ) y_Tr_isTrue c_Tr_isTrue 4 (some .boolean) ({ frames := 0, cells := 0, slots := 0, locals := 0 } : Room) [.ref (a 2), .int (nI x), .int (nI s1)] (stW a rB rT cI cJ cII cJJ nc nv ng kd vo nu nd en br bc un eu li tb cc0 cp cu cd tc ts tf ox ow ob ra rb gc gr gk gg gp gt sa sb) (stW a rB rT cI cJ cII cJJ nc nv ng kd vo nu nd en br bc un eu li tb cc0 cp cu cd tc ts tf ox ow ob ra rb gc gr gk gg gp gt sa sb) (b2 (isT tb x s1)) := by
  refine ct_i.introZ (by decide) (Nat.le_of_ble_eq_true rfl) ?_
  intro p e s m args below meth c Q A ls hx hb hml hT hown hA hK hN hret hP hD hS hl
  have hown : s.vm.findClass R_Tr = some m.cls := hown
  have hl : lv_has ls 4 [(0, .ref (a 2)), (1, .int (nI x)), (2, .int (nI s1))] := hl
  have q1 : s1 / 2 ^ 6 &&& 63 < 64 := Nat.lt_of_le_of_lt Nat.and_le_right (by decide)
  have q2 : s1 &&& 63 < 64 := Nat.lt_of_le_of_lt Nat.and_le_right (by decide)
  refine lv_iload_n hx hb d_Tr_isTrue_0 rfl (lv_at hl 2 rfl) ?_
  refine lv_bipush (v := (nI 6)) hx hb d_Tr_isTrue_1 (by decide) ?_
  refine lv_ishr hx hb d_Tr_isTrue_3 ?_
  refine my_ei (pk_shrN (n := s1) (by omega) _ 6 (s_l 6 (by omega))) ?_
  refine lv_bipush (v := (nI 63)) hx hb d_Tr_isTrue_4 (by decide) ?_
  refine lv_iand hx hb d_Tr_isTrue_6 ?_
  refine my_ei (nx_and (s1 / 2 ^ 6) 63) ?_
  refine lv_istore_n (lv' := [(3, .int (nI ((s1 / 2 ^ 6) &&& 63))), (0, .ref (a 2)), (1, .int (nI x)), (2, .int (nI s1))]) hx hb d_Tr_isTrue_7 rfl hl (by decide) rfl (fun ls hl => ?_)
  refine lv_aload_n hx hb d_Tr_isTrue_8 rfl (lv_at hl 1 rfl) ?_
  refine va_get (D := g) (ci := 2) (v := .ref (a 19)) (C := R_Tr) (T := F_Tr) (N := 2) hx hb hT i_Tr hown hK hP 2 rfl rfl 1 (by decide) (hT _ tw_105) (fun _ h9 => h9) rfl d_Tr_isTrue_9 ?_
  refine lv_iload_n hx hb d_Tr_isTrue_12 rfl (lv_at hl 2 rfl) ?_
  refine my_aald (r := rT) (i := x) hx hb hK hP 19 3 rfl rfl (by omega) (by decide) d_Tr_isTrue_13 ?_
  refine lv_iload_n hx hb d_Tr_isTrue_14 rfl (lv_at hl 0 rfl) ?_
  refine my_lald (v := (tb x ((s1 / 2 ^ 6) &&& 63))) (i := (s1 / 2 ^ 6) &&& 63) hx hb hK hP (64 + x) 1 (stT_at (by omega)) rfl (by omega) (by decide) rfl d_Tr_isTrue_15 ?_
  refine lv_iload_n hx hb d_Tr_isTrue_16 rfl (lv_at hl 3 rfl) ?_
  refine lv_bipush (v := (nI 63)) hx hb d_Tr_isTrue_17 (by decide) ?_
  refine lv_iand hx hb d_Tr_isTrue_19 ?_
  refine my_ei (nx_and s1 63) ?_
  refine lv_lushr (v := ((tb x ((s1 / 2 ^ 6) &&& 63)).toUInt64 >>> ((nI (s1 &&& 63)).toInt64.toUInt64 &&& Int64.toUInt64 63)).toInt64) hx hb d_Tr_isTrue_20 rfl ?_
  refine lv_lconst (v := (lN 1)) hx hb d_Tr_isTrue_21 (by decide) ?_
  refine lv_land hx hb d_Tr_isTrue_22 ?_
  refine lv_lconst (v := (lN 0)) hx hb d_Tr_isTrue_23 (by decide) ?_
  refine my_lcmpR_eq (tgt := 32) hx hb d_Tr_isTrue_24 d_Tr_isTrue_25 (by decide) (fun c_24 => ?_) (fun c_24 => ?_)
  · -- 24: taken
    refine lv_iconst (v := (nI 0)) hx hb d_Tr_isTrue_32 (by decide) ?_
    refine hret _ _ _ _ _ hP hD hS d_Tr_isTrue_33 ?_
    exact b2F ((tbit0 q2).mp c_24)
  · -- 24: not taken
    refine lv_iconst (v := (nI 1)) hx hb d_Tr_isTrue_28 (by decide) ?_
    refine lv_goto (tgt := 33) hx hb d_Tr_isTrue_29 (by decide) ?_
    refine hret _ _ _ _ _ hP hD hS d_Tr_isTrue_33 ?_
    exact b2T (tbit1 q2 c_24)
set_option maxHeartbeats 4000000 in
set_option maxRecDepth 100000 in
theorem k_Tr_fillGate (l : Launch) (g : va_G) (a rB rT : Nat → Nat) (cI cJ cII cJJ : ClassId) (nc : Nat) (nv : Nat) (ng : Nat) (kd : Nat → Int32) (vo : Nat → Nat) (nu : Nat → Nat) (nd : Nat → Nat) (en : Nat → Nat) (br : Nat → Nat → Nat) (bc : Nat → Nat) (un : Nat → Nat) (eu : Nat → Nat) (li : Nat → Nat) (tb : Nat → Nat → Int64) (cc0 : Nat) (cp : Nat → Nat) (cu : Nat → Nat) (cd : Nat → Nat) (tc : Nat) (ts : Nat → Nat) (tf : Nat → Nat) (ox : Bool) (ow : Nat → Nat) (ob : Nat → Nat) (ra : Nat) (rb : Nat) (gc : Nat) (gr : Nat) (gk : Nat → Nat) (gg : Nat → Nat) (gp : Nat → Nat) (gt : Nat → Nat) (sa : Nat) (sb : Nat) (x : Nat) (r : Nat) (hx1 : x ≤ 32) (hbc : ∀ j, bc j ≤ 10) (hbr : ∀ j i, br j i ≤ 32) (hvo : ∀ j, vo j ≤ 10) : ct_v l g vwCl (tyS cI cJ cII cJJ) y_Tr_fillGate c_Tr_fillGate 4 none ({ frames := 3, cells := 0, slots := 0, locals := 85 } : Room) [.ref (a 2), .int (nI x), .int (nI r)] (stW a rB rT cI cJ cII cJJ nc nv ng kd vo nu nd en br bc un eu li tb cc0 cp cu cd tc ts tf ox ow ob ra rb gc gr gk gg gp gt sa sb) (stW a rB rT cI cJ cII cJJ nc nv ng kd vo nu nd en br bc un eu li (fgF tb br kd vo bc x r 64) cc0 cp cu cd tc ts tf ox ow ob ra rb gc gr gk gg gp gt sa sb) := by
  refine ct_v.intro (by decide) (Nat.le_of_ble_eq_true rfl) ?_
  intro p e s m args below meth c Q A ls hx hb hml hT hown hA hK hN hret hP hD hS hl
  have hown : s.vm.findClass R_Tr = some m.cls := hown
  have hl : lv_has ls 4 [(0, .ref (a 2)), (1, .int (nI x)), (2, .int (nI r))] := hl
  refine lv_iconst (v := (nI 0)) hx hb d_Tr_fillGate_0 (by decide) ?_
  refine lv_istore_n (lv' := [(3, .int (nI 0)), (0, .ref (a 2)), (1, .int (nI x)), (2, .int (nI r))]) hx hb d_Tr_fillGate_1 rfl hl (by decide) rfl (fun ls hl => ?_)
  have lp_2 : ∀ (k : Nat) (i : Nat) (t : Nat → Nat → Int64) (H : Heap) (locs : List Loc) (ls : Array Slot), (64 < i + k) → (i ≤ 64) → (t = fgF tb br kd vo bc x r i) → va_P g vwCl (stW a rB rT cI cJ cII cJJ nc nv ng kd vo nu nd en br bc un eu li t cc0 cp cu cd tc ts tf ox ow ob ra rb gc gr gk gg gp gt sa sb) H → va_D A (stW a rB rT cI cJ cII cJJ nc nv ng kd vo nu nd en br bc un eu li t cc0 cp cu cd tc ts tf ox ow ob ra rb gc gr gk gg gp gt sa sb) → va_S A s.heap H locs → lv_has ls 4 [(0, .ref (a 2)), (1, .int (nI x)), (2, .int (nI r)), (3, .int (nI i))] → W p l e ({ frames := 3, cells := 0, slots := 0, locals := 85 } : Room) s m args below meth c H locs 0 0 Q (F0 m 2 ls []) := by
    intro k
    induction k with
    | zero =>
      intro i t H locs ls hk hi hf hP hD hS hl
      exfalso
      omega
    | succ k ih_2 =>
      intro i t H locs ls hk hi hf hP hD hS hl
      refine lv_iload_n hx hb d_Tr_fillGate_2 rfl (lv_at hl 3 rfl) ?_
      refine lv_bipush (v := (nI 64)) hx hb d_Tr_fillGate_3 (by decide) ?_
      refine my_icmp_ge (tgt := 35) (a := i) (b := 64) hx hb d_Tr_fillGate_5 (by decide) (by omega) (by omega) (fun c_5 => ?_) (fun c_5 => ?_)
      · -- 5: taken
        have e1 : t = fgF tb br kd vo bc x r 64 := by rw [hf, show i = 64 by omega]
        rw [e1] at hP hD
        exact hret _ _ _ _ hP hD hS d_Tr_fillGate_35
      · -- 5: not taken
        refine lv_iload_n hx hb d_Tr_fillGate_8 rfl (lv_at hl 3 rfl) ?_
        refine lv_iload_n hx hb d_Tr_fillGate_9 rfl (lv_at hl 2 rfl) ?_
        refine lv_iand hx hb d_Tr_fillGate_10 ?_
        refine my_ei (nx_and i r) ?_
        refine lv_iload_n hx hb d_Tr_fillGate_11 rfl (lv_at hl 3 rfl) ?_
        have q1 : i &&& r < 64 := Nat.lt_of_le_of_lt Nat.and_le_left (by omega)
        refine my_icmp_ne (tgt := 29) (a := i &&& r) (b := i) hx hb d_Tr_fillGate_12 (by decide) (by omega) (by omega) (fun c_12 => ?_) (fun c_12 => ?_)
        · -- 12: taken
          refine lv_iinc (v := (nI (i + 1))) (lv' := [(3, .int (nI (i + 1))), (0, .ref (a 2)), (1, .int (nI x)), (2, .int (nI r))]) hx hb d_Tr_fillGate_29 hl (k := 3) rfl (nI_1 i) (by decide) rfl (fun ls hl => ?_)
          refine lv_goto (tgt := 2) hx hb d_Tr_fillGate_32 (by decide) ?_
          refine ih_2 _ _ _ _ _ ?_ ?_ ?_ hP hD hS (lv_sub hl [1, 2, 3, 0] rfl)
          · omega
          · omega
          · rw [hf]; exact ((if_neg c_12).symm)
        · -- 12: not taken
          refine lv_aload_n hx hb d_Tr_fillGate_15 rfl (lv_at hl 0 rfl) ?_
          refine va_get (D := g) (ci := 2) (v := .ref (a 19)) (C := R_Tr) (T := F_Tr) (N := 2) hx hb hT i_Tr hown hK hP 2 rfl rfl 1 (by decide) (hT _ tw_105) (fun _ h9 => h9) rfl d_Tr_fillGate_16 ?_
          refine lv_iload_n hx hb d_Tr_fillGate_19 rfl (lv_at hl 1 rfl) ?_
          refine my_aald (r := rT) (i := x) hx hb hK hP 19 3 rfl rfl (by omega) (by decide) d_Tr_fillGate_20 ?_
          refine lv_iload_n hx hb d_Tr_fillGate_21 rfl (lv_at hl 3 rfl) ?_
          refine lv_aload_n hx hb d_Tr_fillGate_22 rfl (lv_at hl 0 rfl) ?_
          refine lv_iload_n hx hb d_Tr_fillGate_23 rfl (lv_at hl 1 rfl) ?_
          refine lv_iload_n hx hb d_Tr_fillGate_24 rfl (lv_at hl 3 rfl) ?_
          refine my_V_l (q0 := 2) (ci := 2) (C := R_Tr) (As := [.int (nI x), .int (nI i)]) (n := 2) (k_Tr_gateWord l g a rB rT cI cJ cII cJJ nc nv ng kd vo nu nd en br bc un eu li t cc0 cp cu cd tc ts tf ox ow ob ra rb gc gr gk gg gp gt sa sb x i hx1 (by omega) hbc hbr hvo) hx hb hml hown hT hN tw_346 tw_348 tp_1 tw_3 tw_349 (by decide +kernel) rfl rfl ⟨Nat.le_of_ble_eq_true rfl, Nat.le_of_ble_eq_true rfl⟩ ⟨Nat.zero_le _, Nat.zero_le _⟩ hK hP hD hS hA rfl rfl rfl hl rfl (Nat.le_of_ble_eq_true rfl) d_Tr_fillGate_25 (fun H locs hP hD hS => ?_)
          refine my_last (i := i) hx hb hK hP hD hS (64 + x) 1 (stT_at (by omega)) rfl (by omega) (by decide) (my_upJ _ _ _) (stT_set (by omega)) d_Tr_fillGate_28 (fun H locs hP hD hS => ?_)
          have hP : va_P g vwCl (stW a rB rT cI cJ cII cJJ nc nv ng kd vo nu nd en br bc un eu li (va_up t x (va_up (t x) i (gwF t br kd vo bc x i))) cc0 cp cu cd tc ts tf ox ow ob ra rb gc gr gk gg gp gt sa sb) H := hP
          have hD : va_D A (stW a rB rT cI cJ cII cJJ nc nv ng kd vo nu nd en br bc un eu li (va_up t x (va_up (t x) i (gwF t br kd vo bc x i))) cc0 cp cu cd tc ts tf ox ow ob ra rb gc gr gk gg gp gt sa sb) := hD
          refine lv_iinc (v := (nI (i + 1))) (lv' := [(3, .int (nI (i + 1))), (0, .ref (a 2)), (1, .int (nI x)), (2, .int (nI r))]) hx hb d_Tr_fillGate_29 hl (k := 3) rfl (nI_1 i) (by decide) rfl (fun ls hl => ?_)
          refine lv_goto (tgt := 2) hx hb d_Tr_fillGate_32 (by decide) ?_
          refine ih_2 _ _ _ _ _ ?_ ?_ ?_ hP hD hS (lv_sub hl [1, 2, 3, 0] rfl)
          · omega
          · omega
          · rw [hf]; exact ((if_pos c_12).symm)
  refine lp_2 (65) _ _ _ _ _ ?_ ?_ ?_ hP hD hS (lv_sub hl [1, 2, 3, 0] rfl)
  · omega
  · omega
  · rfl
set_option maxHeartbeats 4000000 in
set_option maxRecDepth 100000 in
theorem k_Tr_fillGates (l : Launch) (g : va_G) (a rB rT : Nat → Nat) (cI cJ cII cJJ : ClassId) (nc : Nat) (nv : Nat) (ng : Nat) (kd : Nat → Int32) (vo : Nat → Nat) (nu : Nat → Nat) (nd : Nat → Nat) (en : Nat → Nat) (br : Nat → Nat → Nat) (bc : Nat → Nat) (un : Nat → Nat) (eu : Nat → Nat) (li : Nat → Nat) (tb : Nat → Nat → Int64) (cc0 : Nat) (cp : Nat → Nat) (cu : Nat → Nat) (cd : Nat → Nat) (tc : Nat) (ts : Nat → Nat) (tf : Nat → Nat) (ox : Bool) (ow : Nat → Nat) (ob : Nat → Nat) (ra : Nat) (rb : Nat) (gc : Nat) (gr : Nat) (gk : Nat → Nat) (gg : Nat → Nat) (gp : Nat → Nat) (gt : Nat → Nat) (sa : Nat) (sb : Nat) (x : Nat) (hx1 : x ≤ 32) (hnc : nc ≤ 32) (hun : ∀ j, un j < 2 ^ 33) (heu : ∀ j, eu j < 2 ^ 12) (hbc : ∀ j, bc j ≤ 10) (hbr : ∀ j i, br j i ≤ 32) (hvo : ∀ j, vo j ≤ 10) : ct_v l g vwCl (tyS cI cJ cII cJJ) y_Tr_fillGates c_Tr_fillGates 5 none ({ frames := 4, cells := 0, slots := 0, locals := 108 } : Room) [.ref (a 2), .int (nI x)] (stW a rB rT cI cJ cII cJJ nc nv ng kd vo nu nd en br bc un eu li tb cc0 cp cu cd tc ts tf ox ow ob ra rb gc gr gk gg gp gt sa sb) (stW a rB rT cI cJ cII cJJ nc nv ng kd vo nu nd en br bc un eu ((luS (luC nc kd un x) nc (0, li) 33).2) (fsF tb br kd vo bc (luS (luC nc kd un x) nc (0, li) 33).2 (eu x / 2 ^ 6) (luS (luC nc kd un x) nc (0, li) 33).1) cc0 cp cu cd tc ts tf ox ow ob ra rb gc gr gk gg gp gt sa sb) := by
  refine ct_v.intro (by decide) (Nat.le_of_ble_eq_true rfl) ?_
  intro p e s m args below meth c Q A ls hx hb hml hT hown hA hK hN hret hP hD hS hl
  have hown : s.vm.findClass R_Tr = some m.cls := hown
  have hl : lv_has ls 5 [(0, .ref (a 2)), (1, .int (nI x))] := hl
  have q1 := heu x
  have q2 := luS_le (luC nc kd un x) nc li 33
  refine lv_aload_n hx hb d_Tr_fillGates_0 rfl (lv_at hl 0 rfl) ?_
  refine va_get (D := g) (ci := 2) (v := .ref (a 1)) (C := R_Tr) (T := F_Tr) (N := 2) hx hb hT i_Tr hown hK hP 2 rfl rfl 0 (by decide) (hT _ tw_104) (fun _ h9 => h9) rfl d_Tr_fillGates_1 ?_
  refine va_getN (D := g) (ci := 1) (v := .ref (a 17)) (C := R_No) (T := F_No) (N := 13) hx hb hT i_No hown hK hP 1 rfl rfl 11 (by decide) (va_Nw.use rfl (hN _ tw_61)) (fun _ h9 => h9) rfl d_Tr_fillGates_4 ?_
  refine lv_iload_n hx hb d_Tr_fillGates_7 rfl (lv_at hl 1 rfl) ?_
  refine my_iald (v := (nI (eu x))) (i := x) hx hb hK hP 17 0 rfl rfl (by omega) (by decide) rfl d_Tr_fillGates_8 ?_
  refine lv_bipush (v := (nI 6)) hx hb d_Tr_fillGates_9 (by decide) ?_
  refine lv_ishr hx hb d_Tr_fillGates_11 ?_
  refine my_ei (pk_shrN (n := eu x) (by omega) _ 6 (s_l 6 (by omega))) ?_
  refine lv_istore_n (lv' := [(2, .int (nI ((eu x) / 2 ^ 6))), (0, .ref (a 2)), (1, .int (nI x))]) hx hb d_Tr_fillGates_12 rfl hl (by decide) rfl (fun ls hl => ?_)
  refine lv_aload_n hx hb d_Tr_fillGates_13 rfl (lv_at hl 1 rfl) ?_
  refine va_get (D := g) (ci := 2) (v := .ref (a 1)) (C := R_Tr) (T := F_Tr) (N := 2) hx hb hT i_Tr hown hK hP 2 rfl rfl 0 (by decide) (hT _ tw_104) (fun _ h9 => h9) rfl d_Tr_fillGates_14 ?_
  refine lv_iload_n hx hb d_Tr_fillGates_17 rfl (lv_at hl 2 rfl) ?_
  refine my_V_i (q0 := 1) (ci := 1) (C := R_No) (As := [.int (nI x)]) (n := 1) (k_No_lineUp l g a rB rT cI cJ cII cJJ nc nv ng kd vo nu nd en br bc un eu li tb cc0 cp cu cd tc ts tf ox ow ob ra rb gc gr gk gg gp gt sa sb x hx1 hnc hun) hx hb hml hown hT hN tw_331 tw_332 tw_333 tw_2 tw_334 (by decide +kernel) rfl rfl ⟨Nat.le_of_ble_eq_true rfl, Nat.le_of_ble_eq_true rfl⟩ ⟨Nat.zero_le _, Nat.zero_le _⟩ hK hP hD hS hA rfl rfl rfl hl rfl (Nat.le_of_ble_eq_true rfl) d_Tr_fillGates_18 (fun H locs hP hD hS => ?_)
  refine lv_istore_n (lv' := [(3, .int (nI ((luS (luC nc kd un x) nc (0, li) 33).1))), (2, .int (nI ((eu x) / 2 ^ 6))), (0, .ref (a 2)), (1, .int (nI x))]) hx hb d_Tr_fillGates_21 rfl hl (by decide) rfl (fun ls hl => ?_)
  refine lv_iconst (v := (nI 0)) hx hb d_Tr_fillGates_22 (by decide) ?_
  refine lv_istore (lv' := [(4, .int (nI 0)), (3, .int (nI ((luS (luC nc kd un x) nc (0, li) 33).1))), (2, .int (nI ((eu x) / 2 ^ 6))), (0, .ref (a 2)), (1, .int (nI x))]) hx hb d_Tr_fillGates_23 hl (by decide) rfl (fun ls hl => ?_)
  have lp_25 : ∀ (k : Nat) (i : Nat) (t : Nat → Nat → Int64) (H : Heap) (locs : List Loc) (ls : Array Slot), ((luS (luC nc kd un x) nc (0, li) 33).1 < i + k) → (i ≤ (luS (luC nc kd un x) nc (0, li) 33).1) → (t = fsF tb br kd vo bc (luS (luC nc kd un x) nc (0, li) 33).2 (eu x / 2 ^ 6) i) → va_P g vwCl (stW a rB rT cI cJ cII cJJ nc nv ng kd vo nu nd en br bc un eu ((luS (luC nc kd un x) nc (0, li) 33).2) t cc0 cp cu cd tc ts tf ox ow ob ra rb gc gr gk gg gp gt sa sb) H → va_D A (stW a rB rT cI cJ cII cJJ nc nv ng kd vo nu nd en br bc un eu ((luS (luC nc kd un x) nc (0, li) 33).2) t cc0 cp cu cd tc ts tf ox ow ob ra rb gc gr gk gg gp gt sa sb) → va_S A s.heap H locs → lv_has ls 5 [(0, .ref (a 2)), (1, .int (nI x)), (2, .int (nI (eu x / 2 ^ 6))), (3, .int (nI ((luS (luC nc kd un x) nc (0, li) 33).1))), (4, .int (nI i))] → W p l e ({ frames := 4, cells := 0, slots := 0, locals := 108 } : Room) s m args below meth c H locs 0 0 Q (F0 m 25 ls []) := by
    intro k
    induction k with
    | zero =>
      intro i t H locs ls hk hi hf hP hD hS hl
      exfalso
      omega
    | succ k ih_25 =>
      intro i t H locs ls hk hi hf hP hD hS hl
      refine lv_iload hx hb d_Tr_fillGates_25 (lv_at hl 4 rfl) ?_
      refine lv_iload_n hx hb d_Tr_fillGates_27 rfl (lv_at hl 3 rfl) ?_
      refine my_icmp_ge (tgt := 52) (a := i) (b := (luS (luC nc kd un x) nc (0, li) 33).1) hx hb d_Tr_fillGates_28 (by decide) (by omega) (by omega) (fun c_28 => ?_) (fun c_28 => ?_)
      · -- 28: taken
        have e1 : t = fsF tb br kd vo bc (luS (luC nc kd un x) nc (0, li) 33).2 (eu x / 2 ^ 6) (luS (luC nc kd un x) nc (0, li) 33).1 := by rw [hf, show i = (luS (luC nc kd un x) nc (0, li) 33).1 by omega]
        rw [e1] at hP hD
        exact hret _ _ _ _ hP hD hS d_Tr_fillGates_52
      · -- 28: not taken
        have q3 := luS_in (luC nc kd un x) nc li 33 i c_28
        refine lv_aload_n hx hb d_Tr_fillGates_31 rfl (lv_at hl 0 rfl) ?_
        refine lv_aload_n hx hb d_Tr_fillGates_32 rfl (lv_at hl 0 rfl) ?_
        refine va_get (D := g) (ci := 2) (v := .ref (a 1)) (C := R_Tr) (T := F_Tr) (N := 2) hx hb hT i_Tr hown hK hP 2 rfl rfl 0 (by decide) (hT _ tw_104) (fun _ h9 => h9) rfl d_Tr_fillGates_33 ?_
        refine va_getN (D := g) (ci := 1) (v := .ref (a 18)) (C := R_No) (T := F_No) (N := 13) hx hb hT i_No hown hK hP 1 rfl rfl 12 (by decide) (va_Nw.use rfl (hN _ tw_65)) (fun _ h9 => h9) rfl d_Tr_fillGates_36 ?_
        refine lv_iload hx hb d_Tr_fillGates_39 (lv_at hl 4 rfl) ?_
        refine my_iald (v := (nI (((luS (luC nc kd un x) nc (0, li) 33).2) i))) (i := i) hx hb hK hP 18 0 rfl rfl (by omega) (by decide) rfl d_Tr_fillGates_41 ?_
        refine lv_iload_n hx hb d_Tr_fillGates_42 rfl (lv_at hl 2 rfl) ?_
        refine my_V_v (q0 := 2) (ci := 2) (C := R_Tr) (As := [.int (nI (((luS (luC nc kd un x) nc (0, li) 33).2) i)), .int (nI (eu x / 2 ^ 6))]) (n := 2) (k_Tr_fillGate l g a rB rT cI cJ cII cJJ nc nv ng kd vo nu nd en br bc un eu ((luS (luC nc kd un x) nc (0, li) 33).2) t cc0 cp cu cd tc ts tf ox ow ob ra rb gc gr gk gg gp gt sa sb (((luS (luC nc kd un x) nc (0, li) 33).2) i) (eu x / 2 ^ 6) (by omega) hbc hbr hvo) hx hb hml hown hT hN tw_342 tw_344 tp_0 tw_3 tw_345 (by decide +kernel) rfl rfl ⟨Nat.le_of_ble_eq_true rfl, Nat.le_of_ble_eq_true rfl⟩ ⟨Nat.zero_le _, Nat.zero_le _⟩ hK hP hD hS hA rfl rfl rfl hl rfl (Nat.le_of_ble_eq_true rfl) d_Tr_fillGates_43 (fun H locs hP hD hS => ?_)
        refine lv_iinc (v := (nI (i + 1))) (lv' := [(4, .int (nI (i + 1))), (0, .ref (a 2)), (1, .int (nI x)), (2, .int (nI (eu x / 2 ^ 6))), (3, .int (nI ((luS (luC nc kd un x) nc (0, li) 33).1)))]) hx hb d_Tr_fillGates_46 hl (k := 4) rfl (nI_1 i) (by decide) rfl (fun ls hl => ?_)
        refine lv_goto (tgt := 25) hx hb d_Tr_fillGates_49 (by decide) ?_
        refine ih_25 _ _ _ _ _ ?_ ?_ ?_ hP hD hS (lv_sub hl [1, 2, 3, 4, 0] rfl)
        · omega
        · omega
        · rw [hf]; rfl
  refine lp_25 ((luS (luC nc kd un x) nc (0, li) 33).1 + 1) _ _ _ _ _ ?_ ?_ ?_ hP hD hS (lv_sub hl [3, 4, 2, 1, 0] rfl)
  · omega
  · omega
  · rfl
set_option maxHeartbeats 4000000 in
set_option maxRecDepth 100000 in
theorem k_Tr_countTrue (l : Launch) (g : va_G) (a rB rT : Nat → Nat) (cI cJ cII cJJ : ClassId) (nc : Nat) (nv : Nat) (ng : Nat) (kd : Nat → Int32) (vo : Nat → Nat) (nu : Nat → Nat) (nd : Nat → Nat) (en : Nat → Nat) (br : Nat → Nat → Nat) (bc : Nat → Nat) (un : Nat → Nat) (eu : Nat → Nat) (li : Nat → Nat) (tb : Nat → Nat → Int64) (cc0 : Nat) (cp : Nat → Nat) (cu : Nat → Nat) (cd : Nat → Nat) (tc : Nat) (ts : Nat → Nat) (tf : Nat → Nat) (ox : Bool) (ow : Nat → Nat) (ob : Nat → Nat) (ra : Nat) (rb : Nat) (gc : Nat) (gr : Nat) (gk : Nat → Nat) (gg : Nat → Nat) (gp : Nat → Nat) (gt : Nat → Nat) (sa : Nat) (sb : Nat) (x : Nat) (w : Nat) (hx1 : x ≤ 32) (hw : w < 4096) : ct_i l g vwCl (tyS cI cJ cII cJJ) y_Tr_countTrue c_Tr_countTrue 7 (some .int) ({ frames := 2, cells := 0, slots := 0, locals := 40 } : Room) [.ref (a 2), .int (nI x), .int (nI w)] (stW a rB rT cI cJ cII cJJ nc nv ng kd vo nu nd en br bc un eu li tb cc0 cp cu cd tc ts tf ox ow ob ra rb gc gr gk gg gp gt sa sb) (stW a rB rT cI cJ cII cJJ nc nv ng kd vo nu nd en br bc un eu li tb cc0 cp cu cd tc ts tf ox ow ob ra rb gc gr gk gg gp gt sa sb) (nI (ctF tb x w (2 ^ popc w 12))) := by
  refine ct_i.intro (by decide) (Nat.le_of_ble_eq_true rfl) ?_
  intro p e s m args below meth c Q A ls hx hb hml hT hown hA hK hN hret hP hD hS hl
  have hown : s.vm.findClass R_Tr = some m.cls := hown
  have hl : lv_has ls 7 [(0, .ref (a 2)), (1, .int (nI x)), (2, .int (nI w))] := hl
  have q1 := pop12 w
  have q0 : 0 < 2 ^ popc w 12 := Nat.two_pow_pos _
  refine lv_iload_n hx hb d_Tr_countTrue_0 rfl (lv_at hl 2 rfl) ?_
  refine my_SN_i (As := [.int (nI w)]) (n := 1) (k_ST_countOfSets l g vwCl (tyS cI cJ cII cJJ) (stW a rB rT cI cJ cII cJJ nc nv ng kd vo nu nd en br bc un eu li tb cc0 cp cu cd tc ts tf ox ow ob ra rb gc gr gk gg gp gt sa sb) w (by omega)) hx hb hml hown hT hN tw_536 tw_315 tw_1 tw_316 (by decide +kernel) rfl rfl ⟨Nat.le_of_ble_eq_true rfl, Nat.le_of_ble_eq_true rfl⟩ ⟨Nat.zero_le _, Nat.zero_le _⟩ hK hP hD hS hA rfl hl rfl (Nat.le_of_ble_eq_true rfl) d_Tr_countTrue_1 (fun H locs hP hD hS => ?_)
  refine lv_istore_n (lv' := [(3, .int (nI (2 ^ popc w 12))), (0, .ref (a 2)), (1, .int (nI x)), (2, .int (nI w))]) hx hb d_Tr_countTrue_4 rfl hl (by decide) rfl (fun ls hl => ?_)
  refine lv_iconst (v := (nI 0)) hx hb d_Tr_countTrue_5 (by decide) ?_
  refine lv_istore (lv' := [(4, .int (nI 0)), (3, .int (nI (2 ^ popc w 12))), (0, .ref (a 2)), (1, .int (nI x)), (2, .int (nI w))]) hx hb d_Tr_countTrue_6 hl (by decide) rfl (fun ls hl => ?_)
  refine lv_iconst (v := (nI 0)) hx hb d_Tr_countTrue_8 (by decide) ?_
  refine lv_istore (lv' := [(5, .int (nI 0)), (4, .int (nI 0)), (3, .int (nI (2 ^ popc w 12))), (0, .ref (a 2)), (1, .int (nI x)), (2, .int (nI w))]) hx hb d_Tr_countTrue_9 hl (by decide) rfl (fun ls hl => ?_)
  refine lv_iconst (v := (nI 0)) hx hb d_Tr_countTrue_11 (by decide) ?_
  refine lv_istore (lv' := [(6, .int (nI 0)), (5, .int (nI 0)), (4, .int (nI 0)), (3, .int (nI (2 ^ popc w 12))), (0, .ref (a 2)), (1, .int (nI x)), (2, .int (nI w))]) hx hb d_Tr_countTrue_12 hl (by decide) rfl (fun ls hl => ?_)
  have lp_14 : ∀ (k : Nat) (i : Nat) (v : Nat) (f : Nat) (H : Heap) (locs : List Loc) (ls : Array Slot), (2 ^ popc w 12 < i + k) → (i ≤ 2 ^ popc w 12) → (v < 4096) → (i < 2 ^ popc w 12 → v = pd 12 w i) → (f = ctF tb x w i) → va_P g vwCl (stW a rB rT cI cJ cII cJJ nc nv ng kd vo nu nd en br bc un eu li tb cc0 cp cu cd tc ts tf ox ow ob ra rb gc gr gk gg gp gt sa sb) H → va_D A (stW a rB rT cI cJ cII cJJ nc nv ng kd vo nu nd en br bc un eu li tb cc0 cp cu cd tc ts tf ox ow ob ra rb gc gr gk gg gp gt sa sb) → va_S A s.heap H locs → lv_has ls 7 [(0, .ref (a 2)), (1, .int (nI x)), (2, .int (nI w)), (3, .int (nI (2 ^ popc w 12))), (4, .int (nI v)), (5, .int (nI f)), (6, .int (nI i))] → W p l e ({ frames := 2, cells := 0, slots := 0, locals := 40 } : Room) s m args below meth c H locs 0 0 Q (F0 m 14 ls []) := by
    intro k
    induction k with
    | zero =>
      intro i v f H locs ls hk hi hv hp hf hP hD hS hl
      exfalso
      omega
    | succ k ih_14 =>
      intro i v f H locs ls hk hi hv hp hf hP hD hS hl
      refine lv_iload hx hb d_Tr_countTrue_14 (lv_at hl 6 rfl) ?_
      refine lv_iload_n hx hb d_Tr_countTrue_16 rfl (lv_at hl 3 rfl) ?_
      refine my_icmp_ge (tgt := 47) (a := i) (b := 2 ^ popc w 12) hx hb d_Tr_countTrue_17 (by decide) (by omega) (by omega) (fun c_17 => ?_) (fun c_17 => ?_)
      · -- 17: taken
        refine lv_iload hx hb d_Tr_countTrue_47 (lv_at hl 5 rfl) ?_
        refine hret _ _ _ _ _ hP hD hS d_Tr_countTrue_49 ?_
        rw [hf, show i = 2 ^ popc w 12 by omega]
      · -- 17: not taken
        refine lv_aload_n hx hb d_Tr_countTrue_20 rfl (lv_at hl 0 rfl) ?_
        refine lv_iload_n hx hb d_Tr_countTrue_21 rfl (lv_at hl 1 rfl) ?_
        refine lv_iload hx hb d_Tr_countTrue_22 (lv_at hl 4 rfl) ?_
        refine my_V_i (q0 := 2) (ci := 2) (C := R_Tr) (As := [.int (nI x), .int (nI v)]) (n := 2) (k_Tr_isTrue l g a rB rT cI cJ cII cJJ nc nv ng kd vo nu nd en br bc un eu li tb cc0 cp cu cd tc ts tf ox ow ob ra rb gc gr gk gg gp gt sa sb x v (by omega) (by omega)) hx hb hml hown hT hN tw_378 tw_379 tw_380 tw_3 tw_381 (by decide +kernel) rfl rfl ⟨Nat.le_of_ble_eq_true rfl, Nat.le_of_ble_eq_true rfl⟩ ⟨Nat.zero_le _, Nat.zero_le _⟩ hK hP hD hS hA rfl rfl rfl hl rfl (Nat.le_of_ble_eq_true rfl) d_Tr_countTrue_24 (fun H locs hP hD hS => ?_)
        refine my_if_eq_b (tgt := 33) hx hb d_Tr_countTrue_27 (by decide) (fun c_27 => ?_) (fun c_27 => ?_)
        · -- 27: taken
          refine lv_iload hx hb d_Tr_countTrue_33 (lv_at hl 4 rfl) ?_
          refine lv_iload_n hx hb d_Tr_countTrue_35 rfl (lv_at hl 2 rfl) ?_
          refine my_SN_i (As := [.int (nI v), .int (nI w)]) (n := 2) (k_ST_nextSet l g vwCl (tyS cI cJ cII cJJ) (stW a rB rT cI cJ cII cJJ nc nv ng kd vo nu nd en br bc un eu li tb cc0 cp cu cd tc ts tf ox ow ob ra rb gc gr gk gg gp gt sa sb) v w (by omega)) hx hb hml hown hT hN tw_537 tw_426 tw_1 tw_427 (by decide +kernel) rfl rfl ⟨Nat.le_of_ble_eq_true rfl, Nat.le_of_ble_eq_true rfl⟩ ⟨Nat.zero_le _, Nat.zero_le _⟩ hK hP hD hS hA rfl hl rfl (Nat.le_of_ble_eq_true rfl) d_Tr_countTrue_36 (fun H locs hP hD hS => ?_)
          refine lv_istore (lv' := [(4, .int (nI ((v + 2 ^ 32 - w) &&& w))), (0, .ref (a 2)), (1, .int (nI x)), (2, .int (nI w)), (3, .int (nI (2 ^ popc w 12))), (5, .int (nI f)), (6, .int (nI i))]) hx hb d_Tr_countTrue_39 hl (by decide) rfl (fun ls hl => ?_)
          refine lv_iinc (v := (nI (i + 1))) (lv' := [(6, .int (nI (i + 1))), (4, .int (nI ((v + 2 ^ 32 - w) &&& w))), (0, .ref (a 2)), (1, .int (nI x)), (2, .int (nI w)), (3, .int (nI (2 ^ popc w 12))), (5, .int (nI f))]) hx hb d_Tr_countTrue_41 hl (k := 6) rfl (nI_1 i) (by decide) rfl (fun ls hl => ?_)
          refine lv_goto (tgt := 14) hx hb d_Tr_countTrue_44 (by decide) ?_
          refine ih_14 _ _ _ _ _ _ ?_ ?_ ?_ ?_ ?_ hP hD hS (lv_sub hl [2, 3, 4, 5, 1, 6, 0] rfl)
          · omega
          · omega
          · exact Nat.lt_of_le_of_lt Nat.and_le_right hw
          · intro h; rw [hp (by omega)]; exact pd_next 12 w i 32 (by omega) hw h
          · rw [hf]; rw [hp (by omega)] at c_27; simp [ctF, c_27]
        · -- 27: not taken
          refine lv_iinc (v := (nI (f + 1))) (lv' := [(5, .int (nI (f + 1))), (0, .ref (a 2)), (1, .int (nI x)), (2, .int (nI w)), (3, .int (nI (2 ^ popc w 12))), (4, .int (nI v)), (6, .int (nI i))]) hx hb d_Tr_countTrue_30 hl (k := 5) rfl (nI_1 f) (by decide) rfl (fun ls hl => ?_)
          refine lv_iload hx hb d_Tr_countTrue_33 (lv_at hl 5 rfl) ?_
          refine lv_iload_n hx hb d_Tr_countTrue_35 rfl (lv_at hl 3 rfl) ?_
          refine my_SN_i (As := [.int (nI v), .int (nI w)]) (n := 2) (k_ST_nextSet l g vwCl (tyS cI cJ cII cJJ) (stW a rB rT cI cJ cII cJJ nc nv ng kd vo nu nd en br bc un eu li tb cc0 cp cu cd tc ts tf ox ow ob ra rb gc gr gk gg gp gt sa sb) v w (by omega)) hx hb hml hown hT hN tw_537 tw_426 tw_1 tw_427 (by decide +kernel) rfl rfl ⟨Nat.le_of_ble_eq_true rfl, Nat.le_of_ble_eq_true rfl⟩ ⟨Nat.zero_le _, Nat.zero_le _⟩ hK hP hD hS hA rfl hl rfl (Nat.le_of_ble_eq_true rfl) d_Tr_countTrue_36 (fun H locs hP hD hS => ?_)
          refine lv_istore (lv' := [(4, .int (nI ((v + 2 ^ 32 - w) &&& w))), (5, .int (nI (f + 1))), (0, .ref (a 2)), (1, .int (nI x)), (2, .int (nI w)), (3, .int (nI (2 ^ popc w 12))), (6, .int (nI i))]) hx hb d_Tr_countTrue_39 hl (by decide) rfl (fun ls hl => ?_)
          refine lv_iinc (v := (nI (i + 1))) (lv' := [(6, .int (nI (i + 1))), (4, .int (nI ((v + 2 ^ 32 - w) &&& w))), (5, .int (nI (f + 1))), (0, .ref (a 2)), (1, .int (nI x)), (2, .int (nI w)), (3, .int (nI (2 ^ popc w 12)))]) hx hb d_Tr_countTrue_41 hl (k := 6) rfl (nI_1 i) (by decide) rfl (fun ls hl => ?_)
          refine lv_goto (tgt := 14) hx hb d_Tr_countTrue_44 (by decide) ?_
          refine ih_14 _ _ _ _ _ _ ?_ ?_ ?_ ?_ ?_ hP hD hS (lv_sub hl [3, 4, 5, 6, 1, 2, 0] rfl)
          · omega
          · omega
          · exact Nat.lt_of_le_of_lt Nat.and_le_right hw
          · intro h; rw [hp (by omega)]; exact pd_next 12 w i 32 (by omega) hw h
          · rw [hf]; rw [hp (by omega)] at c_27; simp [ctF, c_27]
  refine lp_14 (2 ^ popc w 12 + 1) _ _ _ _ _ _ ?_ ?_ ?_ ?_ ?_ hP hD hS (lv_sub hl [4, 5, 6, 3, 2, 1, 0] rfl)
  · omega
  · omega
  · omega
  · intro _; exact (pd_0 12 w).symm
  · rfl
set_option maxHeartbeats 4000000 in
set_option maxRecDepth 100000 in
theorem k_Tr_isMinimal (l : Launch) (g : va_G) (a rB rT : Nat → Nat) (cI cJ cII cJJ : ClassId) (nc : Nat) (nv : Nat) (ng : Nat) (kd : Nat → Int32) (vo : Nat → Nat) (nu : Nat → Nat) (nd : Nat → Nat) (en : Nat → Nat) (br : Nat → Nat → Nat) (bc : Nat → Nat) (un : Nat → Nat) (eu : Nat → Nat) (li : Nat → Nat) (tb : Nat → Nat → Int64) (cc0 : Nat) (cp : Nat → Nat) (cu : Nat → Nat) (cd : Nat → Nat) (tc : Nat) (ts : Nat → Nat) (tf : Nat → Nat) (ox : Bool) (ow : Nat → Nat) (ob : Nat → Nat) (ra : Nat) (rb : Nat) (gc : Nat) (gr : Nat) (gk : Nat → Nat) (gg : Nat → Nat) (gp : Nat → Nat) (gt : Nat → Nat) (sa : Nat) (sb : Nat) (x : Nat) (s1 : Nat) (hx1 : x ≤ 32) (hs1 : s1 < 4096) : ct_i l g vwCl (tyS cI cJ cII cJJ) y_Tr_isMinimal c_Tr_isMinimal 4 (some .boolean) ({ frames := 1, cells := 0, slots := 0, locals := 23 } : Room) [.ref (a 2), .int (nI x), .int (nI s1)] (stW a rB rT cI cJ cII cJJ nc nv ng kd vo nu nd en br bc un eu li tb cc0 cp cu cd tc ts tf ox ow ob ra rb gc gr gk gg gp gt sa sb) (stW a rB rT cI cJ cII cJJ nc nv ng kd vo nu nd en br bc un eu li tb cc0 cp cu cd tc ts tf ox ow ob ra rb gc gr gk gg gp gt sa sb) (b2 (isM tb x s1)) := by
  refine ct_i.introZ (by decide) (Nat.le_of_ble_eq_true rfl) ?_
  intro p e s m args below meth c Q A ls hx hb hml hT hown hA hK hN hret hP hD hS hl
  have hown : s.vm.findClass R_Tr = some m.cls := hown
  have hl : lv_has ls 4 [(0, .ref (a 2)), (1, .int (nI x)), (2, .int (nI s1))] := hl
  refine lv_aload_n hx hb d_Tr_isMinimal_0 rfl (lv_at hl 0 rfl) ?_
  refine lv_iload_n hx hb d_Tr_isMinimal_1 rfl (lv_at hl 1 rfl) ?_
  refine lv_iload_n hx hb d_Tr_isMinimal_2 rfl (lv_at hl 2 rfl) ?_
  refine my_V_i (q0 := 2) (ci := 2) (C := R_Tr) (As := [.int (nI x), .int (nI s1)]) (n := 2) (k_Tr_isTrue l g a rB rT cI cJ cII cJJ nc nv ng kd vo nu nd en br bc un eu li tb cc0 cp cu cd tc ts tf ox ow ob ra rb gc gr gk gg gp gt sa sb x s1 (by omega) (by omega)) hx hb hml hown hT hN tw_378 tw_379 tw_380 tw_3 tw_381 (by decide +kernel) rfl rfl ⟨Nat.le_of_ble_eq_true rfl, Nat.le_of_ble_eq_true rfl⟩ ⟨Nat.zero_le _, Nat.zero_le _⟩ hK hP hD hS hA rfl rfl rfl hl rfl (Nat.le_of_ble_eq_true rfl) d_Tr_isMinimal_3 (fun H locs hP hD hS => ?_)
  refine my_if_ne_b (tgt := 11) hx hb d_Tr_isMinimal_6 (by decide) (fun c_6 => ?_) (fun c_6 => ?_)
  · -- 6: taken
    refine lv_iconst (v := (nI 1)) hx hb d_Tr_isMinimal_11 (by decide) ?_
    refine lv_istore_n (lv' := [(3, .int (nI 1)), (0, .ref (a 2)), (1, .int (nI x)), (2, .int (nI s1))]) hx hb d_Tr_isMinimal_12 rfl hl (by decide) rfl (fun ls hl => ?_)
    have lp_13 : ∀ (k : Nat) (i : Nat) (H : Heap) (locs : List Loc) (ls : Array Slot), (12 < i + k) → (i ≤ 12) → (imF tb x s1 i = true) → va_P g vwCl (stW a rB rT cI cJ cII cJJ nc nv ng kd vo nu nd en br bc un eu li tb cc0 cp cu cd tc ts tf ox ow ob ra rb gc gr gk gg gp gt sa sb) H → va_D A (stW a rB rT cI cJ cII cJJ nc nv ng kd vo nu nd en br bc un eu li tb cc0 cp cu cd tc ts tf ox ow ob ra rb gc gr gk gg gp gt sa sb) → va_S A s.heap H locs → lv_has ls 4 [(0, .ref (a 2)), (1, .int (nI x)), (2, .int (nI s1)), (3, .int (nI (2 ^ i)))] → W p l e ({ frames := 1, cells := 0, slots := 0, locals := 23 } : Room) s m args below meth c H locs 0 0 Q (F0 m 13 ls []) := by
      intro k
      induction k with
      | zero =>
        intro i H locs ls hk hi hf hP hD hS hl
        exfalso
        omega
      | succ k ih_13 =>
        intro i H locs ls hk hi hf hP hD hS hl
        have q1 : 2 ^ i ≤ 4096 := pw12c hi
        refine lv_iload_n hx hb d_Tr_isMinimal_13 rfl (lv_at hl 3 rfl) ?_
        refine lv_sipush (v := (nI 4096)) hx hb d_Tr_isMinimal_14 (by decide) ?_
        refine my_icmp_ge (tgt := 46) (a := 2 ^ i) (b := 4096) hx hb d_Tr_isMinimal_17 (by decide) (by omega) (by omega) (fun c_17 => ?_) (fun c_17 => ?_)
        · -- 17: taken
          have q3 : i = 12 := pw12a hi c_17
          subst q3
          refine lv_iconst (v := (nI 1)) hx hb d_Tr_isMinimal_46 (by decide) ?_
          refine hret _ _ _ _ _ hP hD hS d_Tr_isMinimal_47 ?_
          exact b2T (by rw [isM, c_6, hf]; rfl)
        · -- 17: not taken
          have q3 : i < 12 := pw12b c_17
          refine lv_iload_n hx hb d_Tr_isMinimal_20 rfl (lv_at hl 2 rfl) ?_
          refine lv_iload_n hx hb d_Tr_isMinimal_21 rfl (lv_at hl 3 rfl) ?_
          refine lv_iand hx hb d_Tr_isMinimal_22 ?_
          refine my_ei (nx_and s1 (2 ^ i)) ?_
          have q2 : s1 &&& 2 ^ i < 4096 := Nat.lt_of_le_of_lt Nat.and_le_left hs1
          refine my_if_eq (tgt := 39) (a := s1 &&& (2 ^ i)) hx hb d_Tr_isMinimal_23 (by decide) (by omega) (fun c_23 => ?_) (fun c_23 => ?_)
          · -- 23: taken
            refine lv_iload_n hx hb d_Tr_isMinimal_39 rfl (lv_at hl 3 rfl) ?_
            refine lv_iconst (v := (nI 1)) hx hb d_Tr_isMinimal_40 (by decide) ?_
            refine lv_ishl hx hb d_Tr_isMinimal_41 ?_
            refine my_ei (y := nI (2 ^ (i + 1))) ((pk_shlN (n := 2 ^ i) _ 1 (by decide) (by omega)).trans (congrArg nI (Nat.pow_add 2 i 1).symm)) ?_
            refine lv_istore_n (lv' := [(3, .int (nI (2 ^ (i + 1)))), (0, .ref (a 2)), (1, .int (nI x)), (2, .int (nI s1))]) hx hb d_Tr_isMinimal_42 rfl hl (by decide) rfl (fun ls hl => ?_)
            refine lv_goto (tgt := 13) hx hb d_Tr_isMinimal_43 (by decide) ?_
            refine ih_13 (i + 1) _ _ _ ?_ ?_ ?_ hP hD hS (lv_sub hl [1, 2, 3, 0] rfl)
            · omega
            · omega
            · simp [imF, hf, tbF c_23]
          · -- 23: not taken
            have q4 : s1 ^^^ 2 ^ i < 4096 := Nat.xor_lt_two_pow (n := 12) hs1 (Nat.pow_lt_pow_right (by decide) q3)
            have q5 := tbT (show ¬ s1 &&& 2 ^ i = 0 by omega)
            refine lv_aload_n hx hb d_Tr_isMinimal_26 rfl (lv_at hl 0 rfl) ?_
            refine lv_iload_n hx hb d_Tr_isMinimal_27 rfl (lv_at hl 1 rfl) ?_
            refine lv_iload_n hx hb d_Tr_isMinimal_28 rfl (lv_at hl 2 rfl) ?_
            refine lv_iload_n hx hb d_Tr_isMinimal_29 rfl (lv_at hl 3 rfl) ?_
            refine lv_ixor hx hb d_Tr_isMinimal_30 ?_
            refine my_ei (nx_xor s1 (2 ^ i)) ?_
            refine my_V_i (q0 := 2) (ci := 2) (C := R_Tr) (As := [.int (nI x), .int (nI (s1 ^^^ (2 ^ i)))]) (n := 2) (k_Tr_isTrue l g a rB rT cI cJ cII cJJ nc nv ng kd vo nu nd en br bc un eu li tb cc0 cp cu cd tc ts tf ox ow ob ra rb gc gr gk gg gp gt sa sb x (s1 ^^^ (2 ^ i)) (by omega) (by omega)) hx hb hml hown hT hN tw_378 tw_379 tw_380 tw_3 tw_381 (by decide +kernel) rfl rfl ⟨Nat.le_of_ble_eq_true rfl, Nat.le_of_ble_eq_true rfl⟩ ⟨Nat.zero_le _, Nat.zero_le _⟩ hK hP hD hS hA rfl rfl rfl hl rfl (Nat.le_of_ble_eq_true rfl) d_Tr_isMinimal_31 (fun H locs hP hD hS => ?_)
            refine my_if_eq_b (tgt := 39) hx hb d_Tr_isMinimal_34 (by decide) (fun c_34 => ?_) (fun c_34 => ?_)
            · -- 34: taken
              refine lv_iload_n hx hb d_Tr_isMinimal_39 rfl (lv_at hl 3 rfl) ?_
              refine lv_iconst (v := (nI 1)) hx hb d_Tr_isMinimal_40 (by decide) ?_
              refine lv_ishl hx hb d_Tr_isMinimal_41 ?_
              refine my_ei (y := nI (2 ^ (i + 1))) ((pk_shlN (n := 2 ^ i) _ 1 (by decide) (by omega)).trans (congrArg nI (Nat.pow_add 2 i 1).symm)) ?_
              refine lv_istore_n (lv' := [(3, .int (nI (2 ^ (i + 1)))), (0, .ref (a 2)), (1, .int (nI x)), (2, .int (nI s1))]) hx hb d_Tr_isMinimal_42 rfl hl (by decide) rfl (fun ls hl => ?_)
              refine lv_goto (tgt := 13) hx hb d_Tr_isMinimal_43 (by decide) ?_
              refine ih_13 (i + 1) _ _ _ ?_ ?_ ?_ hP hD hS (lv_sub hl [1, 2, 3, 0] rfl)
              · omega
              · omega
              · simp [imF, hf, c_34]
            · -- 34: not taken
              refine lv_iconst (v := (nI 0)) hx hb d_Tr_isMinimal_37 (by decide) ?_
              refine hret _ _ _ _ _ hP hD hS d_Tr_isMinimal_38 ?_
              exact b2F (by rw [isM, imF_f (i := i) (by simp [imF, q5, c_34]) 12 q3, Bool.and_false])
    refine lp_13 (13) 0 _ _ _ ?_ ?_ ?_ hP hD hS (lv_sub hl [1, 2, 3, 0] rfl)
    · omega
    · omega
    · rfl
  · -- 6: not taken
    refine lv_iconst (v := (nI 0)) hx hb d_Tr_isMinimal_9 (by decide) ?_
    refine hret _ _ _ _ _ hP hD hS d_Tr_isMinimal_10 ?_
    exact b2F (by simp [isM, c_6])
end
section
theorem and_top {s w n : Nat} (hw : w < 2 ^ n) : (s + 2 ^ n) &&& w = s &&& w := by
  apply Nat.eq_of_testBit_eq
  intro i
  rw [Nat.testBit_and, Nat.testBit_and]
  rcases Nat.lt_or_ge i n with h | h
  · rw [Nat.add_comm s, Nat.testBit_two_pow_add_gt h]
  · rw [Nat.testBit_lt_two_pow (Nat.lt_of_lt_of_le hw (Nat.pow_le_pow_right (by decide) h)), Bool.and_false, Bool.and_false]
/-- the next smaller one -/
theorem pd_prev : ∀ (f w k n : Nat), f ≤ n → w < 2 ^ f → k + 1 < 2 ^ popc w f → (pd f w (k + 1) + 2 ^ n - 1) &&& w = pd f w k
  | 0, w, k, n, _, hw, hk => by
    have : 2 ^ popc w 0 = 1 := rfl
    omega
  | f + 1, w, k, n, hn, hw, hk => by
    obtain ⟨n, rfl⟩ : ∃ k, n = k + 1 := ⟨n - 1, by omega⟩
    have hw2 : w / 2 < 2 ^ f := by rw [Nat.pow_succ] at hw; omega
    have hp : w / 2 < 2 ^ n := Nat.lt_of_lt_of_le hw2 (Nat.pow_le_pow_right (by decide) (by omega))
    have e : w = 2 * (w / 2) + w % 2 := by omega
    have hc := popc_2 (w / 2) (w % 2) (by omega) f
    rw [← e] at hc
    rw [hc] at hk
    have c : w % 2 = 0 ∨ w % 2 = 1 := by omega
    have pn : 0 < 2 ^ n := Nat.two_pow_pos n
    rcases c with c | c
    · have d1 : pd (f + 1) w k = 2 * pd f (w / 2) k := by show (if w % 2 = 1 then _ else _) = _; rw [if_neg (by omega)]
      have d2 : pd (f + 1) w (k + 1) = 2 * pd f (w / 2) (k + 1) := by show (if w % 2 = 1 then _ else _) = _; rw [if_neg (by omega)]
      rw [c, Nat.add_zero] at hk
      have ih := pd_prev f (w / 2) k n (by omega) hw2 hk
      have e2 : 2 * pd f (w / 2) (k + 1) + 2 ^ (n + 1) - 1 = 2 * (pd f (w / 2) (k + 1) + 2 ^ n - 1) + 1 := by rw [Nat.pow_succ]; omega
      have h3 := and2 (pd f (w / 2) (k + 1) + 2 ^ n - 1) (w / 2) (show 1 < 2 by omega) (show w % 2 < 2 by omega)
      rw [← e, ← e2, ih, c, Nat.and_zero] at h3
      rw [d1, d2]
      exact h3
    · have d1 : pd (f + 1) w k = 2 * pd f (w / 2) (k / 2) + k % 2 := by show (if w % 2 = 1 then _ else _) = _; rw [if_pos c]
      have d2 : pd (f + 1) w (k + 1) = 2 * pd f (w / 2) ((k + 1) / 2) + (k + 1) % 2 := by show (if w % 2 = 1 then _ else _) = _; rw [if_pos c]
      rw [c, Nat.pow_succ] at hk
      have b : k % 2 = 0 ∨ k % 2 = 1 := by omega
      rcases b with b | b
      · have e2 : 2 * pd f (w / 2) ((k + 1) / 2) + (k + 1) % 2 + 2 ^ (n + 1) - 1 = 2 * (pd f (w / 2) (k / 2) + 2 ^ n) + 0 := by rw [Nat.pow_succ, show (k + 1) / 2 = k / 2 by omega, show (k + 1) % 2 = 1 by omega]; omega
        have h3 := and2 (pd f (w / 2) (k / 2) + 2 ^ n) (w / 2) (show 0 < 2 by omega) (show w % 2 < 2 by omega)
        rw [← e, ← e2, and_top hp, pd_sub f (w / 2) (k / 2) hw2, Nat.zero_and] at h3
        rw [d1, d2, h3, b]
      · have ih := pd_prev f (w / 2) (k / 2) n (by omega) hw2 (by omega)
        have e2 : 2 * pd f (w / 2) ((k + 1) / 2) + (k + 1) % 2 + 2 ^ (n + 1) - 1 = 2 * (pd f (w / 2) (k / 2 + 1) + 2 ^ n - 1) + 1 := by rw [Nat.pow_succ, show (k + 1) / 2 = k / 2 + 1 by omega, show (k + 1) % 2 = 0 by omega]; omega
        have h3 := and2 (pd f (w / 2) (k / 2 + 1) + 2 ^ n - 1) (w / 2) (show 1 < 2 by omega) (show w % 2 < 2 by omega)
        rw [← e, ← e2, ih, c] at h3
        rw [d1, d2, h3, b]
        rfl
theorem pd_top : ∀ f w, w < 2 ^ f → pd f w (2 ^ popc w f - 1) = w
  | 0, w, hw => by
    have : w = 0 := by omega
    subst this
    rfl
  | f + 1, w, hw => by
    have hw2 : w / 2 < 2 ^ f := by rw [Nat.pow_succ] at hw; omega
    have e : w = 2 * (w / 2) + w % 2 := by omega
    have hc := popc_2 (w / 2) (w % 2) (by omega) f
    rw [← e] at hc
    have ih := pd_top f (w / 2) hw2
    have pp : 0 < 2 ^ popc (w / 2) f := Nat.two_pow_pos _
    rw [hc]
    show (if w % 2 = 1 then 2 * pd f (w / 2) ((2 ^ (popc (w / 2) f + w % 2) - 1) / 2) + (2 ^ (popc (w / 2) f + w % 2) - 1) % 2 else 2 * pd f (w / 2) (2 ^ (popc (w / 2) f + w % 2) - 1)) = w
    by_cases c : w % 2 = 1
    · rw [if_pos c, c, Nat.pow_succ, show (2 ^ popc (w / 2) f * 2 - 1) / 2 = 2 ^ popc (w / 2) f - 1 by omega, show (2 ^ popc (w / 2) f * 2 - 1) % 2 = 1 by omega, ih]
      omega
    · rw [if_neg c, show w % 2 = 0 by omega, Nat.add_zero, ih]
      omega
def fdF (tb : Nat → Nat → Int64) (x w : Nat) (tf : Nat → Nat) : Nat → Nat × (Nat → Nat)
  | 0 => (0, tf)
  | i + 1 => if isM tb x (pd 12 w (2 ^ popc w 12 - 1 - i)) = true ∧ (fdF tb x w tf i).1 < 924 then ((fdF tb x w tf i).1 + 1, va_up (fdF tb x w tf i).2 (fdF tb x w tf i).1 (pd 12 w (2 ^ popc w 12 - 1 - i))) else fdF tb x w tf i
def tkF (tf : Nat → Nat) (z : Nat) (s : Nat × (Nat → Nat)) : Nat → Nat × (Nat → Nat)
  | 0 => s
  | i + 1 => if popc (tf i) 12 = z ∧ (tkF tf z s i).1 < 924 then ((tkF tf z s i).1 + 1, va_up (tkF tf z s i).2 (tkF tf z s i).1 (tf i)) else tkF tf z s i
def tlF (tf ts : Nat → Nat) (n : Nat) : Nat → Nat × (Nat → Nat)
  | 0 => (0, ts)
  | z + 1 => tkF tf z (tlF tf ts n z) n
theorem fdF_le (tb : Nat → Nat → Int64) (x w : Nat) (tf : Nat → Nat) : ∀ i, (fdF tb x w tf i).1 ≤ 924
  | 0 => Nat.zero_le _
  | i + 1 => by
    have := fdF_le tb x w tf i
    by_cases c : isM tb x (pd 12 w (2 ^ popc w 12 - 1 - i)) = true ∧ (fdF tb x w tf i).1 < 924
    · rw [show fdF tb x w tf (i + 1) = _ from if_pos c]
      show (fdF tb x w tf i).1 + 1 ≤ 924
      omega
    · rw [show fdF tb x w tf (i + 1) = _ from if_neg c]; exact this
theorem fdF_lt (tb : Nat → Nat → Int64) (x w : Nat) (tf : Nat → Nat) (hw : w < 4096) (h : ∀ j, tf j < 4096) : ∀ i j, (fdF tb x w tf i).2 j < 4096
  | 0 => h
  | i + 1 => by
    have ih := fdF_lt tb x w tf hw h i
    by_cases c : isM tb x (pd 12 w (2 ^ popc w 12 - 1 - i)) = true ∧ (fdF tb x w tf i).1 < 924
    · rw [show fdF tb x w tf (i + 1) = _ from if_pos c]
      exact up_lt ih (pd_lt hw)
    · rw [show fdF tb x w tf (i + 1) = _ from if_neg c]; exact ih
theorem tkF_le (tf : Nat → Nat) (z : Nat) (s : Nat × (Nat → Nat)) (h : s.1 ≤ 924) : ∀ i, (tkF tf z s i).1 ≤ 924
  | 0 => h
  | i + 1 => by
    have := tkF_le tf z s h i
    by_cases c : popc (tf i) 12 = z ∧ (tkF tf z s i).1 < 924
    · rw [show tkF tf z s (i + 1) = _ from if_pos c]
      show (tkF tf z s i).1 + 1 ≤ 924
      omega
    · rw [show tkF tf z s (i + 1) = _ from if_neg c]; exact this
theorem tkF_lt (tf : Nat → Nat) (z : Nat) (s : Nat × (Nat → Nat)) (hf : ∀ j, tf j < 4096) (h : ∀ j, s.2 j < 4096) : ∀ i j, (tkF tf z s i).2 j < 4096
  | 0 => h
  | i + 1 => by
    have ih := tkF_lt tf z s hf h i
    by_cases c : popc (tf i) 12 = z ∧ (tkF tf z s i).1 < 924
    · rw [show tkF tf z s (i + 1) = _ from if_pos c]
      exact up_lt ih (hf i)
    · rw [show tkF tf z s (i + 1) = _ from if_neg c]; exact ih
theorem tlF_le (tf ts : Nat → Nat) (n : Nat) : ∀ z, (tlF tf ts n z).1 ≤ 924
  | 0 => Nat.zero_le _
  | z + 1 => tkF_le tf z _ (tlF_le tf ts n z) n
theorem tlF_lt (tf ts : Nat → Nat) (n : Nat) (hf : ∀ j, tf j < 4096) (h : ∀ j, ts j < 4096) : ∀ z j, (tlF tf ts n z).2 j < 4096
  | 0 => h
  | z + 1 => tkF_lt tf z _ hf (tlF_lt tf ts n hf h z) n
def eiL (s : Nat) : Nat → Nat → Nat → Int32
  | 0, _, _ => -1
  | f + 1, j, lf => if s.testBit (11 - j) = true then (if lf = 0 then nI j else eiL s f (j + 1) (lf - 1)) else eiL s f (j + 1) lf
def eiF (tc : Nat) (ts : Nat → Nat) (i k : Int32) : Int32 := if i < 0 ∨ nI tc ≤ i ∨ k < 0 then -1 else eiL (ts i.toNatClampNeg) 12 0 k.toNatClampNeg
theorem i32nn {x : Int32} {n : Nat} (h0 : ¬ x < 0) (h : ¬ nI n ≤ x) (hn : n < 2 ^ 31) : ∃ j : Nat, j < n ∧ x = nI j := by
  obtain ⟨j, hj, rfl⟩ := nI_of h0
  rw [nI_leI hn hj] at h
  exact ⟨j, by omega, rfl⟩
set_option maxHeartbeats 4000000 in
set_option maxRecDepth 100000 in
theorem k_Cu_clear (l : Launch) (g : va_G) (a rB rT : Nat → Nat) (cI cJ cII cJJ : ClassId) (nc : Nat) (nv : Nat) (ng : Nat) (kd : Nat → Int32) (vo : Nat → Nat) (nu : Nat → Nat) (nd : Nat → Nat) (en : Nat → Nat) (br : Nat → Nat → Nat) (bc : Nat → Nat) (un : Nat → Nat) (eu : Nat → Nat) (li : Nat → Nat) (tb : Nat → Nat → Int64) (cc0 : Nat) (cp : Nat → Nat) (cu : Nat → Nat) (cd : Nat → Nat) (tc : Nat) (ts : Nat → Nat) (tf : Nat → Nat) (ox : Bool) (ow : Nat → Nat) (ob : Nat → Nat) (ra : Nat) (rb : Nat) (gc : Nat) (gr : Nat) (gk : Nat → Nat) (gg : Nat → Nat) (gp : Nat → Nat) (gt : Nat → Nat) (sa : Nat) (sb : Nat)   : ct_v l g vwCl (tyS cI cJ cII cJJ) y_Cu_clear c_Cu_clear 1 none ({ frames := 0, cells := 0, slots := 0, locals := 0 } : Room) [.ref (a 4)] (stW a rB rT cI cJ cII cJJ nc nv ng kd vo nu nd en br bc un eu li tb cc0 cp cu cd tc ts tf ox ow ob ra rb gc gr gk gg gp gt sa sb) (stW a rB rT cI cJ cII cJJ nc nv ng kd vo nu nd en br bc un eu li tb cc0 cp cu cd 0 ts tf ox ow ob ra rb gc gr gk gg gp gt sa sb) := by
  refine ct_v.intro (by decide) (Nat.le_of_ble_eq_true rfl) ?_
  intro p e s m args below meth c Q A ls hx hb hml hT hown hA hK hN hret hP hD hS hl
  have hown : s.vm.findClass R_Cu = some m.cls := hown
  have hl : lv_has ls 1 [(0, .ref (a 4))] := hl
  refine lv_aload_n hx hb d_Cu_clear_0 rfl (lv_at hl 0 rfl) ?_
  refine lv_iconst (v := (nI 0)) hx hb d_Cu_clear_1 (by decide) ?_
  refine va_put (D := g) (ci := 4) (v := .int (nI 0)) (ty := .int) (C := R_Cu) (T := F_Cu) (N := 3) hx hb hT i_Cu t_Cu t_Cu_ok n_Cu hown hK hP hD hS 4 rfl rfl 0 (by decide) (hT _ tw_141) (fun _ h9 => h9) rfl (by decide +kernel) rfl rfl (Nat.le_of_ble_eq_true rfl) d_Cu_clear_2 (fun H locs hP hD hS => ?_)
  have hP : va_P g vwCl (stW a rB rT cI cJ cII cJJ nc nv ng kd vo nu nd en br bc un eu li tb cc0 cp cu cd 0 ts tf ox ow ob ra rb gc gr gk gg gp gt sa sb) H := hP
  have hD : va_D A (stW a rB rT cI cJ cII cJJ nc nv ng kd vo nu nd en br bc un eu li tb cc0 cp cu cd 0 ts tf ox ow ob ra rb gc gr gk gg gp gt sa sb) := hD
  exact hret _ _ _ _ hP hD hS d_Cu_clear_5
set_option maxHeartbeats 4000000 in
set_option maxRecDepth 100000 in
theorem k_Cu_find (l : Launch) (g : va_G) (a rB rT : Nat → Nat) (cI cJ cII cJJ : ClassId) (nc : Nat) (nv : Nat) (ng : Nat) (kd : Nat → Int32) (vo : Nat → Nat) (nu : Nat → Nat) (nd : Nat → Nat) (en : Nat → Nat) (br : Nat → Nat → Nat) (bc : Nat → Nat) (un : Nat → Nat) (eu : Nat → Nat) (li : Nat → Nat) (tb : Nat → Nat → Int64) (cc0 : Nat) (cp : Nat → Nat) (cu : Nat → Nat) (cd : Nat → Nat) (tc : Nat) (ts : Nat → Nat) (tf : Nat → Nat) (ox : Bool) (ow : Nat → Nat) (ob : Nat → Nat) (ra : Nat) (rb : Nat) (gc : Nat) (gr : Nat) (gk : Nat → Nat) (gg : Nat → Nat) (gp : Nat → Nat) (gt : Nat → Nat) (sa : Nat) (sb : Nat) (x : Nat) (w : Nat) (hx1 : x ≤ 32) (hw : w < 4096) : ct_i l g vwCl (tyS cI cJ cII cJJ) y_Cu_find c_Cu_find 8 (some .int) ({ frames := 2, cells := 0, slots := 0, locals := 46 } : Room) [.ref (a 4), .ref (a 2), .int (nI x), .int (nI w)] (stW a rB rT cI cJ cII cJJ nc nv ng kd vo nu nd en br bc un eu li tb cc0 cp cu cd tc ts tf ox ow ob ra rb gc gr gk gg gp gt sa sb) (stW a rB rT cI cJ cII cJJ nc nv ng kd vo nu nd en br bc un eu li tb cc0 cp cu cd tc ts ((fdF tb x w tf (2 ^ popc w 12)).2) ox ow ob ra rb gc gr gk gg gp gt sa sb) (nI ((fdF tb x w tf (2 ^ popc w 12)).1)) := by
  refine ct_i.intro (by decide) (Nat.le_of_ble_eq_true rfl) ?_
  intro p e s m args below meth c Q A ls hx hb hml hT hown hA hK hN hret hP hD hS hl
  have hown : s.vm.findClass R_Cu = some m.cls := hown
  have hl : lv_has ls 8 [(0, .ref (a 4)), (1, .ref (a 2)), (2, .int (nI x)), (3, .int (nI w))] := hl
  have q1 := pop12 w
  have q0 : 0 < 2 ^ popc w 12 := Nat.two_pow_pos _
  refine lv_iconst (v := (nI 0)) hx hb d_Cu_find_0 (by decide) ?_
  refine lv_istore (lv' := [(4, .int (nI 0)), (0, .ref (a 4)), (1, .ref (a 2)), (2, .int (nI x)), (3, .int (nI w))]) hx hb d_Cu_find_1 hl (by decide) rfl (fun ls hl => ?_)
  refine lv_iload_n hx hb d_Cu_find_3 rfl (lv_at hl 4 rfl) ?_
  refine my_SN_i (As := [.int (nI w)]) (n := 1) (k_ST_countOfSets l g vwCl (tyS cI cJ cII cJJ) (stW a rB rT cI cJ cII cJJ nc nv ng kd vo nu nd en br bc un eu li tb cc0 cp cu cd tc ts tf ox ow ob ra rb gc gr gk gg gp gt sa sb) w (by omega)) hx hb hml hown hT hN tw_373 tw_315 tw_1 tw_316 (by decide +kernel) rfl rfl ⟨Nat.le_of_ble_eq_true rfl, Nat.le_of_ble_eq_true rfl⟩ ⟨Nat.zero_le _, Nat.zero_le _⟩ hK hP hD hS hA rfl hl rfl (Nat.le_of_ble_eq_true rfl) d_Cu_find_4 (fun H locs hP hD hS => ?_)
  refine lv_istore (lv' := [(5, .int (nI (2 ^ popc w 12))), (4, .int (nI 0)), (0, .ref (a 4)), (1, .ref (a 2)), (2, .int (nI x)), (3, .int (nI w))]) hx hb d_Cu_find_7 hl (by decide) rfl (fun ls hl => ?_)
  refine lv_iload_n hx hb d_Cu_find_9 rfl (lv_at hl 5 rfl) ?_
  refine lv_istore (lv' := [(6, .int (nI w)), (5, .int (nI (2 ^ popc w 12))), (4, .int (nI 0)), (0, .ref (a 4)), (1, .ref (a 2)), (2, .int (nI x)), (3, .int (nI w))]) hx hb d_Cu_find_10 hl (by decide) rfl (fun ls hl => ?_)
  refine lv_iconst (v := (nI 0)) hx hb d_Cu_find_12 (by decide) ?_
  refine lv_istore (lv' := [(7, .int (nI 0)), (6, .int (nI w)), (5, .int (nI (2 ^ popc w 12))), (4, .int (nI 0)), (0, .ref (a 4)), (1, .ref (a 2)), (2, .int (nI x)), (3, .int (nI w))]) hx hb d_Cu_find_13 hl (by decide) rfl (fun ls hl => ?_)
  have lp_15 : ∀ (k : Nat) (i : Nat) (v : Nat) (n : Nat) (q : Nat → Nat) (H : Heap) (locs : List Loc) (ls : Array Slot), (2 ^ popc w 12 < i + k) → (i ≤ 2 ^ popc w 12) → (v < 4096) → (i < 2 ^ popc w 12 → v = pd 12 w (2 ^ popc w 12 - 1 - i)) → (n ≤ 924) → ((n, q) = fdF tb x w tf i) → va_P g vwCl (stW a rB rT cI cJ cII cJJ nc nv ng kd vo nu nd en br bc un eu li tb cc0 cp cu cd tc ts q ox ow ob ra rb gc gr gk gg gp gt sa sb) H → va_D A (stW a rB rT cI cJ cII cJJ nc nv ng kd vo nu nd en br bc un eu li tb cc0 cp cu cd tc ts q ox ow ob ra rb gc gr gk gg gp gt sa sb) → va_S A s.heap H locs → lv_has ls 8 [(0, .ref (a 4)), (1, .ref (a 2)), (2, .int (nI x)), (3, .int (nI w)), (4, .int (nI n)), (5, .int (nI (2 ^ popc w 12))), (6, .int (nI v)), (7, .int (nI i))] → W p l e ({ frames := 2, cells := 0, slots := 0, locals := 46 } : Room) s m args below meth c H locs 0 0 Q (F0 m 15 ls []) := by
    intro k
    induction k with
    | zero =>
      intro i v n q H locs ls hk hi hv hp hn hf hP hD hS hl
      exfalso
      omega
    | succ k ih_15 =>
      intro i v n q H locs ls hk hi hv hp hn hf hP hD hS hl
      refine lv_iload hx hb d_Cu_find_15 (lv_at hl 7 rfl) ?_
      refine lv_iload hx hb d_Cu_find_17 (lv_at hl 5 rfl) ?_
      refine my_icmp_ge (tgt := 66) (a := i) (b := 2 ^ popc w 12) hx hb d_Cu_find_19 (by decide) (by omega) (by omega) (fun c_19 => ?_) (fun c_19 => ?_)
      · -- 19: taken
        have e0 : i = 2 ^ popc w 12 := by omega
        subst e0
        have e1 : (fdF tb x w tf (2 ^ popc w 12)).1 = n := by rw [← hf]
        have e2 : (fdF tb x w tf (2 ^ popc w 12)).2 = q := by rw [← hf]
        rw [← e2] at hP hD
        refine lv_iload hx hb d_Cu_find_66 (lv_at hl 4 rfl) ?_
        refine hret _ _ _ _ _ hP hD hS d_Cu_find_68 ?_
        rw [e1]
      · -- 19: not taken
        refine lv_aload_n hx hb d_Cu_find_22 rfl (lv_at hl 1 rfl) ?_
        refine lv_iload_n hx hb d_Cu_find_23 rfl (lv_at hl 2 rfl) ?_
        refine lv_iload hx hb d_Cu_find_24 (lv_at hl 6 rfl) ?_
        refine my_V_i (q0 := 2) (ci := 2) (C := R_Tr) (As := [.int (nI x), .int (nI v)]) (n := 2) (k_Tr_isMinimal l g a rB rT cI cJ cII cJJ nc nv ng kd vo nu nd en br bc un eu li tb cc0 cp cu cd tc ts q ox ow ob ra rb gc gr gk gg gp gt sa sb x v (by omega) (by omega)) hx hb hml hown hT hN tw_374 tw_375 tw_376 tw_3 tw_377 (by decide +kernel) rfl rfl ⟨Nat.le_of_ble_eq_true rfl, Nat.le_of_ble_eq_true rfl⟩ ⟨Nat.zero_le _, Nat.zero_le _⟩ hK hP hD hS hA rfl rfl rfl hl rfl (Nat.le_of_ble_eq_true rfl) d_Cu_find_26 (fun H locs hP hD hS => ?_)
        refine my_if_eq_b (tgt := 52) hx hb d_Cu_find_29 (by decide) (fun c_29 => ?_) (fun c_29 => ?_)
        · -- 29: taken
          refine lv_iload hx hb d_Cu_find_52 (lv_at hl 6 rfl) ?_
          refine lv_iconst (v := (nI 1)) hx hb d_Cu_find_54 (by decide) ?_
          refine lv_isub hx hb d_Cu_find_55 ?_
          refine my_ei (nxS (by omega)) ?_
          refine lv_iload_n hx hb d_Cu_find_56 rfl (lv_at hl 3 rfl) ?_
          refine lv_iand hx hb d_Cu_find_57 ?_
          refine my_ei (nx_and (v + 2 ^ 32 - 1) w) ?_
          refine lv_istore (lv' := [(6, .int (nI ((v + 2 ^ 32 - 1) &&& w))), (0, .ref (a 4)), (1, .ref (a 2)), (2, .int (nI x)), (3, .int (nI w)), (4, .int (nI n)), (5, .int (nI (2 ^ popc w 12))), (7, .int (nI i))]) hx hb d_Cu_find_58 hl (by decide) rfl (fun ls hl => ?_)
          refine lv_iinc (v := (nI (i + 1))) (lv' := [(7, .int (nI (i + 1))), (6, .int (nI ((v + 2 ^ 32 - 1) &&& w))), (0, .ref (a 4)), (1, .ref (a 2)), (2, .int (nI x)), (3, .int (nI w)), (4, .int (nI n)), (5, .int (nI (2 ^ popc w 12)))]) hx hb d_Cu_find_60 hl (k := 7) rfl (nI_1 i) (by decide) rfl (fun ls hl => ?_)
          refine lv_goto (tgt := 15) hx hb d_Cu_find_63 (by decide) ?_
          refine ih_15 _ _ _ _ _ _ _ ?_ ?_ ?_ ?_ ?_ ?_ hP hD hS (lv_sub hl [2, 3, 4, 5, 6, 7, 1, 0] rfl)
          · omega
          · omega
          · exact Nat.lt_of_le_of_lt Nat.and_le_right hw
          · intro h
            rw [hp (by omega), show 2 ^ popc w 12 - 1 - i = (2 ^ popc w 12 - 1 - (i + 1)) + 1 by omega]
            exact pd_prev 12 w _ 32 (by omega) hw (by omega)
          · omega
          · have e1 : (fdF tb x w tf i).1 = n := by rw [← hf]
            have e2 : (fdF tb x w tf i).2 = q := by rw [← hf]
            have e3 := hp (by omega)
            refine Eq.trans hf (if_neg (fun hh => ?_)).symm
            rw [← e3, c_29] at hh; exact absurd hh.1 (by decide)
        · -- 29: not taken
          refine lv_iload hx hb d_Cu_find_32 (lv_at hl 4 rfl) ?_
          refine lv_sipush (v := (nI 924)) hx hb d_Cu_find_34 (by decide) ?_
          refine my_icmp_ge (tgt := 52) (a := n) (b := 924) hx hb d_Cu_find_37 (by decide) (by omega) (by omega) (fun c_37 => ?_) (fun c_37 => ?_)
          · -- 37: taken
            refine lv_iload hx hb d_Cu_find_52 (lv_at hl 6 rfl) ?_
            refine lv_iconst (v := (nI 1)) hx hb d_Cu_find_54 (by decide) ?_
            refine lv_isub hx hb d_Cu_find_55 ?_
            refine my_ei (nxS (by omega)) ?_
            refine lv_iload_n hx hb d_Cu_find_56 rfl (lv_at hl 3 rfl) ?_
            refine lv_iand hx hb d_Cu_find_57 ?_
            refine my_ei (nx_and (v + 2 ^ 32 - 1) w) ?_
            refine lv_istore (lv' := [(6, .int (nI ((v + 2 ^ 32 - 1) &&& w))), (0, .ref (a 4)), (1, .ref (a 2)), (2, .int (nI x)), (3, .int (nI w)), (4, .int (nI n)), (5, .int (nI (2 ^ popc w 12))), (7, .int (nI i))]) hx hb d_Cu_find_58 hl (by decide) rfl (fun ls hl => ?_)
            refine lv_iinc (v := (nI (i + 1))) (lv' := [(7, .int (nI (i + 1))), (6, .int (nI ((v + 2 ^ 32 - 1) &&& w))), (0, .ref (a 4)), (1, .ref (a 2)), (2, .int (nI x)), (3, .int (nI w)), (4, .int (nI n)), (5, .int (nI (2 ^ popc w 12)))]) hx hb d_Cu_find_60 hl (k := 7) rfl (nI_1 i) (by decide) rfl (fun ls hl => ?_)
            refine lv_goto (tgt := 15) hx hb d_Cu_find_63 (by decide) ?_
            refine ih_15 _ _ _ _ _ _ _ ?_ ?_ ?_ ?_ ?_ ?_ hP hD hS (lv_sub hl [2, 3, 4, 5, 6, 7, 1, 0] rfl)
            · omega
            · omega
            · exact Nat.lt_of_le_of_lt Nat.and_le_right hw
            · intro h
              rw [hp (by omega), show 2 ^ popc w 12 - 1 - i = (2 ^ popc w 12 - 1 - (i + 1)) + 1 by omega]
              exact pd_prev 12 w _ 32 (by omega) hw (by omega)
            · omega
            · have e1 : (fdF tb x w tf i).1 = n := by rw [← hf]
              have e2 : (fdF tb x w tf i).2 = q := by rw [← hf]
              have e3 := hp (by omega)
              refine Eq.trans hf (if_neg (fun hh => ?_)).symm
              omega
          · -- 37: not taken
            refine lv_aload_n hx hb d_Cu_find_40 rfl (lv_at hl 0 rfl) ?_
            refine va_get (D := g) (ci := 4) (v := .ref (a 24)) (C := R_Cu) (T := F_Cu) (N := 3) hx hb hT i_Cu hown hK hP 4 rfl rfl 2 (by decide) (hT _ tw_143) (fun _ h9 => h9) rfl d_Cu_find_41 ?_
            refine lv_iload hx hb d_Cu_find_44 (lv_at hl 4 rfl) ?_
            refine lv_iload hx hb d_Cu_find_46 (lv_at hl 6 rfl) ?_
            refine my_iast (i := n) hx hb hK hP hD hS 24 0 rfl rfl (by omega) (by decide) (my_upN _ _ _) (w' := (stW a rB rT cI cJ cII cJJ nc nv ng kd vo nu nd en br bc un eu li tb cc0 cp cu cd tc ts (va_up q n v) ox ow ob ra rb gc gr gk gg gp gt sa sb)) rfl d_Cu_find_48 (fun H locs hP hD hS => ?_)
            refine lv_iinc (v := (nI (n + 1))) (lv' := [(4, .int (nI (n + 1))), (0, .ref (a 4)), (1, .ref (a 2)), (2, .int (nI x)), (3, .int (nI w)), (5, .int (nI (2 ^ popc w 12))), (6, .int (nI v)), (7, .int (nI i))]) hx hb d_Cu_find_49 hl (k := 4) rfl (nI_1 n) (by decide) rfl (fun ls hl => ?_)
            refine lv_iload hx hb d_Cu_find_52 (lv_at hl 6 rfl) ?_
            refine lv_iconst (v := (nI 1)) hx hb d_Cu_find_54 (by decide) ?_
            refine lv_isub hx hb d_Cu_find_55 ?_
            refine my_ei (nxS (by omega)) ?_
            refine lv_iload_n hx hb d_Cu_find_56 rfl (lv_at hl 4 rfl) ?_
            refine lv_iand hx hb d_Cu_find_57 ?_
            refine my_ei (nx_and (v + 2 ^ 32 - 1) w) ?_
            refine lv_istore (lv' := [(6, .int (nI ((v + 2 ^ 32 - 1) &&& w))), (4, .int (nI (n + 1))), (0, .ref (a 4)), (1, .ref (a 2)), (2, .int (nI x)), (3, .int (nI w)), (5, .int (nI (2 ^ popc w 12))), (7, .int (nI i))]) hx hb d_Cu_find_58 hl (by decide) rfl (fun ls hl => ?_)
            refine lv_iinc (v := (nI (i + 1))) (lv' := [(7, .int (nI (i + 1))), (6, .int (nI ((v + 2 ^ 32 - 1) &&& w))), (4, .int (nI (n + 1))), (0, .ref (a 4)), (1, .ref (a 2)), (2, .int (nI x)), (3, .int (nI w)), (5, .int (nI (2 ^ popc w 12)))]) hx hb d_Cu_find_60 hl (k := 7) rfl (nI_1 i) (by decide) rfl (fun ls hl => ?_)
            refine lv_goto (tgt := 15) hx hb d_Cu_find_63 (by decide) ?_
            refine ih_15 _ _ _ _ _ _ _ ?_ ?_ ?_ ?_ ?_ ?_ hP hD hS (lv_sub hl [3, 4, 5, 6, 2, 7, 1, 0] rfl)
            · omega
            · omega
            · exact Nat.lt_of_le_of_lt Nat.and_le_right hw
            · intro h
              rw [hp (by omega), show 2 ^ popc w 12 - 1 - i = (2 ^ popc w 12 - 1 - (i + 1)) + 1 by omega]
              exact pd_prev 12 w _ 32 (by omega) hw (by omega)
            · omega
            · have e1 : (fdF tb x w tf i).1 = n := by rw [← hf]
              have e2 : (fdF tb x w tf i).2 = q := by rw [← hf]
              have e3 := hp (by omega)
              refine Eq.trans ?_ (if_pos ⟨by rw [← e3]; exact c_29, by omega⟩).symm
              rw [e1, e2, e3]
  refine lp_15 (2 ^ popc w 12 + 1) _ _ _ _ _ _ _ ?_ ?_ ?_ ?_ ?_ ?_ hP hD hS (lv_sub hl [4, 5, 6, 7, 3, 2, 1, 0] rfl)
  · omega
  · omega
  · exact hw
  · intro _; exact (pd_top 12 w hw).symm
  · omega
  · rfl
set_option maxHeartbeats 4000000 in
set_option maxRecDepth 100000 in
theorem k_Cu_takeOfSize (l : Launch) (g : va_G) (a rB rT : Nat → Nat) (cI cJ cII cJJ : ClassId) (nc : Nat) (nv : Nat) (ng : Nat) (kd : Nat → Int32) (vo : Nat → Nat) (nu : Nat → Nat) (nd : Nat → Nat) (en : Nat → Nat) (br : Nat → Nat → Nat) (bc : Nat → Nat) (un : Nat → Nat) (eu : Nat → Nat) (li : Nat → Nat) (tb : Nat → Nat → Int64) (cc0 : Nat) (cp : Nat → Nat) (cu : Nat → Nat) (cd : Nat → Nat) (tc : Nat) (ts : Nat → Nat) (tf : Nat → Nat) (ox : Bool) (ow : Nat → Nat) (ob : Nat → Nat) (ra : Nat) (rb : Nat) (gc : Nat) (gr : Nat) (gk : Nat → Nat) (gg : Nat → Nat) (gp : Nat → Nat) (gt : Nat → Nat) (sa : Nat) (sb : Nat) (z : Nat) (n : Nat) (hz : z ≤ 12) (hn : n ≤ 924) (htc : tc ≤ 924) (htf : ∀ j, tf j < 4096) : ct_v l g vwCl (tyS cI cJ cII cJJ) y_Cu_takeOfSize c_Cu_takeOfSize 4 none ({ frames := 1, cells := 0, slots := 0, locals := 20 } : Room) [.ref (a 4), .int (nI z), .int (nI n)] (stW a rB rT cI cJ cII cJJ nc nv ng kd vo nu nd en br bc un eu li tb cc0 cp cu cd tc ts tf ox ow ob ra rb gc gr gk gg gp gt sa sb) (stW a rB rT cI cJ cII cJJ nc nv ng kd vo nu nd en br bc un eu li tb cc0 cp cu cd ((tkF tf z (tc, ts) n).1) ((tkF tf z (tc, ts) n).2) tf ox ow ob ra rb gc gr gk gg gp gt sa sb) := by
  refine ct_v.intro (by decide) (Nat.le_of_ble_eq_true rfl) ?_
  intro p e s m args below meth c Q A ls hx hb hml hT hown hA hK hN hret hP hD hS hl
  have hown : s.vm.findClass R_Cu = some m.cls := hown
  have hl : lv_has ls 4 [(0, .ref (a 4)), (1, .int (nI z)), (2, .int (nI n))] := hl
  refine lv_iconst (v := (nI 0)) hx hb d_Cu_takeOfSize_0 (by decide) ?_
  refine lv_istore_n (lv' := [(3, .int (nI 0)), (0, .ref (a 4)), (1, .int (nI z)), (2, .int (nI n))]) hx hb d_Cu_takeOfSize_1 rfl hl (by decide) rfl (fun ls hl => ?_)
  have lp_2 : ∀ (k : Nat) (i : Nat) (u : Nat) (q : Nat → Nat) (H : Heap) (locs : List Loc) (ls : Array Slot), (n < i + k) → (i ≤ n) → (u ≤ 924) → ((u, q) = (tkF tf z (tc, ts) i)) → va_P g vwCl (stW a rB rT cI cJ cII cJJ nc nv ng kd vo nu nd en br bc un eu li tb cc0 cp cu cd u q tf ox ow ob ra rb gc gr gk gg gp gt sa sb) H → va_D A (stW a rB rT cI cJ cII cJJ nc nv ng kd vo nu nd en br bc un eu li tb cc0 cp cu cd u q tf ox ow ob ra rb gc gr gk gg gp gt sa sb) → va_S A s.heap H locs → lv_has ls 4 [(0, .ref (a 4)), (1, .int (nI z)), (2, .int (nI n)), (3, .int (nI i))] → W p l e ({ frames := 1, cells := 0, slots := 0, locals := 20 } : Room) s m args below meth c H locs 0 0 Q (F0 m 2 ls []) := by
    intro k
    induction k with
    | zero =>
      intro i u q H locs ls hk hi hu hf hP hD hS hl
      exfalso
      omega
    | succ k ih_2 =>
      intro i u q H locs ls hk hi hu hf hP hD hS hl
      refine lv_iload_n hx hb d_Cu_takeOfSize_2 rfl (lv_at hl 3 rfl) ?_
      refine lv_iload_n hx hb d_Cu_takeOfSize_3 rfl (lv_at hl 2 rfl) ?_
      refine my_icmp_ge (tgt := 61) (a := i) (b := n) hx hb d_Cu_takeOfSize_4 (by decide) (by omega) (by omega) (fun c_4 => ?_) (fun c_4 => ?_)
      · -- 4: taken
        have e0 : i = n := by omega
        subst e0
        have e1 : (tkF tf z (tc, ts) i).1 = u := by rw [← hf]
        have e2 : (tkF tf z (tc, ts) i).2 = q := by rw [← hf]
        rw [← e1, ← e2] at hP hD
        exact hret _ _ _ _ hP hD hS d_Cu_takeOfSize_61
      · -- 4: not taken
        refine lv_aload_n hx hb d_Cu_takeOfSize_7 rfl (lv_at hl 0 rfl) ?_
        refine va_get (D := g) (ci := 4) (v := .ref (a 24)) (C := R_Cu) (T := F_Cu) (N := 3) hx hb hT i_Cu hown hK hP 4 rfl rfl 2 (by decide) (hT _ tw_143) (fun _ h9 => h9) rfl d_Cu_takeOfSize_8 ?_
        refine lv_iload_n hx hb d_Cu_takeOfSize_11 rfl (lv_at hl 3 rfl) ?_
        refine my_iald (v := (nI (tf i))) (i := i) hx hb hK hP 24 0 rfl rfl (by omega) (by decide) rfl d_Cu_takeOfSize_12 ?_
        refine my_S_i (As := [.int (nI (tf i))]) (n := 1) (k_Ji_bitCount l g vwCl (tyS cI cJ cII cJJ) (stW a rB rT cI cJ cII cJJ nc nv ng kd vo nu nd en br bc un eu li tb cc0 cp cu cd u q tf ox ow ob ra rb gc gr gk gg gp gt sa sb) (tf i) (htf i)) hx hb hml hown hT hN tw_386 tw_318 tw_10 tw_319 (by decide +kernel) rfl rfl ⟨Nat.le_of_ble_eq_true rfl, Nat.le_of_ble_eq_true rfl⟩ ⟨Nat.zero_le _, Nat.zero_le _⟩ hK hP hD hS hA rfl hl rfl (Nat.le_of_ble_eq_true rfl) d_Cu_takeOfSize_13 (fun H locs hP hD hS => ?_)
        refine lv_iload_n hx hb d_Cu_takeOfSize_16 rfl (lv_at hl 1 rfl) ?_
        have q1 := popc_le (tf i) 12
        refine my_icmp_ne (tgt := 55) (a := popc (tf i) 12) (b := z) hx hb d_Cu_takeOfSize_17 (by decide) (by omega) (by omega) (fun c_17 => ?_) (fun c_17 => ?_)
        · -- 17: taken
          refine lv_iinc (v := (nI (i + 1))) (lv' := [(3, .int (nI (i + 1))), (0, .ref (a 4)), (1, .int (nI z)), (2, .int (nI n))]) hx hb d_Cu_takeOfSize_55 hl (k := 3) rfl (nI_1 i) (by decide) rfl (fun ls hl => ?_)
          refine lv_goto (tgt := 2) hx hb d_Cu_takeOfSize_58 (by decide) ?_
          refine ih_2 _ _ _ _ _ _ ?_ ?_ ?_ ?_ hP hD hS (lv_sub hl [1, 2, 3, 0] rfl)
          · omega
          · omega
          · omega
          · have e1 : (tkF tf z (tc, ts) i).1 = u := by rw [← hf]
            have e2 : (tkF tf z (tc, ts) i).2 = q := by rw [← hf]
            refine Eq.trans hf (if_neg (fun hh => ?_)).symm
            omega
        · -- 17: not taken
          refine lv_aload_n hx hb d_Cu_takeOfSize_20 rfl (lv_at hl 0 rfl) ?_
          refine va_get (D := g) (ci := 4) (v := .int (nI u)) (C := R_Cu) (T := F_Cu) (N := 3) hx hb hT i_Cu hown hK hP 4 rfl rfl 0 (by decide) (hT _ tw_141) (fun _ h9 => h9) rfl d_Cu_takeOfSize_21 ?_
          refine lv_sipush (v := (nI 924)) hx hb d_Cu_takeOfSize_24 (by decide) ?_
          refine my_icmp_ge (tgt := 55) (a := u) (b := 924) hx hb d_Cu_takeOfSize_27 (by decide) (by omega) (by omega) (fun c_27 => ?_) (fun c_27 => ?_)
          · -- 27: taken
            refine lv_iinc (v := (nI (i + 1))) (lv' := [(3, .int (nI (i + 1))), (0, .ref (a 4)), (1, .int (nI z)), (2, .int (nI n))]) hx hb d_Cu_takeOfSize_55 hl (k := 3) rfl (nI_1 i) (by decide) rfl (fun ls hl => ?_)
            refine lv_goto (tgt := 2) hx hb d_Cu_takeOfSize_58 (by decide) ?_
            refine ih_2 _ _ _ _ _ _ ?_ ?_ ?_ ?_ hP hD hS (lv_sub hl [1, 2, 3, 0] rfl)
            · omega
            · omega
            · omega
            · have e1 : (tkF tf z (tc, ts) i).1 = u := by rw [← hf]
              have e2 : (tkF tf z (tc, ts) i).2 = q := by rw [← hf]
              refine Eq.trans hf (if_neg (fun hh => ?_)).symm
              omega
          · -- 27: not taken
            refine lv_aload_n hx hb d_Cu_takeOfSize_30 rfl (lv_at hl 0 rfl) ?_
            refine va_get (D := g) (ci := 4) (v := .ref (a 23)) (C := R_Cu) (T := F_Cu) (N := 3) hx hb hT i_Cu hown hK hP 4 rfl rfl 1 (by decide) (hT _ tw_142) (fun _ h9 => h9) rfl d_Cu_takeOfSize_31 ?_
            refine lv_aload_n hx hb d_Cu_takeOfSize_34 rfl (lv_at hl 0 rfl) ?_
            refine va_get (D := g) (ci := 4) (v := .int (nI u)) (C := R_Cu) (T := F_Cu) (N := 3) hx hb hT i_Cu hown hK hP 4 rfl rfl 0 (by decide) (hT _ tw_141) (fun _ h9 => h9) rfl d_Cu_takeOfSize_35 ?_
            refine lv_aload_n hx hb d_Cu_takeOfSize_38 rfl (lv_at hl 0 rfl) ?_
            refine va_get (D := g) (ci := 4) (v := .ref (a 24)) (C := R_Cu) (T := F_Cu) (N := 3) hx hb hT i_Cu hown hK hP 4 rfl rfl 2 (by decide) (hT _ tw_143) (fun _ h9 => h9) rfl d_Cu_takeOfSize_39 ?_
            refine lv_iload_n hx hb d_Cu_takeOfSize_42 rfl (lv_at hl 3 rfl) ?_
            refine my_iald (v := (nI (tf i))) (i := i) hx hb hK hP 24 0 rfl rfl (by omega) (by decide) rfl d_Cu_takeOfSize_43 ?_
            refine my_iast (i := u) hx hb hK hP hD hS 23 0 rfl rfl (by omega) (by decide) (my_upN _ _ _) (w' := (stW a rB rT cI cJ cII cJJ nc nv ng kd vo nu nd en br bc un eu li tb cc0 cp cu cd u (va_up q u (tf i)) tf ox ow ob ra rb gc gr gk gg gp gt sa sb)) rfl d_Cu_takeOfSize_44 (fun H locs hP hD hS => ?_)
            refine lv_aload_n hx hb d_Cu_takeOfSize_45 rfl (lv_at hl 0 rfl) ?_
            refine lv_dup hx hb d_Cu_takeOfSize_46 rfl ?_
            refine va_get (D := g) (ci := 4) (v := .int (nI u)) (C := R_Cu) (T := F_Cu) (N := 3) hx hb hT i_Cu hown hK hP 4 rfl rfl 0 (by decide) (hT _ tw_141) (fun _ h9 => h9) rfl d_Cu_takeOfSize_47 ?_
            refine lv_iconst (v := (nI 1)) hx hb d_Cu_takeOfSize_50 (by decide) ?_
            refine lv_iadd hx hb d_Cu_takeOfSize_51 ?_
            refine my_ei (nI_add u 1) ?_
            refine va_put (D := g) (ci := 4) (v := .int (nI (u + 1))) (ty := .int) (C := R_Cu) (T := F_Cu) (N := 3) hx hb hT i_Cu t_Cu t_Cu_ok n_Cu hown hK hP hD hS 4 rfl rfl 0 (by decide) (hT _ tw_141) (fun _ h9 => h9) rfl (by decide +kernel) rfl rfl (Nat.le_of_ble_eq_true rfl) d_Cu_takeOfSize_52 (fun H locs hP hD hS => ?_)
            have hP : va_P g vwCl (stW a rB rT cI cJ cII cJJ nc nv ng kd vo nu nd en br bc un eu li tb cc0 cp cu cd (u + 1) (va_up q u (tf i)) tf ox ow ob ra rb gc gr gk gg gp gt sa sb) H := hP
            have hD : va_D A (stW a rB rT cI cJ cII cJJ nc nv ng kd vo nu nd en br bc un eu li tb cc0 cp cu cd (u + 1) (va_up q u (tf i)) tf ox ow ob ra rb gc gr gk gg gp gt sa sb) := hD
            refine lv_iinc (v := (nI (i + 1))) (lv' := [(3, .int (nI (i + 1))), (0, .ref (a 4)), (1, .int (nI z)), (2, .int (nI n))]) hx hb d_Cu_takeOfSize_55 hl (k := 3) rfl (nI_1 i) (by decide) rfl (fun ls hl => ?_)
            refine lv_goto (tgt := 2) hx hb d_Cu_takeOfSize_58 (by decide) ?_
            refine ih_2 _ _ _ _ _ _ ?_ ?_ ?_ ?_ hP hD hS (lv_sub hl [1, 2, 3, 0] rfl)
            · omega
            · omega
            · omega
            · have e1 : (tkF tf z (tc, ts) i).1 = u := by rw [← hf]
              have e2 : (tkF tf z (tc, ts) i).2 = q := by rw [← hf]
              refine Eq.trans ?_ (if_pos ⟨c_17, by omega⟩).symm
              rw [e1, e2]
  refine lp_2 (n + 1) _ _ _ _ _ _ ?_ ?_ ?_ ?_ hP hD hS (lv_sub hl [1, 2, 3, 0] rfl)
  · omega
  · omega
  · exact htc
  · rfl
set_option maxHeartbeats 4000000 in
set_option maxRecDepth 100000 in
theorem k_Cu_tell (l : Launch) (g : va_G) (a rB rT : Nat → Nat) (cI cJ cII cJJ : ClassId) (nc : Nat) (nv : Nat) (ng : Nat) (kd : Nat → Int32) (vo : Nat → Nat) (nu : Nat → Nat) (nd : Nat → Nat) (en : Nat → Nat) (br : Nat → Nat → Nat) (bc : Nat → Nat) (un : Nat → Nat) (eu : Nat → Nat) (li : Nat → Nat) (tb : Nat → Nat → Int64) (cc0 : Nat) (cp : Nat → Nat) (cu : Nat → Nat) (cd : Nat → Nat) (tc : Nat) (ts : Nat → Nat) (tf : Nat → Nat) (ox : Bool) (ow : Nat → Nat) (ob : Nat → Nat) (ra : Nat) (rb : Nat) (gc : Nat) (gr : Nat) (gk : Nat → Nat) (gg : Nat → Nat) (gp : Nat → Nat) (gt : Nat → Nat) (sa : Nat) (sb : Nat) (x : Nat) (w : Nat) (hx1 : x ≤ 32) (hw : w < 4096) (htf : ∀ j, tf j < 4096) : ct_i l g vwCl (tyS cI cJ cII cJJ) y_Cu_tell c_Cu_tell 6 (some .int) ({ frames := 3, cells := 0, slots := 0, locals := 73 } : Room) [.ref (a 4), .ref (a 2), .int (nI x), .int (nI w)] (stW a rB rT cI cJ cII cJJ nc nv ng kd vo nu nd en br bc un eu li tb cc0 cp cu cd tc ts tf ox ow ob ra rb gc gr gk gg gp gt sa sb) (stW a rB rT cI cJ cII cJJ nc nv ng kd vo nu nd en br bc un eu li tb cc0 cp cu cd ((tlF (fdF tb x w tf (2 ^ popc w 12)).2 ts (fdF tb x w tf (2 ^ popc w 12)).1 13).1) ((tlF (fdF tb x w tf (2 ^ popc w 12)).2 ts (fdF tb x w tf (2 ^ popc w 12)).1 13).2) ((fdF tb x w tf (2 ^ popc w 12)).2) ox ow ob ra rb gc gr gk gg gp gt sa sb) (nI ((tlF (fdF tb x w tf (2 ^ popc w 12)).2 ts (fdF tb x w tf (2 ^ popc w 12)).1 13).1)) := by
  refine ct_i.intro (by decide) (Nat.le_of_ble_eq_true rfl) ?_
  intro p e s m args below meth c Q A ls hx hb hml hT hown hA hK hN hret hP hD hS hl
  have hown : s.vm.findClass R_Cu = some m.cls := hown
  have hl : lv_has ls 6 [(0, .ref (a 4)), (1, .ref (a 2)), (2, .int (nI x)), (3, .int (nI w))] := hl
  have q1 := fdF_le tb x w tf (2 ^ popc w 12)
  have q2 := fdF_lt tb x w tf hw htf (2 ^ popc w 12)
  refine lv_aload_n hx hb d_Cu_tell_0 rfl (lv_at hl 0 rfl) ?_
  refine lv_aload_n hx hb d_Cu_tell_1 rfl (lv_at hl 1 rfl) ?_
  refine lv_iload_n hx hb d_Cu_tell_2 rfl (lv_at hl 2 rfl) ?_
  refine lv_iload_n hx hb d_Cu_tell_3 rfl (lv_at hl 3 rfl) ?_
  refine my_V_i (q0 := 4) (ci := 4) (C := R_Cu) (As := [.ref (a 2), .int (nI x), .int (nI w)]) (n := 3) (k_Cu_find l g a rB rT cI cJ cII cJJ nc nv ng kd vo nu nd en br bc un eu li tb cc0 cp cu cd tc ts tf ox ow ob ra rb gc gr gk gg gp gt sa sb x w (by omega) (by omega)) hx hb hml hown hT hN tw_369 tw_371 tp_5 tw_5 tw_372 (by decide +kernel) rfl rfl ⟨Nat.le_of_ble_eq_true rfl, Nat.le_of_ble_eq_true rfl⟩ ⟨Nat.zero_le _, Nat.zero_le _⟩ hK hP hD hS hA rfl rfl rfl hl rfl (Nat.le_of_ble_eq_true rfl) d_Cu_tell_4 (fun H locs hP hD hS => ?_)
  refine lv_istore (lv' := [(4, .int (nI ((fdF tb x w tf (2 ^ popc w 12)).1))), (0, .ref (a 4)), (1, .ref (a 2)), (2, .int (nI x)), (3, .int (nI w))]) hx hb d_Cu_tell_7 hl (by decide) rfl (fun ls hl => ?_)
  refine lv_aload_n hx hb d_Cu_tell_9 rfl (lv_at hl 1 rfl) ?_
  refine lv_iconst (v := (nI 0)) hx hb d_Cu_tell_10 (by decide) ?_
  refine va_put (D := g) (ci := 4) (v := .int (nI 0)) (ty := .int) (C := R_Cu) (T := F_Cu) (N := 3) hx hb hT i_Cu t_Cu t_Cu_ok n_Cu hown hK hP hD hS 4 rfl rfl 0 (by decide) (hT _ tw_141) (fun _ h9 => h9) rfl (by decide +kernel) rfl rfl (Nat.le_of_ble_eq_true rfl) d_Cu_tell_11 (fun H locs hP hD hS => ?_)
  have hP : va_P g vwCl (stW a rB rT cI cJ cII cJJ nc nv ng kd vo nu nd en br bc un eu li tb cc0 cp cu cd 0 ts ((fdF tb x w tf (2 ^ popc w 12)).2) ox ow ob ra rb gc gr gk gg gp gt sa sb) H := hP
  have hD : va_D A (stW a rB rT cI cJ cII cJJ nc nv ng kd vo nu nd en br bc un eu li tb cc0 cp cu cd 0 ts ((fdF tb x w tf (2 ^ popc w 12)).2) ox ow ob ra rb gc gr gk gg gp gt sa sb) := hD
  refine lv_iconst (v := (nI 0)) hx hb d_Cu_tell_14 (by decide) ?_
  refine lv_istore (lv' := [(5, .int (nI 0)), (4, .int (nI ((fdF tb x w tf (2 ^ popc w 12)).1))), (0, .ref (a 4)), (1, .ref (a 2)), (2, .int (nI x)), (3, .int (nI w))]) hx hb d_Cu_tell_15 hl (by decide) rfl (fun ls hl => ?_)
  have lp_17 : ∀ (k : Nat) (z : Nat) (u : Nat) (q : Nat → Nat) (H : Heap) (locs : List Loc) (ls : Array Slot), (13 < z + k) → (z ≤ 13) → (u ≤ 924) → ((u, q) = (tlF (fdF tb x w tf (2 ^ popc w 12)).2 ts (fdF tb x w tf (2 ^ popc w 12)).1 z)) → va_P g vwCl (stW a rB rT cI cJ cII cJJ nc nv ng kd vo nu nd en br bc un eu li tb cc0 cp cu cd u q ((fdF tb x w tf (2 ^ popc w 12)).2) ox ow ob ra rb gc gr gk gg gp gt sa sb) H → va_D A (stW a rB rT cI cJ cII cJJ nc nv ng kd vo nu nd en br bc un eu li tb cc0 cp cu cd u q ((fdF tb x w tf (2 ^ popc w 12)).2) ox ow ob ra rb gc gr gk gg gp gt sa sb) → va_S A s.heap H locs → lv_has ls 6 [(0, .ref (a 4)), (1, .ref (a 2)), (2, .int (nI x)), (3, .int (nI w)), (4, .int (nI ((fdF tb x w tf (2 ^ popc w 12)).1))), (5, .int (nI z))] → W p l e ({ frames := 3, cells := 0, slots := 0, locals := 73 } : Room) s m args below meth c H locs 0 0 Q (F0 m 17 ls []) := by
    intro k
    induction k with
    | zero =>
      intro z u q H locs ls hk hz hu hf hP hD hS hl
      exfalso
      omega
    | succ k ih_17 =>
      intro z u q H locs ls hk hz hu hf hP hD hS hl
      refine lv_iload hx hb d_Cu_tell_17 (lv_at hl 5 rfl) ?_
      refine lv_bipush (v := (nI 12)) hx hb d_Cu_tell_19 (by decide) ?_
      refine my_icmp_gt (tgt := 38) (a := z) (b := 12) hx hb d_Cu_tell_21 (by decide) (by omega) (by omega) (fun c_21 => ?_) (fun c_21 => ?_)
      · -- 21: taken
        have e0 : z = 13 := by omega
        subst e0
        have e1 : (tlF (fdF tb x w tf (2 ^ popc w 12)).2 ts (fdF tb x w tf (2 ^ popc w 12)).1 13).1 = u := by rw [← hf]
        have e2 : (tlF (fdF tb x w tf (2 ^ popc w 12)).2 ts (fdF tb x w tf (2 ^ popc w 12)).1 13).2 = q := by rw [← hf]
        rw [← e1, ← e2] at hP hD
        refine lv_aload_n hx hb d_Cu_tell_38 rfl (lv_at hl 0 rfl) ?_
        refine va_get (D := g) (ci := 4) (v := .int (nI ((tlF (fdF tb x w tf (2 ^ popc w 12)).2 ts (fdF tb x w tf (2 ^ popc w 12)).1 13).1))) (C := R_Cu) (T := F_Cu) (N := 3) hx hb hT i_Cu hown hK hP 4 rfl rfl 0 (by decide) (hT _ tw_141) (fun _ h9 => h9) rfl d_Cu_tell_39 ?_
        refine hret _ _ _ _ _ hP hD hS d_Cu_tell_42 ?_
        rfl
      · -- 21: not taken
        refine lv_aload_n hx hb d_Cu_tell_24 rfl (lv_at hl 0 rfl) ?_
        refine lv_iload hx hb d_Cu_tell_25 (lv_at hl 5 rfl) ?_
        refine lv_iload hx hb d_Cu_tell_27 (lv_at hl 4 rfl) ?_
        refine my_V_v (q0 := 4) (ci := 4) (C := R_Cu) (As := [.int (nI z), .int (nI ((fdF tb x w tf (2 ^ popc w 12)).1))]) (n := 2) (k_Cu_takeOfSize l g a rB rT cI cJ cII cJJ nc nv ng kd vo nu nd en br bc un eu li tb cc0 cp cu cd u q ((fdF tb x w tf (2 ^ popc w 12)).2) ox ow ob ra rb gc gr gk gg gp gt sa sb z ((fdF tb x w tf (2 ^ popc w 12)).1) (by omega) (by omega) (by omega) q2) hx hb hml hown hT hN tw_382 tw_384 tp_6 tw_5 tw_385 (by decide +kernel) rfl rfl ⟨Nat.le_of_ble_eq_true rfl, Nat.le_of_ble_eq_true rfl⟩ ⟨Nat.zero_le _, Nat.zero_le _⟩ hK hP hD hS hA rfl rfl rfl hl rfl (Nat.le_of_ble_eq_true rfl) d_Cu_tell_29 (fun H locs hP hD hS => ?_)
        refine lv_iinc (v := (nI (z + 1))) (lv' := [(5, .int (nI (z + 1))), (0, .ref (a 4)), (1, .ref (a 2)), (2, .int (nI x)), (3, .int (nI w)), (4, .int (nI ((fdF tb x w tf (2 ^ popc w 12)).1)))]) hx hb d_Cu_tell_32 hl (k := 5) rfl (nI_1 z) (by decide) rfl (fun ls hl => ?_)
        refine lv_goto (tgt := 17) hx hb d_Cu_tell_35 (by decide) ?_
        refine ih_17 _ _ _ _ _ _ ?_ ?_ ?_ ?_ hP hD hS (lv_sub hl [1, 2, 3, 4, 5, 0] rfl)
        · omega
        · omega
        · exact tkF_le _ _ _ hu _
        · rw [hf]; rfl
  refine lp_17 (14) _ _ _ _ _ _ ?_ ?_ ?_ ?_ hP hD hS (lv_sub hl [2, 3, 4, 5, 1, 0] rfl)
  · omega
  · omega
  · omega
  · rfl
set_option maxHeartbeats 4000000 in
set_option maxRecDepth 100000 in
theorem k_Cu_eventIndex (l : Launch) (g : va_G) (a rB rT : Nat → Nat) (cI cJ cII cJJ : ClassId) (nc : Nat) (nv : Nat) (ng : Nat) (kd : Nat → Int32) (vo : Nat → Nat) (nu : Nat → Nat) (nd : Nat → Nat) (en : Nat → Nat) (br : Nat → Nat → Nat) (bc : Nat → Nat) (un : Nat → Nat) (eu : Nat → Nat) (li : Nat → Nat) (tb : Nat → Nat → Int64) (cc0 : Nat) (cp : Nat → Nat) (cu : Nat → Nat) (cd : Nat → Nat) (tc : Nat) (ts : Nat → Nat) (tf : Nat → Nat) (ox : Bool) (ow : Nat → Nat) (ob : Nat → Nat) (ra : Nat) (rb : Nat) (gc : Nat) (gr : Nat) (gk : Nat → Nat) (gg : Nat → Nat) (gp : Nat → Nat) (gt : Nat → Nat) (sa : Nat) (sb : Nat) (i : Int32) (k : Int32) (htc : tc ≤ 924) (hts1 : ∀ j, ts j < 4096) : ct_i l g vwCl (tyS cI cJ cII cJJ) y_Cu_eventIndex c_Cu_eventIndex 5 (some .int) ({ frames := 1, cells := 0, slots := 0, locals := 20 } : Room) [.ref (a 4), .int i, .int k] (stW a rB rT cI cJ cII cJJ nc nv ng kd vo nu nd en br bc un eu li tb cc0 cp cu cd tc ts tf ox ow ob ra rb gc gr gk gg gp gt sa sb) (stW a rB rT cI cJ cII cJJ nc nv ng kd vo nu nd en br bc un eu li tb cc0 cp cu cd tc ts tf ox ow ob ra rb gc gr gk gg gp gt sa sb) (eiF tc ts i k) := by
  refine ct_i.intro (by decide) (Nat.le_of_ble_eq_true rfl) ?_
  intro p e s m args below meth c Q A ls hx hb hml hT hown hA hK hN hret hP hD hS hl
  have hown : s.vm.findClass R_Cu = some m.cls := hown
  have hl : lv_has ls 5 [(0, .ref (a 4)), (1, .int i), (2, .int k)] := hl
  refine lv_iload_n hx hb d_Cu_eventIndex_0 rfl (lv_at hl 1 rfl) ?_
  refine lv_if_lt (tgt := 16) hx hb d_Cu_eventIndex_1 (by decide) (fun c_1 => ?_) (fun c_1 => ?_)
  · -- 1: taken
    refine lv_iconst (v := (-1)) hx hb d_Cu_eventIndex_16 (by decide) ?_
    refine hret _ _ _ _ _ hP hD hS d_Cu_eventIndex_17 ?_
    rw [eiF, if_pos (by first | exact Or.inl c_1 | exact Or.inr (Or.inl c_9) | exact Or.inr (Or.inr (by rw [Int32.lt_iff_toInt_lt]; rw [Int32.le_iff_toInt_le] at c_13; omega)))]
  · -- 1: not taken
    refine lv_iload_n hx hb d_Cu_eventIndex_4 rfl (lv_at hl 1 rfl) ?_
    refine lv_aload_n hx hb d_Cu_eventIndex_5 rfl (lv_at hl 0 rfl) ?_
    refine va_get (D := g) (ci := 4) (v := .int (nI tc)) (C := R_Cu) (T := F_Cu) (N := 3) hx hb hT i_Cu hown hK hP 4 rfl rfl 0 (by decide) (hT _ tw_141) (fun _ h9 => h9) rfl d_Cu_eventIndex_6 ?_
    refine lv_icmp_ge (tgt := 16) hx hb d_Cu_eventIndex_9 (by decide) (fun c_9 => ?_) (fun c_9 => ?_)
    · -- 9: taken
      refine lv_iconst (v := (-1)) hx hb d_Cu_eventIndex_16 (by decide) ?_
      refine hret _ _ _ _ _ hP hD hS d_Cu_eventIndex_17 ?_
      rw [eiF, if_pos (by first | exact Or.inl c_1 | exact Or.inr (Or.inl c_9) | exact Or.inr (Or.inr (by rw [Int32.lt_iff_toInt_lt]; rw [Int32.le_iff_toInt_le] at c_13; omega)))]
    · -- 9: not taken
      refine lv_iload_n hx hb d_Cu_eventIndex_12 rfl (lv_at hl 2 rfl) ?_
      refine lv_if_ge (tgt := 18) hx hb d_Cu_eventIndex_13 (by decide) (fun c_13 => ?_) (fun c_13 => ?_)
      · -- 13: taken
        have c_13 : ¬ k < 0 := (my_i0 k).1.mp c_13
        obtain ⟨i1, hi1, rfl⟩ := i32nn c_1 c_9 (by omega)
        obtain ⟨k1, hk1, rfl⟩ := nI_of c_13
        have hT1 := hts1 i1
        have hE : eiF tc ts (nI i1) (nI k1) = eiL (ts i1) 12 0 k1 := by rw [eiF, if_neg (by intro hh; rcases hh with hh | hh | hh; exact c_1 hh; exact c_9 hh; exact c_13 hh), nI_clamp (by omega), nI_clamp hk1]
        refine lv_iload_n hx hb d_Cu_eventIndex_18 rfl (lv_at hl 2 rfl) ?_
        refine lv_istore_n (lv' := [(3, .int (nI k1)), (0, .ref (a 4)), (1, .int (nI i1)), (2, .int (nI k1))]) hx hb d_Cu_eventIndex_19 rfl hl (by decide) rfl (fun ls hl => ?_)
        refine lv_iconst (v := (nI 0)) hx hb d_Cu_eventIndex_20 (by decide) ?_
        refine lv_istore (lv' := [(4, .int (nI 0)), (3, .int (nI k1)), (0, .ref (a 4)), (1, .int (nI i1)), (2, .int (nI k1))]) hx hb d_Cu_eventIndex_21 hl (by decide) rfl (fun ls hl => ?_)
        have lp_23 : ∀ (kk : Nat) (j : Nat) (f : Nat) (lf : Nat) (H : Heap) (locs : List Loc) (ls : Array Slot), (12 < j + kk) → (j + f = 12) → (lf < 2 ^ 31) → (eiL (ts i1) f j lf = eiL (ts i1) 12 0 k1) → va_P g vwCl (stW a rB rT cI cJ cII cJJ nc nv ng kd vo nu nd en br bc un eu li tb cc0 cp cu cd tc ts tf ox ow ob ra rb gc gr gk gg gp gt sa sb) H → va_D A (stW a rB rT cI cJ cII cJJ nc nv ng kd vo nu nd en br bc un eu li tb cc0 cp cu cd tc ts tf ox ow ob ra rb gc gr gk gg gp gt sa sb) → va_S A s.heap H locs → lv_has ls 5 [(0, .ref (a 4)), (1, .int (nI i1)), (2, .int (nI k1)), (3, .int (nI lf)), (4, .int (nI j))] → W p l e ({ frames := 1, cells := 0, slots := 0, locals := 20 } : Room) s m args below meth c H locs 0 0 Q (F0 m 23 ls []) := by
          intro kk
          induction kk with
          | zero =>
            intro j f lf H locs ls hk2 hj hlf hf hP hD hS hl
            exfalso
            omega
          | succ kk ih_23 =>
            intro j f lf H locs ls hk2 hj hlf hf hP hD hS hl
            refine lv_iload hx hb d_Cu_eventIndex_23 (lv_at hl 4 rfl) ?_
            refine lv_bipush (v := (nI 12)) hx hb d_Cu_eventIndex_25 (by decide) ?_
            refine my_icmp_ge (tgt := 61) (a := j) (b := 12) hx hb d_Cu_eventIndex_27 (by decide) (by omega) (by omega) (fun c_27 => ?_) (fun c_27 => ?_)
            · -- 27: taken
              have f0 : f = 0 := by omega
              subst f0
              refine lv_iconst (v := (-1)) hx hb d_Cu_eventIndex_61 (by decide) ?_
              refine hret _ _ _ _ _ hP hD hS d_Cu_eventIndex_62 ?_
              rw [hE, ← hf]; rfl
            · -- 27: not taken
              obtain ⟨f, rfl⟩ : ∃ q, f = q + 1 := ⟨f - 1, by omega⟩
              refine lv_aload_n hx hb d_Cu_eventIndex_30 rfl (lv_at hl 0 rfl) ?_
              refine va_get (D := g) (ci := 4) (v := .ref (a 23)) (C := R_Cu) (T := F_Cu) (N := 3) hx hb hT i_Cu hown hK hP 4 rfl rfl 1 (by decide) (hT _ tw_142) (fun _ h9 => h9) rfl d_Cu_eventIndex_31 ?_
              refine lv_iload_n hx hb d_Cu_eventIndex_34 rfl (lv_at hl 1 rfl) ?_
              refine my_iald (v := (nI (ts i1))) (i := i1) hx hb hK hP 23 0 rfl rfl (by omega) (by decide) rfl d_Cu_eventIndex_35 ?_
              refine lv_iload hx hb d_Cu_eventIndex_36 (lv_at hl 4 rfl) ?_
              refine my_S_i (As := [.int (nI j)]) (n := 1) (k_No_eventBit l g vwCl (tyS cI cJ cII cJJ) (stW a rB rT cI cJ cII cJJ nc nv ng kd vo nu nd en br bc un eu li tb cc0 cp cu cd tc ts tf ox ow ob ra rb gc gr gk gg gp gt sa sb) j (by omega)) hx hb hml hown hT hN tw_395 tw_258 tw_2 tw_259 (by decide +kernel) rfl rfl ⟨Nat.le_of_ble_eq_true rfl, Nat.le_of_ble_eq_true rfl⟩ ⟨Nat.zero_le _, Nat.zero_le _⟩ hK hP hD hS hA rfl hl rfl (Nat.le_of_ble_eq_true rfl) d_Cu_eventIndex_38 (fun H locs hP hD hS => ?_)
              refine lv_iand hx hb d_Cu_eventIndex_41 ?_
              refine my_ei (nx_and (ts i1) (2 ^ (11 - j))) ?_
              have q5 : ts i1 &&& 2 ^ (11 - j) < 4096 := Nat.lt_of_le_of_lt Nat.and_le_left hT1
              refine my_if_eq (tgt := 55) (a := (ts i1) &&& (2 ^ (11 - j))) hx hb d_Cu_eventIndex_42 (by decide) (by omega) (fun c_42 => ?_) (fun c_42 => ?_)
              · -- 42: taken
                refine lv_iinc (v := (nI (j + 1))) (lv' := [(4, .int (nI (j + 1))), (0, .ref (a 4)), (1, .int (nI i1)), (2, .int (nI k1)), (3, .int (nI lf))]) hx hb d_Cu_eventIndex_55 hl (k := 4) rfl (nI_1 j) (by decide) rfl (fun ls hl => ?_)
                refine lv_goto (tgt := 23) hx hb d_Cu_eventIndex_58 (by decide) ?_
                refine ih_23 _ f _ _ _ _ ?_ ?_ ?_ ?_ hP hD hS (lv_sub hl [1, 2, 3, 4, 0] rfl)
                · omega
                · exact (show j + 1 + f = 12 by omega)
                · omega
                · rw [← hf]; simp [eiL, tbF c_42]
              · -- 42: not taken
                refine lv_iload_n hx hb d_Cu_eventIndex_45 rfl (lv_at hl 3 rfl) ?_
                refine my_if_ne (tgt := 52) (a := lf) hx hb d_Cu_eventIndex_46 (by decide) (by omega) (fun c_46 => ?_) (fun c_46 => ?_)
                · -- 46: taken
                  refine lv_iinc (v := (nI (lf - 1))) (lv' := [(3, .int (nI (lf - 1))), (0, .ref (a 4)), (1, .int (nI i1)), (2, .int (nI k1)), (4, .int (nI j))]) hx hb d_Cu_eventIndex_52 hl (k := 3) rfl (sb_m1 (by omega)) (by decide) rfl (fun ls hl => ?_)
                  refine lv_iinc (v := (nI (j + 1))) (lv' := [(4, .int (nI (j + 1))), (3, .int (nI (lf - 1))), (0, .ref (a 4)), (1, .int (nI i1)), (2, .int (nI k1))]) hx hb d_Cu_eventIndex_55 hl (k := 4) rfl (nI_1 j) (by decide) rfl (fun ls hl => ?_)
                  refine lv_goto (tgt := 23) hx hb d_Cu_eventIndex_58 (by decide) ?_
                  refine ih_23 _ f _ _ _ _ ?_ ?_ ?_ ?_ hP hD hS (lv_sub hl [2, 3, 4, 1, 0] rfl)
                  · omega
                  · exact (show j + 1 + f = 12 by omega)
                  · omega
                  · rw [← hf]; simp [eiL, tbT (show ¬ ts i1 &&& 2 ^ (11 - j) = 0 by omega), show lf ≠ 0 by omega]
                · -- 46: not taken
                  refine lv_iload hx hb d_Cu_eventIndex_49 (lv_at hl 4 rfl) ?_
                  refine hret _ _ _ _ _ hP hD hS d_Cu_eventIndex_51 ?_
                  rw [hE, ← hf]; simp [eiL, tbT (show ¬ ts i1 &&& 2 ^ (11 - j) = 0 by omega), show lf = 0 by omega]
        refine lp_23 (13) 0 12 _ _ _ _ ?_ ?_ ?_ ?_ hP hD hS (lv_sub hl [2, 3, 4, 1, 0] rfl)
        · omega
        · rfl
        · exact hk1
        · rfl
      · -- 13: not taken
        refine lv_iconst (v := (-1)) hx hb d_Cu_eventIndex_16 (by decide) ?_
        refine hret _ _ _ _ _ hP hD hS d_Cu_eventIndex_17 ?_
        rw [eiF, if_pos (by first | exact Or.inl c_1 | exact Or.inr (Or.inl c_9) | exact Or.inr (Or.inr (by rw [Int32.lt_iff_toInt_lt]; rw [Int32.le_iff_toInt_le] at c_13; omega)))]
end
section
def mnF (x y : Nat) : Nat := if x ≤ y then x else y
theorem mnF_le (x y : Nat) : mnF x y ≤ y := by unfold mnF; split <;> omega
theorem mnF_le' (x y : Nat) : mnF x y ≤ x := by unfold mnF; split <;> omega
def ipF (u d : Nat) : Nat := if d < 1 then 0 else u * (2520 / d)
def wsF (tb : Nat → Nat → Int64) (x w : Nat) (ow : Nat → Nat) : Nat → (Nat → Nat)
  | 0 => ow
  | i + 1 => va_up (wsF tb x w ow i) (pd 12 w i) (if isT tb x (pd 12 w i) = true then 1 else 0)
def mxF (w ad u d : Nat) (ow : Nat → Nat) : Nat → (Nat → Nat)
  | 0 => ow
  | i + 1 => va_up (mxF w ad u d ow i) (pd 12 w i) ((d - u) * mxF w ad u d ow i (pd 12 w i) + u * mxF w ad u d ow i (pd 12 w i ||| ad))
/-- the causes folded in: weights, product of the downs -/
def ceF (ev : Nat) (cp cu cd : Nat → Nat) (m0 : Nat → Nat) : Nat → (Nat → Nat) × Nat
  | 0 => (m0, 1)
  | i + 1 => if cp i &&& ev = 0 then ceF ev cp cu cd m0 i else (mxF ev (cp i &&& ev) (cu i) (cd i) (ceF ev cp cu cd m0 i).1 (2 ^ popc ev 12), (ceF ev cp cu cd m0 i).2 * cd i)
/-- the events folded in: weights, product, what is left -/
def evF (ev : Nat) (en eu nu nd : Nat → Nat) (s : (Nat → Nat) × Nat) : Nat → (Nat → Nat) × Nat × Nat
  | 0 => (s.1, s.2, ev)
  | i + 1 => if ev &&& eu (en i) = 0 then evF ev en eu nu nd s i else
      (mxF ((evF ev en eu nu nd s i).2.2 ^^^ eu (en i)) (eu (en i)) (nu (en i)) (nd (en i)) (evF ev en eu nu nd s i).1 (2 ^ popc ((evF ev en eu nu nd s i).2.2 ^^^ eu (en i)) 12), (evF ev en eu nu nd s i).2.1 * nd (en i), (evF ev en eu nu nd s i).2.2 ^^^ eu (en i))
def ebF (nu nd eu cp cu cd : Nat → Nat) (x : Nat) : Nat → Nat
  | 0 => ipF (nu x) (nd x)
  | i + 1 => if cp i &&& eu x = 0 then ebF nu nd eu cp cu cd x i else ebF nu nd eu cp cu cd x i + ipF (cu i) (cd i)
/-- (least, sum) of what is below -/
def gsF (ob : Nat → Nat) (br : Nat → Nat → Nat) (x : Nat) : Nat → Nat × Nat
  | 0 => (2520, 0)
  | i + 1 => (mnF (gsF ob br x i).1 (ob (br x i)), (gsF ob br x i).2 + ob (br x i))
def gbF (ob : Nat → Nat) (br : Nat → Nat → Nat) (bc vo : Nat → Nat) (kd : Nat → Int32) (x : Nat) : Nat :=
  if kd x = 0 then (gsF ob br x (bc x)).1
  else if kd x = nI 2 ∧ 0 < vo x then mnF (((gsF ob br x (bc x)).2 + vo x - 1) / vo x) 2520 else mnF (gsF ob br x (bc x)).2 2520
def beF (eb : Nat → Nat) (en : Nat → Nat) (ob : Nat → Nat) : Nat → (Nat → Nat)
  | 0 => ob
  | i + 1 => va_up (beF eb en ob i) (en i) (eb (en i))
def bgF (br : Nat → Nat → Nat) (bc vo : Nat → Nat) (kd : Nat → Int32) (li ob : Nat → Nat) : Nat → (Nat → Nat)
  | 0 => ob
  | i + 1 => va_up (bgF br bc vo kd li ob i) (li i) (gbF (bgF br bc vo kd li ob i) br bc vo kd (li i))
theorem ipF_le {u d : Nat} (h : u ≤ 10) : ipF u d ≤ 25200 := by
  unfold ipF
  split
  · omega
  · have h1 : 2520 / d ≤ 2520 := Nat.div_le_self _ _
    have := Nat.mul_le_mul h h1
    omega
theorem ebF_le {nu nd eu cp cu cd : Nat → Nat} {x : Nat} (h1 : nu x ≤ 10) (h2 : ∀ j, cu j ≤ 10) : ∀ i, ebF nu nd eu cp cu cd x i ≤ 25200 + 25200 * i
  | 0 => ipF_le h1
  | i + 1 => by
    have := ebF_le (nd := nd) (eu := eu) (cp := cp) (cd := cd) h1 h2 i
    have := ipF_le (d := cd i) (h2 i)
    show (if cp i &&& eu x = 0 then ebF nu nd eu cp cu cd x i else ebF nu nd eu cp cu cd x i + ipF (cu i) (cd i)) ≤ _
    split <;> omega
theorem gsF_le {ob : Nat → Nat} {br : Nat → Nat → Nat} {x : Nat} (h : ∀ j, ob j ≤ 2520) : ∀ i, (gsF ob br x i).1 ≤ 2520 ∧ (gsF ob br x i).2 ≤ 2520 * i
  | 0 => ⟨Nat.le_refl _, Nat.le_refl _⟩
  | i + 1 => by
    have := gsF_le (br := br) (x := x) h i
    have h2 := h (br x i)
    refine ⟨Nat.le_trans (mnF_le _ _) h2, ?_⟩
    show (gsF ob br x i).2 + ob (br x i) ≤ _
    omega
theorem gbF_le {ob : Nat → Nat} {br : Nat → Nat → Nat} {bc vo : Nat → Nat} {kd : Nat → Int32} {x : Nat} (h : ∀ j, ob j ≤ 2520) : gbF ob br bc vo kd x ≤ 2520 := by
  unfold gbF
  split
  · exact (gsF_le h _).1
  · split <;> exact mnF_le _ _
theorem lN_mn {a b : Nat} (ha : a < 2 ^ 63) (hb : b < 2 ^ 63) : (if lN b < lN a then lN b else lN a) = lN (mnF a b) := by
  unfold mnF
  by_cases h : b < a
  · rw [if_pos ((pk_lLT hb ha).mpr h), if_neg (by omega)]
  · rw [if_neg (fun q => h ((pk_lLT hb ha).mp q)), if_pos (by omega)]
set_option maxHeartbeats 4000000 in
set_option maxRecDepth 100000 in
theorem k_Od_inParts (l : Launch) (g : va_G) (cl : List vw_C) (tys : List (ClassId × FieldType)) (ww : va_W) (u : Nat) (d : Nat) (hu : u ≤ 10) (hd : d ≤ 10) : ct_l l g cl tys y_Od_inParts c_Od_inParts 4 (some .long) ({ frames := 0, cells := 0, slots := 0, locals := 0 } : Room) [.long (lN u), .long (lN d)] ww ww (lN (ipF u d)) := by
  refine ct_l.intro (by decide) (Nat.le_of_ble_eq_true rfl) ?_
  intro p e s m args below meth c Q A ls hx hb hml hT hown hA hK hN hret hP hD hS hl
  have hown : s.vm.findClass R_Od = some m.cls := hown
  have hl : lv_has ls 4 [(0, .long (lN u)), (2, .long (lN d))] := hl
  refine lv_lload_n hx hb d_Od_inParts_0 rfl (lv_at hl 1 rfl) ?_
  refine lv_lconst (v := (lN 1)) hx hb d_Od_inParts_1 (by decide) ?_
  refine my_lcmp_ge (tgt := 10) (a := d) (b := 1) hx hb d_Od_inParts_2 d_Od_inParts_3 (by decide) (by omega) (by omega) (fun c_2 => ?_) (fun c_2 => ?_)
  · -- 2: taken
    refine lv_lload_n hx hb d_Od_inParts_10 rfl (lv_at hl 0 rfl) ?_
    refine lv_ldc2 (v := (lN 2520)) hx hb hown (hT _ tw_451) d_Od_inParts_11 ?_
    refine lv_lload_n hx hb d_Od_inParts_14 rfl (lv_at hl 1 rfl) ?_
    refine my_ldiv (a := 2520) (b := d) hx hb d_Od_inParts_15 (by omega) (by omega) (by omega) ?_
    refine lv_lmul hx hb d_Od_inParts_16 ?_
    refine my_el (lN_mul u (2520 / d)) ?_
    refine hret _ _ _ _ _ hP hD hS d_Od_inParts_17 ?_
    exact congrArg lN (by first | exact (if_pos (by omega)).symm | exact (if_neg (by omega)).symm)
  · -- 2: not taken
    refine lv_lconst (v := (lN 0)) hx hb d_Od_inParts_6 (by decide) ?_
    refine lv_goto (tgt := 17) hx hb d_Od_inParts_7 (by decide) ?_
    refine hret _ _ _ _ _ hP hD hS d_Od_inParts_17 ?_
    exact congrArg lN (by first | exact (if_pos (by omega)).symm | exact (if_neg (by omega)).symm)
set_option maxHeartbeats 4000000 in
set_option maxRecDepth 100000 in
theorem k_Od_weighSets (l : Launch) (g : va_G) (a rB rT : Nat → Nat) (cI cJ cII cJJ : ClassId) (nc : Nat) (nv : Nat) (ng : Nat) (kd : Nat → Int32) (vo : Nat → Nat) (nu : Nat → Nat) (nd : Nat → Nat) (en : Nat → Nat) (br : Nat → Nat → Nat) (bc : Nat → Nat) (un : Nat → Nat) (eu : Nat → Nat) (li : Nat → Nat) (tb : Nat → Nat → Int64) (cc0 : Nat) (cp : Nat → Nat) (cu : Nat → Nat) (cd : Nat → Nat) (tc : Nat) (ts : Nat → Nat) (tf : Nat → Nat) (ox : Bool) (ow : Nat → Nat) (ob : Nat → Nat) (ra : Nat) (rb : Nat) (gc : Nat) (gr : Nat) (gk : Nat → Nat) (gg : Nat → Nat) (gp : Nat → Nat) (gt : Nat → Nat) (sa : Nat) (sb : Nat) (x : Nat) (w : Nat) (hx1 : x ≤ 32) (hw : w < 4096) : ct_v l g vwCl (tyS cI cJ cII cJJ) y_Od_weighSets c_Od_weighSets 6 none ({ frames := 2, cells := 0, slots := 0, locals := 40 } : Room) [.ref (a 5), .int (nI x), .int (nI w)] (stW a rB rT cI cJ cII cJJ nc nv ng kd vo nu nd en br bc un eu li tb cc0 cp cu cd tc ts tf ox ow ob ra rb gc gr gk gg gp gt sa sb) (stW a rB rT cI cJ cII cJJ nc nv ng kd vo nu nd en br bc un eu li tb cc0 cp cu cd tc ts tf ox (wsF tb x w ow (2 ^ popc w 12)) ob ra rb gc gr gk gg gp gt sa sb) := by
  refine ct_v.intro (by decide) (Nat.le_of_ble_eq_true rfl) ?_
  intro p e s m args below meth c Q A ls hx hb hml hT hown hA hK hN hret hP hD hS hl
  have hown : s.vm.findClass R_Od = some m.cls := hown
  have hl : lv_has ls 6 [(0, .ref (a 5)), (1, .int (nI x)), (2, .int (nI w))] := hl
  have q1 := pop12 w
  have q0 : 0 < 2 ^ popc w 12 := Nat.two_pow_pos _
  refine lv_iload_n hx hb d_Od_weighSets_0 rfl (lv_at hl 2 rfl) ?_
  refine my_SN_i (As := [.int (nI w)]) (n := 1) (k_ST_countOfSets l g vwCl (tyS cI cJ cII cJJ) (stW a rB rT cI cJ cII cJJ nc nv ng kd vo nu nd en br bc un eu li tb cc0 cp cu cd tc ts tf ox ow ob ra rb gc gr gk gg gp gt sa sb) w (by omega)) hx hb hml hown hT hN tw_423 tw_315 tw_1 tw_316 (by decide +kernel) rfl rfl ⟨Nat.le_of_ble_eq_true rfl, Nat.le_of_ble_eq_true rfl⟩ ⟨Nat.zero_le _, Nat.zero_le _⟩ hK hP hD hS hA rfl hl rfl (Nat.le_of_ble_eq_true rfl) d_Od_weighSets_1 (fun H locs hP hD hS => ?_)
  refine lv_istore_n (lv' := [(3, .int (nI (2 ^ popc w 12))), (0, .ref (a 5)), (1, .int (nI x)), (2, .int (nI w))]) hx hb d_Od_weighSets_4 rfl hl (by decide) rfl (fun ls hl => ?_)
  refine lv_iconst (v := (nI 0)) hx hb d_Od_weighSets_5 (by decide) ?_
  refine lv_istore (lv' := [(4, .int (nI 0)), (3, .int (nI (2 ^ popc w 12))), (0, .ref (a 5)), (1, .int (nI x)), (2, .int (nI w))]) hx hb d_Od_weighSets_6 hl (by decide) rfl (fun ls hl => ?_)
  refine lv_iconst (v := (nI 0)) hx hb d_Od_weighSets_8 (by decide) ?_
  refine lv_istore (lv' := [(5, .int (nI 0)), (4, .int (nI 0)), (3, .int (nI (2 ^ popc w 12))), (0, .ref (a 5)), (1, .int (nI x)), (2, .int (nI w))]) hx hb d_Od_weighSets_9 hl (by decide) rfl (fun ls hl => ?_)
  have lp_11 : ∀ (k : Nat) (i : Nat) (v : Nat) (q : Nat → Nat) (H : Heap) (locs : List Loc) (ls : Array Slot), (2 ^ popc w 12 < i + k) → (i ≤ 2 ^ popc w 12) → (v < 4096) → (i < 2 ^ popc w 12 → v = pd 12 w i) → (q = wsF tb x w ow i) → va_P g vwCl (stW a rB rT cI cJ cII cJJ nc nv ng kd vo nu nd en br bc un eu li tb cc0 cp cu cd tc ts tf ox q ob ra rb gc gr gk gg gp gt sa sb) H → va_D A (stW a rB rT cI cJ cII cJJ nc nv ng kd vo nu nd en br bc un eu li tb cc0 cp cu cd tc ts tf ox q ob ra rb gc gr gk gg gp gt sa sb) → va_S A s.heap H locs → lv_has ls 6 [(0, .ref (a 5)), (1, .int (nI x)), (2, .int (nI w)), (3, .int (nI (2 ^ popc w 12))), (4, .int (nI v)), (5, .int (nI i))] → W p l e ({ frames := 2, cells := 0, slots := 0, locals := 40 } : Room) s m args below meth c H locs 0 0 Q (F0 m 11 ls []) := by
    intro k
    induction k with
    | zero =>
      intro i v q H locs ls hk hi hv hp hf hP hD hS hl
      exfalso
      omega
    | succ k ih_11 =>
      intro i v q H locs ls hk hi hv hp hf hP hD hS hl
      refine lv_iload hx hb d_Od_weighSets_11 (lv_at hl 5 rfl) ?_
      refine lv_iload_n hx hb d_Od_weighSets_13 rfl (lv_at hl 3 rfl) ?_
      refine my_icmp_ge (tgt := 56) (a := i) (b := 2 ^ popc w 12) hx hb d_Od_weighSets_14 (by decide) (by omega) (by omega) (fun c_14 => ?_) (fun c_14 => ?_)
      · -- 14: taken
        have e1 : q = wsF tb x w ow (2 ^ popc w 12) := by rw [hf, show i = 2 ^ popc w 12 by omega]
        rw [e1] at hP hD
        exact hret _ _ _ _ hP hD hS d_Od_weighSets_56
      · -- 14: not taken
        refine lv_aload_n hx hb d_Od_weighSets_17 rfl (lv_at hl 0 rfl) ?_
        refine va_get (D := g) (ci := 5) (v := .ref (a 25)) (C := R_Od) (T := F_Od) (N := 7) hx hb hT i_Od hown hK hP 5 rfl rfl 5 (by decide) (hT _ tw_177) (fun _ h9 => h9) rfl d_Od_weighSets_18 ?_
        refine lv_iload hx hb d_Od_weighSets_21 (lv_at hl 4 rfl) ?_
        refine lv_aload_n hx hb d_Od_weighSets_23 rfl (lv_at hl 0 rfl) ?_
        refine va_get (D := g) (ci := 5) (v := .ref (a 2)) (C := R_Od) (T := F_Od) (N := 7) hx hb hT i_Od hown hK hP 5 rfl rfl 1 (by decide) (hT _ tw_171) (fun _ h9 => h9) rfl d_Od_weighSets_24 ?_
        refine lv_iload_n hx hb d_Od_weighSets_27 rfl (lv_at hl 1 rfl) ?_
        refine lv_iload hx hb d_Od_weighSets_28 (lv_at hl 4 rfl) ?_
        refine my_V_i (q0 := 2) (ci := 2) (C := R_Tr) (As := [.int (nI x), .int (nI v)]) (n := 2) (k_Tr_isTrue l g a rB rT cI cJ cII cJJ nc nv ng kd vo nu nd en br bc un eu li tb cc0 cp cu cd tc ts tf ox q ob ra rb gc gr gk gg gp gt sa sb x v (by omega) (by omega)) hx hb hml hown hT hN tw_424 tw_379 tw_380 tw_3 tw_381 (by decide +kernel) rfl rfl ⟨Nat.le_of_ble_eq_true rfl, Nat.le_of_ble_eq_true rfl⟩ ⟨Nat.zero_le _, Nat.zero_le _⟩ hK hP hD hS hA rfl rfl rfl hl rfl (Nat.le_of_ble_eq_true rfl) d_Od_weighSets_30 (fun H locs hP hD hS => ?_)
        refine my_if_eq_b (tgt := 40) hx hb d_Od_weighSets_33 (by decide) (fun c_33 => ?_) (fun c_33 => ?_)
        · -- 33: taken
          refine lv_lconst (v := (lN 0)) hx hb d_Od_weighSets_40 (by decide) ?_
          refine my_last (i := v) hx hb hK hP hD hS 25 1 rfl rfl (by omega) (by decide) (my_upL _ _ _) (w' := (stW a rB rT cI cJ cII cJJ nc nv ng kd vo nu nd en br bc un eu li tb cc0 cp cu cd tc ts tf ox (va_up q v 0) ob ra rb gc gr gk gg gp gt sa sb)) rfl d_Od_weighSets_41 (fun H locs hP hD hS => ?_)
          refine lv_iload hx hb d_Od_weighSets_42 (lv_at hl 4 rfl) ?_
          refine lv_iload_n hx hb d_Od_weighSets_44 rfl (lv_at hl 2 rfl) ?_
          refine my_SN_i (As := [.int (nI v), .int (nI w)]) (n := 2) (k_ST_nextSet l g vwCl (tyS cI cJ cII cJJ) (stW a rB rT cI cJ cII cJJ nc nv ng kd vo nu nd en br bc un eu li tb cc0 cp cu cd tc ts tf ox (va_up q v 0) ob ra rb gc gr gk gg gp gt sa sb) v w (by omega)) hx hb hml hown hT hN tw_425 tw_426 tw_1 tw_427 (by decide +kernel) rfl rfl ⟨Nat.le_of_ble_eq_true rfl, Nat.le_of_ble_eq_true rfl⟩ ⟨Nat.zero_le _, Nat.zero_le _⟩ hK hP hD hS hA rfl hl rfl (Nat.le_of_ble_eq_true rfl) d_Od_weighSets_45 (fun H locs hP hD hS => ?_)
          refine lv_istore (lv' := [(4, .int (nI ((v + 2 ^ 32 - w) &&& w))), (0, .ref (a 5)), (1, .int (nI x)), (2, .int (nI w)), (3, .int (nI (2 ^ popc w 12))), (5, .int (nI i))]) hx hb d_Od_weighSets_48 hl (by decide) rfl (fun ls hl => ?_)
          refine lv_iinc (v := (nI (i + 1))) (lv' := [(5, .int (nI (i + 1))), (4, .int (nI ((v + 2 ^ 32 - w) &&& w))), (0, .ref (a 5)), (1, .int (nI x)), (2, .int (nI w)), (3, .int (nI (2 ^ popc w 12)))]) hx hb d_Od_weighSets_50 hl (k := 5) rfl (nI_1 i) (by decide) rfl (fun ls hl => ?_)
          refine lv_goto (tgt := 11) hx hb d_Od_weighSets_53 (by decide) ?_
          refine ih_11 _ _ _ _ _ _ ?_ ?_ ?_ ?_ ?_ hP hD hS (lv_sub hl [2, 3, 4, 5, 1, 0] rfl)
          · omega
          · omega
          · exact Nat.lt_of_le_of_lt Nat.and_le_right hw
          · intro h; rw [hp (by omega)]; exact pd_next 12 w i 32 (by omega) hw h
          · have e3 := hp (by omega)
            rw [hf]
            show va_up _ v _ = va_up _ (pd 12 w i) (if isT tb x (pd 12 w i) = true then 1 else 0)
            rw [← e3, c_33]; rfl
        · -- 33: not taken
          refine lv_lconst (v := (lN 1)) hx hb d_Od_weighSets_36 (by decide) ?_
          refine lv_goto (tgt := 41) hx hb d_Od_weighSets_37 (by decide) ?_
          refine my_last (i := v) hx hb hK hP hD hS 25 1 rfl rfl (by omega) (by decide) (my_upL _ _ _) (w' := (stW a rB rT cI cJ cII cJJ nc nv ng kd vo nu nd en br bc un eu li tb cc0 cp cu cd tc ts tf ox (va_up q v 1) ob ra rb gc gr gk gg gp gt sa sb)) rfl d_Od_weighSets_41 (fun H locs hP hD hS => ?_)
          refine lv_iload hx hb d_Od_weighSets_42 (lv_at hl 4 rfl) ?_
          refine lv_iload_n hx hb d_Od_weighSets_44 rfl (lv_at hl 2 rfl) ?_
          refine my_SN_i (As := [.int (nI v), .int (nI w)]) (n := 2) (k_ST_nextSet l g vwCl (tyS cI cJ cII cJJ) (stW a rB rT cI cJ cII cJJ nc nv ng kd vo nu nd en br bc un eu li tb cc0 cp cu cd tc ts tf ox (va_up q v 1) ob ra rb gc gr gk gg gp gt sa sb) v w (by omega)) hx hb hml hown hT hN tw_425 tw_426 tw_1 tw_427 (by decide +kernel) rfl rfl ⟨Nat.le_of_ble_eq_true rfl, Nat.le_of_ble_eq_true rfl⟩ ⟨Nat.zero_le _, Nat.zero_le _⟩ hK hP hD hS hA rfl hl rfl (Nat.le_of_ble_eq_true rfl) d_Od_weighSets_45 (fun H locs hP hD hS => ?_)
          refine lv_istore (lv' := [(4, .int (nI ((v + 2 ^ 32 - w) &&& w))), (0, .ref (a 5)), (1, .int (nI x)), (2, .int (nI w)), (3, .int (nI (2 ^ popc w 12))), (5, .int (nI i))]) hx hb d_Od_weighSets_48 hl (by decide) rfl (fun ls hl => ?_)
          refine lv_iinc (v := (nI (i + 1))) (lv' := [(5, .int (nI (i + 1))), (4, .int (nI ((v + 2 ^ 32 - w) &&& w))), (0, .ref (a 5)), (1, .int (nI x)), (2, .int (nI w)), (3, .int (nI (2 ^ popc w 12)))]) hx hb d_Od_weighSets_50 hl (k := 5) rfl (nI_1 i) (by decide) rfl (fun ls hl => ?_)
          refine lv_goto (tgt := 11) hx hb d_Od_weighSets_53 (by decide) ?_
          refine ih_11 _ _ _ _ _ _ ?_ ?_ ?_ ?_ ?_ hP hD hS (lv_sub hl [2, 3, 4, 5, 1, 0] rfl)
          · omega
          · omega
          · exact Nat.lt_of_le_of_lt Nat.and_le_right hw
          · intro h; rw [hp (by omega)]; exact pd_next 12 w i 32 (by omega) hw h
          · have e3 := hp (by omega)
            rw [hf]
            show va_up _ v _ = va_up _ (pd 12 w i) (if isT tb x (pd 12 w i) = true then 1 else 0)
            rw [← e3, c_33]; rfl
  refine lp_11 (2 ^ popc w 12 + 1) _ _ _ _ _ _ ?_ ?_ ?_ ?_ ?_ hP hD hS (lv_sub hl [3, 4, 5, 2, 1, 0] rfl)
  · omega
  · omega
  · omega
  · intro _; exact (pd_0 12 w).symm
  · rfl
set_option maxHeartbeats 4000000 in
set_option maxRecDepth 100000 in
theorem k_Od_mix (l : Launch) (g : va_G) (a rB rT : Nat → Nat) (cI cJ cII cJJ : ClassId) (nc : Nat) (nv : Nat) (ng : Nat) (kd : Nat → Int32) (vo : Nat → Nat) (nu : Nat → Nat) (nd : Nat → Nat) (en : Nat → Nat) (br : Nat → Nat → Nat) (bc : Nat → Nat) (un : Nat → Nat) (eu : Nat → Nat) (li : Nat → Nat) (tb : Nat → Nat → Int64) (cc0 : Nat) (cp : Nat → Nat) (cu : Nat → Nat) (cd : Nat → Nat) (tc : Nat) (ts : Nat → Nat) (tf : Nat → Nat) (ox : Bool) (ow : Nat → Nat) (ob : Nat → Nat) (ra : Nat) (rb : Nat) (gc : Nat) (gr : Nat) (gk : Nat → Nat) (gg : Nat → Nat) (gp : Nat → Nat) (gt : Nat → Nat) (sa : Nat) (sb : Nat) (w : Nat) (ad : Nat) (u : Nat) (d : Nat) (hw : w < 4096) (had : ad < 4096) (hud : u ≤ d) : ct_v l g vwCl (tyS cI cJ cII cJJ) y_Od_mix c_Od_mix 10 none ({ frames := 2, cells := 0, slots := 0, locals := 40 } : Room) [.ref (a 5), .int (nI w), .int (nI ad), .long (lN u), .long (lN d)] (stW a rB rT cI cJ cII cJJ nc nv ng kd vo nu nd en br bc un eu li tb cc0 cp cu cd tc ts tf ox ow ob ra rb gc gr gk gg gp gt sa sb) (stW a rB rT cI cJ cII cJJ nc nv ng kd vo nu nd en br bc un eu li tb cc0 cp cu cd tc ts tf ox (mxF w ad u d ow (2 ^ popc w 12)) ob ra rb gc gr gk gg gp gt sa sb) := by
  refine ct_v.intro (by decide) (Nat.le_of_ble_eq_true rfl) ?_
  intro p e s m args below meth c Q A ls hx hb hml hT hown hA hK hN hret hP hD hS hl
  have hown : s.vm.findClass R_Od = some m.cls := hown
  have hl : lv_has ls 10 [(0, .ref (a 5)), (1, .int (nI w)), (2, .int (nI ad)), (3, .long (lN u)), (5, .long (lN d))] := hl
  have q1 := pop12 w
  have q0 : 0 < 2 ^ popc w 12 := Nat.two_pow_pos _
  refine lv_iload_n hx hb d_Od_mix_0 rfl (lv_at hl 1 rfl) ?_
  refine my_SN_i (As := [.int (nI w)]) (n := 1) (k_ST_countOfSets l g vwCl (tyS cI cJ cII cJJ) (stW a rB rT cI cJ cII cJJ nc nv ng kd vo nu nd en br bc un eu li tb cc0 cp cu cd tc ts tf ox ow ob ra rb gc gr gk gg gp gt sa sb) w (by omega)) hx hb hml hown hT hN tw_423 tw_315 tw_1 tw_316 (by decide +kernel) rfl rfl ⟨Nat.le_of_ble_eq_true rfl, Nat.le_of_ble_eq_true rfl⟩ ⟨Nat.zero_le _, Nat.zero_le _⟩ hK hP hD hS hA rfl hl rfl (Nat.le_of_ble_eq_true rfl) d_Od_mix_1 (fun H locs hP hD hS => ?_)
  refine lv_istore (lv' := [(7, .int (nI (2 ^ popc w 12))), (0, .ref (a 5)), (1, .int (nI w)), (2, .int (nI ad)), (3, .long (lN u)), (5, .long (lN d))]) hx hb d_Od_mix_4 hl (by decide) rfl (fun ls hl => ?_)
  refine lv_iconst (v := (nI 0)) hx hb d_Od_mix_6 (by decide) ?_
  refine lv_istore (lv' := [(8, .int (nI 0)), (7, .int (nI (2 ^ popc w 12))), (0, .ref (a 5)), (1, .int (nI w)), (2, .int (nI ad)), (3, .long (lN u)), (5, .long (lN d))]) hx hb d_Od_mix_7 hl (by decide) rfl (fun ls hl => ?_)
  refine lv_iconst (v := (nI 0)) hx hb d_Od_mix_9 (by decide) ?_
  refine lv_istore (lv' := [(9, .int (nI 0)), (8, .int (nI 0)), (7, .int (nI (2 ^ popc w 12))), (0, .ref (a 5)), (1, .int (nI w)), (2, .int (nI ad)), (3, .long (lN u)), (5, .long (lN d))]) hx hb d_Od_mix_10 hl (by decide) rfl (fun ls hl => ?_)
  have lp_12 : ∀ (k : Nat) (i : Nat) (v : Nat) (q : Nat → Nat) (H : Heap) (locs : List Loc) (ls : Array Slot), (2 ^ popc w 12 < i + k) → (i ≤ 2 ^ popc w 12) → (v < 4096) → (i < 2 ^ popc w 12 → v = pd 12 w i) → (q = mxF w ad u d ow i) → va_P g vwCl (stW a rB rT cI cJ cII cJJ nc nv ng kd vo nu nd en br bc un eu li tb cc0 cp cu cd tc ts tf ox q ob ra rb gc gr gk gg gp gt sa sb) H → va_D A (stW a rB rT cI cJ cII cJJ nc nv ng kd vo nu nd en br bc un eu li tb cc0 cp cu cd tc ts tf ox q ob ra rb gc gr gk gg gp gt sa sb) → va_S A s.heap H locs → lv_has ls 10 [(0, .ref (a 5)), (1, .int (nI w)), (2, .int (nI ad)), (3, .long (lN u)), (5, .long (lN d)), (7, .int (nI (2 ^ popc w 12))), (8, .int (nI v)), (9, .int (nI i))] → W p l e ({ frames := 2, cells := 0, slots := 0, locals := 40 } : Room) s m args below meth c H locs 0 0 Q (F0 m 12 ls []) := by
    intro k
    induction k with
    | zero =>
      intro i v q H locs ls hk hi hv hp hf hP hD hS hl
      exfalso
      omega
    | succ k ih_12 =>
      intro i v q H locs ls hk hi hv hp hf hP hD hS hl
      refine lv_iload hx hb d_Od_mix_12 (lv_at hl 7 rfl) ?_
      refine lv_iload hx hb d_Od_mix_14 (lv_at hl 5 rfl) ?_
      refine my_icmp_ge (tgt := 64) (a := i) (b := 2 ^ popc w 12) hx hb d_Od_mix_16 (by decide) (by omega) (by omega) (fun c_16 => ?_) (fun c_16 => ?_)
      · -- 16: taken
        have e1 : q = mxF w ad u d ow (2 ^ popc w 12) := by rw [hf, show i = 2 ^ popc w 12 by omega]
        rw [e1] at hP hD
        exact hret _ _ _ _ hP hD hS d_Od_mix_64
      · -- 16: not taken
        refine lv_aload_n hx hb d_Od_mix_19 rfl (lv_at hl 0 rfl) ?_
        refine va_get (D := g) (ci := 5) (v := .ref (a 25)) (C := R_Od) (T := F_Od) (N := 7) hx hb hT i_Od hown hK hP 5 rfl rfl 5 (by decide) (hT _ tw_177) (fun _ h9 => h9) rfl d_Od_mix_20 ?_
        refine lv_iload hx hb d_Od_mix_23 (lv_at hl 6 rfl) ?_
        refine lv_lload hx hb d_Od_mix_25 (lv_at hl 4 rfl) ?_
        refine lv_lload_n hx hb d_Od_mix_27 rfl (lv_at hl 3 rfl) ?_
        refine lv_lsub hx hb d_Od_mix_28 ?_
        refine my_el (lN_sub (a := d) (b := u) (by omega)) ?_
        refine lv_aload_n hx hb d_Od_mix_29 rfl (lv_at hl 0 rfl) ?_
        refine va_get (D := g) (ci := 5) (v := .ref (a 25)) (C := R_Od) (T := F_Od) (N := 7) hx hb hT i_Od hown hK hP 5 rfl rfl 5 (by decide) (hT _ tw_177) (fun _ h9 => h9) rfl d_Od_mix_30 ?_
        refine lv_iload hx hb d_Od_mix_33 (lv_at hl 6 rfl) ?_
        refine my_lald (v := (lN (q v))) (i := v) hx hb hK hP 25 1 rfl rfl (by omega) (by decide) rfl d_Od_mix_35 ?_
        refine lv_lmul hx hb d_Od_mix_36 ?_
        refine my_el (lN_mul (d - u) (q v)) ?_
        refine lv_lload_n hx hb d_Od_mix_37 rfl (lv_at hl 3 rfl) ?_
        refine lv_aload_n hx hb d_Od_mix_38 rfl (lv_at hl 0 rfl) ?_
        refine va_get (D := g) (ci := 5) (v := .ref (a 25)) (C := R_Od) (T := F_Od) (N := 7) hx hb hT i_Od hown hK hP 5 rfl rfl 5 (by decide) (hT _ tw_177) (fun _ h9 => h9) rfl d_Od_mix_39 ?_
        refine lv_iload hx hb d_Od_mix_42 (lv_at hl 6 rfl) ?_
        refine lv_iload_n hx hb d_Od_mix_44 rfl (lv_at hl 2 rfl) ?_
        refine lv_ior hx hb d_Od_mix_45 ?_
        refine my_ei (nx_or v ad) ?_
        have q3 : v ||| ad < 4096 := or_lt (k := 12) hv had
        refine my_lald (v := (lN (q (v ||| ad)))) (i := v ||| ad) hx hb hK hP 25 1 rfl rfl (by omega) (by decide) rfl d_Od_mix_46 ?_
        refine lv_lmul hx hb d_Od_mix_47 ?_
        refine my_el (lN_mul u (q (v ||| ad))) ?_
        refine lv_ladd hx hb d_Od_mix_48 ?_
        refine my_el (lN_add ((d - u) * (q v)) (u * (q (v ||| ad)))) ?_
        refine my_last (i := v) hx hb hK hP hD hS 25 1 rfl rfl (by omega) (by decide) (my_upL _ _ _) (w' := (stW a rB rT cI cJ cII cJJ nc nv ng kd vo nu nd en br bc un eu li tb cc0 cp cu cd tc ts tf ox (va_up q v (((d - u) * (q v)) + (u * (q (v ||| ad))))) ob ra rb gc gr gk gg gp gt sa sb)) rfl d_Od_mix_49 (fun H locs hP hD hS => ?_)
        refine lv_iload hx hb d_Od_mix_50 (lv_at hl 6 rfl) ?_
        refine lv_iload_n hx hb d_Od_mix_52 rfl (lv_at hl 1 rfl) ?_
        refine my_SN_i (As := [.int (nI v), .int (nI w)]) (n := 2) (k_ST_nextSet l g vwCl (tyS cI cJ cII cJJ) (stW a rB rT cI cJ cII cJJ nc nv ng kd vo nu nd en br bc un eu li tb cc0 cp cu cd tc ts tf ox (va_up q v (((d - u) * (q v)) + (u * (q (v ||| ad))))) ob ra rb gc gr gk gg gp gt sa sb) v w (by omega)) hx hb hml hown hT hN tw_425 tw_426 tw_1 tw_427 (by decide +kernel) rfl rfl ⟨Nat.le_of_ble_eq_true rfl, Nat.le_of_ble_eq_true rfl⟩ ⟨Nat.zero_le _, Nat.zero_le _⟩ hK hP hD hS hA rfl hl rfl (Nat.le_of_ble_eq_true rfl) d_Od_mix_53 (fun H locs hP hD hS => ?_)
        refine lv_istore (lv' := [(8, .int (nI ((v + 2 ^ 32 - w) &&& w))), (0, .ref (a 5)), (1, .int (nI w)), (2, .int (nI ad)), (3, .long (lN u)), (5, .long (lN d)), (7, .int (nI (2 ^ popc w 12))), (9, .int (nI i))]) hx hb d_Od_mix_56 hl (by decide) rfl (fun ls hl => ?_)
        refine lv_iinc (v := (nI (i + 1))) (lv' := [(9, .int (nI (i + 1))), (8, .int (nI ((v + 2 ^ 32 - w) &&& w))), (0, .ref (a 5)), (1, .int (nI w)), (2, .int (nI ad)), (3, .long (lN u)), (5, .long (lN d)), (7, .int (nI (2 ^ popc w 12)))]) hx hb d_Od_mix_58 hl (k := 7) rfl (nI_1 i) (by decide) rfl (fun ls hl => ?_)
        refine lv_goto (tgt := 12) hx hb d_Od_mix_61 (by decide) ?_
        refine ih_12 _ _ _ _ _ _ ?_ ?_ ?_ ?_ ?_ hP hD hS (lv_sub hl [2, 3, 4, 5, 6, 7, 1, 0] rfl)
        · omega
        · omega
        · exact Nat.lt_of_le_of_lt Nat.and_le_right hw
        · intro h; rw [hp (by omega)]; exact pd_next 12 w i 32 (by omega) hw h
        · have e3 := hp (by omega)
          rw [hf, e3]; rfl
  refine lp_12 (2 ^ popc w 12 + 1) _ _ _ _ _ _ ?_ ?_ ?_ ?_ ?_ hP hD hS (lv_sub hl [3, 4, 5, 6, 7, 2, 1, 0] rfl)
  · omega
  · omega
  · omega
  · intro _; exact (pd_0 12 w).symm
  · rfl
set_option maxHeartbeats 4000000 in
set_option maxRecDepth 100000 in
theorem k_Od_eventBound (l : Launch) (g : va_G) (a rB rT : Nat → Nat) (cI cJ cII cJJ : ClassId) (nc : Nat) (nv : Nat) (ng : Nat) (kd : Nat → Int32) (vo : Nat → Nat) (nu : Nat → Nat) (nd : Nat → Nat) (en : Nat → Nat) (br : Nat → Nat → Nat) (bc : Nat → Nat) (un : Nat → Nat) (eu : Nat → Nat) (li : Nat → Nat) (tb : Nat → Nat → Int64) (cc0 : Nat) (cp : Nat → Nat) (cu : Nat → Nat) (cd : Nat → Nat) (tc : Nat) (ts : Nat → Nat) (tf : Nat → Nat) (ox : Bool) (ow : Nat → Nat) (ob : Nat → Nat) (ra : Nat) (rb : Nat) (gc : Nat) (gr : Nat) (gk : Nat → Nat) (gg : Nat → Nat) (gp : Nat → Nat) (gt : Nat → Nat) (sa : Nat) (sb : Nat) (x : Nat) (hx1 : x ≤ 32) (hc : cc0 ≤ 4) (hp : ∀ j, cp j < 4096) (hnu : ∀ j, nu j ≤ 10) (hnd : ∀ j, nd j ≤ 10) (hcu : ∀ j, cu j ≤ 10) (hcd : ∀ j, cd j ≤ 10) : ct_l l g vwCl (tyS cI cJ cII cJJ) y_Od_eventBound c_Od_eventBound 5 (some .long) ({ frames := 1, cells := 0, slots := 0, locals := 23 } : Room) [.ref (a 5), .int (nI x)] (stW a rB rT cI cJ cII cJJ nc nv ng kd vo nu nd en br bc un eu li tb cc0 cp cu cd tc ts tf ox ow ob ra rb gc gr gk gg gp gt sa sb) (stW a rB rT cI cJ cII cJJ nc nv ng kd vo nu nd en br bc un eu li tb cc0 cp cu cd tc ts tf ox ow ob ra rb gc gr gk gg gp gt sa sb) (lN (mnF (ebF nu nd eu cp cu cd x cc0) 2520)) := by
  refine ct_l.intro (by decide) (Nat.le_of_ble_eq_true rfl) ?_
  intro p e s m args below meth c Q A ls hx hb hml hT hown hA hK hN hret hP hD hS hl
  have hown : s.vm.findClass R_Od = some m.cls := hown
  have hl : lv_has ls 5 [(0, .ref (a 5)), (1, .int (nI x))] := hl
  refine lv_aload_n hx hb d_Od_eventBound_0 rfl (lv_at hl 0 rfl) ?_
  refine va_get (D := g) (ci := 5) (v := .ref (a 1)) (C := R_Od) (T := F_Od) (N := 7) hx hb hT i_Od hown hK hP 5 rfl rfl 0 (by decide) (hT _ tw_170) (fun _ h9 => h9) rfl d_Od_eventBound_1 ?_
  refine va_getN (D := g) (ci := 1) (v := .ref (a 11)) (C := R_No) (T := F_No) (N := 13) hx hb hT i_No hown hK hP 1 rfl rfl 5 (by decide) (va_Nw.use rfl (hN _ tw_46)) (fun _ h9 => h9) rfl d_Od_eventBound_4 ?_
  refine lv_iload_n hx hb d_Od_eventBound_7 rfl (lv_at hl 1 rfl) ?_
  refine my_lald (v := (lN (nu x))) (i := x) hx hb hK hP 11 1 rfl rfl (by omega) (by decide) rfl d_Od_eventBound_8 ?_
  refine lv_aload_n hx hb d_Od_eventBound_9 rfl (lv_at hl 0 rfl) ?_
  refine va_get (D := g) (ci := 5) (v := .ref (a 1)) (C := R_Od) (T := F_Od) (N := 7) hx hb hT i_Od hown hK hP 5 rfl rfl 0 (by decide) (hT _ tw_170) (fun _ h9 => h9) rfl d_Od_eventBound_10 ?_
  refine va_getN (D := g) (ci := 1) (v := .ref (a 12)) (C := R_No) (T := F_No) (N := 13) hx hb hT i_No hown hK hP 1 rfl rfl 6 (by decide) (va_Nw.use rfl (hN _ tw_48)) (fun _ h9 => h9) rfl d_Od_eventBound_13 ?_
  refine lv_iload_n hx hb d_Od_eventBound_16 rfl (lv_at hl 1 rfl) ?_
  refine my_lald (v := (lN (nd x))) (i := x) hx hb hK hP 12 1 rfl rfl (by omega) (by decide) rfl d_Od_eventBound_17 ?_
  refine my_S_l (As := [.long (lN (nu x)), .long (lN (nd x))]) (n := 2) (k_Od_inParts l g vwCl (tyS cI cJ cII cJJ) (stW a rB rT cI cJ cII cJJ nc nv ng kd vo nu nd en br bc un eu li tb cc0 cp cu cd tc ts tf ox ow ob ra rb gc gr gk gg gp gt sa sb) (nu x) (nd x) (hnu x) (hnd x)) hx hb hml hown hT hN tw_448 tw_449 tw_6 tw_450 (by decide +kernel) rfl rfl ⟨Nat.le_of_ble_eq_true rfl, Nat.le_of_ble_eq_true rfl⟩ ⟨Nat.zero_le _, Nat.zero_le _⟩ hK hP hD hS hA rfl hl rfl (Nat.le_of_ble_eq_true rfl) d_Od_eventBound_18 (fun H locs hP hD hS => ?_)
  refine lv_lstore_n (lv' := [(2, .long (lN (ipF (nu x) (nd x)))), (0, .ref (a 5)), (1, .int (nI x))]) hx hb d_Od_eventBound_21 rfl hl (by decide) rfl (fun ls hl => ?_)
  refine lv_iconst (v := (nI 0)) hx hb d_Od_eventBound_22 (by decide) ?_
  refine lv_istore (lv' := [(4, .int (nI 0)), (2, .long (lN (ipF (nu x) (nd x)))), (0, .ref (a 5)), (1, .int (nI x))]) hx hb d_Od_eventBound_23 hl (by decide) rfl (fun ls hl => ?_)
  have lp_25 : ∀ (k : Nat) (i : Nat) (f : Nat) (H : Heap) (locs : List Loc) (ls : Array Slot), (cc0 < i + k) → (i ≤ cc0) → (f = ebF nu nd eu cp cu cd x i) → va_P g vwCl (stW a rB rT cI cJ cII cJJ nc nv ng kd vo nu nd en br bc un eu li tb cc0 cp cu cd tc ts tf ox ow ob ra rb gc gr gk gg gp gt sa sb) H → va_D A (stW a rB rT cI cJ cII cJJ nc nv ng kd vo nu nd en br bc un eu li tb cc0 cp cu cd tc ts tf ox ow ob ra rb gc gr gk gg gp gt sa sb) → va_S A s.heap H locs → lv_has ls 5 [(0, .ref (a 5)), (1, .int (nI x)), (2, .long (lN f)), (4, .int (nI i))] → W p l e ({ frames := 1, cells := 0, slots := 0, locals := 23 } : Room) s m args below meth c H locs 0 0 Q (F0 m 25 ls []) := by
    intro k
    induction k with
    | zero =>
      intro i f H locs ls hk hi hf hP hD hS hl
      exfalso
      omega
    | succ k ih_25 =>
      intro i f H locs ls hk hi hf hP hD hS hl
      refine lv_iload hx hb d_Od_eventBound_25 (lv_at hl 3 rfl) ?_
      refine lv_aload_n hx hb d_Od_eventBound_27 rfl (lv_at hl 0 rfl) ?_
      refine va_get (D := g) (ci := 5) (v := .ref (a 3)) (C := R_Od) (T := F_Od) (N := 7) hx hb hT i_Od hown hK hP 5 rfl rfl 2 (by decide) (hT _ tw_172) (fun _ h9 => h9) rfl d_Od_eventBound_28 ?_
      refine va_getN (D := g) (ci := 3) (v := .int (nI cc0)) (C := R_Ca) (T := F_Ca) (N := 4) hx hb hT i_Ca hown hK hP 3 rfl rfl 0 (by decide) (va_Nw.use rfl (hN _ tw_118)) (fun _ h9 => h9) rfl d_Od_eventBound_31 ?_
      refine my_icmp_ge (tgt := 90) (a := i) (b := cc0) hx hb d_Od_eventBound_34 (by decide) (by omega) (by omega) (fun c_34 => ?_) (fun c_34 => ?_)
      · -- 34: taken
        have q1 := ebF_le (nd := nd) (eu := eu) (cp := cp) (cd := cd) (hnu x) hcu i
        refine lv_lload_n hx hb d_Od_eventBound_90 rfl (lv_at hl 2 rfl) ?_
        refine lv_ldc2 (v := (lN 2520)) hx hb hown (hT _ tw_451) d_Od_eventBound_91 ?_
        refine va_mmin_long hx hb (hml.trans hl.1.symm) hown (hT _ tw_452) (hT _ tw_453) (hT _ tw_12) (hT _ tw_454) (Nat.le_of_ble_eq_true rfl) (Nat.le_of_ble_eq_true rfl) (Nat.zero_le _) (Nat.zero_le _) d_Od_eventBound_94 ?_
        refine my_el (lN_mn (a := f) (b := 2520) (by omega) (by omega)) ?_
        refine hret _ _ _ _ _ hP hD hS d_Od_eventBound_97 ?_
        rw [hf, show i = cc0 by omega]
      · -- 34: not taken
        refine lv_aload_n hx hb d_Od_eventBound_37 rfl (lv_at hl 0 rfl) ?_
        refine va_get (D := g) (ci := 5) (v := .ref (a 3)) (C := R_Od) (T := F_Od) (N := 7) hx hb hT i_Od hown hK hP 5 rfl rfl 2 (by decide) (hT _ tw_172) (fun _ h9 => h9) rfl d_Od_eventBound_38 ?_
        refine lv_iload hx hb d_Od_eventBound_41 (lv_at hl 3 rfl) ?_
        refine lv_aload_n hx hb d_Od_eventBound_43 rfl (lv_at hl 0 rfl) ?_
        refine va_get (D := g) (ci := 5) (v := .ref (a 1)) (C := R_Od) (T := F_Od) (N := 7) hx hb hT i_Od hown hK hP 5 rfl rfl 0 (by decide) (hT _ tw_170) (fun _ h9 => h9) rfl d_Od_eventBound_44 ?_
        refine va_getN (D := g) (ci := 1) (v := .ref (a 17)) (C := R_No) (T := F_No) (N := 13) hx hb hT i_No hown hK hP 1 rfl rfl 11 (by decide) (va_Nw.use rfl (hN _ tw_62)) (fun _ h9 => h9) rfl d_Od_eventBound_47 ?_
        refine lv_iload_n hx hb d_Od_eventBound_50 rfl (lv_at hl 1 rfl) ?_
        refine my_iald (v := (nI (eu x))) (i := x) hx hb hK hP 17 0 rfl rfl (by omega) (by decide) rfl d_Od_eventBound_51 ?_
        refine my_V_i (q0 := 3) (ci := 3) (C := R_Ca) (As := [.int (nI i), .int (nI (eu x))]) (n := 2) (k_Ca_touches l g a rB rT cI cJ cII cJJ nc nv ng kd vo nu nd en br bc un eu li tb cc0 cp cu cd tc ts tf ox ow ob ra rb gc gr gk gg gp gt sa sb i (eu x) (by omega) hp) hx hb hml hown hT hN tw_428 tw_411 tw_412 tw_4 tw_413 (by decide +kernel) rfl rfl ⟨Nat.le_of_ble_eq_true rfl, Nat.le_of_ble_eq_true rfl⟩ ⟨Nat.zero_le _, Nat.zero_le _⟩ hK hP hD hS hA rfl rfl rfl hl rfl (Nat.le_of_ble_eq_true rfl) d_Od_eventBound_52 (fun H locs hP hD hS => ?_)
        refine my_if_eq_b (tgt := 84) hx hb d_Od_eventBound_55 (by decide) (fun c_55 => ?_) (fun c_55 => ?_)
        · -- 55: taken
          refine lv_iinc (v := (nI (i + 1))) (lv' := [(4, .int (nI (i + 1))), (0, .ref (a 5)), (1, .int (nI x)), (2, .long (lN f))]) hx hb d_Od_eventBound_84 hl (k := 3) rfl (nI_1 i) (by decide) rfl (fun ls hl => ?_)
          refine lv_goto (tgt := 25) hx hb d_Od_eventBound_87 (by decide) ?_
          refine ih_25 _ _ _ _ _ ?_ ?_ ?_ hP hD hS (lv_sub hl [1, 2, 3, 0] rfl)
          · omega
          · omega
          · rw [hf]; simp at c_55; simp [ebF, c_55]
        · -- 55: not taken
          refine lv_lload_n hx hb d_Od_eventBound_58 rfl (lv_at hl 2 rfl) ?_
          refine lv_aload_n hx hb d_Od_eventBound_59 rfl (lv_at hl 0 rfl) ?_
          refine va_get (D := g) (ci := 5) (v := .ref (a 3)) (C := R_Od) (T := F_Od) (N := 7) hx hb hT i_Od hown hK hP 5 rfl rfl 2 (by decide) (hT _ tw_172) (fun _ h9 => h9) rfl d_Od_eventBound_60 ?_
          refine va_getN (D := g) (ci := 3) (v := .ref (a 21)) (C := R_Ca) (T := F_Ca) (N := 4) hx hb hT i_Ca hown hK hP 3 rfl rfl 2 (by decide) (va_Nw.use rfl (hN _ tw_123)) (fun _ h9 => h9) rfl d_Od_eventBound_63 ?_
          refine lv_iload hx hb d_Od_eventBound_66 (lv_at hl 3 rfl) ?_
          refine my_lald (v := (lN (cu i))) (i := i) hx hb hK hP 21 1 rfl rfl (by omega) (by decide) rfl d_Od_eventBound_68 ?_
          refine lv_aload_n hx hb d_Od_eventBound_69 rfl (lv_at hl 0 rfl) ?_
          refine va_get (D := g) (ci := 5) (v := .ref (a 3)) (C := R_Od) (T := F_Od) (N := 7) hx hb hT i_Od hown hK hP 5 rfl rfl 2 (by decide) (hT _ tw_172) (fun _ h9 => h9) rfl d_Od_eventBound_70 ?_
          refine va_getN (D := g) (ci := 3) (v := .ref (a 22)) (C := R_Ca) (T := F_Ca) (N := 4) hx hb hT i_Ca hown hK hP 3 rfl rfl 3 (by decide) (va_Nw.use rfl (hN _ tw_125)) (fun _ h9 => h9) rfl d_Od_eventBound_73 ?_
          refine lv_iload hx hb d_Od_eventBound_76 (lv_at hl 3 rfl) ?_
          refine my_lald (v := (lN (cd i))) (i := i) hx hb hK hP 22 1 rfl rfl (by omega) (by decide) rfl d_Od_eventBound_78 ?_
          refine my_S_l (As := [.long (lN (cu i)), .long (lN (cd i))]) (n := 2) (k_Od_inParts l g vwCl (tyS cI cJ cII cJJ) (stW a rB rT cI cJ cII cJJ nc nv ng kd vo nu nd en br bc un eu li tb cc0 cp cu cd tc ts tf ox ow ob ra rb gc gr gk gg gp gt sa sb) (cu i) (cd i) (hcu i) (hcd i)) hx hb hml hown hT hN tw_448 tw_449 tw_6 tw_450 (by decide +kernel) rfl rfl ⟨Nat.le_of_ble_eq_true rfl, Nat.le_of_ble_eq_true rfl⟩ ⟨Nat.zero_le _, Nat.zero_le _⟩ hK hP hD hS hA rfl hl rfl (Nat.le_of_ble_eq_true rfl) d_Od_eventBound_79 (fun H locs hP hD hS => ?_)
          refine lv_ladd hx hb d_Od_eventBound_82 ?_
          refine my_el (lN_add f (ipF (cu i) (cd i))) ?_
          refine lv_lstore_n (lv' := [(2, .long (lN (f + (ipF (cu i) (cd i))))), (0, .ref (a 5)), (1, .int (nI x)), (4, .int (nI i))]) hx hb d_Od_eventBound_83 rfl hl (by decide) rfl (fun ls hl => ?_)
          refine lv_iinc (v := (nI (i + 1))) (lv' := [(4, .int (nI (i + 1))), (2, .long (lN (f + (ipF (cu i) (cd i))))), (0, .ref (a 5)), (1, .int (nI x))]) hx hb d_Od_eventBound_84 hl (k := 3) rfl (nI_1 i) (by decide) rfl (fun ls hl => ?_)
          refine lv_goto (tgt := 25) hx hb d_Od_eventBound_87 (by decide) ?_
          refine ih_25 _ _ _ _ _ ?_ ?_ ?_ hP hD hS (lv_sub hl [2, 3, 1, 0] rfl)
          · omega
          · omega
          · rw [hf]; simp at c_55; simp [ebF, c_55]
  refine lp_25 (cc0 + 1) _ _ _ _ _ ?_ ?_ ?_ hP hD hS (lv_sub hl [2, 3, 1, 0] rfl)
  · omega
  · omega
  · rfl
set_option maxHeartbeats 4000000 in
set_option maxRecDepth 100000 in
theorem k_Od_gateBound (l : Launch) (g : va_G) (a rB rT : Nat → Nat) (cI cJ cII cJJ : ClassId) (nc : Nat) (nv : Nat) (ng : Nat) (kd : Nat → Int32) (vo : Nat → Nat) (nu : Nat → Nat) (nd : Nat → Nat) (en : Nat → Nat) (br : Nat → Nat → Nat) (bc : Nat → Nat) (un : Nat → Nat) (eu : Nat → Nat) (li : Nat → Nat) (tb : Nat → Nat → Int64) (cc0 : Nat) (cp : Nat → Nat) (cu : Nat → Nat) (cd : Nat → Nat) (tc : Nat) (ts : Nat → Nat) (tf : Nat → Nat) (ox : Bool) (ow : Nat → Nat) (ob : Nat → Nat) (ra : Nat) (rb : Nat) (gc : Nat) (gr : Nat) (gk : Nat → Nat) (gg : Nat → Nat) (gp : Nat → Nat) (gt : Nat → Nat) (sa : Nat) (sb : Nat) (x : Nat) (hx1 : x ≤ 32) (hbc : ∀ j, bc j ≤ 10) (hbr : ∀ j i, br j i ≤ 32) (hvo : ∀ j, vo j ≤ 10) (hob : ∀ j, ob j ≤ 2520) : ct_l l g vwCl (tyS cI cJ cII cJJ) y_Od_gateBound c_Od_gateBound 9 (some .long) ({ frames := 1, cells := 0, slots := 0, locals := 23 } : Room) [.ref (a 5), .int (nI x)] (stW a rB rT cI cJ cII cJJ nc nv ng kd vo nu nd en br bc un eu li tb cc0 cp cu cd tc ts tf ox ow ob ra rb gc gr gk gg gp gt sa sb) (stW a rB rT cI cJ cII cJJ nc nv ng kd vo nu nd en br bc un eu li tb cc0 cp cu cd tc ts tf ox ow ob ra rb gc gr gk gg gp gt sa sb) (lN (gbF ob br bc vo kd x)) := by
  refine ct_l.intro (by decide) (Nat.le_of_ble_eq_true rfl) ?_
  intro p e s m args below meth c Q A ls hx hb hml hT hown hA hK hN hret hP hD hS hl
  have hown : s.vm.findClass R_Od = some m.cls := hown
  have hl : lv_has ls 9 [(0, .ref (a 5)), (1, .int (nI x))] := hl
  have q1 := hbc x
  have q3 := hvo x
  refine lv_ldc2 (v := (lN 2520)) hx hb hown (hT _ tw_451) d_Od_gateBound_0 ?_
  refine lv_lstore_n (lv' := [(2, .long (lN 2520)), (0, .ref (a 5)), (1, .int (nI x))]) hx hb d_Od_gateBound_3 rfl hl (by decide) rfl (fun ls hl => ?_)
  refine lv_lconst (v := (lN 0)) hx hb d_Od_gateBound_4 (by decide) ?_
  refine lv_lstore (lv' := [(4, .long (lN 0)), (2, .long (lN 2520)), (0, .ref (a 5)), (1, .int (nI x))]) hx hb d_Od_gateBound_5 hl (by decide) rfl (fun ls hl => ?_)
  refine lv_iconst (v := (nI 0)) hx hb d_Od_gateBound_7 (by decide) ?_
  refine lv_istore (lv' := [(6, .int (nI 0)), (4, .long (lN 0)), (2, .long (lN 2520)), (0, .ref (a 5)), (1, .int (nI x))]) hx hb d_Od_gateBound_8 hl (by decide) rfl (fun ls hl => ?_)
  have lp_10 : ∀ (k : Nat) (i : Nat) (a1 : Nat) (b1 : Nat) (H : Heap) (locs : List Loc) (ls : Array Slot), (bc x < i + k) → (i ≤ bc x) → ((a1, b1) = (gsF ob br x i)) → va_P g vwCl (stW a rB rT cI cJ cII cJJ nc nv ng kd vo nu nd en br bc un eu li tb cc0 cp cu cd tc ts tf ox ow ob ra rb gc gr gk gg gp gt sa sb) H → va_D A (stW a rB rT cI cJ cII cJJ nc nv ng kd vo nu nd en br bc un eu li tb cc0 cp cu cd tc ts tf ox ow ob ra rb gc gr gk gg gp gt sa sb) → va_S A s.heap H locs → lv_has ls 9 [(0, .ref (a 5)), (1, .int (nI x)), (2, .long (lN a1)), (4, .long (lN b1)), (6, .int (nI i))] → W p l e ({ frames := 1, cells := 0, slots := 0, locals := 23 } : Room) s m args below meth c H locs 0 0 Q (F0 m 10 ls []) := by
    intro k
    induction k with
    | zero =>
      intro i a1 b1 H locs ls hk hi hf hP hD hS hl
      exfalso
      omega
    | succ k ih_10 =>
      intro i a1 b1 H locs ls hk hi hf hP hD hS hl
      have q4 := gsF_le (br := br) (x := x) hob i
      rw [← hf] at q4
      have q4 : a1 ≤ 2520 ∧ b1 ≤ 2520 * i := q4
      refine lv_iload hx hb d_Od_gateBound_10 (lv_at hl 4 rfl) ?_
      refine lv_aload_n hx hb d_Od_gateBound_12 rfl (lv_at hl 0 rfl) ?_
      refine va_get (D := g) (ci := 5) (v := .ref (a 1)) (C := R_Od) (T := F_Od) (N := 7) hx hb hT i_Od hown hK hP 5 rfl rfl 0 (by decide) (hT _ tw_170) (fun _ h9 => h9) rfl d_Od_gateBound_13 ?_
      refine va_getN (D := g) (ci := 1) (v := .ref (a 15)) (C := R_No) (T := F_No) (N := 13) hx hb hT i_No hown hK hP 1 rfl rfl 9 (by decide) (va_Nw.use rfl (hN _ tw_58)) (fun _ h9 => h9) rfl d_Od_gateBound_16 ?_
      refine lv_iload_n hx hb d_Od_gateBound_19 rfl (lv_at hl 1 rfl) ?_
      refine my_iald (v := (nI (bc x))) (i := x) hx hb hK hP 15 0 rfl rfl (by omega) (by decide) rfl d_Od_gateBound_20 ?_
      refine my_icmp_ge (tgt := 63) (a := i) (b := bc x) hx hb d_Od_gateBound_21 (by decide) (by omega) (by omega) (fun c_21 => ?_) (fun c_21 => ?_)
      · -- 21: taken
        have eF : gsF ob br x (bc x) = (a1, b1) := by rw [hf, show i = bc x by omega]
        refine lv_aload_n hx hb d_Od_gateBound_63 rfl (lv_at hl 0 rfl) ?_
        refine va_get (D := g) (ci := 5) (v := .ref (a 1)) (C := R_Od) (T := F_Od) (N := 7) hx hb hT i_Od hown hK hP 5 rfl rfl 0 (by decide) (hT _ tw_170) (fun _ h9 => h9) rfl d_Od_gateBound_64 ?_
        refine va_getN (D := g) (ci := 1) (v := .ref (a 9)) (C := R_No) (T := F_No) (N := 13) hx hb hT i_No hown hK hP 1 rfl rfl 3 (by decide) (va_Nw.use rfl (hN _ tw_41)) (fun _ h9 => h9) rfl d_Od_gateBound_67 ?_
        refine lv_iload_n hx hb d_Od_gateBound_70 rfl (lv_at hl 1 rfl) ?_
        refine my_iald (v := (kd x)) (i := x) hx hb hK hP 9 0 rfl rfl (by omega) (by decide) rfl d_Od_gateBound_71 ?_
        refine lv_if_ne (tgt := 77) hx hb d_Od_gateBound_72 (by decide) (fun c_72 => ?_) (fun c_72 => ?_)
        · -- 72: taken
          refine lv_aload_n hx hb d_Od_gateBound_77 rfl (lv_at hl 0 rfl) ?_
          refine va_get (D := g) (ci := 5) (v := .ref (a 1)) (C := R_Od) (T := F_Od) (N := 7) hx hb hT i_Od hown hK hP 5 rfl rfl 0 (by decide) (hT _ tw_170) (fun _ h9 => h9) rfl d_Od_gateBound_78 ?_
          refine va_getN (D := g) (ci := 1) (v := .ref (a 10)) (C := R_No) (T := F_No) (N := 13) hx hb hT i_No hown hK hP 1 rfl rfl 4 (by decide) (va_Nw.use rfl (hN _ tw_43)) (fun _ h9 => h9) rfl d_Od_gateBound_81 ?_
          refine lv_iload_n hx hb d_Od_gateBound_84 rfl (lv_at hl 1 rfl) ?_
          refine my_iald (v := (nI (vo x))) (i := x) hx hb hK hP 10 0 rfl rfl (by omega) (by decide) rfl d_Od_gateBound_85 ?_
          refine lv_i2l (v := lN (vo x)) hx hb d_Od_gateBound_86 (nI_l (by omega)) ?_
          refine lv_lstore (lv' := [(6, .long (lN (vo x))), (0, .ref (a 5)), (1, .int (nI x)), (2, .long (lN a1)), (4, .long (lN b1))]) hx hb d_Od_gateBound_87 hl (by decide) rfl (fun ls hl => ?_)
          refine lv_aload_n hx hb d_Od_gateBound_89 rfl (lv_at hl 1 rfl) ?_
          refine va_get (D := g) (ci := 5) (v := .ref (a 1)) (C := R_Od) (T := F_Od) (N := 7) hx hb hT i_Od hown hK hP 5 rfl rfl 0 (by decide) (hT _ tw_170) (fun _ h9 => h9) rfl d_Od_gateBound_90 ?_
          refine va_getN (D := g) (ci := 1) (v := .ref (a 9)) (C := R_No) (T := F_No) (N := 13) hx hb hT i_No hown hK hP 1 rfl rfl 3 (by decide) (va_Nw.use rfl (hN _ tw_41)) (fun _ h9 => h9) rfl d_Od_gateBound_93 ?_
          refine lv_iload_n hx hb d_Od_gateBound_96 rfl (lv_at hl 2 rfl) ?_
          refine my_iald (v := (kd x)) (i := x) hx hb hK hP 9 0 rfl rfl (by omega) (by decide) rfl d_Od_gateBound_97 ?_
          refine lv_iconst (v := (nI 2)) hx hb d_Od_gateBound_98 (by decide) ?_
          refine lv_icmp_ne (tgt := 121) hx hb d_Od_gateBound_99 (by decide) (fun c_99 => ?_) (fun c_99 => ?_)
          · -- 99: taken
            refine lv_lload hx hb d_Od_gateBound_121 (lv_at hl 4 rfl) ?_
            refine lv_ldc2 (v := (lN 2520)) hx hb hown (hT _ tw_451) d_Od_gateBound_123 ?_
            refine va_mmin_long hx hb (hml.trans hl.1.symm) hown (hT _ tw_452) (hT _ tw_453) (hT _ tw_12) (hT _ tw_454) (Nat.le_of_ble_eq_true rfl) (Nat.le_of_ble_eq_true rfl) (Nat.zero_le _) (Nat.zero_le _) d_Od_gateBound_126 ?_
            refine my_el (lN_mn (a := b1) (b := 2520) (by omega) (by omega)) ?_
            refine hret _ _ _ _ _ hP hD hS d_Od_gateBound_129 ?_
            rw [gbF, if_neg c_72, eF]; exact congrArg lN ((if_neg (fun hh => c_99 hh.1)).symm)
          · -- 99: not taken
            refine lv_lload hx hb d_Od_gateBound_102 (lv_at hl 0 rfl) ?_
            refine lv_lconst (v := (lN 0)) hx hb d_Od_gateBound_104 (by decide) ?_
            refine my_lcmp_le (tgt := 121) (a := vo x) (b := 0) hx hb d_Od_gateBound_105 d_Od_gateBound_106 (by decide) (by omega) (by omega) (fun c_105 => ?_) (fun c_105 => ?_)
            · -- 105: taken
              refine lv_lload hx hb d_Od_gateBound_121 (lv_at hl 4 rfl) ?_
              refine lv_ldc2 (v := (lN 2520)) hx hb hown (hT _ tw_451) d_Od_gateBound_123 ?_
              refine va_mmin_long hx hb (hml.trans hl.1.symm) hown (hT _ tw_452) (hT _ tw_453) (hT _ tw_12) (hT _ tw_454) (Nat.le_of_ble_eq_true rfl) (Nat.le_of_ble_eq_true rfl) (Nat.zero_le _) (Nat.zero_le _) d_Od_gateBound_126 ?_
              refine my_el (lN_mn (a := b1) (b := 2520) (by omega) (by omega)) ?_
              refine hret _ _ _ _ _ hP hD hS d_Od_gateBound_129 ?_
              rw [gbF, if_neg c_72, eF]; exact congrArg lN ((if_neg (by omega)).symm)
            · -- 105: not taken
              have q6 : (b1 + vo x - 1) / vo x ≤ b1 + vo x - 1 := Nat.div_le_self _ _
              refine lv_lload hx hb d_Od_gateBound_109 (lv_at hl 4 rfl) ?_
              refine lv_lload hx hb d_Od_gateBound_111 (lv_at hl 0 rfl) ?_
              refine lv_ladd hx hb d_Od_gateBound_113 ?_
              refine my_el (lN_add b1 (vo x)) ?_
              refine lv_lconst (v := (lN 1)) hx hb d_Od_gateBound_114 (by decide) ?_
              refine lv_lsub hx hb d_Od_gateBound_115 ?_
              refine my_el (lN_sub (a := b1 + (vo x)) (b := 1) (by omega)) ?_
              refine lv_lload hx hb d_Od_gateBound_116 (lv_at hl 0 rfl) ?_
              refine my_ldiv (a := (b1 + (vo x)) - 1) (b := vo x) hx hb d_Od_gateBound_118 (by omega) (by omega) (by omega) ?_
              refine lv_lstore (lv' := [(4, .long (lN (((b1 + (vo x)) - 1) / (vo x)))), (6, .long (lN (vo x))), (0, .ref (a 5)), (1, .int (nI x)), (2, .long (lN a1))]) hx hb d_Od_gateBound_119 hl (by decide) rfl (fun ls hl => ?_)
              refine lv_lload hx hb d_Od_gateBound_121 (lv_at hl 0 rfl) ?_
              refine lv_ldc2 (v := (lN 2520)) hx hb hown (hT _ tw_451) d_Od_gateBound_123 ?_
              refine va_mmin_long hx hb (hml.trans hl.1.symm) hown (hT _ tw_452) (hT _ tw_453) (hT _ tw_12) (hT _ tw_454) (Nat.le_of_ble_eq_true rfl) (Nat.le_of_ble_eq_true rfl) (Nat.zero_le _) (Nat.zero_le _) d_Od_gateBound_126 ?_
              refine my_el (lN_mn (a := ((b1 + (vo x)) - 1) / (vo x)) (b := 2520) (by omega) (by omega)) ?_
              refine hret _ _ _ _ _ hP hD hS d_Od_gateBound_129 ?_
              rw [gbF, if_neg c_72, eF]; exact congrArg lN ((if_pos ⟨c_99, c_105⟩).symm)
        · -- 72: not taken
          refine lv_lload_n hx hb d_Od_gateBound_75 rfl (lv_at hl 2 rfl) ?_
          refine hret _ _ _ _ _ hP hD hS d_Od_gateBound_76 ?_
          rw [gbF, if_pos c_72, eF]
      · -- 21: not taken
        have q2 := hbr x i
        have q5 := hob (br x i)
        refine lv_aload_n hx hb d_Od_gateBound_24 rfl (lv_at hl 0 rfl) ?_
        refine va_get (D := g) (ci := 5) (v := .ref (a 26)) (C := R_Od) (T := F_Od) (N := 7) hx hb hT i_Od hown hK hP 5 rfl rfl 6 (by decide) (hT _ tw_178) (fun _ h9 => h9) rfl d_Od_gateBound_25 ?_
        refine lv_aload_n hx hb d_Od_gateBound_28 rfl (lv_at hl 0 rfl) ?_
        refine va_get (D := g) (ci := 5) (v := .ref (a 1)) (C := R_Od) (T := F_Od) (N := 7) hx hb hT i_Od hown hK hP 5 rfl rfl 0 (by decide) (hT _ tw_170) (fun _ h9 => h9) rfl d_Od_gateBound_29 ?_
        refine va_getN (D := g) (ci := 1) (v := .ref (a 14)) (C := R_No) (T := F_No) (N := 13) hx hb hT i_No hown hK hP 1 rfl rfl 8 (by decide) (va_Nw.use rfl (hN _ tw_54)) (fun _ h9 => h9) rfl d_Od_gateBound_32 ?_
        refine lv_iload_n hx hb d_Od_gateBound_35 rfl (lv_at hl 1 rfl) ?_
        refine my_aald (r := rB) (i := x) hx hb hK hP 14 2 rfl rfl (by omega) (by decide) d_Od_gateBound_36 ?_
        refine lv_iload hx hb d_Od_gateBound_37 (lv_at hl 4 rfl) ?_
        refine my_iald (v := (nI (br x i))) (i := i) hx hb hK hP (31 + x) 0 (stB_at (by omega)) rfl (by omega) (by decide) rfl d_Od_gateBound_39 ?_
        refine my_lald (v := (lN (ob (br x i)))) (i := br x i) hx hb hK hP 26 1 rfl rfl (by omega) (by decide) rfl d_Od_gateBound_40 ?_
        refine lv_lstore (lv' := [(7, .long (lN (ob (br x i)))), (0, .ref (a 5)), (1, .int (nI x)), (2, .long (lN a1)), (4, .long (lN b1)), (6, .int (nI i))]) hx hb d_Od_gateBound_41 hl (by decide) rfl (fun ls hl => ?_)
        refine lv_lload_n hx hb d_Od_gateBound_43 rfl (lv_at hl 3 rfl) ?_
        refine lv_lload hx hb d_Od_gateBound_44 (lv_at hl 0 rfl) ?_
        refine va_mmin_long hx hb (hml.trans hl.1.symm) hown (hT _ tw_452) (hT _ tw_453) (hT _ tw_12) (hT _ tw_454) (Nat.le_of_ble_eq_true rfl) (Nat.le_of_ble_eq_true rfl) (Nat.zero_le _) (Nat.zero_le _) d_Od_gateBound_46 ?_
        refine my_el (lN_mn (a := a1) (b := ob (br x i)) (by omega) (by omega)) ?_
        refine lv_lstore_n (lv' := [(2, .long (lN (mnF a1 (ob (br x i))))), (7, .long (lN (ob (br x i)))), (0, .ref (a 5)), (1, .int (nI x)), (4, .long (lN b1)), (6, .int (nI i))]) hx hb d_Od_gateBound_49 rfl hl (by decide) rfl (fun ls hl => ?_)
        refine lv_lload hx hb d_Od_gateBound_50 (lv_at hl 4 rfl) ?_
        refine lv_lload hx hb d_Od_gateBound_52 (lv_at hl 1 rfl) ?_
        refine lv_ladd hx hb d_Od_gateBound_54 ?_
        refine my_el (lN_add b1 (ob (br x i))) ?_
        refine lv_lstore (lv' := [(4, .long (lN (b1 + (ob (br x i))))), (2, .long (lN (mnF a1 (ob (br x i))))), (7, .long (lN (ob (br x i)))), (0, .ref (a 5)), (1, .int (nI x)), (6, .int (nI i))]) hx hb d_Od_gateBound_55 hl (by decide) rfl (fun ls hl => ?_)
        refine lv_iinc (v := (nI (i + 1))) (lv' := [(6, .int (nI (i + 1))), (4, .long (lN (b1 + (ob (br x i))))), (2, .long (lN (mnF a1 (ob (br x i))))), (7, .long (lN (ob (br x i)))), (0, .ref (a 5)), (1, .int (nI x))]) hx hb d_Od_gateBound_57 hl (k := 5) rfl (nI_1 i) (by decide) rfl (fun ls hl => ?_)
        refine lv_goto (tgt := 10) hx hb d_Od_gateBound_60 (by decide) ?_
        refine ih_10 _ _ _ _ _ _ ?_ ?_ ?_ hP hD hS (lv_sub hl [4, 5, 2, 1, 0] rfl)
        · omega
        · omega
        · simp only [gsF, ← hf]
  refine lp_10 (bc x + 1) _ _ _ _ _ _ ?_ ?_ ?_ hP hD hS (lv_sub hl [3, 4, 2, 1, 0] rfl)
  · omega
  · omega
  · rfl
end
section
theorem ceF_f {ev : Nat} {cp cu cd m0 : Nat → Nat} {i : Nat} (h : cp i &&& ev = 0) : ceF ev cp cu cd m0 (i + 1) = ceF ev cp cu cd m0 i := if_pos h
theorem ceF_t {ev : Nat} {cp cu cd m0 : Nat → Nat} {i : Nat} (h : ¬ cp i &&& ev = 0) : ceF ev cp cu cd m0 (i + 1) = (mxF ev (cp i &&& ev) (cu i) (cd i) (ceF ev cp cu cd m0 i).1 (2 ^ popc ev 12), (ceF ev cp cu cd m0 i).2 * cd i) := if_neg h
theorem evF_f {ev : Nat} {en eu nu nd : Nat → Nat} {s : (Nat → Nat) × Nat} {i : Nat} (h : ev &&& eu (en i) = 0) : evF ev en eu nu nd s (i + 1) = evF ev en eu nu nd s i := if_pos h
theorem evF_t {ev : Nat} {en eu nu nd : Nat → Nat} {s : (Nat → Nat) × Nat} {i : Nat} (h : ¬ ev &&& eu (en i) = 0) : evF ev en eu nu nd s (i + 1) = (mxF ((evF ev en eu nu nd s i).2.2 ^^^ eu (en i)) (eu (en i)) (nu (en i)) (nd (en i)) (evF ev en eu nu nd s i).1 (2 ^ popc ((evF ev en eu nu nd s i).2.2 ^^^ eu (en i)) 12), (evF ev en eu nu nd s i).2.1 * nd (en i), (evF ev en eu nu nd s i).2.2 ^^^ eu (en i)) := if_neg h
theorem beF_le {eb en ob : Nat → Nat} (h : ∀ j, ob j ≤ 2520) (h2 : ∀ j, eb j ≤ 2520) : ∀ i j, beF eb en ob i j ≤ 2520
  | 0 => h
  | i + 1 => fun j => by
    show va_up _ _ _ j ≤ 2520
    unfold va_up
    split
    · exact h2 _
    · exact beF_le h h2 i j
theorem bgF_le {br : Nat → Nat → Nat} {bc vo : Nat → Nat} {kd : Nat → Int32} {li ob : Nat → Nat} (h : ∀ j, ob j ≤ 2520) : ∀ i j, bgF br bc vo kd li ob i j ≤ 2520
  | 0 => h
  | i + 1 => fun j => by
    have ih := bgF_le (br := br) (bc := bc) (vo := vo) (kd := kd) (li := li) h i
    show va_up _ _ _ j ≤ 2520
    unfold va_up
    split
    · exact gbF_le ih
    · exact ih j
set_option maxHeartbeats 4000000 in
set_option maxRecDepth 100000 in
theorem k_Od_workExactly (l : Launch) (g : va_G) (a rB rT : Nat → Nat) (cI cJ cII cJJ : ClassId) (nc : Nat) (nv : Nat) (ng : Nat) (kd : Nat → Int32) (vo : Nat → Nat) (nu : Nat → Nat) (nd : Nat → Nat) (en : Nat → Nat) (br : Nat → Nat → Nat) (bc : Nat → Nat) (un : Nat → Nat) (eu : Nat → Nat) (li : Nat → Nat) (tb : Nat → Nat → Int64) (cc0 : Nat) (cp : Nat → Nat) (cu : Nat → Nat) (cd : Nat → Nat) (tc : Nat) (ts : Nat → Nat) (tf : Nat → Nat) (ox : Bool) (ow : Nat → Nat) (ob : Nat → Nat) (ra : Nat) (rb : Nat) (gc : Nat) (gr : Nat) (gk : Nat → Nat) (gg : Nat → Nat) (gp : Nat → Nat) (gt : Nat → Nat) (sa : Nat) (sb : Nat) (x : Nat) (ev : Nat) (hx1 : x ≤ 32) (hnc : nc ≤ 32) (hun : ∀ j, un j < 2 ^ 33) (heu : ∀ j, eu j < 2 ^ 12) (hbc : ∀ j, bc j ≤ 10) (hbr : ∀ j i, br j i ≤ 32) (hvo : ∀ j, vo j ≤ 10) (hev : ev < 4096) (hcc : cc0 ≤ 4) (hnv : nv ≤ 12) (hcp : ∀ j, cp j < 4096) (hcud : ∀ j, cu j ≤ cd j) (hen : ∀ j, en j ≤ 32) (hnud : ∀ j, nu j ≤ nd j) (hlim : (evF ev en eu nu nd (ceF ev cp cu cd (wsF (fsF tb br kd vo bc (luS (luC nc kd un x) nc (0, li) 33).2 (eu x / 2 ^ 6) (luS (luC nc kd un x) nc (0, li) 33).1) x ev ow (2 ^ popc ev 12)) cc0) nv).1 0 < 2 ^ 62 ∧ (evF ev en eu nu nd (ceF ev cp cu cd (wsF (fsF tb br kd vo bc (luS (luC nc kd un x) nc (0, li) 33).2 (eu x / 2 ^ 6) (luS (luC nc kd un x) nc (0, li) 33).1) x ev ow (2 ^ popc ev 12)) cc0) nv).2.1 < 2 ^ 62 ∧ 0 < (evF ev en eu nu nd (ceF ev cp cu cd (wsF (fsF tb br kd vo bc (luS (luC nc kd un x) nc (0, li) 33).2 (eu x / 2 ^ 6) (luS (luC nc kd un x) nc (0, li) 33).1) x ev ow (2 ^ popc ev 12)) cc0) nv).2.1) : ct_v l g vwCl (tyS cI cJ cII cJJ) y_Od_workExactly c_Od_workExactly 9 none ({ frames := 5, cells := 0, slots := 0, locals := 132 } : Room) [.ref (a 5), .int (nI x), .int (nI ev)] (stW a rB rT cI cJ cII cJJ nc nv ng kd vo nu nd en br bc un eu li tb cc0 cp cu cd tc ts tf ox ow ob ra rb gc gr gk gg gp gt sa sb) (stW a rB rT cI cJ cII cJJ nc nv ng kd vo nu nd en br bc un eu ((luS (luC nc kd un x) nc (0, li) 33).2) (fsF tb br kd vo bc (luS (luC nc kd un x) nc (0, li) 33).2 (eu x / 2 ^ 6) (luS (luC nc kd un x) nc (0, li) 33).1) cc0 cp cu cd tc ts tf ox ((evF ev en eu nu nd (ceF ev cp cu cd (wsF (fsF tb br kd vo bc (luS (luC nc kd un x) nc (0, li) 33).2 (eu x / 2 ^ 6) (luS (luC nc kd un x) nc (0, li) 33).1) x ev ow (2 ^ popc ev 12)) cc0) nv).1) ob ((evF ev en eu nu nd (ceF ev cp cu cd (wsF (fsF tb br kd vo bc (luS (luC nc kd un x) nc (0, li) 33).2 (eu x / 2 ^ 6) (luS (luC nc kd un x) nc (0, li) 33).1) x ev ow (2 ^ popc ev 12)) cc0) nv).1 0 / cdF 100 ((evF ev en eu nu nd (ceF ev cp cu cd (wsF (fsF tb br kd vo bc (luS (luC nc kd un x) nc (0, li) 33).2 (eu x / 2 ^ 6) (luS (luC nc kd un x) nc (0, li) 33).1) x ev ow (2 ^ popc ev 12)) cc0) nv).1 0) (evF ev en eu nu nd (ceF ev cp cu cd (wsF (fsF tb br kd vo bc (luS (luC nc kd un x) nc (0, li) 33).2 (eu x / 2 ^ 6) (luS (luC nc kd un x) nc (0, li) 33).1) x ev ow (2 ^ popc ev 12)) cc0) nv).2.1) ((evF ev en eu nu nd (ceF ev cp cu cd (wsF (fsF tb br kd vo bc (luS (luC nc kd un x) nc (0, li) 33).2 (eu x / 2 ^ 6) (luS (luC nc kd un x) nc (0, li) 33).1) x ev ow (2 ^ popc ev 12)) cc0) nv).2.1 / cdF 100 ((evF ev en eu nu nd (ceF ev cp cu cd (wsF (fsF tb br kd vo bc (luS (luC nc kd un x) nc (0, li) 33).2 (eu x / 2 ^ 6) (luS (luC nc kd un x) nc (0, li) 33).1) x ev ow (2 ^ popc ev 12)) cc0) nv).1 0) (evF ev en eu nu nd (ceF ev cp cu cd (wsF (fsF tb br kd vo bc (luS (luC nc kd un x) nc (0, li) 33).2 (eu x / 2 ^ 6) (luS (luC nc kd un x) nc (0, li) 33).1) x ev ow (2 ^ popc ev 12)) cc0) nv).2.1) gc gr gk gg gp gt sa sb) := by
  refine ct_v.intro (by decide) (Nat.le_of_ble_eq_true rfl) ?_
  intro p e s m args below meth c Q A ls hx hb hml hT hown hA hK hN hret hP hD hS hl
  have hown : s.vm.findClass R_Od = some m.cls := hown
  have hl : lv_has ls 9 [(0, .ref (a 5)), (1, .int (nI x)), (2, .int (nI ev))] := hl
  refine lv_aload_n hx hb d_Od_workExactly_0 rfl (lv_at hl 0 rfl) ?_
  refine va_get (D := g) (ci := 5) (v := .ref (a 2)) (C := R_Od) (T := F_Od) (N := 7) hx hb hT i_Od hown hK hP 5 rfl rfl 1 (by decide) (hT _ tw_171) (fun _ h9 => h9) rfl d_Od_workExactly_1 ?_
  refine lv_iload_n hx hb d_Od_workExactly_4 rfl (lv_at hl 1 rfl) ?_
  refine my_V_v (q0 := 2) (ci := 2) (C := R_Tr) (As := [.int (nI x)]) (n := 1) (k_Tr_fillGates l g a rB rT cI cJ cII cJJ nc nv ng kd vo nu nd en br bc un eu li tb cc0 cp cu cd tc ts tf ox ow ob ra rb gc gr gk gg gp gt sa sb x hx1 hnc hun heu hbc hbr hvo) hx hb hml hown hT hN tw_418 tw_328 tw_329 tw_3 tw_330 (by decide +kernel) rfl rfl ⟨Nat.le_of_ble_eq_true rfl, Nat.le_of_ble_eq_true rfl⟩ ⟨Nat.zero_le _, Nat.zero_le _⟩ hK hP hD hS hA rfl rfl rfl hl rfl (Nat.le_of_ble_eq_true rfl) d_Od_workExactly_5 (fun H locs hP hD hS => ?_)
  refine lv_aload_n hx hb d_Od_workExactly_8 rfl (lv_at hl 0 rfl) ?_
  refine lv_iload_n hx hb d_Od_workExactly_9 rfl (lv_at hl 1 rfl) ?_
  refine lv_iload_n hx hb d_Od_workExactly_10 rfl (lv_at hl 2 rfl) ?_
  refine my_V_v (q0 := 5) (ci := 5) (C := R_Od) (As := [.int (nI x), .int (nI ev)]) (n := 2) (k_Od_weighSets l g a rB rT cI cJ cII cJJ nc nv ng kd vo nu nd en br bc un eu ((luS (luC nc kd un x) nc (0, li) 33).2) (fsF tb br kd vo bc (luS (luC nc kd un x) nc (0, li) 33).2 (eu x / 2 ^ 6) (luS (luC nc kd un x) nc (0, li) 33).1) cc0 cp cu cd tc ts tf ox ow ob ra rb gc gr gk gg gp gt sa sb x ev hx1 hev) hx hb hml hown hT hN tw_419 tw_421 tp_8 tw_6 tw_422 (by decide +kernel) rfl rfl ⟨Nat.le_of_ble_eq_true rfl, Nat.le_of_ble_eq_true rfl⟩ ⟨Nat.zero_le _, Nat.zero_le _⟩ hK hP hD hS hA rfl rfl rfl hl rfl (Nat.le_of_ble_eq_true rfl) d_Od_workExactly_11 (fun H locs hP hD hS => ?_)
  refine lv_lconst (v := (lN 1)) hx hb d_Od_workExactly_14 (by decide) ?_
  refine lv_lstore_n (lv' := [(3, .long (lN 1)), (0, .ref (a 5)), (1, .int (nI x)), (2, .int (nI ev))]) hx hb d_Od_workExactly_15 rfl hl (by decide) rfl (fun ls hl => ?_)
  refine lv_iconst (v := (nI 0)) hx hb d_Od_workExactly_16 (by decide) ?_
  refine lv_istore (lv' := [(5, .int (nI 0)), (3, .long (lN 1)), (0, .ref (a 5)), (1, .int (nI x)), (2, .int (nI ev))]) hx hb d_Od_workExactly_17 hl (by decide) rfl (fun ls hl => ?_)
  have lp_19 : ∀ (k : Nat) (i : Nat) (m1 : Nat → Nat) (wh : Nat) (H : Heap) (locs : List Loc) (ls : Array Slot), (cc0 < i + k) → (i ≤ cc0) → ((m1, wh) = (ceF ev cp cu cd (wsF (fsF tb br kd vo bc (luS (luC nc kd un x) nc (0, li) 33).2 (eu x / 2 ^ 6) (luS (luC nc kd un x) nc (0, li) 33).1) x ev ow (2 ^ popc ev 12)) i)) → va_P g vwCl (stW a rB rT cI cJ cII cJJ nc nv ng kd vo nu nd en br bc un eu ((luS (luC nc kd un x) nc (0, li) 33).2) (fsF tb br kd vo bc (luS (luC nc kd un x) nc (0, li) 33).2 (eu x / 2 ^ 6) (luS (luC nc kd un x) nc (0, li) 33).1) cc0 cp cu cd tc ts tf ox m1 ob ra rb gc gr gk gg gp gt sa sb) H → va_D A (stW a rB rT cI cJ cII cJJ nc nv ng kd vo nu nd en br bc un eu ((luS (luC nc kd un x) nc (0, li) 33).2) (fsF tb br kd vo bc (luS (luC nc kd un x) nc (0, li) 33).2 (eu x / 2 ^ 6) (luS (luC nc kd un x) nc (0, li) 33).1) cc0 cp cu cd tc ts tf ox m1 ob ra rb gc gr gk gg gp gt sa sb) → va_S A s.heap H locs → lv_has ls 9 [(0, .ref (a 5)), (1, .int (nI x)), (2, .int (nI ev)), (3, .long (lN wh)), (5, .int (nI i))] → W p l e ({ frames := 5, cells := 0, slots := 0, locals := 132 } : Room) s m args below meth c H locs 0 0 Q (F0 m 19 ls []) := by
    intro k
    induction k with
    | zero =>
      intro i m1 wh H locs ls hk hi hf hP hD hS hl
      exfalso
      omega
    | succ k ih_19 =>
      intro i m1 wh H locs ls hk hi hf hP hD hS hl
      refine lv_iload hx hb d_Od_workExactly_19 (lv_at hl 4 rfl) ?_
      refine lv_aload_n hx hb d_Od_workExactly_21 rfl (lv_at hl 0 rfl) ?_
      refine va_get (D := g) (ci := 5) (v := .ref (a 3)) (C := R_Od) (T := F_Od) (N := 7) hx hb hT i_Od hown hK hP 5 rfl rfl 2 (by decide) (hT _ tw_172) (fun _ h9 => h9) rfl d_Od_workExactly_22 ?_
      refine va_getN (D := g) (ci := 3) (v := .int (nI cc0)) (C := R_Ca) (T := F_Ca) (N := 4) hx hb hT i_Ca hown hK hP 3 rfl rfl 0 (by decide) (va_Nw.use rfl (hN _ tw_118)) (fun _ h9 => h9) rfl d_Od_workExactly_25 ?_
      refine my_icmp_ge (tgt := 100) (a := i) (b := cc0) hx hb d_Od_workExactly_28 (by decide) (by omega) (by omega) (fun c_28 => ?_) (fun c_28 => ?_)
      · -- 28: taken
        refine lv_iload_n hx hb d_Od_workExactly_100 rfl (lv_at hl 2 rfl) ?_
        refine lv_istore (lv' := [(5, .int (nI ev)), (0, .ref (a 5)), (1, .int (nI x)), (2, .int (nI ev)), (3, .long (lN wh))]) hx hb d_Od_workExactly_101 hl (by decide) rfl (fun ls hl => ?_)
        refine lv_iconst (v := (nI 0)) hx hb d_Od_workExactly_103 (by decide) ?_
        refine lv_istore (lv' := [(6, .int (nI 0)), (5, .int (nI ev)), (0, .ref (a 5)), (1, .int (nI x)), (2, .int (nI ev)), (3, .long (lN wh))]) hx hb d_Od_workExactly_104 hl (by decide) rfl (fun ls hl => ?_)
        have lp_106 : ∀ (k : Nat) (i : Nat) (m1 : Nat → Nat) (wh : Nat) (lf : Nat) (H : Heap) (locs : List Loc) (ls : Array Slot), (nv < i + k) → (i ≤ nv) → (lf < 4096) → ((m1, wh, lf) = (evF ev en eu nu nd (ceF ev cp cu cd (wsF (fsF tb br kd vo bc (luS (luC nc kd un x) nc (0, li) 33).2 (eu x / 2 ^ 6) (luS (luC nc kd un x) nc (0, li) 33).1) x ev ow (2 ^ popc ev 12)) cc0) i)) → va_P g vwCl (stW a rB rT cI cJ cII cJJ nc nv ng kd vo nu nd en br bc un eu ((luS (luC nc kd un x) nc (0, li) 33).2) (fsF tb br kd vo bc (luS (luC nc kd un x) nc (0, li) 33).2 (eu x / 2 ^ 6) (luS (luC nc kd un x) nc (0, li) 33).1) cc0 cp cu cd tc ts tf ox m1 ob ra rb gc gr gk gg gp gt sa sb) H → va_D A (stW a rB rT cI cJ cII cJJ nc nv ng kd vo nu nd en br bc un eu ((luS (luC nc kd un x) nc (0, li) 33).2) (fsF tb br kd vo bc (luS (luC nc kd un x) nc (0, li) 33).2 (eu x / 2 ^ 6) (luS (luC nc kd un x) nc (0, li) 33).1) cc0 cp cu cd tc ts tf ox m1 ob ra rb gc gr gk gg gp gt sa sb) → va_S A s.heap H locs → lv_has ls 9 [(0, .ref (a 5)), (1, .int (nI x)), (2, .int (nI ev)), (3, .long (lN wh)), (5, .int (nI lf)), (6, .int (nI i))] → W p l e ({ frames := 5, cells := 0, slots := 0, locals := 132 } : Room) s m args below meth c H locs 0 0 Q (F0 m 106 ls []) := by
          intro k
          induction k with
          | zero =>
            intro i m1 wh lf H locs ls hk hi hlf hf hP hD hS hl
            exfalso
            omega
          | succ k ih_106 =>
            intro i m1 wh lf H locs ls hk hi hlf hf hP hD hS hl
            refine lv_iload hx hb d_Od_workExactly_106 (lv_at hl 5 rfl) ?_
            refine lv_aload_n hx hb d_Od_workExactly_108 rfl (lv_at hl 0 rfl) ?_
            refine va_get (D := g) (ci := 5) (v := .ref (a 1)) (C := R_Od) (T := F_Od) (N := 7) hx hb hT i_Od hown hK hP 5 rfl rfl 0 (by decide) (hT _ tw_170) (fun _ h9 => h9) rfl d_Od_workExactly_109 ?_
            refine va_getN (D := g) (ci := 1) (v := .int (nI nv)) (C := R_No) (T := F_No) (N := 13) hx hb hT i_No hown hK hP 1 rfl rfl 1 (by decide) (va_Nw.use rfl (hN _ tw_36)) (fun _ h9 => h9) rfl d_Od_workExactly_112 ?_
            refine my_icmp_ge (tgt := 203) (a := i) (b := nv) hx hb d_Od_workExactly_115 (by decide) (by omega) (by omega) (fun c_115 => ?_) (fun c_115 => ?_)
            · -- 115: taken
              have e9 : (m1, wh, lf) = (evF ev en eu nu nd (ceF ev cp cu cd (wsF (fsF tb br kd vo bc (luS (luC nc kd un x) nc (0, li) 33).2 (eu x / 2 ^ 6) (luS (luC nc kd un x) nc (0, li) 33).1) x ev ow (2 ^ popc ev 12)) cc0) nv) := by rw [hf, show i = nv by omega]
              have e1 : (evF ev en eu nu nd (ceF ev cp cu cd (wsF (fsF tb br kd vo bc (luS (luC nc kd un x) nc (0, li) 33).2 (eu x / 2 ^ 6) (luS (luC nc kd un x) nc (0, li) 33).1) x ev ow (2 ^ popc ev 12)) cc0) nv).1 = m1 := by rw [← e9]
              have e2 : (evF ev en eu nu nd (ceF ev cp cu cd (wsF (fsF tb br kd vo bc (luS (luC nc kd un x) nc (0, li) 33).2 (eu x / 2 ^ 6) (luS (luC nc kd un x) nc (0, li) 33).1) x ev ow (2 ^ popc ev 12)) cc0) nv).2.1 = wh := by rw [← e9]
              rw [← e1] at hP hD
              rw [← e2] at hl
              refine lv_aload_n hx hb d_Od_workExactly_203 rfl (lv_at hl 0 rfl) ?_
              refine va_get (D := g) (ci := 5) (v := .ref (a 8)) (C := R_Od) (T := F_Od) (N := 7) hx hb hT i_Od hown hK hP 5 rfl rfl 3 (by decide) (hT _ tw_173) (fun _ h9 => h9) rfl d_Od_workExactly_204 ?_
              refine lv_aload_n hx hb d_Od_workExactly_207 rfl (lv_at hl 0 rfl) ?_
              refine va_get (D := g) (ci := 5) (v := .ref (a 25)) (C := R_Od) (T := F_Od) (N := 7) hx hb hT i_Od hown hK hP 5 rfl rfl 5 (by decide) (hT _ tw_177) (fun _ h9 => h9) rfl d_Od_workExactly_208 ?_
              refine lv_iconst (v := (nI 0)) hx hb d_Od_workExactly_211 (by decide) ?_
              refine my_lald (v := (lN (((evF ev en eu nu nd (ceF ev cp cu cd (wsF (fsF tb br kd vo bc (luS (luC nc kd un x) nc (0, li) 33).2 (eu x / 2 ^ 6) (luS (luC nc kd un x) nc (0, li) 33).1) x ev ow (2 ^ popc ev 12)) cc0) nv).1) 0))) (i := 0) hx hb hK hP 25 1 rfl rfl (by omega) (by decide) rfl d_Od_workExactly_212 ?_
              refine lv_lload_n hx hb d_Od_workExactly_213 rfl (lv_at hl 3 rfl) ?_
              refine my_V_v (q0 := 8) (ci := 7) (C := R_Fr) (As := [.long (lN (((evF ev en eu nu nd (ceF ev cp cu cd (wsF (fsF tb br kd vo bc (luS (luC nc kd un x) nc (0, li) 33).2 (eu x / 2 ^ 6) (luS (luC nc kd un x) nc (0, li) 33).1) x ev ow (2 ^ popc ev 12)) cc0) nv).1) 0)), .long (lN ((evF ev en eu nu nd (ceF ev cp cu cd (wsF (fsF tb br kd vo bc (luS (luC nc kd un x) nc (0, li) 33).2 (eu x / 2 ^ 6) (luS (luC nc kd un x) nc (0, li) 33).1) x ev ow (2 ^ popc ev 12)) cc0) nv).2.1))]) (n := 2) (k_Fr_set8 l g a rB rT cI cJ cII cJJ nc nv ng kd vo nu nd en br bc un eu ((luS (luC nc kd un x) nc (0, li) 33).2) (fsF tb br kd vo bc (luS (luC nc kd un x) nc (0, li) 33).2 (eu x / 2 ^ 6) (luS (luC nc kd un x) nc (0, li) 33).1) cc0 cp cu cd tc ts tf ox ((evF ev en eu nu nd (ceF ev cp cu cd (wsF (fsF tb br kd vo bc (luS (luC nc kd un x) nc (0, li) 33).2 (eu x / 2 ^ 6) (luS (luC nc kd un x) nc (0, li) 33).1) x ev ow (2 ^ popc ev 12)) cc0) nv).1) ob ra rb gc gr gk gg gp gt sa sb (((evF ev en eu nu nd (ceF ev cp cu cd (wsF (fsF tb br kd vo bc (luS (luC nc kd un x) nc (0, li) 33).2 (eu x / 2 ^ 6) (luS (luC nc kd un x) nc (0, li) 33).1) x ev ow (2 ^ popc ev 12)) cc0) nv).1) 0) ((evF ev en eu nu nd (ceF ev cp cu cd (wsF (fsF tb br kd vo bc (luS (luC nc kd un x) nc (0, li) 33).2 (eu x / 2 ^ 6) (luS (luC nc kd un x) nc (0, li) 33).1) x ev ow (2 ^ popc ev 12)) cc0) nv).2.1) hlim.1 hlim.2.1 hlim.2.2) hx hb hml hown hT hN tw_433 tw_434 tw_435 tw_7 tw_436 (by decide +kernel) rfl rfl ⟨Nat.le_of_ble_eq_true rfl, Nat.le_of_ble_eq_true rfl⟩ ⟨Nat.zero_le _, Nat.zero_le _⟩ hK hP hD hS hA rfl rfl rfl hl rfl (Nat.le_of_ble_eq_true rfl) d_Od_workExactly_214 (fun H locs hP hD hS => ?_)
              exact hret _ _ _ _ hP hD hS d_Od_workExactly_217
            · -- 115: not taken
              refine lv_aload_n hx hb d_Od_workExactly_118 rfl (lv_at hl 0 rfl) ?_
              refine va_get (D := g) (ci := 5) (v := .ref (a 1)) (C := R_Od) (T := F_Od) (N := 7) hx hb hT i_Od hown hK hP 5 rfl rfl 0 (by decide) (hT _ tw_170) (fun _ h9 => h9) rfl d_Od_workExactly_119 ?_
              refine va_getN (D := g) (ci := 1) (v := .ref (a 13)) (C := R_No) (T := F_No) (N := 13) hx hb hT i_No hown hK hP 1 rfl rfl 7 (by decide) (va_Nw.use rfl (hN _ tw_50)) (fun _ h9 => h9) rfl d_Od_workExactly_122 ?_
              refine lv_iload hx hb d_Od_workExactly_125 (lv_at hl 5 rfl) ?_
              have q7 := hen i
              refine my_iald (v := (nI (en i))) (i := i) hx hb hK hP 13 0 rfl rfl (by omega) (by decide) rfl d_Od_workExactly_127 ?_
              refine lv_istore (lv' := [(7, .int (nI (en i))), (0, .ref (a 5)), (1, .int (nI x)), (2, .int (nI ev)), (3, .long (lN wh)), (5, .int (nI lf)), (6, .int (nI i))]) hx hb d_Od_workExactly_128 hl (by decide) rfl (fun ls hl => ?_)
              refine lv_aload_n hx hb d_Od_workExactly_130 rfl (lv_at hl 1 rfl) ?_
              refine va_get (D := g) (ci := 5) (v := .ref (a 1)) (C := R_Od) (T := F_Od) (N := 7) hx hb hT i_Od hown hK hP 5 rfl rfl 0 (by decide) (hT _ tw_170) (fun _ h9 => h9) rfl d_Od_workExactly_131 ?_
              refine va_getN (D := g) (ci := 1) (v := .ref (a 17)) (C := R_No) (T := F_No) (N := 13) hx hb hT i_No hown hK hP 1 rfl rfl 11 (by decide) (va_Nw.use rfl (hN _ tw_62)) (fun _ h9 => h9) rfl d_Od_workExactly_134 ?_
              refine lv_iload hx hb d_Od_workExactly_137 (lv_at hl 0 rfl) ?_
              refine my_iald (v := (nI (eu (en i)))) (i := en i) hx hb hK hP 17 0 rfl rfl (by omega) (by decide) rfl d_Od_workExactly_139 ?_
              refine lv_istore (lv' := [(8, .int (nI (eu (en i)))), (7, .int (nI (en i))), (0, .ref (a 5)), (1, .int (nI x)), (2, .int (nI ev)), (3, .long (lN wh)), (5, .int (nI lf)), (6, .int (nI i))]) hx hb d_Od_workExactly_140 hl (by decide) rfl (fun ls hl => ?_)
              refine lv_iload_n hx hb d_Od_workExactly_142 rfl (lv_at hl 4 rfl) ?_
              refine lv_iload hx hb d_Od_workExactly_143 (lv_at hl 0 rfl) ?_
              refine lv_iand hx hb d_Od_workExactly_145 ?_
              refine my_ei (nx_and ev (eu (en i))) ?_
              have q8 : ev &&& eu (en i) < 4096 := Nat.lt_of_le_of_lt Nat.and_le_left hev
              refine my_if_eq (tgt := 197) (a := ev &&& (eu (en i))) hx hb d_Od_workExactly_146 (by decide) (by omega) (fun c_146 => ?_) (fun c_146 => ?_)
              · -- 146: taken
                refine lv_iinc (v := (nI (i + 1))) (lv' := [(6, .int (nI (i + 1))), (8, .int (nI (eu (en i)))), (7, .int (nI (en i))), (0, .ref (a 5)), (1, .int (nI x)), (2, .int (nI ev)), (3, .long (lN wh)), (5, .int (nI lf))]) hx hb d_Od_workExactly_197 hl (k := 7) rfl (nI_1 i) (by decide) rfl (fun ls hl => ?_)
                refine lv_goto (tgt := 106) hx hb d_Od_workExactly_200 (by decide) ?_
                refine ih_106 _ _ _ _ _ _ _ ?_ ?_ ?_ ?_ hP hD hS (lv_sub hl [3, 4, 5, 6, 7, 0] rfl)
                · omega
                · omega
                · exact hlf
                · have e1 : (evF ev en eu nu nd (ceF ev cp cu cd (wsF (fsF tb br kd vo bc (luS (luC nc kd un x) nc (0, li) 33).2 (eu x / 2 ^ 6) (luS (luC nc kd un x) nc (0, li) 33).1) x ev ow (2 ^ popc ev 12)) cc0) i).1 = m1 := by rw [← hf]
                  have e2 : (evF ev en eu nu nd (ceF ev cp cu cd (wsF (fsF tb br kd vo bc (luS (luC nc kd un x) nc (0, li) 33).2 (eu x / 2 ^ 6) (luS (luC nc kd un x) nc (0, li) 33).1) x ev ow (2 ^ popc ev 12)) cc0) i).2.1 = wh := by rw [← hf]
                  have e3 : (evF ev en eu nu nd (ceF ev cp cu cd (wsF (fsF tb br kd vo bc (luS (luC nc kd un x) nc (0, li) 33).2 (eu x / 2 ^ 6) (luS (luC nc kd un x) nc (0, li) 33).1) x ev ow (2 ^ popc ev 12)) cc0) i).2.2 = lf := by rw [← hf]
                  rw [evF_f c_146, hf]
              · -- 146: not taken
                have q9 : lf ^^^ eu (en i) < 4096 := Nat.xor_lt_two_pow (n := 12) hlf (heu _)
                refine lv_iload hx hb d_Od_workExactly_149 (lv_at hl 6 rfl) ?_
                refine lv_iload hx hb d_Od_workExactly_151 (lv_at hl 0 rfl) ?_
                refine lv_ixor hx hb d_Od_workExactly_153 ?_
                refine my_ei (nx_xor lf (eu (en i))) ?_
                refine lv_istore (lv' := [(5, .int (nI (lf ^^^ (eu (en i))))), (8, .int (nI (eu (en i)))), (7, .int (nI (en i))), (0, .ref (a 5)), (1, .int (nI x)), (2, .int (nI ev)), (3, .long (lN wh)), (6, .int (nI i))]) hx hb d_Od_workExactly_154 hl (by decide) rfl (fun ls hl => ?_)
                refine lv_aload_n hx hb d_Od_workExactly_156 rfl (lv_at hl 3 rfl) ?_
                refine lv_iload hx hb d_Od_workExactly_157 (lv_at hl 0 rfl) ?_
                refine lv_iload hx hb d_Od_workExactly_159 (lv_at hl 1 rfl) ?_
                refine lv_aload_n hx hb d_Od_workExactly_161 rfl (lv_at hl 3 rfl) ?_
                refine va_get (D := g) (ci := 5) (v := .ref (a 1)) (C := R_Od) (T := F_Od) (N := 7) hx hb hT i_Od hown hK hP 5 rfl rfl 0 (by decide) (hT _ tw_170) (fun _ h9 => h9) rfl d_Od_workExactly_162 ?_
                refine va_getN (D := g) (ci := 1) (v := .ref (a 11)) (C := R_No) (T := F_No) (N := 13) hx hb hT i_No hown hK hP 1 rfl rfl 5 (by decide) (va_Nw.use rfl (hN _ tw_46)) (fun _ h9 => h9) rfl d_Od_workExactly_165 ?_
                refine lv_iload hx hb d_Od_workExactly_168 (lv_at hl 2 rfl) ?_
                refine my_lald (v := (lN (nu (en i)))) (i := en i) hx hb hK hP 11 1 rfl rfl (by omega) (by decide) rfl d_Od_workExactly_170 ?_
                refine lv_aload_n hx hb d_Od_workExactly_171 rfl (lv_at hl 3 rfl) ?_
                refine va_get (D := g) (ci := 5) (v := .ref (a 1)) (C := R_Od) (T := F_Od) (N := 7) hx hb hT i_Od hown hK hP 5 rfl rfl 0 (by decide) (hT _ tw_170) (fun _ h9 => h9) rfl d_Od_workExactly_172 ?_
                refine va_getN (D := g) (ci := 1) (v := .ref (a 12)) (C := R_No) (T := F_No) (N := 13) hx hb hT i_No hown hK hP 1 rfl rfl 6 (by decide) (va_Nw.use rfl (hN _ tw_48)) (fun _ h9 => h9) rfl d_Od_workExactly_175 ?_
                refine lv_iload hx hb d_Od_workExactly_178 (lv_at hl 2 rfl) ?_
                refine my_lald (v := (lN (nd (en i)))) (i := en i) hx hb hK hP 12 1 rfl rfl (by omega) (by decide) rfl d_Od_workExactly_180 ?_
                refine my_V_v (q0 := 5) (ci := 5) (C := R_Od) (As := [.int (nI (lf ^^^ (eu (en i)))), .int (nI (eu (en i))), .long (lN (nu (en i))), .long (lN (nd (en i)))]) (n := 4) (k_Od_mix l g a rB rT cI cJ cII cJJ nc nv ng kd vo nu nd en br bc un eu ((luS (luC nc kd un x) nc (0, li) 33).2) (fsF tb br kd vo bc (luS (luC nc kd un x) nc (0, li) 33).2 (eu x / 2 ^ 6) (luS (luC nc kd un x) nc (0, li) 33).1) cc0 cp cu cd tc ts tf ox m1 ob ra rb gc gr gk gg gp gt sa sb (lf ^^^ (eu (en i))) (eu (en i)) (nu (en i)) (nd (en i)) q9 (heu _) (hnud _)) hx hb hml hown hT hN tw_429 tw_431 tp_9 tw_6 tw_432 (by decide +kernel) rfl rfl ⟨Nat.le_of_ble_eq_true rfl, Nat.le_of_ble_eq_true rfl⟩ ⟨Nat.zero_le _, Nat.zero_le _⟩ hK hP hD hS hA rfl rfl rfl hl rfl (Nat.le_of_ble_eq_true rfl) d_Od_workExactly_181 (fun H locs hP hD hS => ?_)
                refine lv_lload_n hx hb d_Od_workExactly_184 rfl (lv_at hl 6 rfl) ?_
                refine lv_aload_n hx hb d_Od_workExactly_185 rfl (lv_at hl 3 rfl) ?_
                refine va_get (D := g) (ci := 5) (v := .ref (a 1)) (C := R_Od) (T := F_Od) (N := 7) hx hb hT i_Od hown hK hP 5 rfl rfl 0 (by decide) (hT _ tw_170) (fun _ h9 => h9) rfl d_Od_workExactly_186 ?_
                refine va_getN (D := g) (ci := 1) (v := .ref (a 12)) (C := R_No) (T := F_No) (N := 13) hx hb hT i_No hown hK hP 1 rfl rfl 6 (by decide) (va_Nw.use rfl (hN _ tw_48)) (fun _ h9 => h9) rfl d_Od_workExactly_189 ?_
                refine lv_iload hx hb d_Od_workExactly_192 (lv_at hl 2 rfl) ?_
                refine my_lald (v := (lN (nd (en i)))) (i := en i) hx hb hK hP 12 1 rfl rfl (by omega) (by decide) rfl d_Od_workExactly_194 ?_
                refine lv_lmul hx hb d_Od_workExactly_195 ?_
                refine my_el (lN_mul wh (nd (en i))) ?_
                refine lv_lstore_n (lv' := [(3, .long (lN (wh * (nd (en i))))), (5, .int (nI (lf ^^^ (eu (en i))))), (8, .int (nI (eu (en i)))), (7, .int (nI (en i))), (0, .ref (a 5)), (1, .int (nI x)), (2, .int (nI ev)), (6, .int (nI i))]) hx hb d_Od_workExactly_196 rfl hl (by decide) rfl (fun ls hl => ?_)
                refine lv_iinc (v := (nI (i + 1))) (lv' := [(6, .int (nI (i + 1))), (3, .long (lN (wh * (nd (en i))))), (5, .int (nI (lf ^^^ (eu (en i))))), (8, .int (nI (eu (en i)))), (7, .int (nI (en i))), (0, .ref (a 5)), (1, .int (nI x)), (2, .int (nI ev))]) hx hb d_Od_workExactly_197 hl (k := 7) rfl (nI_1 i) (by decide) rfl (fun ls hl => ?_)
                refine lv_goto (tgt := 106) hx hb d_Od_workExactly_200 (by decide) ?_
                refine ih_106 _ _ _ _ _ _ _ ?_ ?_ ?_ ?_ hP hD hS (lv_sub hl [5, 6, 7, 1, 2, 0] rfl)
                · omega
                · omega
                · exact q9
                · have e1 : (evF ev en eu nu nd (ceF ev cp cu cd (wsF (fsF tb br kd vo bc (luS (luC nc kd un x) nc (0, li) 33).2 (eu x / 2 ^ 6) (luS (luC nc kd un x) nc (0, li) 33).1) x ev ow (2 ^ popc ev 12)) cc0) i).1 = m1 := by rw [← hf]
                  have e2 : (evF ev en eu nu nd (ceF ev cp cu cd (wsF (fsF tb br kd vo bc (luS (luC nc kd un x) nc (0, li) 33).2 (eu x / 2 ^ 6) (luS (luC nc kd un x) nc (0, li) 33).1) x ev ow (2 ^ popc ev 12)) cc0) i).2.1 = wh := by rw [← hf]
                  have e3 : (evF ev en eu nu nd (ceF ev cp cu cd (wsF (fsF tb br kd vo bc (luS (luC nc kd un x) nc (0, li) 33).2 (eu x / 2 ^ 6) (luS (luC nc kd un x) nc (0, li) 33).1) x ev ow (2 ^ popc ev 12)) cc0) i).2.2 = lf := by rw [← hf]
                  rw [evF_t (by omega), e1, e2, e3]
        refine lp_106 (nv + 1) _ _ _ _ _ _ _ ?_ ?_ ?_ ?_ hP hD hS (lv_sub hl [2, 3, 4, 5, 1, 0] rfl)
        · omega
        · omega
        · exact hev
        · rw [← show i = cc0 by omega]; show _ = ((ceF ev cp cu cd (wsF (fsF tb br kd vo bc (luS (luC nc kd un x) nc (0, li) 33).2 (eu x / 2 ^ 6) (luS (luC nc kd un x) nc (0, li) 33).1) x ev ow (2 ^ popc ev 12)) i).1, (ceF ev cp cu cd (wsF (fsF tb br kd vo bc (luS (luC nc kd un x) nc (0, li) 33).2 (eu x / 2 ^ 6) (luS (luC nc kd un x) nc (0, li) 33).1) x ev ow (2 ^ popc ev 12)) i).2, ev); rw [← hf]
      · -- 28: not taken
        refine lv_aload_n hx hb d_Od_workExactly_31 rfl (lv_at hl 0 rfl) ?_
        refine va_get (D := g) (ci := 5) (v := .ref (a 3)) (C := R_Od) (T := F_Od) (N := 7) hx hb hT i_Od hown hK hP 5 rfl rfl 2 (by decide) (hT _ tw_172) (fun _ h9 => h9) rfl d_Od_workExactly_32 ?_
        refine lv_iload hx hb d_Od_workExactly_35 (lv_at hl 4 rfl) ?_
        refine lv_iload_n hx hb d_Od_workExactly_37 rfl (lv_at hl 2 rfl) ?_
        refine my_V_i (q0 := 3) (ci := 3) (C := R_Ca) (As := [.int (nI i), .int (nI ev)]) (n := 2) (k_Ca_touches l g a rB rT cI cJ cII cJJ nc nv ng kd vo nu nd en br bc un eu ((luS (luC nc kd un x) nc (0, li) 33).2) (fsF tb br kd vo bc (luS (luC nc kd un x) nc (0, li) 33).2 (eu x / 2 ^ 6) (luS (luC nc kd un x) nc (0, li) 33).1) cc0 cp cu cd tc ts tf ox m1 ob ra rb gc gr gk gg gp gt sa sb i ev (by omega) hcp) hx hb hml hown hT hN tw_428 tw_411 tw_412 tw_4 tw_413 (by decide +kernel) rfl rfl ⟨Nat.le_of_ble_eq_true rfl, Nat.le_of_ble_eq_true rfl⟩ ⟨Nat.zero_le _, Nat.zero_le _⟩ hK hP hD hS hA rfl rfl rfl hl rfl (Nat.le_of_ble_eq_true rfl) d_Od_workExactly_38 (fun H locs hP hD hS => ?_)
        refine my_if_eq_b (tgt := 94) hx hb d_Od_workExactly_41 (by decide) (fun c_41 => ?_) (fun c_41 => ?_)
        · -- 41: taken
          refine lv_iinc (v := (nI (i + 1))) (lv' := [(5, .int (nI (i + 1))), (0, .ref (a 5)), (1, .int (nI x)), (2, .int (nI ev)), (3, .long (lN wh))]) hx hb d_Od_workExactly_94 hl (k := 4) rfl (nI_1 i) (by decide) rfl (fun ls hl => ?_)
          refine lv_goto (tgt := 19) hx hb d_Od_workExactly_97 (by decide) ?_
          refine ih_19 _ _ _ _ _ _ ?_ ?_ ?_ hP hD hS (lv_sub hl [1, 2, 3, 4, 0] rfl)
          · omega
          · omega
          · have e1 : (ceF ev cp cu cd (wsF (fsF tb br kd vo bc (luS (luC nc kd un x) nc (0, li) 33).2 (eu x / 2 ^ 6) (luS (luC nc kd un x) nc (0, li) 33).1) x ev ow (2 ^ popc ev 12)) i).1 = m1 := by rw [← hf]
            have e2 : (ceF ev cp cu cd (wsF (fsF tb br kd vo bc (luS (luC nc kd un x) nc (0, li) 33).2 (eu x / 2 ^ 6) (luS (luC nc kd un x) nc (0, li) 33).1) x ev ow (2 ^ popc ev 12)) i).2 = wh := by rw [← hf]
            rw [ceF_f (by simpa using c_41), hf]
        · -- 41: not taken
          refine lv_aload_n hx hb d_Od_workExactly_44 rfl (lv_at hl 0 rfl) ?_
          refine lv_iload_n hx hb d_Od_workExactly_45 rfl (lv_at hl 2 rfl) ?_
          refine lv_aload_n hx hb d_Od_workExactly_46 rfl (lv_at hl 0 rfl) ?_
          refine va_get (D := g) (ci := 5) (v := .ref (a 3)) (C := R_Od) (T := F_Od) (N := 7) hx hb hT i_Od hown hK hP 5 rfl rfl 2 (by decide) (hT _ tw_172) (fun _ h9 => h9) rfl d_Od_workExactly_47 ?_
          refine va_getN (D := g) (ci := 3) (v := .ref (a 20)) (C := R_Ca) (T := F_Ca) (N := 4) hx hb hT i_Ca hown hK hP 3 rfl rfl 1 (by decide) (va_Nw.use rfl (hN _ tw_121)) (fun _ h9 => h9) rfl d_Od_workExactly_50 ?_
          refine lv_iload hx hb d_Od_workExactly_53 (lv_at hl 4 rfl) ?_
          refine my_iald (v := (nI (cp i))) (i := i) hx hb hK hP 20 0 rfl rfl (by omega) (by decide) rfl d_Od_workExactly_55 ?_
          refine lv_iload_n hx hb d_Od_workExactly_56 rfl (lv_at hl 2 rfl) ?_
          refine lv_iand hx hb d_Od_workExactly_57 ?_
          refine my_ei (nx_and (cp i) ev) ?_
          refine lv_aload_n hx hb d_Od_workExactly_58 rfl (lv_at hl 0 rfl) ?_
          refine va_get (D := g) (ci := 5) (v := .ref (a 3)) (C := R_Od) (T := F_Od) (N := 7) hx hb hT i_Od hown hK hP 5 rfl rfl 2 (by decide) (hT _ tw_172) (fun _ h9 => h9) rfl d_Od_workExactly_59 ?_
          refine va_getN (D := g) (ci := 3) (v := .ref (a 21)) (C := R_Ca) (T := F_Ca) (N := 4) hx hb hT i_Ca hown hK hP 3 rfl rfl 2 (by decide) (va_Nw.use rfl (hN _ tw_123)) (fun _ h9 => h9) rfl d_Od_workExactly_62 ?_
          refine lv_iload hx hb d_Od_workExactly_65 (lv_at hl 4 rfl) ?_
          refine my_lald (v := (lN (cu i))) (i := i) hx hb hK hP 21 1 rfl rfl (by omega) (by decide) rfl d_Od_workExactly_67 ?_
          refine lv_aload_n hx hb d_Od_workExactly_68 rfl (lv_at hl 0 rfl) ?_
          refine va_get (D := g) (ci := 5) (v := .ref (a 3)) (C := R_Od) (T := F_Od) (N := 7) hx hb hT i_Od hown hK hP 5 rfl rfl 2 (by decide) (hT _ tw_172) (fun _ h9 => h9) rfl d_Od_workExactly_69 ?_
          refine va_getN (D := g) (ci := 3) (v := .ref (a 22)) (C := R_Ca) (T := F_Ca) (N := 4) hx hb hT i_Ca hown hK hP 3 rfl rfl 3 (by decide) (va_Nw.use rfl (hN _ tw_125)) (fun _ h9 => h9) rfl d_Od_workExactly_72 ?_
          refine lv_iload hx hb d_Od_workExactly_75 (lv_at hl 4 rfl) ?_
          refine my_lald (v := (lN (cd i))) (i := i) hx hb hK hP 22 1 rfl rfl (by omega) (by decide) rfl d_Od_workExactly_77 ?_
          refine my_V_v (q0 := 5) (ci := 5) (C := R_Od) (As := [.int (nI ev), .int (nI ((cp i) &&& ev)), .long (lN (cu i)), .long (lN (cd i))]) (n := 4) (k_Od_mix l g a rB rT cI cJ cII cJJ nc nv ng kd vo nu nd en br bc un eu ((luS (luC nc kd un x) nc (0, li) 33).2) (fsF tb br kd vo bc (luS (luC nc kd un x) nc (0, li) 33).2 (eu x / 2 ^ 6) (luS (luC nc kd un x) nc (0, li) 33).1) cc0 cp cu cd tc ts tf ox m1 ob ra rb gc gr gk gg gp gt sa sb ev ((cp i) &&& ev) (cu i) (cd i) hev (Nat.lt_of_le_of_lt Nat.and_le_right hev) (hcud i)) hx hb hml hown hT hN tw_429 tw_431 tp_9 tw_6 tw_432 (by decide +kernel) rfl rfl ⟨Nat.le_of_ble_eq_true rfl, Nat.le_of_ble_eq_true rfl⟩ ⟨Nat.zero_le _, Nat.zero_le _⟩ hK hP hD hS hA rfl rfl rfl hl rfl (Nat.le_of_ble_eq_true rfl) d_Od_workExactly_78 (fun H locs hP hD hS => ?_)
          refine lv_lload_n hx hb d_Od_workExactly_81 rfl (lv_at hl 3 rfl) ?_
          refine lv_aload_n hx hb d_Od_workExactly_82 rfl (lv_at hl 0 rfl) ?_
          refine va_get (D := g) (ci := 5) (v := .ref (a 3)) (C := R_Od) (T := F_Od) (N := 7) hx hb hT i_Od hown hK hP 5 rfl rfl 2 (by decide) (hT _ tw_172) (fun _ h9 => h9) rfl d_Od_workExactly_83 ?_
          refine va_getN (D := g) (ci := 3) (v := .ref (a 22)) (C := R_Ca) (T := F_Ca) (N := 4) hx hb hT i_Ca hown hK hP 3 rfl rfl 3 (by decide) (va_Nw.use rfl (hN _ tw_125)) (fun _ h9 => h9) rfl d_Od_workExactly_86 ?_
          refine lv_iload hx hb d_Od_workExactly_89 (lv_at hl 4 rfl) ?_
          refine my_lald (v := (lN (cd i))) (i := i) hx hb hK hP 22 1 rfl rfl (by omega) (by decide) rfl d_Od_workExactly_91 ?_
          refine lv_lmul hx hb d_Od_workExactly_92 ?_
          refine my_el (lN_mul wh (cd i)) ?_
          refine lv_lstore_n (lv' := [(3, .long (lN (wh * (cd i)))), (0, .ref (a 5)), (1, .int (nI x)), (2, .int (nI ev)), (5, .int (nI i))]) hx hb d_Od_workExactly_93 rfl hl (by decide) rfl (fun ls hl => ?_)
          refine lv_iinc (v := (nI (i + 1))) (lv' := [(5, .int (nI (i + 1))), (3, .long (lN (wh * (cd i)))), (0, .ref (a 5)), (1, .int (nI x)), (2, .int (nI ev))]) hx hb d_Od_workExactly_94 hl (k := 4) rfl (nI_1 i) (by decide) rfl (fun ls hl => ?_)
          refine lv_goto (tgt := 19) hx hb d_Od_workExactly_97 (by decide) ?_
          refine ih_19 _ _ _ _ _ _ ?_ ?_ ?_ hP hD hS (lv_sub hl [2, 3, 4, 1, 0] rfl)
          · omega
          · omega
          · have e1 : (ceF ev cp cu cd (wsF (fsF tb br kd vo bc (luS (luC nc kd un x) nc (0, li) 33).2 (eu x / 2 ^ 6) (luS (luC nc kd un x) nc (0, li) 33).1) x ev ow (2 ^ popc ev 12)) i).1 = m1 := by rw [← hf]
            have e2 : (ceF ev cp cu cd (wsF (fsF tb br kd vo bc (luS (luC nc kd un x) nc (0, li) 33).2 (eu x / 2 ^ 6) (luS (luC nc kd un x) nc (0, li) 33).1) x ev ow (2 ^ popc ev 12)) i).2 = wh := by rw [← hf]
            rw [ceF_t (by simpa using c_41), e1, e2]
  refine lp_19 (cc0 + 1) _ _ _ _ _ _ ?_ ?_ ?_ hP hD hS (lv_sub hl [2, 3, 4, 1, 0] rfl)
  · omega
  · omega
  · rfl
set_option maxHeartbeats 4000000 in
set_option maxRecDepth 100000 in
theorem k_Od_workBound (l : Launch) (g : va_G) (a rB rT : Nat → Nat) (cI cJ cII cJJ : ClassId) (nc : Nat) (nv : Nat) (ng : Nat) (kd : Nat → Int32) (vo : Nat → Nat) (nu : Nat → Nat) (nd : Nat → Nat) (en : Nat → Nat) (br : Nat → Nat → Nat) (bc : Nat → Nat) (un : Nat → Nat) (eu : Nat → Nat) (li : Nat → Nat) (tb : Nat → Nat → Int64) (cc0 : Nat) (cp : Nat → Nat) (cu : Nat → Nat) (cd : Nat → Nat) (tc : Nat) (ts : Nat → Nat) (tf : Nat → Nat) (ox : Bool) (ow : Nat → Nat) (ob : Nat → Nat) (ra : Nat) (rb : Nat) (gc : Nat) (gr : Nat) (gk : Nat → Nat) (gg : Nat → Nat) (gp : Nat → Nat) (gt : Nat → Nat) (sa : Nat) (sb : Nat) (x : Nat) (hx1 : x ≤ 32) (hnc : nc ≤ 32) (hun : ∀ j, un j < 2 ^ 33) (hbc : ∀ j, bc j ≤ 10) (hbr : ∀ j i, br j i ≤ 32) (hvo : ∀ j, vo j ≤ 10) (hcc : cc0 ≤ 4) (hnv : nv ≤ 12) (hcp : ∀ j, cp j < 4096) (hen : ∀ j, en j ≤ 32) (hnu : ∀ j, nu j ≤ 10) (hnd : ∀ j, nd j ≤ 10) (hcu : ∀ j, cu j ≤ 10) (hcd : ∀ j, cd j ≤ 10) (hob : ∀ j, ob j ≤ 2520) : ct_v l g vwCl (tyS cI cJ cII cJJ) y_Od_workBound c_Od_workBound 4 none ({ frames := 3, cells := 0, slots := 0, locals := 67 } : Room) [.ref (a 5), .int (nI x)] (stW a rB rT cI cJ cII cJJ nc nv ng kd vo nu nd en br bc un eu li tb cc0 cp cu cd tc ts tf ox ow ob ra rb gc gr gk gg gp gt sa sb) (stW a rB rT cI cJ cII cJJ nc nv ng kd vo nu nd en br bc un eu ((luS (luC nc kd un x) nc (0, li) 33).2) tb cc0 cp cu cd tc ts tf ox ow (bgF br bc vo kd (luS (luC nc kd un x) nc (0, li) 33).2 (beF (fun z => mnF (ebF nu nd eu cp cu cd z cc0) 2520) en ob nv) (luS (luC nc kd un x) nc (0, li) 33).1) ((bgF br bc vo kd (luS (luC nc kd un x) nc (0, li) 33).2 (beF (fun z => mnF (ebF nu nd eu cp cu cd z cc0) 2520) en ob nv) (luS (luC nc kd un x) nc (0, li) 33).1) x / cdF 100 ((bgF br bc vo kd (luS (luC nc kd un x) nc (0, li) 33).2 (beF (fun z => mnF (ebF nu nd eu cp cu cd z cc0) 2520) en ob nv) (luS (luC nc kd un x) nc (0, li) 33).1) x) 2520) (2520 / cdF 100 ((bgF br bc vo kd (luS (luC nc kd un x) nc (0, li) 33).2 (beF (fun z => mnF (ebF nu nd eu cp cu cd z cc0) 2520) en ob nv) (luS (luC nc kd un x) nc (0, li) 33).1) x) 2520) gc gr gk gg gp gt sa sb) := by
  refine ct_v.intro (by decide) (Nat.le_of_ble_eq_true rfl) ?_
  intro p e s m args below meth c Q A ls hx hb hml hT hown hA hK hN hret hP hD hS hl
  have hown : s.vm.findClass R_Od = some m.cls := hown
  have hl : lv_has ls 4 [(0, .ref (a 5)), (1, .int (nI x))] := hl
  have q2 := luS_le (luC nc kd un x) nc li 33
  have hE : ∀ z, (fun z => mnF (ebF nu nd eu cp cu cd z cc0) 2520) z ≤ 2520 := fun z => mnF_le _ _
  refine lv_iconst (v := (nI 0)) hx hb d_Od_workBound_0 (by decide) ?_
  refine lv_istore_n (lv' := [(2, .int (nI 0)), (0, .ref (a 5)), (1, .int (nI x))]) hx hb d_Od_workBound_1 rfl hl (by decide) rfl (fun ls hl => ?_)
  have lp_2 : ∀ (k : Nat) (i : Nat) (b1 : Nat → Nat) (H : Heap) (locs : List Loc) (ls : Array Slot), (nv < i + k) → (i ≤ nv) → (b1 = beF (fun z => mnF (ebF nu nd eu cp cu cd z cc0) 2520) en ob i) → va_P g vwCl (stW a rB rT cI cJ cII cJJ nc nv ng kd vo nu nd en br bc un eu li tb cc0 cp cu cd tc ts tf ox ow b1 ra rb gc gr gk gg gp gt sa sb) H → va_D A (stW a rB rT cI cJ cII cJJ nc nv ng kd vo nu nd en br bc un eu li tb cc0 cp cu cd tc ts tf ox ow b1 ra rb gc gr gk gg gp gt sa sb) → va_S A s.heap H locs → lv_has ls 4 [(0, .ref (a 5)), (1, .int (nI x)), (2, .int (nI i))] → W p l e ({ frames := 3, cells := 0, slots := 0, locals := 67 } : Room) s m args below meth c H locs 0 0 Q (F0 m 2 ls []) := by
    intro k
    induction k with
    | zero =>
      intro i b1 H locs ls hk hi hf hP hD hS hl
      exfalso
      omega
    | succ k ih_2 =>
      intro i b1 H locs ls hk hi hf hP hD hS hl
      refine lv_iload_n hx hb d_Od_workBound_2 rfl (lv_at hl 2 rfl) ?_
      refine lv_aload_n hx hb d_Od_workBound_3 rfl (lv_at hl 0 rfl) ?_
      refine va_get (D := g) (ci := 5) (v := .ref (a 1)) (C := R_Od) (T := F_Od) (N := 7) hx hb hT i_Od hown hK hP 5 rfl rfl 0 (by decide) (hT _ tw_170) (fun _ h9 => h9) rfl d_Od_workBound_4 ?_
      refine va_getN (D := g) (ci := 1) (v := .int (nI nv)) (C := R_No) (T := F_No) (N := 13) hx hb hT i_No hown hK hP 1 rfl rfl 1 (by decide) (va_Nw.use rfl (hN _ tw_36)) (fun _ h9 => h9) rfl d_Od_workBound_7 ?_
      refine my_icmp_ge (tgt := 40) (a := i) (b := nv) hx hb d_Od_workBound_10 (by decide) (by omega) (by omega) (fun c_10 => ?_) (fun c_10 => ?_)
      · -- 10: taken
        refine lv_aload_n hx hb d_Od_workBound_40 rfl (lv_at hl 0 rfl) ?_
        refine va_get (D := g) (ci := 5) (v := .ref (a 1)) (C := R_Od) (T := F_Od) (N := 7) hx hb hT i_Od hown hK hP 5 rfl rfl 0 (by decide) (hT _ tw_170) (fun _ h9 => h9) rfl d_Od_workBound_41 ?_
        refine lv_iload_n hx hb d_Od_workBound_44 rfl (lv_at hl 1 rfl) ?_
        refine my_V_i (q0 := 1) (ci := 1) (C := R_No) (As := [.int (nI x)]) (n := 1) (k_No_lineUp l g a rB rT cI cJ cII cJJ nc nv ng kd vo nu nd en br bc un eu li tb cc0 cp cu cd tc ts tf ox ow b1 ra rb gc gr gk gg gp gt sa sb x hx1 hnc hun) hx hb hml hown hT hN tw_455 tw_332 tw_333 tw_2 tw_334 (by decide +kernel) rfl rfl ⟨Nat.le_of_ble_eq_true rfl, Nat.le_of_ble_eq_true rfl⟩ ⟨Nat.zero_le _, Nat.zero_le _⟩ hK hP hD hS hA rfl rfl rfl hl rfl (Nat.le_of_ble_eq_true rfl) d_Od_workBound_45 (fun H locs hP hD hS => ?_)
        refine lv_istore_n (lv' := [(2, .int (nI ((luS (luC nc kd un x) nc (0, li) 33).1))), (0, .ref (a 5)), (1, .int (nI x))]) hx hb d_Od_workBound_48 rfl hl (by decide) rfl (fun ls hl => ?_)
        refine lv_iconst (v := (nI 0)) hx hb d_Od_workBound_49 (by decide) ?_
        refine lv_istore_n (lv' := [(3, .int (nI 0)), (2, .int (nI ((luS (luC nc kd un x) nc (0, li) 33).1))), (0, .ref (a 5)), (1, .int (nI x))]) hx hb d_Od_workBound_50 rfl hl (by decide) rfl (fun ls hl => ?_)
        have lp_51 : ∀ (k : Nat) (i : Nat) (b1 : Nat → Nat) (H : Heap) (locs : List Loc) (ls : Array Slot), ((luS (luC nc kd un x) nc (0, li) 33).1 < i + k) → (i ≤ (luS (luC nc kd un x) nc (0, li) 33).1) → (∀ j, b1 j ≤ 2520) → (b1 = (bgF br bc vo kd (luS (luC nc kd un x) nc (0, li) 33).2 (beF (fun z => mnF (ebF nu nd eu cp cu cd z cc0) 2520) en ob nv) i)) → va_P g vwCl (stW a rB rT cI cJ cII cJJ nc nv ng kd vo nu nd en br bc un eu ((luS (luC nc kd un x) nc (0, li) 33).2) tb cc0 cp cu cd tc ts tf ox ow b1 ra rb gc gr gk gg gp gt sa sb) H → va_D A (stW a rB rT cI cJ cII cJJ nc nv ng kd vo nu nd en br bc un eu ((luS (luC nc kd un x) nc (0, li) 33).2) tb cc0 cp cu cd tc ts tf ox ow b1 ra rb gc gr gk gg gp gt sa sb) → va_S A s.heap H locs → lv_has ls 4 [(0, .ref (a 5)), (1, .int (nI x)), (2, .int (nI ((luS (luC nc kd un x) nc (0, li) 33).1))), (3, .int (nI i))] → W p l e ({ frames := 3, cells := 0, slots := 0, locals := 67 } : Room) s m args below meth c H locs 0 0 Q (F0 m 51 ls []) := by
          intro k
          induction k with
          | zero =>
            intro i b1 H locs ls hk hi hb1 hf2 hP hD hS hl
            exfalso
            omega
          | succ k ih_51 =>
            intro i b1 H locs ls hk hi hb1 hf2 hP hD hS hl
            refine lv_iload_n hx hb d_Od_workBound_51 rfl (lv_at hl 3 rfl) ?_
            refine lv_iload_n hx hb d_Od_workBound_52 rfl (lv_at hl 2 rfl) ?_
            refine my_icmp_ge (tgt := 89) (a := i) (b := (luS (luC nc kd un x) nc (0, li) 33).1) hx hb d_Od_workBound_53 (by decide) (by omega) (by omega) (fun c_53 => ?_) (fun c_53 => ?_)
            · -- 53: taken
              have e1 : b1 = (bgF br bc vo kd (luS (luC nc kd un x) nc (0, li) 33).2 (beF (fun z => mnF (ebF nu nd eu cp cu cd z cc0) 2520) en ob nv) (luS (luC nc kd un x) nc (0, li) 33).1) := by rw [hf2, show i = (luS (luC nc kd un x) nc (0, li) 33).1 by omega]
              rw [e1] at hP hD
              have q10 : ∀ j, (bgF br bc vo kd (luS (luC nc kd un x) nc (0, li) 33).2 (beF (fun z => mnF (ebF nu nd eu cp cu cd z cc0) 2520) en ob nv) (luS (luC nc kd un x) nc (0, li) 33).1) j ≤ 2520 := bgF_le (beF_le hob hE _) _
              refine lv_aload_n hx hb d_Od_workBound_89 rfl (lv_at hl 0 rfl) ?_
              refine va_get (D := g) (ci := 5) (v := .ref (a 8)) (C := R_Od) (T := F_Od) (N := 7) hx hb hT i_Od hown hK hP 5 rfl rfl 3 (by decide) (hT _ tw_173) (fun _ h9 => h9) rfl d_Od_workBound_90 ?_
              refine lv_aload_n hx hb d_Od_workBound_93 rfl (lv_at hl 0 rfl) ?_
              refine va_get (D := g) (ci := 5) (v := .ref (a 26)) (C := R_Od) (T := F_Od) (N := 7) hx hb hT i_Od hown hK hP 5 rfl rfl 6 (by decide) (hT _ tw_178) (fun _ h9 => h9) rfl d_Od_workBound_94 ?_
              refine lv_iload_n hx hb d_Od_workBound_97 rfl (lv_at hl 1 rfl) ?_
              refine my_lald (v := (lN ((bgF br bc vo kd (luS (luC nc kd un x) nc (0, li) 33).2 (beF (fun z => mnF (ebF nu nd eu cp cu cd z cc0) 2520) en ob nv) (luS (luC nc kd un x) nc (0, li) 33).1) x))) (i := x) hx hb hK hP 26 1 rfl rfl (by omega) (by decide) rfl d_Od_workBound_98 ?_
              refine lv_ldc2 (v := (lN 2520)) hx hb hown (hT _ tw_451) d_Od_workBound_99 ?_
              refine my_V_v (q0 := 8) (ci := 7) (C := R_Fr) (As := [.long (lN ((bgF br bc vo kd (luS (luC nc kd un x) nc (0, li) 33).2 (beF (fun z => mnF (ebF nu nd eu cp cu cd z cc0) 2520) en ob nv) (luS (luC nc kd un x) nc (0, li) 33).1) x)), .long (lN 2520)]) (n := 2) (k_Fr_set8 l g a rB rT cI cJ cII cJJ nc nv ng kd vo nu nd en br bc un eu ((luS (luC nc kd un x) nc (0, li) 33).2) tb cc0 cp cu cd tc ts tf ox ow (bgF br bc vo kd (luS (luC nc kd un x) nc (0, li) 33).2 (beF (fun z => mnF (ebF nu nd eu cp cu cd z cc0) 2520) en ob nv) (luS (luC nc kd un x) nc (0, li) 33).1) ra rb gc gr gk gg gp gt sa sb ((bgF br bc vo kd (luS (luC nc kd un x) nc (0, li) 33).2 (beF (fun z => mnF (ebF nu nd eu cp cu cd z cc0) 2520) en ob nv) (luS (luC nc kd un x) nc (0, li) 33).1) x) 2520 (by have := q10 x; omega) (by decide) (by decide)) hx hb hml hown hT hN tw_433 tw_434 tw_435 tw_7 tw_436 (by decide +kernel) rfl rfl ⟨Nat.le_of_ble_eq_true rfl, Nat.le_of_ble_eq_true rfl⟩ ⟨Nat.zero_le _, Nat.zero_le _⟩ hK hP hD hS hA rfl rfl rfl hl rfl (Nat.le_of_ble_eq_true rfl) d_Od_workBound_102 (fun H locs hP hD hS => ?_)
              exact hret _ _ _ _ hP hD hS d_Od_workBound_105
            · -- 53: not taken
              have q8 := luS_in (luC nc kd un x) nc li 33 i c_53
              refine lv_aload_n hx hb d_Od_workBound_56 rfl (lv_at hl 0 rfl) ?_
              refine va_get (D := g) (ci := 5) (v := .ref (a 26)) (C := R_Od) (T := F_Od) (N := 7) hx hb hT i_Od hown hK hP 5 rfl rfl 6 (by decide) (hT _ tw_178) (fun _ h9 => h9) rfl d_Od_workBound_57 ?_
              refine lv_aload_n hx hb d_Od_workBound_60 rfl (lv_at hl 0 rfl) ?_
              refine va_get (D := g) (ci := 5) (v := .ref (a 1)) (C := R_Od) (T := F_Od) (N := 7) hx hb hT i_Od hown hK hP 5 rfl rfl 0 (by decide) (hT _ tw_170) (fun _ h9 => h9) rfl d_Od_workBound_61 ?_
              refine va_getN (D := g) (ci := 1) (v := .ref (a 18)) (C := R_No) (T := F_No) (N := 13) hx hb hT i_No hown hK hP 1 rfl rfl 12 (by decide) (va_Nw.use rfl (hN _ tw_66)) (fun _ h9 => h9) rfl d_Od_workBound_64 ?_
              refine lv_iload_n hx hb d_Od_workBound_67 rfl (lv_at hl 3 rfl) ?_
              refine my_iald (v := (nI (((luS (luC nc kd un x) nc (0, li) 33).2) i))) (i := i) hx hb hK hP 18 0 rfl rfl (by omega) (by decide) rfl d_Od_workBound_68 ?_
              refine lv_aload_n hx hb d_Od_workBound_69 rfl (lv_at hl 0 rfl) ?_
              refine lv_aload_n hx hb d_Od_workBound_70 rfl (lv_at hl 0 rfl) ?_
              refine va_get (D := g) (ci := 5) (v := .ref (a 1)) (C := R_Od) (T := F_Od) (N := 7) hx hb hT i_Od hown hK hP 5 rfl rfl 0 (by decide) (hT _ tw_170) (fun _ h9 => h9) rfl d_Od_workBound_71 ?_
              refine va_getN (D := g) (ci := 1) (v := .ref (a 18)) (C := R_No) (T := F_No) (N := 13) hx hb hT i_No hown hK hP 1 rfl rfl 12 (by decide) (va_Nw.use rfl (hN _ tw_66)) (fun _ h9 => h9) rfl d_Od_workBound_74 ?_
              refine lv_iload_n hx hb d_Od_workBound_77 rfl (lv_at hl 3 rfl) ?_
              refine my_iald (v := (nI (((luS (luC nc kd un x) nc (0, li) 33).2) i))) (i := i) hx hb hK hP 18 0 rfl rfl (by omega) (by decide) rfl d_Od_workBound_78 ?_
              refine my_V_l (q0 := 5) (ci := 5) (C := R_Od) (As := [.int (nI (((luS (luC nc kd un x) nc (0, li) 33).2) i))]) (n := 1) (k_Od_gateBound l g a rB rT cI cJ cII cJJ nc nv ng kd vo nu nd en br bc un eu ((luS (luC nc kd un x) nc (0, li) 33).2) tb cc0 cp cu cd tc ts tf ox ow b1 ra rb gc gr gk gg gp gt sa sb (((luS (luC nc kd un x) nc (0, li) 33).2) i) (by omega) hbc hbr hvo hb1) hx hb hml hown hT hN tw_456 tw_458 tp_12 tw_6 tw_459 (by decide +kernel) rfl rfl ⟨Nat.le_of_ble_eq_true rfl, Nat.le_of_ble_eq_true rfl⟩ ⟨Nat.zero_le _, Nat.zero_le _⟩ hK hP hD hS hA rfl rfl rfl hl rfl (Nat.le_of_ble_eq_true rfl) d_Od_workBound_79 (fun H locs hP hD hS => ?_)
              refine my_last (i := ((luS (luC nc kd un x) nc (0, li) 33).2) i) hx hb hK hP hD hS 26 1 rfl rfl (by omega) (by decide) (my_upL _ _ _) (w' := (stW a rB rT cI cJ cII cJJ nc nv ng kd vo nu nd en br bc un eu ((luS (luC nc kd un x) nc (0, li) 33).2) tb cc0 cp cu cd tc ts tf ox ow (va_up b1 (((luS (luC nc kd un x) nc (0, li) 33).2) i) (gbF b1 br bc vo kd (((luS (luC nc kd un x) nc (0, li) 33).2) i))) ra rb gc gr gk gg gp gt sa sb)) rfl d_Od_workBound_82 (fun H locs hP hD hS => ?_)
              refine lv_iinc (v := (nI (i + 1))) (lv' := [(3, .int (nI (i + 1))), (0, .ref (a 5)), (1, .int (nI x)), (2, .int (nI ((luS (luC nc kd un x) nc (0, li) 33).1)))]) hx hb d_Od_workBound_83 hl (k := 3) rfl (nI_1 i) (by decide) rfl (fun ls hl => ?_)
              refine lv_goto (tgt := 51) hx hb d_Od_workBound_86 (by decide) ?_
              refine ih_51 _ _ _ _ _ ?_ ?_ ?_ ?_ hP hD hS (lv_sub hl [1, 2, 3, 0] rfl)
              · omega
              · omega
              · rw [hf2]; exact bgF_le (beF_le hob hE _) (i + 1)
              · rw [hf2]; rfl
        refine lp_51 ((luS (luC nc kd un x) nc (0, li) 33).1 + 1) _ _ _ _ _ ?_ ?_ ?_ ?_ hP hD hS (lv_sub hl [2, 3, 1, 0] rfl)
        · omega
        · omega
        · rw [hf]; exact beF_le hob hE _
        · rw [hf, show i = nv by omega]; rfl
      · -- 10: not taken
        refine lv_aload_n hx hb d_Od_workBound_13 rfl (lv_at hl 0 rfl) ?_
        refine va_get (D := g) (ci := 5) (v := .ref (a 1)) (C := R_Od) (T := F_Od) (N := 7) hx hb hT i_Od hown hK hP 5 rfl rfl 0 (by decide) (hT _ tw_170) (fun _ h9 => h9) rfl d_Od_workBound_14 ?_
        refine va_getN (D := g) (ci := 1) (v := .ref (a 13)) (C := R_No) (T := F_No) (N := 13) hx hb hT i_No hown hK hP 1 rfl rfl 7 (by decide) (va_Nw.use rfl (hN _ tw_50)) (fun _ h9 => h9) rfl d_Od_workBound_17 ?_
        refine lv_iload_n hx hb d_Od_workBound_20 rfl (lv_at hl 2 rfl) ?_
        have q7 := hen i
        refine my_iald (v := (nI (en i))) (i := i) hx hb hK hP 13 0 rfl rfl (by omega) (by decide) rfl d_Od_workBound_21 ?_
        refine lv_istore_n (lv' := [(3, .int (nI (en i))), (0, .ref (a 5)), (1, .int (nI x)), (2, .int (nI i))]) hx hb d_Od_workBound_22 rfl hl (by decide) rfl (fun ls hl => ?_)
        refine lv_aload_n hx hb d_Od_workBound_23 rfl (lv_at hl 1 rfl) ?_
        refine va_get (D := g) (ci := 5) (v := .ref (a 26)) (C := R_Od) (T := F_Od) (N := 7) hx hb hT i_Od hown hK hP 5 rfl rfl 6 (by decide) (hT _ tw_178) (fun _ h9 => h9) rfl d_Od_workBound_24 ?_
        refine lv_iload_n hx hb d_Od_workBound_27 rfl (lv_at hl 0 rfl) ?_
        refine lv_aload_n hx hb d_Od_workBound_28 rfl (lv_at hl 1 rfl) ?_
        refine lv_iload_n hx hb d_Od_workBound_29 rfl (lv_at hl 0 rfl) ?_
        refine my_V_l (q0 := 5) (ci := 5) (C := R_Od) (As := [.int (nI (en i))]) (n := 1) (k_Od_eventBound l g a rB rT cI cJ cII cJJ nc nv ng kd vo nu nd en br bc un eu li tb cc0 cp cu cd tc ts tf ox ow b1 ra rb gc gr gk gg gp gt sa sb (en i) q7 hcc hcp hnu hnd hcu hcd) hx hb hml hown hT hN tw_444 tw_446 tp_11 tw_6 tw_447 (by decide +kernel) rfl rfl ⟨Nat.le_of_ble_eq_true rfl, Nat.le_of_ble_eq_true rfl⟩ ⟨Nat.zero_le _, Nat.zero_le _⟩ hK hP hD hS hA rfl rfl rfl hl rfl (Nat.le_of_ble_eq_true rfl) d_Od_workBound_30 (fun H locs hP hD hS => ?_)
        refine my_last (i := en i) hx hb hK hP hD hS 26 1 rfl rfl (by omega) (by decide) (my_upL _ _ _) (w' := (stW a rB rT cI cJ cII cJJ nc nv ng kd vo nu nd en br bc un eu li tb cc0 cp cu cd tc ts tf ox ow (va_up b1 (en i) (mnF (ebF nu nd eu cp cu cd (en i) cc0) 2520)) ra rb gc gr gk gg gp gt sa sb)) rfl d_Od_workBound_33 (fun H locs hP hD hS => ?_)
        refine lv_iinc (v := (nI (i + 1))) (lv' := [(2, .int (nI (i + 1))), (3, .int (nI (en i))), (0, .ref (a 5)), (1, .int (nI x))]) hx hb d_Od_workBound_34 hl (k := 3) rfl (nI_1 i) (by decide) rfl (fun ls hl => ?_)
        refine lv_goto (tgt := 2) hx hb d_Od_workBound_37 (by decide) ?_
        refine ih_2 _ _ _ _ _ ?_ ?_ ?_ hP hD hS (lv_sub hl [2, 3, 0] rfl)
        · omega
        · omega
        · rw [hf]; rfl
  refine lp_2 (nv + 1) _ _ _ _ _ ?_ ?_ ?_ hP hD hS (lv_sub hl [1, 2, 0] rfl)
  · omega
  · omega
  · rfl
end
section
set_option maxHeartbeats 4000000 in
set_option maxRecDepth 100000 in
theorem k_Od_work (l : Launch) (g : va_G) (a rB rT : Nat → Nat) (cI cJ cII cJJ : ClassId) (nc : Nat) (nv : Nat) (ng : Nat) (kd : Nat → Int32) (vo : Nat → Nat) (nu : Nat → Nat) (nd : Nat → Nat) (en : Nat → Nat) (br : Nat → Nat → Nat) (bc : Nat → Nat) (un : Nat → Nat) (eu : Nat → Nat) (li : Nat → Nat) (tb : Nat → Nat → Int64) (cc0 : Nat) (cp : Nat → Nat) (cu : Nat → Nat) (cd : Nat → Nat) (tc : Nat) (ts : Nat → Nat) (tf : Nat → Nat) (ox : Bool) (ow : Nat → Nat) (ob : Nat → Nat) (ra : Nat) (rb : Nat) (gc : Nat) (gr : Nat) (gk : Nat → Nat) (gg : Nat → Nat) (gp : Nat → Nat) (gt : Nat → Nat) (sa : Nat) (sb : Nat) (x : Nat) (hx1 : x ≤ 32) (hnc : nc ≤ 32) (hun : ∀ j, un j < 2 ^ 33) (heu : ∀ j, eu j < 2 ^ 12) (hbc : ∀ j, bc j ≤ 10) (hbr : ∀ j i, br j i ≤ 32) (hvo : ∀ j, vo j ≤ 10) (hcc : cc0 ≤ 4) (hnv : nv ≤ 12) (hcp : ∀ j, cp j < 4096) (hcud : ∀ j, cu j ≤ cd j) (hen : ∀ j, en j ≤ 32) (hnud : ∀ j, nu j ≤ nd j) (hnd : ∀ j, nd j ≤ 10) (hcd : ∀ j, cd j ≤ 10) (hob : ∀ j, ob j ≤ 2520) (hlim : popc (eu x) 12 + cT cp (eu x) cc0 ≤ 14 → (evF (eu x) en eu nu nd (ceF (eu x) cp cu cd (wsF (fsF tb br kd vo bc (luS (luC nc kd un x) nc (0, li) 33).2 (eu x / 2 ^ 6) (luS (luC nc kd un x) nc (0, li) 33).1) x (eu x) ow (2 ^ popc (eu x) 12)) cc0) nv).1 0 < 2 ^ 62 ∧ (evF (eu x) en eu nu nd (ceF (eu x) cp cu cd (wsF (fsF tb br kd vo bc (luS (luC nc kd un x) nc (0, li) 33).2 (eu x / 2 ^ 6) (luS (luC nc kd un x) nc (0, li) 33).1) x (eu x) ow (2 ^ popc (eu x) 12)) cc0) nv).2.1 < 2 ^ 62 ∧ 0 < (evF (eu x) en eu nu nd (ceF (eu x) cp cu cd (wsF (fsF tb br kd vo bc (luS (luC nc kd un x) nc (0, li) 33).2 (eu x / 2 ^ 6) (luS (luC nc kd un x) nc (0, li) 33).1) x (eu x) ow (2 ^ popc (eu x) 12)) cc0) nv).2.1) : ct_v l g vwCl (tyS cI cJ cII cJJ) y_Od_work c_Od_work 3 none ({ frames := 6, cells := 0, slots := 0, locals := 160 } : Room) [.ref (a 5), .int (nI x)] (stW a rB rT cI cJ cII cJJ nc nv ng kd vo nu nd en br bc un eu li tb cc0 cp cu cd tc ts tf ox ow ob ra rb gc gr gk gg gp gt sa sb) (if popc (eu x) 12 + cT cp (eu x) cc0 ≤ 14 then (stW a rB rT cI cJ cII cJJ nc nv ng kd vo nu nd en br bc un eu ((luS (luC nc kd un x) nc (0, li) 33).2) (fsF tb br kd vo bc (luS (luC nc kd un x) nc (0, li) 33).2 (eu x / 2 ^ 6) (luS (luC nc kd un x) nc (0, li) 33).1) cc0 cp cu cd tc ts tf true ((evF (eu x) en eu nu nd (ceF (eu x) cp cu cd (wsF (fsF tb br kd vo bc (luS (luC nc kd un x) nc (0, li) 33).2 (eu x / 2 ^ 6) (luS (luC nc kd un x) nc (0, li) 33).1) x (eu x) ow (2 ^ popc (eu x) 12)) cc0) nv).1) ob ((evF (eu x) en eu nu nd (ceF (eu x) cp cu cd (wsF (fsF tb br kd vo bc (luS (luC nc kd un x) nc (0, li) 33).2 (eu x / 2 ^ 6) (luS (luC nc kd un x) nc (0, li) 33).1) x (eu x) ow (2 ^ popc (eu x) 12)) cc0) nv).1 0 / cdF 100 ((evF (eu x) en eu nu nd (ceF (eu x) cp cu cd (wsF (fsF tb br kd vo bc (luS (luC nc kd un x) nc (0, li) 33).2 (eu x / 2 ^ 6) (luS (luC nc kd un x) nc (0, li) 33).1) x (eu x) ow (2 ^ popc (eu x) 12)) cc0) nv).1 0) (evF (eu x) en eu nu nd (ceF (eu x) cp cu cd (wsF (fsF tb br kd vo bc (luS (luC nc kd un x) nc (0, li) 33).2 (eu x / 2 ^ 6) (luS (luC nc kd un x) nc (0, li) 33).1) x (eu x) ow (2 ^ popc (eu x) 12)) cc0) nv).2.1) ((evF (eu x) en eu nu nd (ceF (eu x) cp cu cd (wsF (fsF tb br kd vo bc (luS (luC nc kd un x) nc (0, li) 33).2 (eu x / 2 ^ 6) (luS (luC nc kd un x) nc (0, li) 33).1) x (eu x) ow (2 ^ popc (eu x) 12)) cc0) nv).2.1 / cdF 100 ((evF (eu x) en eu nu nd (ceF (eu x) cp cu cd (wsF (fsF tb br kd vo bc (luS (luC nc kd un x) nc (0, li) 33).2 (eu x / 2 ^ 6) (luS (luC nc kd un x) nc (0, li) 33).1) x (eu x) ow (2 ^ popc (eu x) 12)) cc0) nv).1 0) (evF (eu x) en eu nu nd (ceF (eu x) cp cu cd (wsF (fsF tb br kd vo bc (luS (luC nc kd un x) nc (0, li) 33).2 (eu x / 2 ^ 6) (luS (luC nc kd un x) nc (0, li) 33).1) x (eu x) ow (2 ^ popc (eu x) 12)) cc0) nv).2.1) gc gr gk gg gp gt sa sb) else (stW a rB rT cI cJ cII cJJ nc nv ng kd vo nu nd en br bc un eu ((luS (luC nc kd un x) nc (0, li) 33).2) tb cc0 cp cu cd tc ts tf false ow (bgF br bc vo kd (luS (luC nc kd un x) nc (0, li) 33).2 (beF (fun z => mnF (ebF nu nd eu cp cu cd z cc0) 2520) en ob nv) (luS (luC nc kd un x) nc (0, li) 33).1) ((bgF br bc vo kd (luS (luC nc kd un x) nc (0, li) 33).2 (beF (fun z => mnF (ebF nu nd eu cp cu cd z cc0) 2520) en ob nv) (luS (luC nc kd un x) nc (0, li) 33).1) x / cdF 100 ((bgF br bc vo kd (luS (luC nc kd un x) nc (0, li) 33).2 (beF (fun z => mnF (ebF nu nd eu cp cu cd z cc0) 2520) en ob nv) (luS (luC nc kd un x) nc (0, li) 33).1) x) 2520) (2520 / cdF 100 ((bgF br bc vo kd (luS (luC nc kd un x) nc (0, li) 33).2 (beF (fun z => mnF (ebF nu nd eu cp cu cd z cc0) 2520) en ob nv) (luS (luC nc kd un x) nc (0, li) 33).1) x) 2520) gc gr gk gg gp gt sa sb)) := by
  refine ct_v.intro (by decide) (Nat.le_of_ble_eq_true rfl) ?_
  intro p e s m args below meth c Q A ls hx hb hml hT hown hA hK hN hret hP hD hS hl
  have hown : s.vm.findClass R_Od = some m.cls := hown
  have hl : lv_has ls 3 [(0, .ref (a 5)), (1, .int (nI x))] := hl
  have q1 := popc_le (eu x) 12
  have q2 := cT_le cp (eu x) cc0
  have hnu : ∀ j, nu j ≤ 10 := fun j => Nat.le_trans (hnud j) (hnd j)
  have hcu : ∀ j, cu j ≤ 10 := fun j => Nat.le_trans (hcud j) (hcd j)
  refine lv_aload_n hx hb d_Od_work_0 rfl (lv_at hl 0 rfl) ?_
  refine va_get (D := g) (ci := 5) (v := .ref (a 1)) (C := R_Od) (T := F_Od) (N := 7) hx hb hT i_Od hown hK hP 5 rfl rfl 0 (by decide) (hT _ tw_170) (fun _ h9 => h9) rfl d_Od_work_1 ?_
  refine va_getN (D := g) (ci := 1) (v := .ref (a 17)) (C := R_No) (T := F_No) (N := 13) hx hb hT i_No hown hK hP 1 rfl rfl 11 (by decide) (va_Nw.use rfl (hN _ tw_62)) (fun _ h9 => h9) rfl d_Od_work_4 ?_
  refine lv_iload_n hx hb d_Od_work_7 rfl (lv_at hl 1 rfl) ?_
  refine my_iald (v := (nI (eu x))) (i := x) hx hb hK hP 17 0 rfl rfl (by omega) (by decide) rfl d_Od_work_8 ?_
  refine lv_istore_n (lv' := [(2, .int (nI (eu x))), (0, .ref (a 5)), (1, .int (nI x))]) hx hb d_Od_work_9 rfl hl (by decide) rfl (fun ls hl => ?_)
  refine lv_aload_n hx hb d_Od_work_10 rfl (lv_at hl 1 rfl) ?_
  refine lv_iload_n hx hb d_Od_work_11 rfl (lv_at hl 0 rfl) ?_
  refine my_S_i (As := [.int (nI (eu x))]) (n := 1) (k_Ji_bitCount l g vwCl (tyS cI cJ cII cJJ) (stW a rB rT cI cJ cII cJJ nc nv ng kd vo nu nd en br bc un eu li tb cc0 cp cu cd tc ts tf ox ow ob ra rb gc gr gk gg gp gt sa sb) (eu x) (heu x)) hx hb hml hown hT hN tw_405 tw_318 tw_10 tw_319 (by decide +kernel) rfl rfl ⟨Nat.le_of_ble_eq_true rfl, Nat.le_of_ble_eq_true rfl⟩ ⟨Nat.zero_le _, Nat.zero_le _⟩ hK hP hD hS hA rfl hl rfl (Nat.le_of_ble_eq_true rfl) d_Od_work_12 (fun H locs hP hD hS => ?_)
  refine lv_aload_n hx hb d_Od_work_15 rfl (lv_at hl 1 rfl) ?_
  refine va_get (D := g) (ci := 5) (v := .ref (a 3)) (C := R_Od) (T := F_Od) (N := 7) hx hb hT i_Od hown hK hP 5 rfl rfl 2 (by decide) (hT _ tw_172) (fun _ h9 => h9) rfl d_Od_work_16 ?_
  refine lv_iload_n hx hb d_Od_work_19 rfl (lv_at hl 0 rfl) ?_
  refine my_V_i (q0 := 3) (ci := 3) (C := R_Ca) (As := [.int (nI (eu x))]) (n := 1) (k_Ca_countTouching l g a rB rT cI cJ cII cJJ nc nv ng kd vo nu nd en br bc un eu li tb cc0 cp cu cd tc ts tf ox ow ob ra rb gc gr gk gg gp gt sa sb (eu x) hcc hcp) hx hb hml hown hT hN tw_406 tw_407 tw_408 tw_4 tw_409 (by decide +kernel) rfl rfl ⟨Nat.le_of_ble_eq_true rfl, Nat.le_of_ble_eq_true rfl⟩ ⟨Nat.zero_le _, Nat.zero_le _⟩ hK hP hD hS hA rfl rfl rfl hl rfl (Nat.le_of_ble_eq_true rfl) d_Od_work_20 (fun H locs hP hD hS => ?_)
  refine lv_iadd hx hb d_Od_work_23 ?_
  refine my_ei (nI_add (popc (eu x) 12) (cT cp (eu x) cc0)) ?_
  refine lv_bipush (v := (nI 14)) hx hb d_Od_work_24 (by decide) ?_
  refine my_icmp_gt (tgt := 33) (a := (popc (eu x) 12) + (cT cp (eu x) cc0)) (b := 14) hx hb d_Od_work_26 (by decide) (by omega) (by omega) (fun c_26 => ?_) (fun c_26 => ?_)
  · -- 26: taken
    refine lv_iconst (v := (nI 0)) hx hb d_Od_work_33 (by decide) ?_
    refine va_put (D := g) (ci := 5) (v := .int (b2 false)) (ty := .boolean) (C := R_Od) (T := F_Od) (N := 7) hx hb hT i_Od t_Od t_Od_ok n_Od hown hK hP hD hS 5 rfl rfl 4 (by decide) (hT _ tw_175) (fun _ h9 => h9) rfl (by decide +kernel) rfl rfl (Nat.le_of_ble_eq_true rfl) d_Od_work_34 (fun H locs hP hD hS => ?_)
    have hP : va_P g vwCl (stW a rB rT cI cJ cII cJJ nc nv ng kd vo nu nd en br bc un eu li tb cc0 cp cu cd tc ts tf false ow ob ra rb gc gr gk gg gp gt sa sb) H := hP
    have hD : va_D A (stW a rB rT cI cJ cII cJJ nc nv ng kd vo nu nd en br bc un eu li tb cc0 cp cu cd tc ts tf false ow ob ra rb gc gr gk gg gp gt sa sb) := hD
    refine lv_aload_n hx hb d_Od_work_37 rfl (lv_at hl 1 rfl) ?_
    refine va_get (D := g) (ci := 5) (v := .int (b2 false)) (C := R_Od) (T := F_Od) (N := 7) hx hb hT i_Od hown hK hP 5 rfl rfl 4 (by decide) (hT _ tw_175) (fun _ h9 => h9) rfl d_Od_work_38 ?_
    refine my_if_eq_b (tgt := 53) hx hb d_Od_work_41 (by decide) (fun _ => ?_) (fun q => absurd q (by decide))
    refine lv_aload_n hx hb d_Od_work_53 rfl (lv_at hl 1 rfl) ?_
    refine lv_iload_n hx hb d_Od_work_54 rfl (lv_at hl 2 rfl) ?_
    refine my_V_v (q0 := 5) (ci := 5) (C := R_Od) (As := [.int (nI x)]) (n := 1) (k_Od_workBound l g a rB rT cI cJ cII cJJ nc nv ng kd vo nu nd en br bc un eu li tb cc0 cp cu cd tc ts tf false ow ob ra rb gc gr gk gg gp gt sa sb x hx1 hnc hun hbc hbr hvo hcc hnv hcp hen hnu hnd hcu hcd hob) hx hb hml hown hT hN tw_440 tw_442 tp_10 tw_6 tw_443 (by decide +kernel) rfl rfl ⟨Nat.le_of_ble_eq_true rfl, Nat.le_of_ble_eq_true rfl⟩ ⟨Nat.zero_le _, Nat.zero_le _⟩ hK hP hD hS hA rfl rfl rfl hl rfl (Nat.le_of_ble_eq_true rfl) d_Od_work_55 (fun H locs hP hD hS => ?_)
    exact hret _ _ _ _ (by rw [if_neg (show ¬ (popc (eu x) 12 + cT cp (eu x) cc0 ≤ 14) by omega)]; exact hP) (by rw [if_neg (show ¬ (popc (eu x) 12 + cT cp (eu x) cc0 ≤ 14) by omega)]; exact hD) hS d_Od_work_58
  · -- 26: not taken
    refine lv_iconst (v := (nI 1)) hx hb d_Od_work_29 (by decide) ?_
    refine lv_goto (tgt := 34) hx hb d_Od_work_30 (by decide) ?_
    refine va_put (D := g) (ci := 5) (v := .int (b2 true)) (ty := .boolean) (C := R_Od) (T := F_Od) (N := 7) hx hb hT i_Od t_Od t_Od_ok n_Od hown hK hP hD hS 5 rfl rfl 4 (by decide) (hT _ tw_175) (fun _ h9 => h9) rfl (by decide +kernel) rfl rfl (Nat.le_of_ble_eq_true rfl) d_Od_work_34 (fun H locs hP hD hS => ?_)
    have hP : va_P g vwCl (stW a rB rT cI cJ cII cJJ nc nv ng kd vo nu nd en br bc un eu li tb cc0 cp cu cd tc ts tf true ow ob ra rb gc gr gk gg gp gt sa sb) H := hP
    have hD : va_D A (stW a rB rT cI cJ cII cJJ nc nv ng kd vo nu nd en br bc un eu li tb cc0 cp cu cd tc ts tf true ow ob ra rb gc gr gk gg gp gt sa sb) := hD
    refine lv_aload_n hx hb d_Od_work_37 rfl (lv_at hl 1 rfl) ?_
    refine va_get (D := g) (ci := 5) (v := .int (b2 true)) (C := R_Od) (T := F_Od) (N := 7) hx hb hT i_Od hown hK hP 5 rfl rfl 4 (by decide) (hT _ tw_175) (fun _ h9 => h9) rfl d_Od_work_38 ?_
    refine my_if_eq_b (tgt := 53) hx hb d_Od_work_41 (by decide) (fun q => absurd q (by decide)) (fun _ => ?_)
    refine lv_aload_n hx hb d_Od_work_44 rfl (lv_at hl 1 rfl) ?_
    refine lv_iload_n hx hb d_Od_work_45 rfl (lv_at hl 2 rfl) ?_
    refine lv_iload_n hx hb d_Od_work_46 rfl (lv_at hl 0 rfl) ?_
    refine my_V_v (q0 := 5) (ci := 5) (C := R_Od) (As := [.int (nI x), .int (nI (eu x))]) (n := 2) (k_Od_workExactly l g a rB rT cI cJ cII cJJ nc nv ng kd vo nu nd en br bc un eu li tb cc0 cp cu cd tc ts tf true ow ob ra rb gc gr gk gg gp gt sa sb x (eu x) hx1 hnc hun heu hbc hbr hvo (heu x) hcc hnv hcp hcud hen hnud (hlim (by omega))) hx hb hml hown hT hN tw_414 tw_416 tp_7 tw_6 tw_417 (by decide +kernel) rfl rfl ⟨Nat.le_of_ble_eq_true rfl, Nat.le_of_ble_eq_true rfl⟩ ⟨Nat.zero_le _, Nat.zero_le _⟩ hK hP hD hS hA rfl rfl rfl hl rfl (Nat.le_of_ble_eq_true rfl) d_Od_work_47 (fun H locs hP hD hS => ?_)
    refine lv_goto (tgt := 58) hx hb d_Od_work_50 (by decide) ?_
    exact hret _ _ _ _ (by rw [if_pos (show popc (eu x) 12 + cT cp (eu x) cc0 ≤ 14 by omega)]; exact hP) (by rw [if_pos (show popc (eu x) 12 + cT cp (eu x) cc0 ≤ 14 by omega)]; exact hD) hS d_Od_work_58
end
section
theorem isG_nat {nc : Nat} {kd : Nat → Int32} {x : Int32} (hnc : nc ≤ 32) (h : isG nc kd x = true) : ∃ k : Nat, 1 ≤ k ∧ k ≤ nc ∧ x = nI k := by
  simp only [isG, Bool.and_eq_true] at h
  exact isN_nat hnc h.1
theorem isE_nat {nc : Nat} {kd : Nat → Int32} {x : Int32} (hnc : nc ≤ 32) (h : isE nc kd x = true) : ∃ k : Nat, 1 ≤ k ∧ k ≤ nc ∧ x = nI k := by
  simp only [isE, Bool.and_eq_true] at h
  exact isN_nat hnc h.1
theorem isW_nat {a b : Nat} {x : Int32} (ha : a < 2 ^ 31) (hb : b < 2 ^ 31) (h : isW x (nI a) (nI b) = true) : ∃ k : Nat, a ≤ k ∧ k ≤ b ∧ x = nI k := by
  simp only [isW, Bool.and_eq_true, decide_eq_true_eq] at h
  obtain ⟨h1, h2⟩ := h
  have h0 : ¬ x < 0 := fun q => h1 (by
    rw [Int32.lt_iff_toInt_lt] at q ⊢
    rw [nI_toInt ha]
    rw [Int32.toInt_zero] at q
    omega)
  obtain ⟨j, hj, rfl⟩ := nI_of h0
  rw [nI_ltI hj ha] at h1
  rw [nI_ltI hb hj] at h2
  exact ⟨j, by omega, by omega, rfl⟩
def lnat (x : Int64) : Nat := x.toInt.toNat
theorem lnat_lN {n : Nat} (h : n < 2 ^ 63) : lnat (lN n) = n := by
  unfold lnat
  rw [pk_lT h]
  rfl
theorem isD_nat {d : Int64} (h : isD d = true) : ∃ k : Nat, 1 ≤ k ∧ k ≤ 10 ∧ d = lN k := by
  simp only [isD, Bool.and_eq_true, decide_eq_true_eq] at h
  obtain ⟨h1, h2⟩ := h
  have h0 : ¬ d < 0 := fun q => h1 (by
    rw [Int64.lt_iff_toInt_lt] at q ⊢
    rw [pk_lT (by decide)]
    rw [Int64.toInt_zero] at q
    omega)
  obtain ⟨k, hk, rfl⟩ := pk_lOf h0
  rw [pk_lLT hk (by decide)] at h1
  rw [pk_lLT (by decide) hk] at h2
  exact ⟨k, by omega, by omega, rfl⟩
theorem u_nat {u : Int64} {d : Nat} (h0 : ¬ u < lN 0) (h : u ≤ lN d) (hd : d < 2 ^ 63) : ∃ k : Nat, k ≤ d ∧ u = lN k := by
  obtain ⟨k, hk, rfl⟩ := pk_lOf (show ¬ u < 0 from h0)
  rw [pk_lLE hk hd] at h
  exact ⟨k, h, rfl⟩
theorem isK_nat {k n : Int32} (h : isK k n = true) : ∃ j : Nat, j ≤ 10 ∧ n = nI j := by
  unfold isK at h
  by_cases c : k = nI 2
  · rw [if_pos c] at h
    obtain ⟨j, h1, h2, h3⟩ := isW_nat (by decide) (by decide) h
    exact ⟨j, h2, h3⟩
  · rw [if_neg c] at h
    simp only [Bool.and_eq_true, decide_eq_true_eq] at h
    exact ⟨0, by omega, h.2⟩
def grR (a b c : Int32) : Int32 := if isW a (nI 0) (nI 3) = false ∨ isW b (nI 0) (nI 4) = false ∨ isW c (nI 0) (nI 3) = false then -2 else if a = 0 ∨ b = 0 ∨ c = 0 ∨ ¬ nI 7 ≤ a + b + c then 0 else a + b + c - nI 6
def goR (gc : Nat) (x : Int32) : Int32 := if isW x (nI 0) (nI 4) = false then -2 else if 30 ≤ gc then -4 else nI (gc + 1)
def trR (gc : Nat) (gg gp gt : Nat → Nat) (gr : Nat) (x y z : Int32) : Int32 := if isW x (nI 1) (nI gc) = false then -1 else if isW y (nI 1) (nI 50) = false ∨ isW z (nI 0) (nI 50) = false then -2 else if hR gg gp gt x.toNatClampNeg y.toNatClampNeg z.toNatClampNeg gr = true then -3 else if 100 ≤ gr then -4 else nI (gr + 1)
def gaR (nc ng : Nat) (k n : Int32) : Int32 := if isK k n = false then -2 else if 20 ≤ ng then -4 else nI (nc + 1)
def ctR (en : Nat → Nat) (e : Int32) : Int32 := if e < 0 ∨ nI 12 ≤ e then 0 else nI (en e.toNatClampNeg)
def coR (nc : Nat) (kd : Nat → Int32) (cc0 : Nat) (x y : Int32) (u d : Int64) : Int32 := if isE nc kd x = false ∨ isE nc kd y = false then -1 else if x = y ∨ isD d = false ∨ u < lN 0 ∨ ¬ u ≤ d then -2 else if 4 ≤ cc0 then -4 else nI (cc0 + 1)
def beR (nc : Nat) (kd : Nat → Int32) (br : Nat → Nat → Nat) (bc un : Nat → Nat) (x y : Int32) : Int32 := if isG nc kd x = false ∨ isN nc y = false then -1 else if iB br x.toNatClampNeg y.toNatClampNeg (bc x.toNatClampNeg) = true then -3 else if 10 ≤ bc x.toNatClampNeg then -4 else if y.toNatClampNeg = x.toNatClampNeg ∨ (un y.toNatClampNeg).testBit x.toNatClampNeg = true then 0 else 1
set_option maxHeartbeats 4000000 in
set_option maxRecDepth 100000 in
theorem k_Ca_add (l : Launch) (g : va_G) (a rB rT : Nat → Nat) (cI cJ cII cJJ : ClassId) (nc : Nat) (nv : Nat) (ng : Nat) (kd : Nat → Int32) (vo : Nat → Nat) (nu : Nat → Nat) (nd : Nat → Nat) (en : Nat → Nat) (br : Nat → Nat → Nat) (bc : Nat → Nat) (un : Nat → Nat) (eu : Nat → Nat) (li : Nat → Nat) (tb : Nat → Nat → Int64) (cc0 : Nat) (cp : Nat → Nat) (cu : Nat → Nat) (cd : Nat → Nat) (tc : Nat) (ts : Nat → Nat) (tf : Nat → Nat) (ox : Bool) (ow : Nat → Nat) (ob : Nat → Nat) (ra : Nat) (rb : Nat) (gc : Nat) (gr : Nat) (gk : Nat → Nat) (gg : Nat → Nat) (gp : Nat → Nat) (gt : Nat → Nat) (sa : Nat) (sb : Nat) (x : Nat) (u : Nat) (d : Nat) (hc : cc0 < 4) : ct_i l g vwCl (tyS cI cJ cII cJJ) y_Ca_add c_Ca_add 6 (some .int) ({ frames := 0, cells := 0, slots := 0, locals := 0 } : Room) [.ref (a 3), .int (nI x), .long (lN u), .long (lN d)] (stW a rB rT cI cJ cII cJJ nc nv ng kd vo nu nd en br bc un eu li tb cc0 cp cu cd tc ts tf ox ow ob ra rb gc gr gk gg gp gt sa sb) (stW a rB rT cI cJ cII cJJ nc nv ng kd vo nu nd en br bc un eu li tb (cc0 + 1) (va_up cp cc0 x) (va_up cu cc0 u) (va_up cd cc0 d) tc ts tf ox ow ob ra rb gc gr gk gg gp gt sa sb) (nI (cc0 + 1)) := by
  refine ct_i.intro (by decide) (Nat.le_of_ble_eq_true rfl) ?_
  intro p e s m args below meth c Q A ls hx hb hml hT hown hA hK hN hret hP hD hS hl
  have hown : s.vm.findClass R_Ca = some m.cls := hown
  have hl : lv_has ls 6 [(0, .ref (a 3)), (1, .int (nI x)), (2, .long (lN u)), (4, .long (lN d))] := hl
  refine lv_aload_n hx hb d_Ca_add_0 rfl (lv_at hl 0 rfl) ?_
  refine va_get (D := g) (ci := 3) (v := .ref (a 20)) (C := R_Ca) (T := F_Ca) (N := 4) hx hb hT i_Ca hown hK hP 3 rfl rfl 1 (by decide) (hT _ tw_120) (fun _ h9 => h9) rfl d_Ca_add_1 ?_
  refine lv_aload_n hx hb d_Ca_add_4 rfl (lv_at hl 0 rfl) ?_
  refine va_get (D := g) (ci := 3) (v := .int (nI cc0)) (C := R_Ca) (T := F_Ca) (N := 4) hx hb hT i_Ca hown hK hP 3 rfl rfl 0 (by decide) (hT _ tw_117) (fun _ h9 => h9) rfl d_Ca_add_5 ?_
  refine lv_iload_n hx hb d_Ca_add_8 rfl (lv_at hl 1 rfl) ?_
  refine my_iast (i := cc0) hx hb hK hP hD hS 20 0 rfl rfl (by omega) (by decide) (my_upN _ _ _) (w' := (stW a rB rT cI cJ cII cJJ nc nv ng kd vo nu nd en br bc un eu li tb cc0 (va_up cp cc0 x) cu cd tc ts tf ox ow ob ra rb gc gr gk gg gp gt sa sb)) rfl d_Ca_add_9 (fun H locs hP hD hS => ?_)
  refine lv_aload_n hx hb d_Ca_add_10 rfl (lv_at hl 0 rfl) ?_
  refine va_get (D := g) (ci := 3) (v := .ref (a 21)) (C := R_Ca) (T := F_Ca) (N := 4) hx hb hT i_Ca hown hK hP 3 rfl rfl 2 (by decide) (hT _ tw_122) (fun _ h9 => h9) rfl d_Ca_add_11 ?_
  refine lv_aload_n hx hb d_Ca_add_14 rfl (lv_at hl 0 rfl) ?_
  refine va_get (D := g) (ci := 3) (v := .int (nI cc0)) (C := R_Ca) (T := F_Ca) (N := 4) hx hb hT i_Ca hown hK hP 3 rfl rfl 0 (by decide) (hT _ tw_117) (fun _ h9 => h9) rfl d_Ca_add_15 ?_
  refine lv_lload_n hx hb d_Ca_add_18 rfl (lv_at hl 2 rfl) ?_
  refine my_last (i := cc0) hx hb hK hP hD hS 21 1 rfl rfl (by omega) (by decide) (my_upL _ _ _) (w' := (stW a rB rT cI cJ cII cJJ nc nv ng kd vo nu nd en br bc un eu li tb cc0 (va_up cp cc0 x) (va_up cu cc0 u) cd tc ts tf ox ow ob ra rb gc gr gk gg gp gt sa sb)) rfl d_Ca_add_19 (fun H locs hP hD hS => ?_)
  refine lv_aload_n hx hb d_Ca_add_20 rfl (lv_at hl 0 rfl) ?_
  refine va_get (D := g) (ci := 3) (v := .ref (a 22)) (C := R_Ca) (T := F_Ca) (N := 4) hx hb hT i_Ca hown hK hP 3 rfl rfl 3 (by decide) (hT _ tw_124) (fun _ h9 => h9) rfl d_Ca_add_21 ?_
  refine lv_aload_n hx hb d_Ca_add_24 rfl (lv_at hl 0 rfl) ?_
  refine va_get (D := g) (ci := 3) (v := .int (nI cc0)) (C := R_Ca) (T := F_Ca) (N := 4) hx hb hT i_Ca hown hK hP 3 rfl rfl 0 (by decide) (hT _ tw_117) (fun _ h9 => h9) rfl d_Ca_add_25 ?_
  refine lv_lload hx hb d_Ca_add_28 (lv_at hl 3 rfl) ?_
  refine my_last (i := cc0) hx hb hK hP hD hS 22 1 rfl rfl (by omega) (by decide) (my_upL _ _ _) (w' := (stW a rB rT cI cJ cII cJJ nc nv ng kd vo nu nd en br bc un eu li tb cc0 (va_up cp cc0 x) (va_up cu cc0 u) (va_up cd cc0 d) tc ts tf ox ow ob ra rb gc gr gk gg gp gt sa sb)) rfl d_Ca_add_30 (fun H locs hP hD hS => ?_)
  refine lv_aload_n hx hb d_Ca_add_31 rfl (lv_at hl 0 rfl) ?_
  refine lv_dup hx hb d_Ca_add_32 rfl ?_
  refine va_get (D := g) (ci := 3) (v := .int (nI cc0)) (C := R_Ca) (T := F_Ca) (N := 4) hx hb hT i_Ca hown hK hP 3 rfl rfl 0 (by decide) (hT _ tw_117) (fun _ h9 => h9) rfl d_Ca_add_33 ?_
  refine lv_iconst (v := (nI 1)) hx hb d_Ca_add_36 (by decide) ?_
  refine lv_iadd hx hb d_Ca_add_37 ?_
  refine my_ei (nI_add cc0 1) ?_
  refine va_put (D := g) (ci := 3) (v := .int (nI (cc0 + 1))) (ty := .int) (C := R_Ca) (T := F_Ca) (N := 4) hx hb hT i_Ca t_Ca t_Ca_ok n_Ca hown hK hP hD hS 3 rfl rfl 0 (by decide) (hT _ tw_117) (fun _ h9 => h9) rfl (by decide +kernel) rfl rfl (Nat.le_of_ble_eq_true rfl) d_Ca_add_38 (fun H locs hP hD hS => ?_)
  have hP : va_P g vwCl (stW a rB rT cI cJ cII cJJ nc nv ng kd vo nu nd en br bc un eu li tb (cc0 + 1) (va_up cp cc0 x) (va_up cu cc0 u) (va_up cd cc0 d) tc ts tf ox ow ob ra rb gc gr gk gg gp gt sa sb) H := hP
  have hD : va_D A (stW a rB rT cI cJ cII cJJ nc nv ng kd vo nu nd en br bc un eu li tb (cc0 + 1) (va_up cp cc0 x) (va_up cu cc0 u) (va_up cd cc0 d) tc ts tf ox ow ob ra rb gc gr gk gg gp gt sa sb) := hD
  refine lv_aload_n hx hb d_Ca_add_41 rfl (lv_at hl 0 rfl) ?_
  refine va_get (D := g) (ci := 3) (v := .int (nI (cc0 + 1))) (C := R_Ca) (T := F_Ca) (N := 4) hx hb hT i_Ca hown hK hP 3 rfl rfl 0 (by decide) (hT _ tw_117) (fun _ h9 => h9) rfl d_Ca_add_42 ?_
  refine hret _ _ _ _ _ hP hD hS d_Ca_add_45 ?_
  rfl
set_option maxHeartbeats 4000000 in
set_option maxRecDepth 100000 in
theorem k_ST_exact (l : Launch) (g : va_G) (a rB rT : Nat → Nat) (cI cJ cII cJJ : ClassId) (nc : Nat) (nv : Nat) (ng : Nat) (kd : Nat → Int32) (vo : Nat → Nat) (nu : Nat → Nat) (nd : Nat → Nat) (en : Nat → Nat) (br : Nat → Nat → Nat) (bc : Nat → Nat) (un : Nat → Nat) (eu : Nat → Nat) (li : Nat → Nat) (tb : Nat → Nat → Int64) (cc0 : Nat) (cp : Nat → Nat) (cu : Nat → Nat) (cd : Nat → Nat) (tc : Nat) (ts : Nat → Nat) (tf : Nat → Nat) (ox : Bool) (ow : Nat → Nat) (ob : Nat → Nat) (ra : Nat) (rb : Nat) (gc : Nat) (gr : Nat) (gk : Nat → Nat) (gg : Nat → Nat) (gp : Nat → Nat) (gt : Nat → Nat) (sa : Nat) (sb : Nat)   : ct_i l g vwCl (tyS cI cJ cII cJJ) y_ST_exact c_ST_exact 1 (some .boolean) ({ frames := 0, cells := 0, slots := 0, locals := 0 } : Room) [.ref (a 0)] (stW a rB rT cI cJ cII cJJ nc nv ng kd vo nu nd en br bc un eu li tb cc0 cp cu cd tc ts tf ox ow ob ra rb gc gr gk gg gp gt sa sb) (stW a rB rT cI cJ cII cJJ nc nv ng kd vo nu nd en br bc un eu li tb cc0 cp cu cd tc ts tf ox ow ob ra rb gc gr gk gg gp gt sa sb) (b2 ox) := by
  refine ct_i.introZ (by decide) (Nat.le_of_ble_eq_true rfl) ?_
  intro p e s m args below meth c Q A ls hx hb hml hT hown hA hK hN hret hP hD hS hl
  have hown : s.vm.findClass R_ST = some m.cls := hown
  have hl : lv_has ls 1 [(0, .ref (a 0))] := hl
  refine lv_aload_n hx hb d_ST_exact_0 rfl (lv_at hl 0 rfl) ?_
  refine va_get (D := g) (ci := 0) (v := .ref (a 5)) (C := R_ST) (T := F_ST) (N := 7) hx hb hT i_ST hown hK hP 0 rfl rfl 4 (by decide) (hT _ tw_227) (fun _ h9 => h9) rfl d_ST_exact_1 ?_
  refine va_getN (D := g) (ci := 5) (v := .int (b2 ox)) (C := R_Od) (T := F_Od) (N := 7) hx hb hT i_Od hown hK hP 5 rfl rfl 4 (by decide) (va_Nw.use rfl (hN _ tw_176)) (fun _ h9 => h9) rfl d_ST_exact_4 ?_
  refine hret _ _ _ _ _ hP hD hS d_ST_exact_7 ?_
  rfl
set_option maxHeartbeats 4000000 in
set_option maxRecDepth 100000 in
theorem k_ST_grade (l : Launch) (g : va_G) (a rB rT : Nat → Nat) (cI cJ cII cJJ : ClassId) (nc : Nat) (nv : Nat) (ng : Nat) (kd : Nat → Int32) (vo : Nat → Nat) (nu : Nat → Nat) (nd : Nat → Nat) (en : Nat → Nat) (br : Nat → Nat → Nat) (bc : Nat → Nat) (un : Nat → Nat) (eu : Nat → Nat) (li : Nat → Nat) (tb : Nat → Nat → Int64) (cc0 : Nat) (cp : Nat → Nat) (cu : Nat → Nat) (cd : Nat → Nat) (tc : Nat) (ts : Nat → Nat) (tf : Nat → Nat) (ox : Bool) (ow : Nat → Nat) (ob : Nat → Nat) (ra : Nat) (rb : Nat) (gc : Nat) (gr : Nat) (gk : Nat → Nat) (gg : Nat → Nat) (gp : Nat → Nat) (gt : Nat → Nat) (sa : Nat) (sb : Nat) (x : Int32) (y : Int32) (z : Int32)  : ct_i l g vwCl (tyS cI cJ cII cJJ) y_ST_grade c_ST_grade 5 (some .int) ({ frames := 1, cells := 0, slots := 0, locals := 22 } : Room) [.ref (a 0), .int x, .int y, .int z] (stW a rB rT cI cJ cII cJJ nc nv ng kd vo nu nd en br bc un eu li tb cc0 cp cu cd tc ts tf ox ow ob ra rb gc gr gk gg gp gt sa sb) (stW a rB rT cI cJ cII cJJ nc nv ng kd vo nu nd en br bc un eu li tb cc0 cp cu cd tc ts tf ox ow ob ra rb gc gr gk gg gp gt sa sb) (grR x y z) := by
  refine ct_i.intro (by decide) (Nat.le_of_ble_eq_true rfl) ?_
  intro p e s m args below meth c Q A ls hx hb hml hT hown hA hK hN hret hP hD hS hl
  have hown : s.vm.findClass R_ST = some m.cls := hown
  have hl : lv_has ls 5 [(0, .ref (a 0)), (1, .int x), (2, .int y), (3, .int z)] := hl
  refine lv_iload_n hx hb d_ST_grade_0 rfl (lv_at hl 1 rfl) ?_
  refine lv_iconst (v := (nI 0)) hx hb d_ST_grade_1 (by decide) ?_
  refine lv_iconst (v := (nI 3)) hx hb d_ST_grade_2 (by decide) ?_
  refine my_S_i (As := [.int x, .int (nI 0), .int (nI 3)]) (n := 3) (k_ST_isWithin l g vwCl (tyS cI cJ cII cJJ) (stW a rB rT cI cJ cII cJJ nc nv ng kd vo nu nd en br bc un eu li tb cc0 cp cu cd tc ts tf ox ow ob ra rb gc gr gk gg gp gt sa sb) x (nI 0) (nI 3) ) hx hb hml hown hT hN tw_277 tw_278 tw_1 tw_279 (by decide +kernel) rfl rfl ⟨Nat.le_of_ble_eq_true rfl, Nat.le_of_ble_eq_true rfl⟩ ⟨Nat.zero_le _, Nat.zero_le _⟩ hK hP hD hS hA rfl hl rfl (Nat.le_of_ble_eq_true rfl) d_ST_grade_3 (fun H locs hP hD hS => ?_)
  refine my_if_eq_b (tgt := 27) hx hb d_ST_grade_6 (by decide) (fun c_6 => ?_) (fun c_6 => ?_)
  · -- 6: taken
    refine lv_bipush (v := (-2)) hx hb d_ST_grade_27 (by decide) ?_
    refine hret _ _ _ _ _ hP hD hS d_ST_grade_29 ?_
    rw [grR, if_pos (by first | (simp [c_6]; done) | (simp [c_6]; omega) | (simp [c_6]; rfl))]
  · -- 6: not taken
    refine lv_iload_n hx hb d_ST_grade_9 rfl (lv_at hl 2 rfl) ?_
    refine lv_iconst (v := (nI 0)) hx hb d_ST_grade_10 (by decide) ?_
    refine lv_iconst (v := (nI 4)) hx hb d_ST_grade_11 (by decide) ?_
    refine my_S_i (As := [.int y, .int (nI 0), .int (nI 4)]) (n := 3) (k_ST_isWithin l g vwCl (tyS cI cJ cII cJJ) (stW a rB rT cI cJ cII cJJ nc nv ng kd vo nu nd en br bc un eu li tb cc0 cp cu cd tc ts tf ox ow ob ra rb gc gr gk gg gp gt sa sb) y (nI 0) (nI 4) ) hx hb hml hown hT hN tw_277 tw_278 tw_1 tw_279 (by decide +kernel) rfl rfl ⟨Nat.le_of_ble_eq_true rfl, Nat.le_of_ble_eq_true rfl⟩ ⟨Nat.zero_le _, Nat.zero_le _⟩ hK hP hD hS hA rfl hl rfl (Nat.le_of_ble_eq_true rfl) d_ST_grade_12 (fun H locs hP hD hS => ?_)
    refine my_if_eq_b (tgt := 27) hx hb d_ST_grade_15 (by decide) (fun c_15 => ?_) (fun c_15 => ?_)
    · -- 15: taken
      refine lv_bipush (v := (-2)) hx hb d_ST_grade_27 (by decide) ?_
      refine hret _ _ _ _ _ hP hD hS d_ST_grade_29 ?_
      rw [grR, if_pos (by first | (simp [c_15]; done) | (simp [c_15]; omega) | (simp [c_15]; rfl))]
    · -- 15: not taken
      refine lv_iload_n hx hb d_ST_grade_18 rfl (lv_at hl 3 rfl) ?_
      refine lv_iconst (v := (nI 0)) hx hb d_ST_grade_19 (by decide) ?_
      refine lv_iconst (v := (nI 3)) hx hb d_ST_grade_20 (by decide) ?_
      refine my_S_i (As := [.int z, .int (nI 0), .int (nI 3)]) (n := 3) (k_ST_isWithin l g vwCl (tyS cI cJ cII cJJ) (stW a rB rT cI cJ cII cJJ nc nv ng kd vo nu nd en br bc un eu li tb cc0 cp cu cd tc ts tf ox ow ob ra rb gc gr gk gg gp gt sa sb) z (nI 0) (nI 3) ) hx hb hml hown hT hN tw_277 tw_278 tw_1 tw_279 (by decide +kernel) rfl rfl ⟨Nat.le_of_ble_eq_true rfl, Nat.le_of_ble_eq_true rfl⟩ ⟨Nat.zero_le _, Nat.zero_le _⟩ hK hP hD hS hA rfl hl rfl (Nat.le_of_ble_eq_true rfl) d_ST_grade_21 (fun H locs hP hD hS => ?_)
      refine my_if_ne_b (tgt := 30) hx hb d_ST_grade_24 (by decide) (fun c_24 => ?_) (fun c_24 => ?_)
      · -- 24: taken
        refine lv_iload_n hx hb d_ST_grade_30 rfl (lv_at hl 1 rfl) ?_
        refine lv_iload_n hx hb d_ST_grade_31 rfl (lv_at hl 2 rfl) ?_
        refine lv_iadd hx hb d_ST_grade_32 ?_
        refine lv_iload_n hx hb d_ST_grade_33 rfl (lv_at hl 3 rfl) ?_
        refine lv_iadd hx hb d_ST_grade_34 ?_
        refine lv_istore (lv' := [(4, .int ((x + y) + z)), (0, .ref (a 0)), (1, .int x), (2, .int y), (3, .int z)]) hx hb d_ST_grade_35 hl (by decide) rfl (fun ls hl => ?_)
        refine lv_iload_n hx hb d_ST_grade_37 rfl (lv_at hl 2 rfl) ?_
        refine lv_if_eq (tgt := 56) hx hb d_ST_grade_38 (by decide) (fun c_38 => ?_) (fun c_38 => ?_)
        · -- 38: taken
          refine lv_iconst (v := (nI 0)) hx hb d_ST_grade_56 (by decide) ?_
          refine hret _ _ _ _ _ hP hD hS d_ST_grade_57 ?_
          rw [grR, if_neg (by first | (simp [c_6, c_15, c_24]; done) | (simp [c_6, c_15, c_24]; omega) | (simp [c_6, c_15, c_24]; rfl)), if_pos (by first | exact Or.inl c_38 | exact Or.inr (Or.inl c_42) | exact Or.inr (Or.inr (Or.inl c_46)) | exact Or.inr (Or.inr (Or.inr c_53)))]; rfl
        · -- 38: not taken
          refine lv_iload_n hx hb d_ST_grade_41 rfl (lv_at hl 3 rfl) ?_
          refine lv_if_eq (tgt := 56) hx hb d_ST_grade_42 (by decide) (fun c_42 => ?_) (fun c_42 => ?_)
          · -- 42: taken
            refine lv_iconst (v := (nI 0)) hx hb d_ST_grade_56 (by decide) ?_
            refine hret _ _ _ _ _ hP hD hS d_ST_grade_57 ?_
            rw [grR, if_neg (by first | (simp [c_6, c_15, c_24]; done) | (simp [c_6, c_15, c_24]; omega) | (simp [c_6, c_15, c_24]; rfl)), if_pos (by first | exact Or.inl c_38 | exact Or.inr (Or.inl c_42) | exact Or.inr (Or.inr (Or.inl c_46)) | exact Or.inr (Or.inr (Or.inr c_53)))]; rfl
          · -- 42: not taken
            refine lv_iload_n hx hb d_ST_grade_45 rfl (lv_at hl 4 rfl) ?_
            refine lv_if_eq (tgt := 56) hx hb d_ST_grade_46 (by decide) (fun c_46 => ?_) (fun c_46 => ?_)
            · -- 46: taken
              refine lv_iconst (v := (nI 0)) hx hb d_ST_grade_56 (by decide) ?_
              refine hret _ _ _ _ _ hP hD hS d_ST_grade_57 ?_
              rw [grR, if_neg (by first | (simp [c_6, c_15, c_24]; done) | (simp [c_6, c_15, c_24]; omega) | (simp [c_6, c_15, c_24]; rfl)), if_pos (by first | exact Or.inl c_38 | exact Or.inr (Or.inl c_42) | exact Or.inr (Or.inr (Or.inl c_46)) | exact Or.inr (Or.inr (Or.inr c_53)))]; rfl
            · -- 46: not taken
              refine lv_iload hx hb d_ST_grade_49 (lv_at hl 0 rfl) ?_
              refine lv_bipush (v := (nI 7)) hx hb d_ST_grade_51 (by decide) ?_
              refine lv_icmp_ge (tgt := 58) hx hb d_ST_grade_53 (by decide) (fun c_53 => ?_) (fun c_53 => ?_)
              · -- 53: taken
                refine lv_iload hx hb d_ST_grade_58 (lv_at hl 0 rfl) ?_
                refine lv_bipush (v := (nI 6)) hx hb d_ST_grade_60 (by decide) ?_
                refine lv_isub hx hb d_ST_grade_62 ?_
                refine hret _ _ _ _ _ hP hD hS d_ST_grade_63 ?_
                rw [grR, if_neg (by first | (simp [c_6, c_15, c_24]; done) | (simp [c_6, c_15, c_24]; omega) | (simp [c_6, c_15, c_24]; rfl)), if_neg (by intro hh; rcases hh with hh | hh | hh | hh; exact c_38 hh; exact c_42 hh; exact c_46 hh; exact hh c_53)]
              · -- 53: not taken
                refine lv_iconst (v := (nI 0)) hx hb d_ST_grade_56 (by decide) ?_
                refine hret _ _ _ _ _ hP hD hS d_ST_grade_57 ?_
                rw [grR, if_neg (by first | (simp [c_6, c_15, c_24]; done) | (simp [c_6, c_15, c_24]; omega) | (simp [c_6, c_15, c_24]; rfl)), if_pos (by first | exact Or.inl c_38 | exact Or.inr (Or.inl c_42) | exact Or.inr (Or.inr (Or.inl c_46)) | exact Or.inr (Or.inr (Or.inr c_53)))]; rfl
      · -- 24: not taken
        refine lv_bipush (v := (-2)) hx hb d_ST_grade_27 (by decide) ?_
        refine hret _ _ _ _ _ hP hD hS d_ST_grade_29 ?_
        rw [grR, if_pos (by first | (simp [c_24]; done) | (simp [c_24]; omega) | (simp [c_24]; rfl))]
set_option maxHeartbeats 4000000 in
set_option maxRecDepth 100000 in
theorem k_ST_goal (l : Launch) (g : va_G) (a rB rT : Nat → Nat) (cI cJ cII cJJ : ClassId) (nc : Nat) (nv : Nat) (ng : Nat) (kd : Nat → Int32) (vo : Nat → Nat) (nu : Nat → Nat) (nd : Nat → Nat) (en : Nat → Nat) (br : Nat → Nat → Nat) (bc : Nat → Nat) (un : Nat → Nat) (eu : Nat → Nat) (li : Nat → Nat) (tb : Nat → Nat → Int64) (cc0 : Nat) (cp : Nat → Nat) (cu : Nat → Nat) (cd : Nat → Nat) (tc : Nat) (ts : Nat → Nat) (tf : Nat → Nat) (ox : Bool) (ow : Nat → Nat) (ob : Nat → Nat) (ra : Nat) (rb : Nat) (gc : Nat) (gr : Nat) (gk : Nat → Nat) (gg : Nat → Nat) (gp : Nat → Nat) (gt : Nat → Nat) (sa : Nat) (sb : Nat) (x : Int32) (hgc : gc ≤ 30) : ct_i l g vwCl (tyS cI cJ cII cJJ) y_ST_goal c_ST_goal 2 (some .int) ({ frames := 1, cells := 0, slots := 0, locals := 22 } : Room) [.ref (a 0), .int x] (stW a rB rT cI cJ cII cJJ nc nv ng kd vo nu nd en br bc un eu li tb cc0 cp cu cd tc ts tf ox ow ob ra rb gc gr gk gg gp gt sa sb) (if isW x (nI 0) (nI 4) = true ∧ gc < 30 then (stW a rB rT cI cJ cII cJJ nc nv ng kd vo nu nd en br bc un eu li tb cc0 cp cu cd tc ts tf ox ow ob ra rb (gc + 1) gr (va_up gk (gc + 1) x.toNatClampNeg) gg gp gt sa sb) else (stW a rB rT cI cJ cII cJJ nc nv ng kd vo nu nd en br bc un eu li tb cc0 cp cu cd tc ts tf ox ow ob ra rb gc gr gk gg gp gt sa sb)) (goR gc x) := by
  refine ct_i.intro (by decide) (Nat.le_of_ble_eq_true rfl) ?_
  intro p e s m args below meth c Q A ls hx hb hml hT hown hA hK hN hret hP hD hS hl
  have hown : s.vm.findClass R_ST = some m.cls := hown
  have hl : lv_has ls 2 [(0, .ref (a 0)), (1, .int x)] := hl
  refine lv_iload_n hx hb d_ST_goal_0 rfl (lv_at hl 1 rfl) ?_
  refine lv_iconst (v := (nI 0)) hx hb d_ST_goal_1 (by decide) ?_
  refine lv_iconst (v := (nI 4)) hx hb d_ST_goal_2 (by decide) ?_
  refine my_S_i (As := [.int x, .int (nI 0), .int (nI 4)]) (n := 3) (k_ST_isWithin l g vwCl (tyS cI cJ cII cJJ) (stW a rB rT cI cJ cII cJJ nc nv ng kd vo nu nd en br bc un eu li tb cc0 cp cu cd tc ts tf ox ow ob ra rb gc gr gk gg gp gt sa sb) x (nI 0) (nI 4) ) hx hb hml hown hT hN tw_277 tw_278 tw_1 tw_279 (by decide +kernel) rfl rfl ⟨Nat.le_of_ble_eq_true rfl, Nat.le_of_ble_eq_true rfl⟩ ⟨Nat.zero_le _, Nat.zero_le _⟩ hK hP hD hS hA rfl hl rfl (Nat.le_of_ble_eq_true rfl) d_ST_goal_3 (fun H locs hP hD hS => ?_)
  refine my_if_ne_b (tgt := 12) hx hb d_ST_goal_6 (by decide) (fun c_6 => ?_) (fun c_6 => ?_)
  · -- 6: taken
    obtain ⟨k, hk1, hk2, rfl⟩ := isW_nat (by decide) (by decide) c_6
    have hkc : (nI k).toNatClampNeg = k := nI_clamp (by omega)
    simp only [hkc] at hret
    refine lv_aload_n hx hb d_ST_goal_12 rfl (lv_at hl 0 rfl) ?_
    refine va_get (D := g) (ci := 0) (v := .ref (a 6)) (C := R_ST) (T := F_ST) (N := 7) hx hb hT i_ST hown hK hP 0 rfl rfl 5 (by decide) (hT _ tw_228) (fun _ h9 => h9) rfl d_ST_goal_13 ?_
    refine va_getN (D := g) (ci := 6) (v := .int (nI gc)) (C := R_Go) (T := F_Go) (N := 6) hx hb hT i_Go hown hK hP 6 rfl rfl 0 (by decide) (va_Nw.use rfl (hN _ tw_201)) (fun _ h9 => h9) rfl d_ST_goal_16 ?_
    refine lv_bipush (v := (nI 30)) hx hb d_ST_goal_19 (by decide) ?_
    refine my_icmp_lt (tgt := 27) (a := gc) (b := 30) hx hb d_ST_goal_21 (by decide) (by omega) (by omega) (fun c_21 => ?_) (fun c_21 => ?_)
    · -- 21: taken
      refine lv_aload_n hx hb d_ST_goal_27 rfl (lv_at hl 0 rfl) ?_
      refine va_get (D := g) (ci := 0) (v := .ref (a 6)) (C := R_ST) (T := F_ST) (N := 7) hx hb hT i_ST hown hK hP 0 rfl rfl 5 (by decide) (hT _ tw_228) (fun _ h9 => h9) rfl d_ST_goal_28 ?_
      refine lv_iload_n hx hb d_ST_goal_31 rfl (lv_at hl 1 rfl) ?_
      refine my_V_i (q0 := 6) (ci := 6) (C := R_Go) (As := [.int (nI k)]) (n := 1) (k_Go_add l g a rB rT cI cJ cII cJJ nc nv ng kd vo nu nd en br bc un eu li tb cc0 cp cu cd tc ts tf ox ow ob ra rb gc gr gk gg gp gt sa sb k (by omega)) hx hb hml hown hT hN tw_488 tw_489 tw_490 tw_8 tw_491 (by decide +kernel) rfl rfl ⟨Nat.le_of_ble_eq_true rfl, Nat.le_of_ble_eq_true rfl⟩ ⟨Nat.zero_le _, Nat.zero_le _⟩ hK hP hD hS hA rfl rfl rfl hl rfl (Nat.le_of_ble_eq_true rfl) d_ST_goal_32 (fun H locs hP hD hS => ?_)
      refine hret _ _ _ _ _ (by rw [if_pos (by first | (simp [c_6, c_21]; done) | (simp [c_6, c_21]; omega) | (simp [c_6, c_21]; rfl))]; exact hP) (by rw [if_pos (by first | (simp [c_6, c_21]; done) | (simp [c_6, c_21]; omega) | (simp [c_6, c_21]; rfl))]; exact hD) hS d_ST_goal_35 ?_
      first | (simp [goR, c_6, hkc, c_21]; done) | (simp [goR, c_6, hkc, c_21]; omega) | (simp [goR, c_6, hkc, c_21]; rfl)
    · -- 21: not taken
      refine lv_bipush (v := (-4)) hx hb d_ST_goal_24 (by decide) ?_
      refine hret _ _ _ _ _ (by rw [if_neg (by first | (simp [c_6, c_21]; done) | (simp [c_6, c_21]; omega) | (simp [c_6, c_21]; rfl))]; exact hP) (by rw [if_neg (by first | (simp [c_6, c_21]; done) | (simp [c_6, c_21]; omega) | (simp [c_6, c_21]; rfl))]; exact hD) hS d_ST_goal_26 ?_
      first | (simp [goR, c_6, hkc, c_21]; done) | (simp [goR, c_6, hkc, c_21]; omega) | (simp [goR, c_6, hkc, c_21]; rfl)
  · -- 6: not taken
    refine lv_bipush (v := (-2)) hx hb d_ST_goal_9 (by decide) ?_
    refine hret _ _ _ _ _ (by rw [if_neg (by first | (simp [c_6]; done) | (simp [c_6]; omega) | (simp [c_6]; rfl))]; exact hP) (by rw [if_neg (by first | (simp [c_6]; done) | (simp [c_6]; omega) | (simp [c_6]; rfl))]; exact hD) hS d_ST_goal_11 ?_
    first | (simp [goR, c_6]; done) | (simp [goR, c_6]; omega) | (simp [goR, c_6]; rfl)
set_option maxHeartbeats 4000000 in
set_option maxRecDepth 100000 in
theorem k_ST_trace (l : Launch) (g : va_G) (a rB rT : Nat → Nat) (cI cJ cII cJJ : ClassId) (nc : Nat) (nv : Nat) (ng : Nat) (kd : Nat → Int32) (vo : Nat → Nat) (nu : Nat → Nat) (nd : Nat → Nat) (en : Nat → Nat) (br : Nat → Nat → Nat) (bc : Nat → Nat) (un : Nat → Nat) (eu : Nat → Nat) (li : Nat → Nat) (tb : Nat → Nat → Int64) (cc0 : Nat) (cp : Nat → Nat) (cu : Nat → Nat) (cd : Nat → Nat) (tc : Nat) (ts : Nat → Nat) (tf : Nat → Nat) (ox : Bool) (ow : Nat → Nat) (ob : Nat → Nat) (ra : Nat) (rb : Nat) (gc : Nat) (gr : Nat) (gk : Nat → Nat) (gg : Nat → Nat) (gp : Nat → Nat) (gt : Nat → Nat) (sa : Nat) (sb : Nat) (x : Int32) (y : Int32) (z : Int32) (hgc : gc ≤ 30) (hr : gr ≤ 100) (hgg : ∀ j, gg j < 1000) (hgp : ∀ j, gp j < 1000) (hgt : ∀ j, gt j < 1000) : ct_i l g vwCl (tyS cI cJ cII cJJ) y_ST_trace c_ST_trace 4 (some .int) ({ frames := 1, cells := 0, slots := 0, locals := 24 } : Room) [.ref (a 0), .int x, .int y, .int z] (stW a rB rT cI cJ cII cJJ nc nv ng kd vo nu nd en br bc un eu li tb cc0 cp cu cd tc ts tf ox ow ob ra rb gc gr gk gg gp gt sa sb) (if isW x (nI 1) (nI gc) = true ∧ isW y (nI 1) (nI 50) = true ∧ isW z (nI 0) (nI 50) = true ∧ hR gg gp gt x.toNatClampNeg y.toNatClampNeg z.toNatClampNeg gr = false ∧ gr < 100 then (stW a rB rT cI cJ cII cJJ nc nv ng kd vo nu nd en br bc un eu li tb cc0 cp cu cd tc ts tf ox ow ob ra rb gc (gr + 1) gk (va_up gg gr x.toNatClampNeg) (va_up gp gr y.toNatClampNeg) (va_up gt gr z.toNatClampNeg) sa sb) else (stW a rB rT cI cJ cII cJJ nc nv ng kd vo nu nd en br bc un eu li tb cc0 cp cu cd tc ts tf ox ow ob ra rb gc gr gk gg gp gt sa sb)) (trR gc gg gp gt gr x y z) := by
  refine ct_i.intro (by decide) (Nat.le_of_ble_eq_true rfl) ?_
  intro p e s m args below meth c Q A ls hx hb hml hT hown hA hK hN hret hP hD hS hl
  have hown : s.vm.findClass R_ST = some m.cls := hown
  have hl : lv_has ls 4 [(0, .ref (a 0)), (1, .int x), (2, .int y), (3, .int z)] := hl
  refine lv_iload_n hx hb d_ST_trace_0 rfl (lv_at hl 1 rfl) ?_
  refine lv_iconst (v := (nI 1)) hx hb d_ST_trace_1 (by decide) ?_
  refine lv_aload_n hx hb d_ST_trace_2 rfl (lv_at hl 0 rfl) ?_
  refine va_get (D := g) (ci := 0) (v := .ref (a 6)) (C := R_ST) (T := F_ST) (N := 7) hx hb hT i_ST hown hK hP 0 rfl rfl 5 (by decide) (hT _ tw_228) (fun _ h9 => h9) rfl d_ST_trace_3 ?_
  refine va_getN (D := g) (ci := 6) (v := .int (nI gc)) (C := R_Go) (T := F_Go) (N := 6) hx hb hT i_Go hown hK hP 6 rfl rfl 0 (by decide) (va_Nw.use rfl (hN _ tw_201)) (fun _ h9 => h9) rfl d_ST_trace_6 ?_
  refine my_S_i (As := [.int x, .int (nI 1), .int (nI gc)]) (n := 3) (k_ST_isWithin l g vwCl (tyS cI cJ cII cJJ) (stW a rB rT cI cJ cII cJJ nc nv ng kd vo nu nd en br bc un eu li tb cc0 cp cu cd tc ts tf ox ow ob ra rb gc gr gk gg gp gt sa sb) x (nI 1) (nI gc) ) hx hb hml hown hT hN tw_277 tw_278 tw_1 tw_279 (by decide +kernel) rfl rfl ⟨Nat.le_of_ble_eq_true rfl, Nat.le_of_ble_eq_true rfl⟩ ⟨Nat.zero_le _, Nat.zero_le _⟩ hK hP hD hS hA rfl hl rfl (Nat.le_of_ble_eq_true rfl) d_ST_trace_9 (fun H locs hP hD hS => ?_)
  refine my_if_ne_b (tgt := 17) hx hb d_ST_trace_12 (by decide) (fun c_12 => ?_) (fun c_12 => ?_)
  · -- 12: taken
    refine lv_iload_n hx hb d_ST_trace_17 rfl (lv_at hl 2 rfl) ?_
    refine lv_iconst (v := (nI 1)) hx hb d_ST_trace_18 (by decide) ?_
    refine lv_bipush (v := (nI 50)) hx hb d_ST_trace_19 (by decide) ?_
    refine my_S_i (As := [.int y, .int (nI 1), .int (nI 50)]) (n := 3) (k_ST_isWithin l g vwCl (tyS cI cJ cII cJJ) (stW a rB rT cI cJ cII cJJ nc nv ng kd vo nu nd en br bc un eu li tb cc0 cp cu cd tc ts tf ox ow ob ra rb gc gr gk gg gp gt sa sb) y (nI 1) (nI 50) ) hx hb hml hown hT hN tw_277 tw_278 tw_1 tw_279 (by decide +kernel) rfl rfl ⟨Nat.le_of_ble_eq_true rfl, Nat.le_of_ble_eq_true rfl⟩ ⟨Nat.zero_le _, Nat.zero_le _⟩ hK hP hD hS hA rfl hl rfl (Nat.le_of_ble_eq_true rfl) d_ST_trace_21 (fun H locs hP hD hS => ?_)
    refine my_if_eq_b (tgt := 37) hx hb d_ST_trace_24 (by decide) (fun c_24 => ?_) (fun c_24 => ?_)
    · -- 24: taken
      refine lv_bipush (v := (-2)) hx hb d_ST_trace_37 (by decide) ?_
      refine hret _ _ _ _ _ (by rw [if_neg (by first | (simp [c_12, c_24]; done) | (simp [c_12, c_24]; omega) | (simp [c_12, c_24]; rfl))]; exact hP) (by rw [if_neg (by first | (simp [c_12, c_24]; done) | (simp [c_12, c_24]; omega) | (simp [c_12, c_24]; rfl))]; exact hD) hS d_ST_trace_39 ?_
      first | (simp [trR, c_12, c_24]; done) | (simp [trR, c_12, c_24]; omega) | (simp [trR, c_12, c_24]; rfl)
    · -- 24: not taken
      refine lv_iload_n hx hb d_ST_trace_27 rfl (lv_at hl 3 rfl) ?_
      refine lv_iconst (v := (nI 0)) hx hb d_ST_trace_28 (by decide) ?_
      refine lv_bipush (v := (nI 50)) hx hb d_ST_trace_29 (by decide) ?_
      refine my_S_i (As := [.int z, .int (nI 0), .int (nI 50)]) (n := 3) (k_ST_isWithin l g vwCl (tyS cI cJ cII cJJ) (stW a rB rT cI cJ cII cJJ nc nv ng kd vo nu nd en br bc un eu li tb cc0 cp cu cd tc ts tf ox ow ob ra rb gc gr gk gg gp gt sa sb) z (nI 0) (nI 50) ) hx hb hml hown hT hN tw_277 tw_278 tw_1 tw_279 (by decide +kernel) rfl rfl ⟨Nat.le_of_ble_eq_true rfl, Nat.le_of_ble_eq_true rfl⟩ ⟨Nat.zero_le _, Nat.zero_le _⟩ hK hP hD hS hA rfl hl rfl (Nat.le_of_ble_eq_true rfl) d_ST_trace_31 (fun H locs hP hD hS => ?_)
      refine my_if_ne_b (tgt := 40) hx hb d_ST_trace_34 (by decide) (fun c_34 => ?_) (fun c_34 => ?_)
      · -- 34: taken
        obtain ⟨x1, hx11, hx12, rfl⟩ := isW_nat (by decide) (by omega) c_12
        have hkc : (nI x1).toNatClampNeg = x1 := nI_clamp (by omega)
        simp only [hkc] at hret
        obtain ⟨y1, hy11, hy12, rfl⟩ := isW_nat (by decide) (by decide) c_24
        have hkc2 : (nI y1).toNatClampNeg = y1 := nI_clamp (by omega)
        simp only [hkc2] at hret
        obtain ⟨z1, hz11, hz12, rfl⟩ := isW_nat (by decide) (by decide) c_34
        have hkc3 : (nI z1).toNatClampNeg = z1 := nI_clamp (by omega)
        simp only [hkc3] at hret
        refine lv_aload_n hx hb d_ST_trace_40 rfl (lv_at hl 0 rfl) ?_
        refine va_get (D := g) (ci := 0) (v := .ref (a 6)) (C := R_ST) (T := F_ST) (N := 7) hx hb hT i_ST hown hK hP 0 rfl rfl 5 (by decide) (hT _ tw_228) (fun _ h9 => h9) rfl d_ST_trace_41 ?_
        refine lv_iload_n hx hb d_ST_trace_44 rfl (lv_at hl 1 rfl) ?_
        refine lv_iload_n hx hb d_ST_trace_45 rfl (lv_at hl 2 rfl) ?_
        refine lv_iload_n hx hb d_ST_trace_46 rfl (lv_at hl 3 rfl) ?_
        refine my_V_i (q0 := 6) (ci := 6) (C := R_Go) (As := [.int (nI x1), .int (nI y1), .int (nI z1)]) (n := 3) (k_Go_hasRow l g a rB rT cI cJ cII cJJ nc nv ng kd vo nu nd en br bc un eu li tb cc0 cp cu cd tc ts tf ox ow ob ra rb gc gr gk gg gp gt sa sb x1 y1 z1 hr (by omega) (by omega) (by omega) hgg hgp hgt) hx hb hml hown hT hN tw_496 tw_497 tw_498 tw_8 tw_499 (by decide +kernel) rfl rfl ⟨Nat.le_of_ble_eq_true rfl, Nat.le_of_ble_eq_true rfl⟩ ⟨Nat.zero_le _, Nat.zero_le _⟩ hK hP hD hS hA rfl rfl rfl hl rfl (Nat.le_of_ble_eq_true rfl) d_ST_trace_47 (fun H locs hP hD hS => ?_)
        refine my_if_eq_b (tgt := 56) hx hb d_ST_trace_50 (by decide) (fun c_50 => ?_) (fun c_50 => ?_)
        · -- 50: taken
          refine lv_aload_n hx hb d_ST_trace_56 rfl (lv_at hl 0 rfl) ?_
          refine va_get (D := g) (ci := 0) (v := .ref (a 6)) (C := R_ST) (T := F_ST) (N := 7) hx hb hT i_ST hown hK hP 0 rfl rfl 5 (by decide) (hT _ tw_228) (fun _ h9 => h9) rfl d_ST_trace_57 ?_
          refine va_getN (D := g) (ci := 6) (v := .int (nI gr)) (C := R_Go) (T := F_Go) (N := 6) hx hb hT i_Go hown hK hP 6 rfl rfl 1 (by decide) (va_Nw.use rfl (hN _ tw_203)) (fun _ h9 => h9) rfl d_ST_trace_60 ?_
          refine lv_bipush (v := (nI 100)) hx hb d_ST_trace_63 (by decide) ?_
          refine my_icmp_lt (tgt := 71) (a := gr) (b := 100) hx hb d_ST_trace_65 (by decide) (by omega) (by omega) (fun c_65 => ?_) (fun c_65 => ?_)
          · -- 65: taken
            refine lv_aload_n hx hb d_ST_trace_71 rfl (lv_at hl 0 rfl) ?_
            refine va_get (D := g) (ci := 0) (v := .ref (a 6)) (C := R_ST) (T := F_ST) (N := 7) hx hb hT i_ST hown hK hP 0 rfl rfl 5 (by decide) (hT _ tw_228) (fun _ h9 => h9) rfl d_ST_trace_72 ?_
            refine lv_iload_n hx hb d_ST_trace_75 rfl (lv_at hl 1 rfl) ?_
            refine lv_iload_n hx hb d_ST_trace_76 rfl (lv_at hl 2 rfl) ?_
            refine lv_iload_n hx hb d_ST_trace_77 rfl (lv_at hl 3 rfl) ?_
            refine my_V_i (q0 := 6) (ci := 6) (C := R_Go) (As := [.int (nI x1), .int (nI y1), .int (nI z1)]) (n := 3) (k_Go_addRow l g a rB rT cI cJ cII cJJ nc nv ng kd vo nu nd en br bc un eu li tb cc0 cp cu cd tc ts tf ox ow ob ra rb gc gr gk gg gp gt sa sb x1 y1 z1 (by omega)) hx hb hml hown hT hN tw_500 tw_501 tw_502 tw_8 tw_503 (by decide +kernel) rfl rfl ⟨Nat.le_of_ble_eq_true rfl, Nat.le_of_ble_eq_true rfl⟩ ⟨Nat.zero_le _, Nat.zero_le _⟩ hK hP hD hS hA rfl rfl rfl hl rfl (Nat.le_of_ble_eq_true rfl) d_ST_trace_78 (fun H locs hP hD hS => ?_)
            refine hret _ _ _ _ _ (by rw [if_pos (by first | (simp [c_12, c_24, c_34, c_50, c_65]; done) | (simp [c_12, c_24, c_34, c_50, c_65]; omega) | (simp [c_12, c_24, c_34, c_50, c_65]; rfl))]; exact hP) (by rw [if_pos (by first | (simp [c_12, c_24, c_34, c_50, c_65]; done) | (simp [c_12, c_24, c_34, c_50, c_65]; omega) | (simp [c_12, c_24, c_34, c_50, c_65]; rfl))]; exact hD) hS d_ST_trace_81 ?_
            first | (simp [trR, c_12, c_24, c_34, hkc, hkc2, hkc3, c_50, c_65]; done) | (simp [trR, c_12, c_24, c_34, hkc, hkc2, hkc3, c_50, c_65]; omega) | (simp [trR, c_12, c_24, c_34, hkc, hkc2, hkc3, c_50, c_65]; rfl)
          · -- 65: not taken
            refine lv_bipush (v := (-4)) hx hb d_ST_trace_68 (by decide) ?_
            refine hret _ _ _ _ _ (by rw [if_neg (by first | (simp [c_12, c_24, c_34, c_50, c_65]; done) | (simp [c_12, c_24, c_34, c_50, c_65]; omega) | (simp [c_12, c_24, c_34, c_50, c_65]; rfl))]; exact hP) (by rw [if_neg (by first | (simp [c_12, c_24, c_34, c_50, c_65]; done) | (simp [c_12, c_24, c_34, c_50, c_65]; omega) | (simp [c_12, c_24, c_34, c_50, c_65]; rfl))]; exact hD) hS d_ST_trace_70 ?_
            first | (simp [trR, c_12, c_24, c_34, hkc, hkc2, hkc3, c_50, c_65]; done) | (simp [trR, c_12, c_24, c_34, hkc, hkc2, hkc3, c_50, c_65]; omega) | (simp [trR, c_12, c_24, c_34, hkc, hkc2, hkc3, c_50, c_65]; rfl)
        · -- 50: not taken
          refine lv_bipush (v := (-3)) hx hb d_ST_trace_53 (by decide) ?_
          refine hret _ _ _ _ _ (by rw [if_neg (by first | (simp [c_12, c_24, c_34, c_50]; done) | (simp [c_12, c_24, c_34, c_50]; omega) | (simp [c_12, c_24, c_34, c_50]; rfl))]; exact hP) (by rw [if_neg (by first | (simp [c_12, c_24, c_34, c_50]; done) | (simp [c_12, c_24, c_34, c_50]; omega) | (simp [c_12, c_24, c_34, c_50]; rfl))]; exact hD) hS d_ST_trace_55 ?_
          first | (simp [trR, c_12, c_24, c_34, hkc, hkc2, hkc3, c_50]; done) | (simp [trR, c_12, c_24, c_34, hkc, hkc2, hkc3, c_50]; omega) | (simp [trR, c_12, c_24, c_34, hkc, hkc2, hkc3, c_50]; rfl)
      · -- 34: not taken
        refine lv_bipush (v := (-2)) hx hb d_ST_trace_37 (by decide) ?_
        refine hret _ _ _ _ _ (by rw [if_neg (by first | (simp [c_12, c_24, c_34]; done) | (simp [c_12, c_24, c_34]; omega) | (simp [c_12, c_24, c_34]; rfl))]; exact hP) (by rw [if_neg (by first | (simp [c_12, c_24, c_34]; done) | (simp [c_12, c_24, c_34]; omega) | (simp [c_12, c_24, c_34]; rfl))]; exact hD) hS d_ST_trace_39 ?_
        first | (simp [trR, c_12, c_24, c_34]; done) | (simp [trR, c_12, c_24, c_34]; omega) | (simp [trR, c_12, c_24, c_34]; rfl)
  · -- 12: not taken
    refine lv_iconst (v := (-1)) hx hb d_ST_trace_15 (by decide) ?_
    refine hret _ _ _ _ _ (by rw [if_neg (by first | (simp [c_12]; done) | (simp [c_12]; omega) | (simp [c_12]; rfl))]; exact hP) (by rw [if_neg (by first | (simp [c_12]; done) | (simp [c_12]; omega) | (simp [c_12]; rfl))]; exact hD) hS d_ST_trace_16 ?_
    first | (simp [trR, c_12]; done) | (simp [trR, c_12]; omega) | (simp [trR, c_12]; rfl)
set_option maxHeartbeats 4000000 in
set_option maxRecDepth 100000 in
theorem k_ST_open (l : Launch) (g : va_G) (a rB rT : Nat → Nat) (cI cJ cII cJJ : ClassId) (nc : Nat) (nv : Nat) (ng : Nat) (kd : Nat → Int32) (vo : Nat → Nat) (nu : Nat → Nat) (nd : Nat → Nat) (en : Nat → Nat) (br : Nat → Nat → Nat) (bc : Nat → Nat) (un : Nat → Nat) (eu : Nat → Nat) (li : Nat → Nat) (tb : Nat → Nat → Int64) (cc0 : Nat) (cp : Nat → Nat) (cu : Nat → Nat) (cd : Nat → Nat) (tc : Nat) (ts : Nat → Nat) (tf : Nat → Nat) (ox : Bool) (ow : Nat → Nat) (ob : Nat → Nat) (ra : Nat) (rb : Nat) (gc : Nat) (gr : Nat) (gk : Nat → Nat) (gg : Nat → Nat) (gp : Nat → Nat) (gt : Nat → Nat) (sa : Nat) (sb : Nat) (x : Int32) (hc : gc ≤ 30) (hr : gr ≤ 100) (hgk : ∀ j, gk j < 1000) (hgg : ∀ j, gg j < 1000) (hgt : ∀ j, gt j < 1000) : ct_i l g vwCl (tyS cI cJ cII cJJ) y_ST_open c_ST_open 2 (some .int) ({ frames := 3, cells := 0, slots := 0, locals := 67 } : Room) [.ref (a 0), .int x] (stW a rB rT cI cJ cII cJJ nc nv ng kd vo nu nd en br bc un eu li tb cc0 cp cu cd tc ts tf ox ow ob ra rb gc gr gk gg gp gt sa sb) (stW a rB rT cI cJ cII cJJ nc nv ng kd vo nu nd en br bc un eu li tb cc0 cp cu cd tc ts tf ox ow ob ra rb gc gr gk gg gp gt sa sb) (if x < 0 then 0 else fO (gOp gk gg gt gr) (pOp gp gt gr) gc x.toNatClampNeg) := by
  refine ct_i.intro (by decide) (Nat.le_of_ble_eq_true rfl) ?_
  intro p e s m args below meth c Q A ls hx hb hml hT hown hA hK hN hret hP hD hS hl
  have hown : s.vm.findClass R_ST = some m.cls := hown
  have hl : lv_has ls 2 [(0, .ref (a 0)), (1, .int x)] := hl
  refine lv_iload_n hx hb d_ST_open_0 rfl (lv_at hl 1 rfl) ?_
  refine lv_if_ge (tgt := 8) hx hb d_ST_open_1 (by decide) (fun c_1 => ?_) (fun c_1 => ?_)
  · -- 1: taken
    have c_1 : ¬ x < 0 := (my_i0 x).1.mp c_1
    obtain ⟨k, hk1, rfl⟩ := nI_of c_1
    have hkc : (nI k).toNatClampNeg = k := nI_clamp hk1
    refine lv_aload_n hx hb d_ST_open_8 rfl (lv_at hl 0 rfl) ?_
    refine va_get (D := g) (ci := 0) (v := .ref (a 6)) (C := R_ST) (T := F_ST) (N := 7) hx hb hT i_ST hown hK hP 0 rfl rfl 5 (by decide) (hT _ tw_228) (fun _ h9 => h9) rfl d_ST_open_9 ?_
    refine lv_iload_n hx hb d_ST_open_12 rfl (lv_at hl 1 rfl) ?_
    refine my_V_i (q0 := 6) (ci := 6) (C := R_Go) (As := [.int (nI k)]) (n := 1) (k_Go_findOpen l g a rB rT cI cJ cII cJJ nc nv ng kd vo nu nd en br bc un eu li tb cc0 cp cu cd tc ts tf ox ow ob ra rb gc gr gk gg gp gt sa sb k hk1 hc hr hgk hgg hgt) hx hb hml hown hT hN tw_508 tw_509 tw_510 tw_8 tw_511 (by decide +kernel) rfl rfl ⟨Nat.le_of_ble_eq_true rfl, Nat.le_of_ble_eq_true rfl⟩ ⟨Nat.zero_le _, Nat.zero_le _⟩ hK hP hD hS hA rfl rfl rfl hl rfl (Nat.le_of_ble_eq_true rfl) d_ST_open_13 (fun H locs hP hD hS => ?_)
    refine hret _ _ _ _ _ hP hD hS d_ST_open_16 ?_
    rw [if_neg c_1, hkc]
  · -- 1: not taken
    refine lv_iconst (v := (nI 0)) hx hb d_ST_open_4 (by decide) ?_
    refine lv_goto (tgt := 16) hx hb d_ST_open_5 (by decide) ?_
    refine hret _ _ _ _ _ hP hD hS d_ST_open_16 ?_
    rw [if_pos (by rw [Int32.lt_iff_toInt_lt]; rw [Int32.le_iff_toInt_le] at c_1; omega)]; rfl
set_option maxHeartbeats 4000000 in
set_option maxRecDepth 100000 in
theorem k_ST_gate (l : Launch) (g : va_G) (a rB rT : Nat → Nat) (cI cJ cII cJJ : ClassId) (nc : Nat) (nv : Nat) (ng : Nat) (kd : Nat → Int32) (vo : Nat → Nat) (nu : Nat → Nat) (nd : Nat → Nat) (en : Nat → Nat) (br : Nat → Nat → Nat) (bc : Nat → Nat) (un : Nat → Nat) (eu : Nat → Nat) (li : Nat → Nat) (tb : Nat → Nat → Int64) (cc0 : Nat) (cp : Nat → Nat) (cu : Nat → Nat) (cd : Nat → Nat) (tc : Nat) (ts : Nat → Nat) (tf : Nat → Nat) (ox : Bool) (ow : Nat → Nat) (ob : Nat → Nat) (ra : Nat) (rb : Nat) (gc : Nat) (gr : Nat) (gk : Nat → Nat) (gg : Nat → Nat) (gp : Nat → Nat) (gt : Nat → Nat) (sa : Nat) (sb : Nat) (k : Int32) (n : Int32) (hnc : nc = nv + ng) (hnv : nv ≤ 12) (hng : ng ≤ 20) : ct_i l g vwCl (tyS cI cJ cII cJJ) y_ST_gate c_ST_gate 3 (some .int) ({ frames := 2, cells := 0, slots := 0, locals := 43 } : Room) [.ref (a 0), .int k, .int n] (stW a rB rT cI cJ cII cJJ nc nv ng kd vo nu nd en br bc un eu li tb cc0 cp cu cd tc ts tf ox ow ob ra rb gc gr gk gg gp gt sa sb) (if isK k n = true ∧ ng < 20 then (stW a rB rT cI cJ cII cJJ (nc + 1) nv (ng + 1) (va_up kd (nc + 1) k) (va_up vo (nc + 1) n.toNatClampNeg) nu nd en br bc un eu li tb cc0 cp cu cd tc ts tf ox ow ob ra rb gc gr gk gg gp gt sa sb) else (stW a rB rT cI cJ cII cJJ nc nv ng kd vo nu nd en br bc un eu li tb cc0 cp cu cd tc ts tf ox ow ob ra rb gc gr gk gg gp gt sa sb)) (gaR nc ng k n) := by
  refine ct_i.intro (by decide) (Nat.le_of_ble_eq_true rfl) ?_
  intro p e s m args below meth c Q A ls hx hb hml hT hown hA hK hN hret hP hD hS hl
  have hown : s.vm.findClass R_ST = some m.cls := hown
  have hl : lv_has ls 3 [(0, .ref (a 0)), (1, .int k), (2, .int n)] := hl
  refine lv_iload_n hx hb d_ST_gate_0 rfl (lv_at hl 1 rfl) ?_
  refine lv_iload_n hx hb d_ST_gate_1 rfl (lv_at hl 2 rfl) ?_
  refine my_S_i (As := [.int k, .int n]) (n := 2) (k_ST_isKind l g vwCl (tyS cI cJ cII cJJ) (stW a rB rT cI cJ cII cJJ nc nv ng kd vo nu nd en br bc un eu li tb cc0 cp cu cd tc ts tf ox ow ob ra rb gc gr gk gg gp gt sa sb) k n ) hx hb hml hown hT hN tw_274 tw_275 tw_1 tw_276 (by decide +kernel) rfl rfl ⟨Nat.le_of_ble_eq_true rfl, Nat.le_of_ble_eq_true rfl⟩ ⟨Nat.zero_le _, Nat.zero_le _⟩ hK hP hD hS hA rfl hl rfl (Nat.le_of_ble_eq_true rfl) d_ST_gate_2 (fun H locs hP hD hS => ?_)
  refine my_if_ne_b (tgt := 11) hx hb d_ST_gate_5 (by decide) (fun c_5 => ?_) (fun c_5 => ?_)
  · -- 5: taken
    obtain ⟨n1, hn1, rfl⟩ := isK_nat c_5
    have hkc : (nI n1).toNatClampNeg = n1 := nI_clamp (by omega)
    simp only [hkc] at hret
    refine lv_aload_n hx hb d_ST_gate_11 rfl (lv_at hl 0 rfl) ?_
    refine va_get (D := g) (ci := 0) (v := .ref (a 1)) (C := R_ST) (T := F_ST) (N := 7) hx hb hT i_ST hown hK hP 0 rfl rfl 0 (by decide) (hT _ tw_223) (fun _ h9 => h9) rfl d_ST_gate_12 ?_
    refine va_getN (D := g) (ci := 1) (v := .int (nI ng)) (C := R_No) (T := F_No) (N := 13) hx hb hT i_No hown hK hP 1 rfl rfl 2 (by decide) (va_Nw.use rfl (hN _ tw_38)) (fun _ h9 => h9) rfl d_ST_gate_15 ?_
    refine lv_bipush (v := (nI 20)) hx hb d_ST_gate_18 (by decide) ?_
    refine my_icmp_lt (tgt := 26) (a := ng) (b := 20) hx hb d_ST_gate_20 (by decide) (by omega) (by omega) (fun c_20 => ?_) (fun c_20 => ?_)
    · -- 20: taken
      refine lv_aload_n hx hb d_ST_gate_26 rfl (lv_at hl 0 rfl) ?_
      refine va_get (D := g) (ci := 0) (v := .ref (a 1)) (C := R_ST) (T := F_ST) (N := 7) hx hb hT i_ST hown hK hP 0 rfl rfl 0 (by decide) (hT _ tw_223) (fun _ h9 => h9) rfl d_ST_gate_27 ?_
      refine lv_iload_n hx hb d_ST_gate_30 rfl (lv_at hl 1 rfl) ?_
      refine lv_iload_n hx hb d_ST_gate_31 rfl (lv_at hl 2 rfl) ?_
      refine my_V_i (q0 := 1) (ci := 1) (C := R_No) (As := [.int k, .int (nI n1)]) (n := 2) (k_No_addGate l g a rB rT cI cJ cII cJJ nc nv ng kd vo nu nd en br bc un eu li tb cc0 cp cu cd tc ts tf ox ow ob ra rb gc gr gk gg gp gt sa sb k n1 (by omega)) hx hb hml hown hT hN tw_280 tw_281 tw_282 tw_2 tw_283 (by decide +kernel) rfl rfl ⟨Nat.le_of_ble_eq_true rfl, Nat.le_of_ble_eq_true rfl⟩ ⟨Nat.zero_le _, Nat.zero_le _⟩ hK hP hD hS hA rfl rfl rfl hl rfl (Nat.le_of_ble_eq_true rfl) d_ST_gate_32 (fun H locs hP hD hS => ?_)
      refine hret _ _ _ _ _ (by rw [if_pos (by first | (simp [c_5, c_20]; done) | (simp [c_5, c_20]; omega) | (simp [c_5, c_20]; rfl))]; exact hP) (by rw [if_pos (by first | (simp [c_5, c_20]; done) | (simp [c_5, c_20]; omega) | (simp [c_5, c_20]; rfl))]; exact hD) hS d_ST_gate_35 ?_
      first | (simp [gaR, c_5, hkc, c_20]; done) | (simp [gaR, c_5, hkc, c_20]; omega) | (simp [gaR, c_5, hkc, c_20]; rfl)
    · -- 20: not taken
      refine lv_bipush (v := (-4)) hx hb d_ST_gate_23 (by decide) ?_
      refine hret _ _ _ _ _ (by rw [if_neg (by first | (simp [c_5, c_20]; done) | (simp [c_5, c_20]; omega) | (simp [c_5, c_20]; rfl))]; exact hP) (by rw [if_neg (by first | (simp [c_5, c_20]; done) | (simp [c_5, c_20]; omega) | (simp [c_5, c_20]; rfl))]; exact hD) hS d_ST_gate_25 ?_
      first | (simp [gaR, c_5, hkc, c_20]; done) | (simp [gaR, c_5, hkc, c_20]; omega) | (simp [gaR, c_5, hkc, c_20]; rfl)
  · -- 5: not taken
    refine lv_bipush (v := (-2)) hx hb d_ST_gate_8 (by decide) ?_
    refine hret _ _ _ _ _ (by rw [if_neg (by first | (simp [c_5]; done) | (simp [c_5]; omega) | (simp [c_5]; rfl))]; exact hP) (by rw [if_neg (by first | (simp [c_5]; done) | (simp [c_5]; omega) | (simp [c_5]; rfl))]; exact hD) hS d_ST_gate_10 ?_
    first | (simp [gaR, c_5]; done) | (simp [gaR, c_5]; omega) | (simp [gaR, c_5]; rfl)
end
