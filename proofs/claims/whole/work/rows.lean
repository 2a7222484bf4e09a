section
-- ===== PART A: goes FIRST, ahead of the names: the tables' words, and 'selects' of the private methods out of them =====
/-- a private method of a class that the tables say can be made, by its rows of tables_1 -/
def lw_okq (q : MethodName × Nat) : Prop := (q.1.cls ≠ "java/lang/invoke/MethodHandle" ∧ q.1.cls ≠ "java/lang/invoke/VarHandle") ∧ Cond.instantiable q.1.cls q.2 ∈ tables_1 ∧ Cond.privateMethod q.1 ∈ tables_1 ∧ Cond.instanceMethod q.1 ∈ tables_1
theorem lw_p0 : lw_okq (⟨"SafetyTrees$Truth", "fillGate", "(II)V"⟩, 2) := ⟨⟨by decide +kernel, by decide +kernel⟩, List.mem_of_getElem? (i := 97) (by decide +kernel), List.mem_of_getElem? (i := 343) (by decide +kernel), List.mem_of_getElem? (i := 344) (by decide +kernel)⟩
theorem lw_p1 : lw_okq (⟨"SafetyTrees$Truth", "gateWord", "(II)J"⟩, 2) := ⟨⟨by decide +kernel, by decide +kernel⟩, List.mem_of_getElem? (i := 97) (by decide +kernel), List.mem_of_getElem? (i := 347) (by decide +kernel), List.mem_of_getElem? (i := 348) (by decide +kernel)⟩
theorem lw_p2 : lw_okq (⟨"SafetyTrees$Truth", "allOf", "(II)J"⟩, 2) := ⟨⟨by decide +kernel, by decide +kernel⟩, List.mem_of_getElem? (i := 97) (by decide +kernel), List.mem_of_getElem? (i := 351) (by decide +kernel), List.mem_of_getElem? (i := 352) (by decide +kernel)⟩
theorem lw_p3 : lw_okq (⟨"SafetyTrees$Truth", "anyOf", "(II)J"⟩, 2) := ⟨⟨by decide +kernel, by decide +kernel⟩, List.mem_of_getElem? (i := 97) (by decide +kernel), List.mem_of_getElem? (i := 355) (by decide +kernel), List.mem_of_getElem? (i := 356) (by decide +kernel)⟩
theorem lw_p4 : lw_okq (⟨"SafetyTrees$Truth", "votesOf", "(II)J"⟩, 2) := ⟨⟨by decide +kernel, by decide +kernel⟩, List.mem_of_getElem? (i := 97) (by decide +kernel), List.mem_of_getElem? (i := 359) (by decide +kernel), List.mem_of_getElem? (i := 360) (by decide +kernel)⟩
theorem lw_p5 : lw_okq (⟨"SafetyTrees$Cuts", "find", "(LSafetyTrees$Truth;II)I"⟩, 3) := ⟨⟨by decide +kernel, by decide +kernel⟩, List.mem_of_getElem? (i := 136) (by decide +kernel), List.mem_of_getElem? (i := 370) (by decide +kernel), List.mem_of_getElem? (i := 371) (by decide +kernel)⟩
theorem lw_p6 : lw_okq (⟨"SafetyTrees$Cuts", "takeOfSize", "(II)V"⟩, 3) := ⟨⟨by decide +kernel, by decide +kernel⟩, List.mem_of_getElem? (i := 136) (by decide +kernel), List.mem_of_getElem? (i := 383) (by decide +kernel), List.mem_of_getElem? (i := 384) (by decide +kernel)⟩
theorem lw_p7 : lw_okq (⟨"SafetyTrees$Odds", "workExactly", "(II)V"⟩, 7) := ⟨⟨by decide +kernel, by decide +kernel⟩, List.mem_of_getElem? (i := 152) (by decide +kernel), List.mem_of_getElem? (i := 415) (by decide +kernel), List.mem_of_getElem? (i := 416) (by decide +kernel)⟩
theorem lw_p8 : lw_okq (⟨"SafetyTrees$Odds", "weighSets", "(II)V"⟩, 7) := ⟨⟨by decide +kernel, by decide +kernel⟩, List.mem_of_getElem? (i := 152) (by decide +kernel), List.mem_of_getElem? (i := 420) (by decide +kernel), List.mem_of_getElem? (i := 421) (by decide +kernel)⟩
theorem lw_p9 : lw_okq (⟨"SafetyTrees$Odds", "mix", "(IIJJ)V"⟩, 7) := ⟨⟨by decide +kernel, by decide +kernel⟩, List.mem_of_getElem? (i := 152) (by decide +kernel), List.mem_of_getElem? (i := 430) (by decide +kernel), List.mem_of_getElem? (i := 431) (by decide +kernel)⟩
theorem lw_p10 : lw_okq (⟨"SafetyTrees$Odds", "workBound", "(I)V"⟩, 7) := ⟨⟨by decide +kernel, by decide +kernel⟩, List.mem_of_getElem? (i := 152) (by decide +kernel), List.mem_of_getElem? (i := 441) (by decide +kernel), List.mem_of_getElem? (i := 442) (by decide +kernel)⟩
theorem lw_p11 : lw_okq (⟨"SafetyTrees$Odds", "eventBound", "(I)J"⟩, 7) := ⟨⟨by decide +kernel, by decide +kernel⟩, List.mem_of_getElem? (i := 152) (by decide +kernel), List.mem_of_getElem? (i := 445) (by decide +kernel), List.mem_of_getElem? (i := 446) (by decide +kernel)⟩
theorem lw_p12 : lw_okq (⟨"SafetyTrees$Odds", "gateBound", "(I)J"⟩, 7) := ⟨⟨by decide +kernel, by decide +kernel⟩, List.mem_of_getElem? (i := 152) (by decide +kernel), List.mem_of_getElem? (i := 457) (by decide +kernel), List.mem_of_getElem? (i := 458) (by decide +kernel)⟩
theorem lw_p13 : lw_okq (⟨"SafetyTrees$Goals", "isGoalOpen", "(I)Z"⟩, 6) := ⟨⟨by decide +kernel, by decide +kernel⟩, List.mem_of_getElem? (i := 195) (by decide +kernel), List.mem_of_getElem? (i := 513) (by decide +kernel), List.mem_of_getElem? (i := 514) (by decide +kernel)⟩
theorem lw_p14 : lw_okq (⟨"SafetyTrees$Goals", "isPartOpen", "(I)Z"⟩, 6) := ⟨⟨by decide +kernel, by decide +kernel⟩, List.mem_of_getElem? (i := 195) (by decide +kernel), List.mem_of_getElem? (i := 517) (by decide +kernel), List.mem_of_getElem? (i := 518) (by decide +kernel)⟩
theorem lw_p15 : lw_okq (⟨"java/lang/Throwable", "fillInStackTrace", "(I)Ljava/lang/Throwable;"⟩, 6) := ⟨⟨by decide +kernel, by decide +kernel⟩, List.mem_of_getElem? (i := 584) (by decide +kernel), List.mem_of_getElem? (i := 582) (by decide +kernel), List.mem_of_getElem? (i := 583) (by decide +kernel)⟩
def lw_privs_1 : List (MethodName × Nat) := [(⟨"SafetyTrees$Truth", "fillGate", "(II)V"⟩, 2), (⟨"SafetyTrees$Truth", "gateWord", "(II)J"⟩, 2), (⟨"SafetyTrees$Truth", "allOf", "(II)J"⟩, 2), (⟨"SafetyTrees$Truth", "anyOf", "(II)J"⟩, 2), (⟨"SafetyTrees$Truth", "votesOf", "(II)J"⟩, 2), (⟨"SafetyTrees$Cuts", "find", "(LSafetyTrees$Truth;II)I"⟩, 3), (⟨"SafetyTrees$Cuts", "takeOfSize", "(II)V"⟩, 3), (⟨"SafetyTrees$Odds", "workExactly", "(II)V"⟩, 7), (⟨"SafetyTrees$Odds", "weighSets", "(II)V"⟩, 7), (⟨"SafetyTrees$Odds", "mix", "(IIJJ)V"⟩, 7), (⟨"SafetyTrees$Odds", "workBound", "(I)V"⟩, 7), (⟨"SafetyTrees$Odds", "eventBound", "(I)J"⟩, 7), (⟨"SafetyTrees$Odds", "gateBound", "(I)J"⟩, 7), (⟨"SafetyTrees$Goals", "isGoalOpen", "(I)Z"⟩, 6), (⟨"SafetyTrees$Goals", "isPartOpen", "(I)Z"⟩, 6), (⟨"java/lang/Throwable", "fillInStackTrace", "(I)Ljava/lang/Throwable;"⟩, 6)]
theorem lw_r1 : ∀ q ∈ lw_privs_1, lw_okq q := List.forall_mem_cons.mpr ⟨lw_p0, List.forall_mem_cons.mpr ⟨lw_p1, List.forall_mem_cons.mpr ⟨lw_p2, List.forall_mem_cons.mpr ⟨lw_p3, List.forall_mem_cons.mpr ⟨lw_p4, List.forall_mem_cons.mpr ⟨lw_p5, List.forall_mem_cons.mpr ⟨lw_p6, List.forall_mem_cons.mpr ⟨lw_p7, List.forall_mem_cons.mpr ⟨lw_p8, List.forall_mem_cons.mpr ⟨lw_p9, List.forall_mem_cons.mpr ⟨lw_p10, List.forall_mem_cons.mpr ⟨lw_p11, List.forall_mem_cons.mpr ⟨lw_p12, List.forall_mem_cons.mpr ⟨lw_p13, List.forall_mem_cons.mpr ⟨lw_p14, List.forall_mem_cons.mpr ⟨lw_p15, fun _ h => absurd h List.not_mem_nil⟩⟩⟩⟩⟩⟩⟩⟩⟩⟩⟩⟩⟩⟩⟩⟩
theorem lw_p16 : lw_okq (⟨"SafetyTreesModel", "isGate", "(I)Z"⟩, 35) := ⟨⟨by decide +kernel, by decide +kernel⟩, List.mem_of_getElem? (i := 616) (by decide +kernel), List.mem_of_getElem? (i := 750) (by decide +kernel), List.mem_of_getElem? (i := 751) (by decide +kernel)⟩
theorem lw_p17 : lw_okq (⟨"SafetyTreesModel", "mark", "(I)V"⟩, 35) := ⟨⟨by decide +kernel, by decide +kernel⟩, List.mem_of_getElem? (i := 616) (by decide +kernel), List.mem_of_getElem? (i := 754) (by decide +kernel), List.mem_of_getElem? (i := 755) (by decide +kernel)⟩
theorem lw_p18 : lw_okq (⟨"SafetyTreesModel", "prepare", "(I)V"⟩, 35) := ⟨⟨by decide +kernel, by decide +kernel⟩, List.mem_of_getElem? (i := 616) (by decide +kernel), List.mem_of_getElem? (i := 762) (by decide +kernel), List.mem_of_getElem? (i := 763) (by decide +kernel)⟩
theorem lw_p19 : lw_okq (⟨"SafetyTreesModel", "isReady", "(I)Z"⟩, 35) := ⟨⟨by decide +kernel, by decide +kernel⟩, List.mem_of_getElem? (i := 616) (by decide +kernel), List.mem_of_getElem? (i := 766) (by decide +kernel), List.mem_of_getElem? (i := 767) (by decide +kernel)⟩
theorem lw_p20 : lw_okq (⟨"SafetyTreesModel", "tryAll", "(I)V"⟩, 35) := ⟨⟨by decide +kernel, by decide +kernel⟩, List.mem_of_getElem? (i := 616) (by decide +kernel), List.mem_of_getElem? (i := 770) (by decide +kernel), List.mem_of_getElem? (i := 771) (by decide +kernel)⟩
theorem lw_p21 : lw_okq (⟨"SafetyTreesModel", "bit", "(I)I"⟩, 35) := ⟨⟨by decide +kernel, by decide +kernel⟩, List.mem_of_getElem? (i := 616) (by decide +kernel), List.mem_of_getElem? (i := 774) (by decide +kernel), List.mem_of_getElem? (i := 775) (by decide +kernel)⟩
theorem lw_p22 : lw_okq (⟨"SafetyTreesModel", "isMinimal", "(I)Z"⟩, 35) := ⟨⟨by decide +kernel, by decide +kernel⟩, List.mem_of_getElem? (i := 616) (by decide +kernel), List.mem_of_getElem? (i := 781) (by decide +kernel), List.mem_of_getElem? (i := 782) (by decide +kernel)⟩
theorem lw_p23 : lw_okq (⟨"SafetyTreesModel", "exactChance", "(II)J"⟩, 35) := ⟨⟨by decide +kernel, by decide +kernel⟩, List.mem_of_getElem? (i := 616) (by decide +kernel), List.mem_of_getElem? (i := 798) (by decide +kernel), List.mem_of_getElem? (i := 799) (by decide +kernel)⟩
theorem lw_p24 : lw_okq (⟨"SafetyTreesModel", "spread", "(IJJ)V"⟩, 35) := ⟨⟨by decide +kernel, by decide +kernel⟩, List.mem_of_getElem? (i := 616) (by decide +kernel), List.mem_of_getElem? (i := 802) (by decide +kernel), List.mem_of_getElem? (i := 803) (by decide +kernel)⟩
theorem lw_p25 : lw_okq (⟨"SafetyTreesModel", "bitsOf", "(I)I"⟩, 35) := ⟨⟨by decide +kernel, by decide +kernel⟩, List.mem_of_getElem? (i := 616) (by decide +kernel), List.mem_of_getElem? (i := 806) (by decide +kernel), List.mem_of_getElem? (i := 807) (by decide +kernel)⟩
theorem lw_p26 : lw_okq (⟨"SafetyTreesModel", "boundChance", "(II)J"⟩, 35) := ⟨⟨by decide +kernel, by decide +kernel⟩, List.mem_of_getElem? (i := 616) (by decide +kernel), List.mem_of_getElem? (i := 816) (by decide +kernel), List.mem_of_getElem? (i := 817) (by decide +kernel)⟩
theorem lw_p27 : lw_okq (⟨"SafetyTreesModel", "boundOfEvent", "(I)I"⟩, 35) := ⟨⟨by decide +kernel, by decide +kernel⟩, List.mem_of_getElem? (i := 616) (by decide +kernel), List.mem_of_getElem? (i := 820) (by decide +kernel), List.mem_of_getElem? (i := 821) (by decide +kernel)⟩
theorem lw_p28 : lw_okq (⟨"SafetyTreesModel", "isEvent", "(I)Z"⟩, 35) := ⟨⟨by decide +kernel, by decide +kernel⟩, List.mem_of_getElem? (i := 616) (by decide +kernel), List.mem_of_getElem? (i := 833) (by decide +kernel), List.mem_of_getElem? (i := 834) (by decide +kernel)⟩
theorem lw_p29 : lw_okq (⟨"SafetyTreesModel", "rowsOf", "(IIZ)I"⟩, 35) := ⟨⟨by decide +kernel, by decide +kernel⟩, List.mem_of_getElem? (i := 616) (by decide +kernel), List.mem_of_getElem? (i := 856) (by decide +kernel), List.mem_of_getElem? (i := 857) (by decide +kernel)⟩
def lw_privs_2 : List (MethodName × Nat) := [(⟨"SafetyTreesModel", "isGate", "(I)Z"⟩, 35), (⟨"SafetyTreesModel", "mark", "(I)V"⟩, 35), (⟨"SafetyTreesModel", "prepare", "(I)V"⟩, 35), (⟨"SafetyTreesModel", "isReady", "(I)Z"⟩, 35), (⟨"SafetyTreesModel", "tryAll", "(I)V"⟩, 35), (⟨"SafetyTreesModel", "bit", "(I)I"⟩, 35), (⟨"SafetyTreesModel", "isMinimal", "(I)Z"⟩, 35), (⟨"SafetyTreesModel", "exactChance", "(II)J"⟩, 35), (⟨"SafetyTreesModel", "spread", "(IJJ)V"⟩, 35), (⟨"SafetyTreesModel", "bitsOf", "(I)I"⟩, 35), (⟨"SafetyTreesModel", "boundChance", "(II)J"⟩, 35), (⟨"SafetyTreesModel", "boundOfEvent", "(I)I"⟩, 35), (⟨"SafetyTreesModel", "isEvent", "(I)Z"⟩, 35), (⟨"SafetyTreesModel", "rowsOf", "(IIZ)I"⟩, 35)]
theorem lw_r2 : ∀ q ∈ lw_privs_2, lw_okq q := List.forall_mem_cons.mpr ⟨lw_p16, List.forall_mem_cons.mpr ⟨lw_p17, List.forall_mem_cons.mpr ⟨lw_p18, List.forall_mem_cons.mpr ⟨lw_p19, List.forall_mem_cons.mpr ⟨lw_p20, List.forall_mem_cons.mpr ⟨lw_p21, List.forall_mem_cons.mpr ⟨lw_p22, List.forall_mem_cons.mpr ⟨lw_p23, List.forall_mem_cons.mpr ⟨lw_p24, List.forall_mem_cons.mpr ⟨lw_p25, List.forall_mem_cons.mpr ⟨lw_p26, List.forall_mem_cons.mpr ⟨lw_p27, List.forall_mem_cons.mpr ⟨lw_p28, List.forall_mem_cons.mpr ⟨lw_p29, fun _ h => absurd h List.not_mem_nil⟩⟩⟩⟩⟩⟩⟩⟩⟩⟩⟩⟩⟩⟩
def lw_privs : List (MethodName × Nat) := lw_privs_1 ++ (lw_privs_2)
def lw_tbl : List Cond := k2_sels lw_privs ++ tables_1
theorem lw_privs_ok : ∀ q ∈ lw_privs, lw_okq q := by
  show ∀ q ∈ lw_privs_1 ++ (lw_privs_2), lw_okq q
  exact List.forall_mem_append.mpr ⟨lw_r1, lw_r2⟩
end
section
def R_ST : String := "SafetyTrees"
abbrev c_ST_init : ByteArray := prog_1_method_1_code
def y_ST_init : MethodName := ⟨R_ST, "<init>", "()V"⟩
abbrev c_ST_event : ByteArray := prog_1_method_2_code
def y_ST_event : MethodName := ⟨R_ST, "event", "(JJ)I"⟩
abbrev c_ST_gate : ByteArray := prog_1_method_3_code
def y_ST_gate : MethodName := ⟨R_ST, "gate", "(II)I"⟩
abbrev c_ST_below : ByteArray := prog_1_method_4_code
def y_ST_below : MethodName := ⟨R_ST, "below", "(II)I"⟩
abbrev c_ST_cuts : ByteArray := prog_1_method_5_code
def y_ST_cuts : MethodName := ⟨R_ST, "cuts", "(IJ)I"⟩
abbrev c_ST_cut : ByteArray := prog_1_method_6_code
def y_ST_cut : MethodName := ⟨R_ST, "cut", "(II)I"⟩
abbrev c_ST_chance : ByteArray := prog_1_method_7_code
def y_ST_chance : MethodName := ⟨R_ST, "chance", "(II)J"⟩
abbrev c_ST_exact : ByteArray := prog_1_method_8_code
def y_ST_exact : MethodName := ⟨R_ST, "exact", "()Z"⟩
abbrev c_ST_common : ByteArray := prog_1_method_9_code
def y_ST_common : MethodName := ⟨R_ST, "common", "(IIJJ)I"⟩
abbrev c_ST_grade : ByteArray := prog_1_method_10_code
def y_ST_grade : MethodName := ⟨R_ST, "grade", "(III)I"⟩
abbrev c_ST_goal : ByteArray := prog_1_method_11_code
def y_ST_goal : MethodName := ⟨R_ST, "goal", "(I)I"⟩
abbrev c_ST_trace : ByteArray := prog_1_method_12_code
def y_ST_trace : MethodName := ⟨R_ST, "trace", "(III)I"⟩
abbrev c_ST_open : ByteArray := prog_1_method_13_code
def y_ST_open : MethodName := ⟨R_ST, "open", "(I)I"⟩
abbrev c_ST_cover : ByteArray := prog_1_method_14_code
def y_ST_cover : MethodName := ⟨R_ST, "cover", "(II)J"⟩
abbrev c_ST_plain : ByteArray := prog_1_method_15_code
def y_ST_plain : MethodName := ⟨R_ST, "plain", "(I)I"⟩
abbrev c_ST_isWithin : ByteArray := prog_1_method_16_code
def y_ST_isWithin : MethodName := ⟨R_ST, "isWithin", "(III)Z"⟩
abbrev c_ST_isDown : ByteArray := prog_1_method_17_code
def y_ST_isDown : MethodName := ⟨R_ST, "isDown", "(J)Z"⟩
abbrev c_ST_isKind : ByteArray := prog_1_method_18_code
def y_ST_isKind : MethodName := ⟨R_ST, "isKind", "(II)Z"⟩
abbrev c_ST_countOfSets : ByteArray := prog_1_method_19_code
def y_ST_countOfSets : MethodName := ⟨R_ST, "countOfSets", "(I)I"⟩
abbrev c_ST_nextSet : ByteArray := prog_1_method_20_code
def y_ST_nextSet : MethodName := ⟨R_ST, "nextSet", "(II)I"⟩
def R_No : String := "SafetyTrees$Nodes"
abbrev c_No_init : ByteArray := prog_6_method_1_code
def y_No_init : MethodName := ⟨R_No, "<init>", "()V"⟩
abbrev c_No_isNode : ByteArray := prog_6_method_2_code
def y_No_isNode : MethodName := ⟨R_No, "isNode", "(I)Z"⟩
abbrev c_No_isEvent : ByteArray := prog_6_method_3_code
def y_No_isEvent : MethodName := ⟨R_No, "isEvent", "(I)Z"⟩
abbrev c_No_isGate : ByteArray := prog_6_method_4_code
def y_No_isGate : MethodName := ⟨R_No, "isGate", "(I)Z"⟩
abbrev c_No_addEvent : ByteArray := prog_6_method_5_code
def y_No_addEvent : MethodName := ⟨R_No, "addEvent", "(JJ)I"⟩
abbrev c_No_addGate : ByteArray := prog_6_method_6_code
def y_No_addGate : MethodName := ⟨R_No, "addGate", "(II)I"⟩
abbrev c_No_eventBit : ByteArray := prog_6_method_7_code
def y_No_eventBit : MethodName := ⟨R_No, "eventBit", "(I)I"⟩
abbrev c_No_isBelow : ByteArray := prog_6_method_8_code
def y_No_isBelow : MethodName := ⟨R_No, "isBelow", "(II)Z"⟩
abbrev c_No_isUnder : ByteArray := prog_6_method_9_code
def y_No_isUnder : MethodName := ⟨R_No, "isUnder", "(II)Z"⟩
abbrev c_No_putBelow : ByteArray := prog_6_method_10_code
def y_No_putBelow : MethodName := ⟨R_No, "putBelow", "(II)V"⟩
abbrev c_No_lineUp : ByteArray := prog_6_method_11_code
def y_No_lineUp : MethodName := ⟨R_No, "lineUp", "(I)I"⟩
def R_Tr : String := "SafetyTrees$Truth"
abbrev c_Tr_init : ByteArray := prog_8_method_1_code
def y_Tr_init : MethodName := ⟨R_Tr, "<init>", "(LSafetyTrees$Nodes;)V"⟩
abbrev c_Tr_fillEvent : ByteArray := prog_8_method_2_code
def y_Tr_fillEvent : MethodName := ⟨R_Tr, "fillEvent", "(I)V"⟩
abbrev c_Tr_eventWord : ByteArray := prog_8_method_3_code
def y_Tr_eventWord : MethodName := ⟨R_Tr, "eventWord", "(II)J"⟩
abbrev c_Tr_fillGates : ByteArray := prog_8_method_4_code
def y_Tr_fillGates : MethodName := ⟨R_Tr, "fillGates", "(I)V"⟩
abbrev c_Tr_fillGate : ByteArray := prog_8_method_5_code
def y_Tr_fillGate : MethodName := ⟨R_Tr, "fillGate", "(II)V"⟩
abbrev c_Tr_gateWord : ByteArray := prog_8_method_6_code
def y_Tr_gateWord : MethodName := ⟨R_Tr, "gateWord", "(II)J"⟩
abbrev c_Tr_allOf : ByteArray := prog_8_method_7_code
def y_Tr_allOf : MethodName := ⟨R_Tr, "allOf", "(II)J"⟩
abbrev c_Tr_anyOf : ByteArray := prog_8_method_8_code
def y_Tr_anyOf : MethodName := ⟨R_Tr, "anyOf", "(II)J"⟩
abbrev c_Tr_votesOf : ByteArray := prog_8_method_9_code
def y_Tr_votesOf : MethodName := ⟨R_Tr, "votesOf", "(II)J"⟩
abbrev c_Tr_withDigit : ByteArray := prog_8_method_10_code
def y_Tr_withDigit : MethodName := ⟨R_Tr, "withDigit", "(IJJ)J"⟩
abbrev c_Tr_isTrue : ByteArray := prog_8_method_11_code
def y_Tr_isTrue : MethodName := ⟨R_Tr, "isTrue", "(II)Z"⟩
abbrev c_Tr_countTrue : ByteArray := prog_8_method_12_code
def y_Tr_countTrue : MethodName := ⟨R_Tr, "countTrue", "(II)I"⟩
abbrev c_Tr_isMinimal : ByteArray := prog_8_method_13_code
def y_Tr_isMinimal : MethodName := ⟨R_Tr, "isMinimal", "(II)Z"⟩
def R_Ca : String := "SafetyTrees$Causes"
abbrev c_Ca_init : ByteArray := prog_2_method_1_code
def y_Ca_init : MethodName := ⟨R_Ca, "<init>", "()V"⟩
abbrev c_Ca_add : ByteArray := prog_2_method_2_code
def y_Ca_add : MethodName := ⟨R_Ca, "add", "(IJJ)I"⟩
abbrev c_Ca_touches : ByteArray := prog_2_method_3_code
def y_Ca_touches : MethodName := ⟨R_Ca, "touches", "(II)Z"⟩
abbrev c_Ca_countTouching : ByteArray := prog_2_method_4_code
def y_Ca_countTouching : MethodName := ⟨R_Ca, "countTouching", "(I)I"⟩
def R_Cu : String := "SafetyTrees$Cuts"
abbrev c_Cu_init : ByteArray := prog_3_method_1_code
def y_Cu_init : MethodName := ⟨R_Cu, "<init>", "()V"⟩
abbrev c_Cu_clear : ByteArray := prog_3_method_2_code
def y_Cu_clear : MethodName := ⟨R_Cu, "clear", "()V"⟩
abbrev c_Cu_tell : ByteArray := prog_3_method_3_code
def y_Cu_tell : MethodName := ⟨R_Cu, "tell", "(LSafetyTrees$Truth;II)I"⟩
abbrev c_Cu_find : ByteArray := prog_3_method_4_code
def y_Cu_find : MethodName := ⟨R_Cu, "find", "(LSafetyTrees$Truth;II)I"⟩
abbrev c_Cu_takeOfSize : ByteArray := prog_3_method_5_code
def y_Cu_takeOfSize : MethodName := ⟨R_Cu, "takeOfSize", "(II)V"⟩
abbrev c_Cu_eventIndex : ByteArray := prog_3_method_6_code
def y_Cu_eventIndex : MethodName := ⟨R_Cu, "eventIndex", "(II)I"⟩
def R_Od : String := "SafetyTrees$Odds"
abbrev c_Od_init : ByteArray := prog_7_method_1_code
def y_Od_init : MethodName := ⟨R_Od, "<init>", "(LSafetyTrees$Nodes;LSafetyTrees$Truth;LSafetyTrees$Causes;)V"⟩
abbrev c_Od_work : ByteArray := prog_7_method_2_code
def y_Od_work : MethodName := ⟨R_Od, "work", "(I)V"⟩
abbrev c_Od_workExactly : ByteArray := prog_7_method_3_code
def y_Od_workExactly : MethodName := ⟨R_Od, "workExactly", "(II)V"⟩
abbrev c_Od_weighSets : ByteArray := prog_7_method_4_code
def y_Od_weighSets : MethodName := ⟨R_Od, "weighSets", "(II)V"⟩
abbrev c_Od_mix : ByteArray := prog_7_method_5_code
def y_Od_mix : MethodName := ⟨R_Od, "mix", "(IIJJ)V"⟩
abbrev c_Od_workBound : ByteArray := prog_7_method_6_code
def y_Od_workBound : MethodName := ⟨R_Od, "workBound", "(I)V"⟩
abbrev c_Od_eventBound : ByteArray := prog_7_method_7_code
def y_Od_eventBound : MethodName := ⟨R_Od, "eventBound", "(I)J"⟩
abbrev c_Od_inParts : ByteArray := prog_7_method_8_code
def y_Od_inParts : MethodName := ⟨R_Od, "inParts", "(JJ)J"⟩
abbrev c_Od_gateBound : ByteArray := prog_7_method_9_code
def y_Od_gateBound : MethodName := ⟨R_Od, "gateBound", "(I)J"⟩
def R_Go : String := "SafetyTrees$Goals"
abbrev c_Go_init : ByteArray := prog_5_method_1_code
def y_Go_init : MethodName := ⟨R_Go, "<init>", "()V"⟩
abbrev c_Go_add : ByteArray := prog_5_method_2_code
def y_Go_add : MethodName := ⟨R_Go, "add", "(I)I"⟩
abbrev c_Go_addRow : ByteArray := prog_5_method_3_code
def y_Go_addRow : MethodName := ⟨R_Go, "addRow", "(III)I"⟩
abbrev c_Go_hasRow : ByteArray := prog_5_method_4_code
def y_Go_hasRow : MethodName := ⟨R_Go, "hasRow", "(III)Z"⟩
abbrev c_Go_rowsOfPart : ByteArray := prog_5_method_5_code
def y_Go_rowsOfPart : MethodName := ⟨R_Go, "rowsOfPart", "(I)I"⟩
abbrev c_Go_testedRowsOfPart : ByteArray := prog_5_method_6_code
def y_Go_testedRowsOfPart : MethodName := ⟨R_Go, "testedRowsOfPart", "(I)I"⟩
abbrev c_Go_findOpen : ByteArray := prog_5_method_7_code
def y_Go_findOpen : MethodName := ⟨R_Go, "findOpen", "(I)I"⟩
abbrev c_Go_isGoalOpen : ByteArray := prog_5_method_8_code
def y_Go_isGoalOpen : MethodName := ⟨R_Go, "isGoalOpen", "(I)Z"⟩
abbrev c_Go_isPartOpen : ByteArray := prog_5_method_9_code
def y_Go_isPartOpen : MethodName := ⟨R_Go, "isPartOpen", "(I)Z"⟩
def R_Fr : String := "SafetyTrees$Fraction"
abbrev c_Fr_init : ByteArray := prog_4_method_1_code
def y_Fr_init : MethodName := ⟨R_Fr, "<init>", "()V"⟩
abbrev c_Fr_set : ByteArray := prog_4_method_2_code
def y_Fr_set : MethodName := ⟨R_Fr, "set", "(JJ)V"⟩
abbrev c_Fr_side : ByteArray := prog_4_method_3_code
def y_Fr_side : MethodName := ⟨R_Fr, "side", "(I)J"⟩
abbrev c_Fr_commonDivisor : ByteArray := prog_4_method_4_code
def y_Fr_commonDivisor : MethodName := ⟨R_Fr, "commonDivisor", "(JJ)J"⟩
def R_Mo : String := "SafetyTreesModel"
abbrev c_Mo_init : ByteArray := prog_10_method_1_code
def y_Mo_init : MethodName := ⟨R_Mo, "<init>", "()V"⟩
abbrev c_Mo_thrown : ByteArray := prog_10_method_2_code
def y_Mo_thrown : MethodName := ⟨R_Mo, "thrown", "()I"⟩
abbrev c_Mo_isIn : ByteArray := prog_10_method_3_code
def y_Mo_isIn : MethodName := ⟨R_Mo, "isIn", "(JJJ)Z"⟩
abbrev c_Mo_isGate : ByteArray := prog_10_method_4_code
def y_Mo_isGate : MethodName := ⟨R_Mo, "isGate", "(I)Z"⟩
abbrev c_Mo_isEvent : ByteArray := prog_10_method_5_code
def y_Mo_isEvent : MethodName := ⟨R_Mo, "isEvent", "(I)Z"⟩
abbrev c_Mo_event : ByteArray := prog_10_method_6_code
def y_Mo_event : MethodName := ⟨R_Mo, "event", "(JJ)I"⟩
abbrev c_Mo_gate : ByteArray := prog_10_method_7_code
def y_Mo_gate : MethodName := ⟨R_Mo, "gate", "(II)I"⟩
abbrev c_Mo_mark : ByteArray := prog_10_method_8_code
def y_Mo_mark : MethodName := ⟨R_Mo, "mark", "(I)V"⟩
abbrev c_Mo_below : ByteArray := prog_10_method_9_code
def y_Mo_below : MethodName := ⟨R_Mo, "below", "(II)I"⟩
abbrev c_Mo_prepare : ByteArray := prog_10_method_10_code
def y_Mo_prepare : MethodName := ⟨R_Mo, "prepare", "(I)V"⟩
abbrev c_Mo_isReady : ByteArray := prog_10_method_11_code
def y_Mo_isReady : MethodName := ⟨R_Mo, "isReady", "(I)Z"⟩
abbrev c_Mo_bit : ByteArray := prog_10_method_12_code
def y_Mo_bit : MethodName := ⟨R_Mo, "bit", "(I)I"⟩
abbrev c_Mo_tryAll : ByteArray := prog_10_method_13_code
def y_Mo_tryAll : MethodName := ⟨R_Mo, "tryAll", "(I)V"⟩
abbrev c_Mo_ones : ByteArray := prog_10_method_14_code
def y_Mo_ones : MethodName := ⟨R_Mo, "ones", "(I)I"⟩
abbrev c_Mo_isMinimal : ByteArray := prog_10_method_15_code
def y_Mo_isMinimal : MethodName := ⟨R_Mo, "isMinimal", "(I)Z"⟩
abbrev c_Mo_cuts : ByteArray := prog_10_method_16_code
def y_Mo_cuts : MethodName := ⟨R_Mo, "cuts", "(IJ)I"⟩
abbrev c_Mo_cut : ByteArray := prog_10_method_17_code
def y_Mo_cut : MethodName := ⟨R_Mo, "cut", "(II)I"⟩
abbrev c_Mo_plain : ByteArray := prog_10_method_18_code
def y_Mo_plain : MethodName := ⟨R_Mo, "plain", "(I)I"⟩
abbrev c_Mo_gcd : ByteArray := prog_10_method_19_code
def y_Mo_gcd : MethodName := ⟨R_Mo, "gcd", "(JJ)J"⟩
abbrev c_Mo_lowest : ByteArray := prog_10_method_20_code
def y_Mo_lowest : MethodName := ⟨R_Mo, "lowest", "(JJI)J"⟩
abbrev c_Mo_bitsOf : ByteArray := prog_10_method_21_code
def y_Mo_bitsOf : MethodName := ⟨R_Mo, "bitsOf", "(I)I"⟩
abbrev c_Mo_exactChance : ByteArray := prog_10_method_22_code
def y_Mo_exactChance : MethodName := ⟨R_Mo, "exactChance", "(II)J"⟩
abbrev c_Mo_spread : ByteArray := prog_10_method_23_code
def y_Mo_spread : MethodName := ⟨R_Mo, "spread", "(IJJ)V"⟩
abbrev c_Mo_boundOfEvent : ByteArray := prog_10_method_24_code
def y_Mo_boundOfEvent : MethodName := ⟨R_Mo, "boundOfEvent", "(I)I"⟩
abbrev c_Mo_boundChance : ByteArray := prog_10_method_25_code
def y_Mo_boundChance : MethodName := ⟨R_Mo, "boundChance", "(II)J"⟩
abbrev c_Mo_chance : ByteArray := prog_10_method_26_code
def y_Mo_chance : MethodName := ⟨R_Mo, "chance", "(II)J"⟩
abbrev c_Mo_exact : ByteArray := prog_10_method_27_code
def y_Mo_exact : MethodName := ⟨R_Mo, "exact", "()Z"⟩
abbrev c_Mo_common : ByteArray := prog_10_method_28_code
def y_Mo_common : MethodName := ⟨R_Mo, "common", "(IIJJ)I"⟩
abbrev c_Mo_grade : ByteArray := prog_10_method_29_code
def y_Mo_grade : MethodName := ⟨R_Mo, "grade", "(III)I"⟩
abbrev c_Mo_goal : ByteArray := prog_10_method_30_code
def y_Mo_goal : MethodName := ⟨R_Mo, "goal", "(I)I"⟩
abbrev c_Mo_trace : ByteArray := prog_10_method_31_code
def y_Mo_trace : MethodName := ⟨R_Mo, "trace", "(III)I"⟩
abbrev c_Mo_rowsOf : ByteArray := prog_10_method_32_code
def y_Mo_rowsOf : MethodName := ⟨R_Mo, "rowsOf", "(IIZ)I"⟩
abbrev c_Mo_open : ByteArray := prog_10_method_33_code
def y_Mo_open : MethodName := ⟨R_Mo, "open", "(I)I"⟩
abbrev c_Mo_cover : ByteArray := prog_10_method_34_code
def y_Mo_cover : MethodName := ⟨R_Mo, "cover", "(II)J"⟩
def R_Lw : String := "SafetyTreesLaw"
def R_Ji : String := "java/lang/Integer"
abbrev c_Ji_bitCount : ByteArray := prog_13_method_49_code
def y_Ji_bitCount : MethodName := ⟨R_Ji, "bitCount", "(I)I"⟩
def R_Jl : String := "java/lang/Long"
abbrev c_Jl_bitCount : ByteArray := prog_14_method_50_code
def y_Jl_bitCount : MethodName := ⟨R_Jl, "bitCount", "(J)I"⟩
def R_Jm : String := "java/lang/Math"
abbrev c_Jm_min : ByteArray := prog_15_method_70_code
def y_Jm_min : MethodName := ⟨R_Jm, "min", "(JJ)J"⟩
def F_ST : u_T := fun k => match k with
  | 0 => ("SafetyTrees", "nodes", "LSafetyTrees$Nodes;", true)
  | 1 => ("SafetyTrees", "truth", "LSafetyTrees$Truth;", true)
  | 2 => ("SafetyTrees", "causes", "LSafetyTrees$Causes;", true)
  | 3 => ("SafetyTrees", "told", "LSafetyTrees$Cuts;", true)
  | 4 => ("SafetyTrees", "odds", "LSafetyTrees$Odds;", true)
  | 5 => ("SafetyTrees", "goals", "LSafetyTrees$Goals;", true)
  | _ => ("SafetyTrees", "share", "LSafetyTrees$Fraction;", true)
def t_ST : Nat → FieldType := fun k => match k with
  | 0 => .object "SafetyTrees$Nodes"
  | 1 => .object "SafetyTrees$Truth"
  | 2 => .object "SafetyTrees$Causes"
  | 3 => .object "SafetyTrees$Cuts"
  | 4 => .object "SafetyTrees$Odds"
  | 5 => .object "SafetyTrees$Goals"
  | _ => .object "SafetyTrees$Fraction"
theorem n_ST : ∀ a, a < 7 → ∀ b, b < 7 → a ≠ b → (F_ST a).2.1 ≠ (F_ST b).2.1 := by decide +kernel
theorem t_ST_ok : ∀ k, k < 7 → parseFieldDescriptor (F_ST k).2.2.1 = some (t_ST k) := by decide +kernel
def F_No : u_T := fun k => match k with
  | 0 => ("SafetyTrees$Nodes", "count", "I", false)
  | 1 => ("SafetyTrees$Nodes", "events", "I", false)
  | 2 => ("SafetyTrees$Nodes", "gates", "I", false)
  | 3 => ("SafetyTrees$Nodes", "kind", "[I", true)
  | 4 => ("SafetyTrees$Nodes", "votes", "[I", true)
  | 5 => ("SafetyTrees$Nodes", "up", "[J", true)
  | 6 => ("SafetyTrees$Nodes", "down", "[J", true)
  | 7 => ("SafetyTrees$Nodes", "eventNumber", "[I", true)
  | 8 => ("SafetyTrees$Nodes", "belowRow", "[[I", true)
  | 9 => ("SafetyTrees$Nodes", "belowCount", "[I", true)
  | 10 => ("SafetyTrees$Nodes", "nodesUnder", "[J", true)
  | 11 => ("SafetyTrees$Nodes", "eventsUnder", "[I", true)
  | _ => ("SafetyTrees$Nodes", "line", "[I", true)
def t_No : Nat → FieldType := fun k => match k with
  | 0 => .int
  | 1 => .int
  | 2 => .int
  | 3 => .array .int
  | 4 => .array .int
  | 5 => .array .long
  | 6 => .array .long
  | 7 => .array .int
  | 8 => .array (.array .int)
  | 9 => .array .int
  | 10 => .array .long
  | 11 => .array .int
  | _ => .array .int
theorem n_No : ∀ a, a < 13 → ∀ b, b < 13 → a ≠ b → (F_No a).2.1 ≠ (F_No b).2.1 := by decide +kernel
theorem t_No_ok : ∀ k, k < 13 → parseFieldDescriptor (F_No k).2.2.1 = some (t_No k) := by decide +kernel
def F_Tr : u_T := fun k => match k with
  | 0 => ("SafetyTrees$Truth", "nodes", "LSafetyTrees$Nodes;", true)
  | _ => ("SafetyTrees$Truth", "table", "[[J", true)
def t_Tr : Nat → FieldType := fun k => match k with
  | 0 => .object "SafetyTrees$Nodes"
  | _ => .array (.array .long)
theorem n_Tr : ∀ a, a < 2 → ∀ b, b < 2 → a ≠ b → (F_Tr a).2.1 ≠ (F_Tr b).2.1 := by decide +kernel
theorem t_Tr_ok : ∀ k, k < 2 → parseFieldDescriptor (F_Tr k).2.2.1 = some (t_Tr k) := by decide +kernel
def F_Ca : u_T := fun k => match k with
  | 0 => ("SafetyTrees$Causes", "count", "I", false)
  | 1 => ("SafetyTrees$Causes", "pair", "[I", true)
  | 2 => ("SafetyTrees$Causes", "up", "[J", true)
  | _ => ("SafetyTrees$Causes", "down", "[J", true)
def t_Ca : Nat → FieldType := fun k => match k with
  | 0 => .int
  | 1 => .array .int
  | 2 => .array .long
  | _ => .array .long
theorem n_Ca : ∀ a, a < 4 → ∀ b, b < 4 → a ≠ b → (F_Ca a).2.1 ≠ (F_Ca b).2.1 := by decide +kernel
theorem t_Ca_ok : ∀ k, k < 4 → parseFieldDescriptor (F_Ca k).2.2.1 = some (t_Ca k) := by decide +kernel
def F_Cu : u_T := fun k => match k with
  | 0 => ("SafetyTrees$Cuts", "count", "I", false)
  | 1 => ("SafetyTrees$Cuts", "sets", "[I", true)
  | _ => ("SafetyTrees$Cuts", "found", "[I", true)
def t_Cu : Nat → FieldType := fun k => match k with
  | 0 => .int
  | 1 => .array .int
  | _ => .array .int
theorem n_Cu : ∀ a, a < 3 → ∀ b, b < 3 → a ≠ b → (F_Cu a).2.1 ≠ (F_Cu b).2.1 := by decide +kernel
theorem t_Cu_ok : ∀ k, k < 3 → parseFieldDescriptor (F_Cu k).2.2.1 = some (t_Cu k) := by decide +kernel
def F_Od : u_T := fun k => match k with
  | 0 => ("SafetyTrees$Odds", "nodes", "LSafetyTrees$Nodes;", true)
  | 1 => ("SafetyTrees$Odds", "truth", "LSafetyTrees$Truth;", true)
  | 2 => ("SafetyTrees$Odds", "causes", "LSafetyTrees$Causes;", true)
  | 3 => ("SafetyTrees$Odds", "result", "LSafetyTrees$Fraction;", true)
  | 4 => ("SafetyTrees$Odds", "isExact", "Z", false)
  | 5 => ("SafetyTrees$Odds", "weights", "[J", true)
  | _ => ("SafetyTrees$Odds", "bounds", "[J", true)
def t_Od : Nat → FieldType := fun k => match k with
  | 0 => .object "SafetyTrees$Nodes"
  | 1 => .object "SafetyTrees$Truth"
  | 2 => .object "SafetyTrees$Causes"
  | 3 => .object "SafetyTrees$Fraction"
  | 4 => .boolean
  | 5 => .array .long
  | _ => .array .long
theorem n_Od : ∀ a, a < 7 → ∀ b, b < 7 → a ≠ b → (F_Od a).2.1 ≠ (F_Od b).2.1 := by decide +kernel
theorem t_Od_ok : ∀ k, k < 7 → parseFieldDescriptor (F_Od k).2.2.1 = some (t_Od k) := by decide +kernel
def F_Go : u_T := fun k => match k with
  | 0 => ("SafetyTrees$Goals", "count", "I", false)
  | 1 => ("SafetyTrees$Goals", "rows", "I", false)
  | 2 => ("SafetyTrees$Goals", "classOf", "[I", true)
  | 3 => ("SafetyTrees$Goals", "goalOf", "[I", true)
  | 4 => ("SafetyTrees$Goals", "partOf", "[I", true)
  | _ => ("SafetyTrees$Goals", "testOf", "[I", true)
def t_Go : Nat → FieldType := fun k => match k with
  | 0 => .int
  | 1 => .int
  | 2 => .array .int
  | 3 => .array .int
  | 4 => .array .int
  | _ => .array .int
theorem n_Go : ∀ a, a < 6 → ∀ b, b < 6 → a ≠ b → (F_Go a).2.1 ≠ (F_Go b).2.1 := by decide +kernel
theorem t_Go_ok : ∀ k, k < 6 → parseFieldDescriptor (F_Go k).2.2.1 = some (t_Go k) := by decide +kernel
def F_Fr : u_T := fun k => match k with
  | 0 => ("SafetyTrees$Fraction", "above", "J", false)
  | _ => ("SafetyTrees$Fraction", "beneath", "J", false)
def t_Fr : Nat → FieldType := fun k => match k with
  | 0 => .long
  | _ => .long
theorem n_Fr : ∀ a, a < 2 → ∀ b, b < 2 → a ≠ b → (F_Fr a).2.1 ≠ (F_Fr b).2.1 := by decide +kernel
theorem t_Fr_ok : ∀ k, k < 2 → parseFieldDescriptor (F_Fr k).2.2.1 = some (t_Fr k) := by decide +kernel
def F_Mo : u_T := fun k => match k with
  | 0 => ("SafetyTreesModel", "fault", "I", false)
  | 1 => ("SafetyTreesModel", "nodes", "I", false)
  | 2 => ("SafetyTreesModel", "events", "I", false)
  | 3 => ("SafetyTreesModel", "gates", "I", false)
  | 4 => ("SafetyTreesModel", "kind", "[I", true)
  | 5 => ("SafetyTreesModel", "votes", "[I", true)
  | 6 => ("SafetyTreesModel", "up", "[I", true)
  | 7 => ("SafetyTreesModel", "down", "[I", true)
  | 8 => ("SafetyTreesModel", "size", "[I", true)
  | 9 => ("SafetyTreesModel", "below", "[I", true)
  | 10 => ("SafetyTreesModel", "commons", "I", false)
  | 11 => ("SafetyTreesModel", "commonOne", "[I", true)
  | 12 => ("SafetyTreesModel", "commonOther", "[I", true)
  | 13 => ("SafetyTreesModel", "commonUp", "[I", true)
  | 14 => ("SafetyTreesModel", "commonDown", "[I", true)
  | 15 => ("SafetyTreesModel", "wasExact", "Z", false)
  | 16 => ("SafetyTreesModel", "under", "[Z", true)
  | 17 => ("SafetyTreesModel", "many", "I", false)
  | 18 => ("SafetyTreesModel", "eventAt", "[I", true)
  | 19 => ("SafetyTreesModel", "ordered", "I", false)
  | 20 => ("SafetyTreesModel", "order", "[I", true)
  | 21 => ("SafetyTreesModel", "done", "[Z", true)
  | 22 => ("SafetyTreesModel", "value", "[I", true)
  | 23 => ("SafetyTreesModel", "holds", "[Z", true)
  | 24 => ("SafetyTreesModel", "weight", "[J", true)
  | 25 => ("SafetyTreesModel", "cutMany", "I", false)
  | 26 => ("SafetyTreesModel", "cutOf", "[I", true)
  | 27 => ("SafetyTreesModel", "toldEvents", "[I", true)
  | 28 => ("SafetyTreesModel", "toldMany", "I", false)
  | 29 => ("SafetyTreesModel", "goals", "I", false)
  | 30 => ("SafetyTreesModel", "cls", "[I", true)
  | 31 => ("SafetyTreesModel", "rows", "I", false)
  | 32 => ("SafetyTreesModel", "rowGoal", "[I", true)
  | 33 => ("SafetyTreesModel", "rowPart", "[I", true)
  | _ => ("SafetyTreesModel", "rowTest", "[I", true)
def t_Mo : Nat → FieldType := fun k => match k with
  | 0 => .int
  | 1 => .int
  | 2 => .int
  | 3 => .int
  | 4 => .array .int
  | 5 => .array .int
  | 6 => .array .int
  | 7 => .array .int
  | 8 => .array .int
  | 9 => .array .int
  | 10 => .int
  | 11 => .array .int
  | 12 => .array .int
  | 13 => .array .int
  | 14 => .array .int
  | 15 => .boolean
  | 16 => .array .boolean
  | 17 => .int
  | 18 => .array .int
  | 19 => .int
  | 20 => .array .int
  | 21 => .array .boolean
  | 22 => .array .int
  | 23 => .array .boolean
  | 24 => .array .long
  | 25 => .int
  | 26 => .array .int
  | 27 => .array .int
  | 28 => .int
  | 29 => .int
  | 30 => .array .int
  | 31 => .int
  | 32 => .array .int
  | 33 => .array .int
  | _ => .array .int
theorem n_Mo : ∀ a, a < 35 → ∀ b, b < 35 → a ≠ b → (F_Mo a).2.1 ≠ (F_Mo b).2.1 := by decide +kernel
theorem t_Mo_ok : ∀ k, k < 35 → parseFieldDescriptor (F_Mo k).2.2.1 = some (t_Mo k) := by decide +kernel
abbrev vwCl : List vw_C := [(R_ST, F_ST, 7), (R_No, F_No, 13), (R_Tr, F_Tr, 2), (R_Ca, F_Ca, 4), (R_Cu, F_Cu, 3), (R_Od, F_Od, 7), (R_Go, F_Go, 6), (R_Fr, F_Fr, 2), (R_Mo, F_Mo, 35)]
/-- the tables' words that hold in every state of the run -/
def tblG : List Cond := lw_tbl.filter goodWord
theorem tg_r {w : Cond} {i : Nat} (h : tables_1[i]? = some w) (hg : goodWord w = true) : w ∈ tblG := List.mem_filter.mpr ⟨List.mem_append_right _ (List.mem_of_getElem? h), hg⟩
theorem tg_l {w : Cond} {i : Nat} (h : (k2_sels lw_privs)[i]? = some w) (hg : goodWord w = true) : w ∈ tblG := List.mem_filter.mpr ⟨List.mem_append_left _ (List.mem_of_getElem? h), hg⟩
/-- the words on private members of nest mates: not among the good ones, so each contract bears them -/
def isNest : Cond → Bool
  | .fieldLinkNest .. => true
  | .methodLinkNest .. => true
  | _ => false
def tblN : List Cond := tables_1.filter isNest
theorem tn_r {w : Cond} {i : Nat} (h : tables_1[i]? = some w) (hg : isNest w = true) : w ∈ tblN := List.mem_filter.mpr ⟨List.mem_of_getElem? h, hg⟩
def nst (U : State) : Prop := ∀ w ∈ tblN, va_Nw w U
theorem nst.warm {s U : State} (hW : s.WarmedH U.vm) (h : nst s) : nst U := fun w hw => by
  have h1 := h w hw
  have h2 := (List.mem_filter.mp hw).2
  cases w <;> first | exact va_Nw.warmF hW h1 | exact va_Nw.warmM hW h1 | exact absurd h2 (by simp [isNest])
theorem nst.same {u U : State} (e : u.vm = U.vm) (h : nst u) : nst U := fun w hw => by
  have h1 := h w hw
  have h2 := (List.mem_filter.mp hw).2
  cases w <;> first | exact va_Nw.same rfl e h1 | exact absurd h2 (by simp [isNest])
theorem nst.of {args : Array Value} {s : State} (h : ∀ w ∈ tables_1, w.before args s = true) : nst s := fun w hw => by
  have h1 := h w (List.mem_filter.mp hw).1
  have h2 := (List.mem_filter.mp hw).2
  cases w <;> first | exact va_Nw.of rfl h1 | exact absurd h2 (by simp [isNest])
end
section
theorem tw_0 : (Jvm.Cond.initialized "SafetyTreesLaw") ∈ tblG := tg_r (i := 0) (by decide +kernel) (by decide +kernel)
theorem tw_1 : (Jvm.Cond.initialized "SafetyTrees") ∈ tblG := tg_r (i := 1) (by decide +kernel) (by decide +kernel)
theorem tw_2 : (Jvm.Cond.initialized "SafetyTrees$Nodes") ∈ tblG := tg_r (i := 2) (by decide +kernel) (by decide +kernel)
theorem tw_3 : (Jvm.Cond.initialized "SafetyTrees$Truth") ∈ tblG := tg_r (i := 3) (by decide +kernel) (by decide +kernel)
theorem tw_4 : (Jvm.Cond.initialized "SafetyTrees$Causes") ∈ tblG := tg_r (i := 4) (by decide +kernel) (by decide +kernel)
theorem tw_5 : (Jvm.Cond.initialized "SafetyTrees$Cuts") ∈ tblG := tg_r (i := 5) (by decide +kernel) (by decide +kernel)
theorem tw_6 : (Jvm.Cond.initialized "SafetyTrees$Odds") ∈ tblG := tg_r (i := 6) (by decide +kernel) (by decide +kernel)
theorem tw_7 : (Jvm.Cond.initialized "SafetyTrees$Fraction") ∈ tblG := tg_r (i := 7) (by decide +kernel) (by decide +kernel)
theorem tw_8 : (Jvm.Cond.initialized "SafetyTrees$Goals") ∈ tblG := tg_r (i := 8) (by decide +kernel) (by decide +kernel)
theorem tw_9 : (Jvm.Cond.initialized "SafetyTreesModel") ∈ tblG := tg_r (i := 9) (by decide +kernel) (by decide +kernel)
theorem tw_10 : (Jvm.Cond.initialized "java/lang/Integer") ∈ tblG := tg_r (i := 10) (by decide +kernel) (by decide +kernel)
theorem tw_11 : (Jvm.Cond.initialized "java/lang/Long") ∈ tblG := tg_r (i := 11) (by decide +kernel) (by decide +kernel)
theorem tw_12 : (Jvm.Cond.initialized "java/lang/Math") ∈ tblG := tg_r (i := 12) (by decide +kernel) (by decide +kernel)
theorem tw_13 : (Jvm.Cond.initialized "java/lang/Throwable") ∈ tblG := tg_r (i := 13) (by decide +kernel) (by decide +kernel)
theorem tw_14 : (Jvm.Cond.initialized "java/lang/Exception") ∈ tblG := tg_r (i := 14) (by decide +kernel) (by decide +kernel)
theorem tw_15 : (Jvm.Cond.initialized "java/lang/RuntimeException") ∈ tblG := tg_r (i := 15) (by decide +kernel) (by decide +kernel)
theorem tw_16 : (Jvm.Cond.initialized "java/lang/ArithmeticException") ∈ tblG := tg_r (i := 16) (by decide +kernel) (by decide +kernel)
theorem tw_17 : (Jvm.Cond.classLink "SafetyTreesLaw" (8 : Nat) "SafetyTrees") ∈ tblG := tg_r (i := 17) (by decide +kernel) (by decide +kernel)
theorem tw_18 : (Jvm.Cond.instantiable "SafetyTrees" (7 : Nat)) ∈ tblG := tg_r (i := 18) (by decide +kernel) (by decide +kernel)
theorem tw_19 : (Jvm.Cond.methodLink "SafetyTreesLaw" (15 : Nat) ({ cls := "SafetyTrees", name := "<init>", desc := "()V" } : Jvm.MethodName)) ∈ tblG := tg_r (i := 19) (by decide +kernel) (by decide +kernel)
theorem tw_20 : (Jvm.Cond.instanceMethod ({ cls := "SafetyTrees", name := "<init>", desc := "()V" } : Jvm.MethodName)) ∈ tblG := tg_r (i := 20) (by decide +kernel) (by decide +kernel)
theorem tw_21 : (Jvm.Cond.code ({ cls := "SafetyTrees", name := "<init>", desc := "()V" } : Jvm.MethodName) prog_1_method_1_code (1 : Nat) (Option.none : Option Jvm.ClassFile.FieldType)) ∈ tblG := tg_r (i := 21) (by decide +kernel) (by decide +kernel)
theorem tw_22 : (Jvm.Cond.methodLink "SafetyTrees" (3 : Nat) ({ cls := "java/lang/Object", name := "<init>", desc := "()V" } : Jvm.MethodName)) ∈ tblG := tg_r (i := 22) (by decide +kernel) (by decide +kernel)
theorem tw_23 : (Jvm.Cond.instanceMethod ({ cls := "java/lang/Object", name := "<init>", desc := "()V" } : Jvm.MethodName)) ∈ tblG := tg_r (i := 23) (by decide +kernel) (by decide +kernel)
theorem tw_24 : (Jvm.Cond.code ({ cls := "java/lang/Object", name := "<init>", desc := "()V" } : Jvm.MethodName) object_method_1_code (1 : Nat) (Option.none : Option Jvm.ClassFile.FieldType)) ∈ tblG := tg_r (i := 24) (by decide +kernel) (by decide +kernel)
theorem tw_25 : (Jvm.Cond.classLink "SafetyTrees" (9 : Nat) "SafetyTrees$Nodes") ∈ tblG := tg_r (i := 25) (by decide +kernel) (by decide +kernel)
theorem tw_26 : (Jvm.Cond.instantiable "SafetyTrees$Nodes" (13 : Nat)) ∈ tblG := tg_r (i := 26) (by decide +kernel) (by decide +kernel)
theorem tw_27 : (Jvm.Cond.methodLinkNest "SafetyTrees" (11 : Nat) ({ cls := "SafetyTrees$Nodes", name := "<init>", desc := "()V" } : Jvm.MethodName) "SafetyTrees") ∈ tblN := tn_r (i := 27) (by decide +kernel) (by decide +kernel)
theorem tw_28 : (Jvm.Cond.instanceMethod ({ cls := "SafetyTrees$Nodes", name := "<init>", desc := "()V" } : Jvm.MethodName)) ∈ tblG := tg_r (i := 28) (by decide +kernel) (by decide +kernel)
theorem tw_29 : (Jvm.Cond.code ({ cls := "SafetyTrees$Nodes", name := "<init>", desc := "()V" } : Jvm.MethodName) prog_6_method_1_code (1 : Nat) (Option.none : Option Jvm.ClassFile.FieldType)) ∈ tblG := tg_r (i := 29) (by decide +kernel) (by decide +kernel)
theorem tw_30 : (Jvm.Cond.methodLink "SafetyTrees$Nodes" (3 : Nat) ({ cls := "java/lang/Object", name := "<init>", desc := "()V" } : Jvm.MethodName)) ∈ tblG := tg_r (i := 30) (by decide +kernel) (by decide +kernel)
theorem tw_31 : (Jvm.Cond.classLink "SafetyTrees$Nodes" (38 : Nat) "[[I") ∈ tblG := tg_r (i := 31) (by decide +kernel) (by decide +kernel)
theorem tw_33 : (Jvm.Cond.fieldLink "SafetyTrees$Nodes" (9 : Nat) "SafetyTrees$Nodes" "count" "I") ∈ tblG := tg_r (i := 33) (by decide +kernel) (by decide +kernel)
theorem tw_34 : (Jvm.Cond.fieldLink "SafetyTrees$Nodes" (15 : Nat) "SafetyTrees$Nodes" "events" "I") ∈ tblG := tg_r (i := 34) (by decide +kernel) (by decide +kernel)
theorem tw_35 : (Jvm.Cond.fieldLinkNest "SafetyTrees" (66 : Nat) "SafetyTrees$Nodes" "events" "I" "SafetyTrees") ∈ tblN := tn_r (i := 35) (by decide +kernel) (by decide +kernel)
theorem tw_36 : (Jvm.Cond.fieldLinkNest "SafetyTrees$Odds" (95 : Nat) "SafetyTrees$Nodes" "events" "I" "SafetyTrees") ∈ tblN := tn_r (i := 36) (by decide +kernel) (by decide +kernel)
theorem tw_37 : (Jvm.Cond.fieldLink "SafetyTrees$Nodes" (18 : Nat) "SafetyTrees$Nodes" "gates" "I") ∈ tblG := tg_r (i := 37) (by decide +kernel) (by decide +kernel)
theorem tw_38 : (Jvm.Cond.fieldLinkNest "SafetyTrees" (82 : Nat) "SafetyTrees$Nodes" "gates" "I" "SafetyTrees") ∈ tblN := tn_r (i := 38) (by decide +kernel) (by decide +kernel)
theorem tw_39 : (Jvm.Cond.fieldLink "SafetyTrees$Nodes" (21 : Nat) "SafetyTrees$Nodes" "kind" "[I") ∈ tblG := tg_r (i := 39) (by decide +kernel) (by decide +kernel)
theorem tw_40 : (Jvm.Cond.fieldLinkNest "SafetyTrees$Truth" (50 : Nat) "SafetyTrees$Nodes" "kind" "[I" "SafetyTrees") ∈ tblN := tn_r (i := 40) (by decide +kernel) (by decide +kernel)
theorem tw_41 : (Jvm.Cond.fieldLinkNest "SafetyTrees$Odds" (148 : Nat) "SafetyTrees$Nodes" "kind" "[I" "SafetyTrees") ∈ tblN := tn_r (i := 41) (by decide +kernel) (by decide +kernel)
theorem tw_42 : (Jvm.Cond.fieldLink "SafetyTrees$Nodes" (25 : Nat) "SafetyTrees$Nodes" "votes" "[I") ∈ tblG := tg_r (i := 42) (by decide +kernel) (by decide +kernel)
theorem tw_43 : (Jvm.Cond.fieldLinkNest "SafetyTrees$Odds" (151 : Nat) "SafetyTrees$Nodes" "votes" "[I" "SafetyTrees") ∈ tblN := tn_r (i := 43) (by decide +kernel) (by decide +kernel)
theorem tw_44 : (Jvm.Cond.fieldLinkNest "SafetyTrees$Truth" (69 : Nat) "SafetyTrees$Nodes" "votes" "[I" "SafetyTrees") ∈ tblN := tn_r (i := 44) (by decide +kernel) (by decide +kernel)
theorem tw_45 : (Jvm.Cond.fieldLink "SafetyTrees$Nodes" (28 : Nat) "SafetyTrees$Nodes" "up" "[J") ∈ tblG := tg_r (i := 45) (by decide +kernel) (by decide +kernel)
theorem tw_46 : (Jvm.Cond.fieldLinkNest "SafetyTrees$Odds" (101 : Nat) "SafetyTrees$Nodes" "up" "[J" "SafetyTrees") ∈ tblN := tn_r (i := 46) (by decide +kernel) (by decide +kernel)
theorem tw_47 : (Jvm.Cond.fieldLink "SafetyTrees$Nodes" (32 : Nat) "SafetyTrees$Nodes" "down" "[J") ∈ tblG := tg_r (i := 47) (by decide +kernel) (by decide +kernel)
theorem tw_48 : (Jvm.Cond.fieldLinkNest "SafetyTrees$Odds" (102 : Nat) "SafetyTrees$Nodes" "down" "[J" "SafetyTrees") ∈ tblN := tn_r (i := 48) (by decide +kernel) (by decide +kernel)
theorem tw_49 : (Jvm.Cond.fieldLink "SafetyTrees$Nodes" (35 : Nat) "SafetyTrees$Nodes" "eventNumber" "[I") ∈ tblG := tg_r (i := 49) (by decide +kernel) (by decide +kernel)
theorem tw_50 : (Jvm.Cond.fieldLinkNest "SafetyTrees$Odds" (98 : Nat) "SafetyTrees$Nodes" "eventNumber" "[I" "SafetyTrees") ∈ tblN := tn_r (i := 50) (by decide +kernel) (by decide +kernel)
theorem tw_51 : (Jvm.Cond.fieldLinkNest "SafetyTrees" (130 : Nat) "SafetyTrees$Nodes" "eventNumber" "[I" "SafetyTrees") ∈ tblN := tn_r (i := 51) (by decide +kernel) (by decide +kernel)
theorem tw_52 : (Jvm.Cond.fieldLink "SafetyTrees$Nodes" (40 : Nat) "SafetyTrees$Nodes" "belowRow" "[[I") ∈ tblG := tg_r (i := 52) (by decide +kernel) (by decide +kernel)
theorem tw_53 : (Jvm.Cond.fieldLinkNest "SafetyTrees$Truth" (65 : Nat) "SafetyTrees$Nodes" "belowRow" "[[I" "SafetyTrees") ∈ tblN := tn_r (i := 53) (by decide +kernel) (by decide +kernel)
theorem tw_54 : (Jvm.Cond.fieldLinkNest "SafetyTrees$Odds" (144 : Nat) "SafetyTrees$Nodes" "belowRow" "[[I" "SafetyTrees") ∈ tblN := tn_r (i := 54) (by decide +kernel) (by decide +kernel)
theorem tw_55 : (Jvm.Cond.fieldLink "SafetyTrees$Nodes" (43 : Nat) "SafetyTrees$Nodes" "belowCount" "[I") ∈ tblG := tg_r (i := 55) (by decide +kernel) (by decide +kernel)
theorem tw_56 : (Jvm.Cond.fieldLinkNest "SafetyTrees" (99 : Nat) "SafetyTrees$Nodes" "belowCount" "[I" "SafetyTrees") ∈ tblN := tn_r (i := 56) (by decide +kernel) (by decide +kernel)
theorem tw_57 : (Jvm.Cond.fieldLinkNest "SafetyTrees$Truth" (62 : Nat) "SafetyTrees$Nodes" "belowCount" "[I" "SafetyTrees") ∈ tblN := tn_r (i := 57) (by decide +kernel) (by decide +kernel)
theorem tw_58 : (Jvm.Cond.fieldLinkNest "SafetyTrees$Odds" (141 : Nat) "SafetyTrees$Nodes" "belowCount" "[I" "SafetyTrees") ∈ tblN := tn_r (i := 58) (by decide +kernel) (by decide +kernel)
theorem tw_59 : (Jvm.Cond.fieldLink "SafetyTrees$Nodes" (46 : Nat) "SafetyTrees$Nodes" "nodesUnder" "[J") ∈ tblG := tg_r (i := 59) (by decide +kernel) (by decide +kernel)
theorem tw_60 : (Jvm.Cond.fieldLink "SafetyTrees$Nodes" (49 : Nat) "SafetyTrees$Nodes" "eventsUnder" "[I") ∈ tblG := tg_r (i := 60) (by decide +kernel) (by decide +kernel)
theorem tw_61 : (Jvm.Cond.fieldLinkNest "SafetyTrees$Truth" (20 : Nat) "SafetyTrees$Nodes" "eventsUnder" "[I" "SafetyTrees") ∈ tblN := tn_r (i := 61) (by decide +kernel) (by decide +kernel)
theorem tw_62 : (Jvm.Cond.fieldLinkNest "SafetyTrees$Odds" (41 : Nat) "SafetyTrees$Nodes" "eventsUnder" "[I" "SafetyTrees") ∈ tblN := tn_r (i := 62) (by decide +kernel) (by decide +kernel)
theorem tw_63 : (Jvm.Cond.fieldLinkNest "SafetyTrees" (110 : Nat) "SafetyTrees$Nodes" "eventsUnder" "[I" "SafetyTrees") ∈ tblN := tn_r (i := 63) (by decide +kernel) (by decide +kernel)
theorem tw_64 : (Jvm.Cond.fieldLink "SafetyTrees$Nodes" (52 : Nat) "SafetyTrees$Nodes" "line" "[I") ∈ tblG := tg_r (i := 64) (by decide +kernel) (by decide +kernel)
theorem tw_65 : (Jvm.Cond.fieldLinkNest "SafetyTrees$Truth" (40 : Nat) "SafetyTrees$Nodes" "line" "[I" "SafetyTrees") ∈ tblN := tn_r (i := 65) (by decide +kernel) (by decide +kernel)
theorem tw_66 : (Jvm.Cond.fieldLinkNest "SafetyTrees$Odds" (124 : Nat) "SafetyTrees$Nodes" "line" "[I" "SafetyTrees") ∈ tblN := tn_r (i := 66) (by decide +kernel) (by decide +kernel)
theorem tw_67 : (Jvm.Cond.lays "SafetyTrees$Nodes" "SafetyTrees$Nodes" "count" "I") ∈ tblG := tg_r (i := 67) (by decide +kernel) (by decide +kernel)
theorem tw_69 : (Jvm.Cond.lays "SafetyTrees$Nodes" "SafetyTrees$Nodes" "events" "I") ∈ tblG := tg_r (i := 69) (by decide +kernel) (by decide +kernel)
theorem tw_71 : (Jvm.Cond.lays "SafetyTrees$Nodes" "SafetyTrees$Nodes" "gates" "I") ∈ tblG := tg_r (i := 71) (by decide +kernel) (by decide +kernel)
theorem tw_73 : (Jvm.Cond.laysFinal "SafetyTrees$Nodes" "SafetyTrees$Nodes" "kind" "[I") ∈ tblG := tg_r (i := 73) (by decide +kernel) (by decide +kernel)
theorem tw_75 : (Jvm.Cond.laysFinal "SafetyTrees$Nodes" "SafetyTrees$Nodes" "votes" "[I") ∈ tblG := tg_r (i := 75) (by decide +kernel) (by decide +kernel)
theorem tw_77 : (Jvm.Cond.laysFinal "SafetyTrees$Nodes" "SafetyTrees$Nodes" "up" "[J") ∈ tblG := tg_r (i := 77) (by decide +kernel) (by decide +kernel)
theorem tw_79 : (Jvm.Cond.laysFinal "SafetyTrees$Nodes" "SafetyTrees$Nodes" "down" "[J") ∈ tblG := tg_r (i := 79) (by decide +kernel) (by decide +kernel)
theorem tw_81 : (Jvm.Cond.laysFinal "SafetyTrees$Nodes" "SafetyTrees$Nodes" "eventNumber" "[I") ∈ tblG := tg_r (i := 81) (by decide +kernel) (by decide +kernel)
theorem tw_83 : (Jvm.Cond.laysFinal "SafetyTrees$Nodes" "SafetyTrees$Nodes" "belowRow" "[[I") ∈ tblG := tg_r (i := 83) (by decide +kernel) (by decide +kernel)
theorem tw_85 : (Jvm.Cond.laysFinal "SafetyTrees$Nodes" "SafetyTrees$Nodes" "belowCount" "[I") ∈ tblG := tg_r (i := 85) (by decide +kernel) (by decide +kernel)
theorem tw_87 : (Jvm.Cond.laysFinal "SafetyTrees$Nodes" "SafetyTrees$Nodes" "nodesUnder" "[J") ∈ tblG := tg_r (i := 87) (by decide +kernel) (by decide +kernel)
theorem tw_89 : (Jvm.Cond.laysFinal "SafetyTrees$Nodes" "SafetyTrees$Nodes" "eventsUnder" "[I") ∈ tblG := tg_r (i := 89) (by decide +kernel) (by decide +kernel)
theorem tw_91 : (Jvm.Cond.laysFinal "SafetyTrees$Nodes" "SafetyTrees$Nodes" "line" "[I") ∈ tblG := tg_r (i := 91) (by decide +kernel) (by decide +kernel)
theorem tw_94 : (Jvm.Cond.arrayClass Jvm.ClassFile.FieldType.int) ∈ tblG := tg_r (i := 94) (by decide +kernel) (by decide +kernel)
theorem tw_95 : (Jvm.Cond.arrayClass Jvm.ClassFile.FieldType.long) ∈ tblG := tg_r (i := 95) (by decide +kernel) (by decide +kernel)
theorem tw_96 : (Jvm.Cond.classLink "SafetyTrees" (16 : Nat) "SafetyTrees$Truth") ∈ tblG := tg_r (i := 96) (by decide +kernel) (by decide +kernel)
theorem tw_97 : (Jvm.Cond.instantiable "SafetyTrees$Truth" (2 : Nat)) ∈ tblG := tg_r (i := 97) (by decide +kernel) (by decide +kernel)
theorem tw_98 : (Jvm.Cond.methodLink "SafetyTrees" (18 : Nat) ({ cls := "SafetyTrees$Truth", name := "<init>", desc := "(LSafetyTrees$Nodes;)V" } : Jvm.MethodName)) ∈ tblG := tg_r (i := 98) (by decide +kernel) (by decide +kernel)
theorem tw_99 : (Jvm.Cond.instanceMethod ({ cls := "SafetyTrees$Truth", name := "<init>", desc := "(LSafetyTrees$Nodes;)V" } : Jvm.MethodName)) ∈ tblG := tg_r (i := 99) (by decide +kernel) (by decide +kernel)
theorem tw_100 : (Jvm.Cond.code ({ cls := "SafetyTrees$Truth", name := "<init>", desc := "(LSafetyTrees$Nodes;)V" } : Jvm.MethodName) prog_8_method_1_code (2 : Nat) (Option.none : Option Jvm.ClassFile.FieldType)) ∈ tblG := tg_r (i := 100) (by decide +kernel) (by decide +kernel)
theorem tw_101 : (Jvm.Cond.methodLink "SafetyTrees$Truth" (3 : Nat) ({ cls := "java/lang/Object", name := "<init>", desc := "()V" } : Jvm.MethodName)) ∈ tblG := tg_r (i := 101) (by decide +kernel) (by decide +kernel)
theorem tw_102 : (Jvm.Cond.classLink "SafetyTrees$Truth" (9 : Nat) "[[J") ∈ tblG := tg_r (i := 102) (by decide +kernel) (by decide +kernel)
theorem tw_104 : (Jvm.Cond.fieldLink "SafetyTrees$Truth" (16 : Nat) "SafetyTrees$Truth" "nodes" "LSafetyTrees$Nodes;") ∈ tblG := tg_r (i := 104) (by decide +kernel) (by decide +kernel)
theorem tw_105 : (Jvm.Cond.fieldLink "SafetyTrees$Truth" (11 : Nat) "SafetyTrees$Truth" "table" "[[J") ∈ tblG := tg_r (i := 105) (by decide +kernel) (by decide +kernel)
theorem tw_106 : (Jvm.Cond.laysFinal "SafetyTrees$Truth" "SafetyTrees$Truth" "nodes" "LSafetyTrees$Nodes;") ∈ tblG := tg_r (i := 106) (by decide +kernel) (by decide +kernel)
theorem tw_108 : (Jvm.Cond.laysFinal "SafetyTrees$Truth" "SafetyTrees$Truth" "table" "[[J") ∈ tblG := tg_r (i := 108) (by decide +kernel) (by decide +kernel)
theorem tw_111 : (Jvm.Cond.classLink "SafetyTrees" (25 : Nat) "SafetyTrees$Causes") ∈ tblG := tg_r (i := 111) (by decide +kernel) (by decide +kernel)
theorem tw_112 : (Jvm.Cond.instantiable "SafetyTrees$Causes" (4 : Nat)) ∈ tblG := tg_r (i := 112) (by decide +kernel) (by decide +kernel)
theorem tw_113 : (Jvm.Cond.methodLinkNest "SafetyTrees" (27 : Nat) ({ cls := "SafetyTrees$Causes", name := "<init>", desc := "()V" } : Jvm.MethodName) "SafetyTrees") ∈ tblN := tn_r (i := 113) (by decide +kernel) (by decide +kernel)
theorem tw_114 : (Jvm.Cond.instanceMethod ({ cls := "SafetyTrees$Causes", name := "<init>", desc := "()V" } : Jvm.MethodName)) ∈ tblG := tg_r (i := 114) (by decide +kernel) (by decide +kernel)
theorem tw_115 : (Jvm.Cond.code ({ cls := "SafetyTrees$Causes", name := "<init>", desc := "()V" } : Jvm.MethodName) prog_2_method_1_code (1 : Nat) (Option.none : Option Jvm.ClassFile.FieldType)) ∈ tblG := tg_r (i := 115) (by decide +kernel) (by decide +kernel)
theorem tw_116 : (Jvm.Cond.methodLink "SafetyTrees$Causes" (3 : Nat) ({ cls := "java/lang/Object", name := "<init>", desc := "()V" } : Jvm.MethodName)) ∈ tblG := tg_r (i := 116) (by decide +kernel) (by decide +kernel)
theorem tw_117 : (Jvm.Cond.fieldLink "SafetyTrees$Causes" (9 : Nat) "SafetyTrees$Causes" "count" "I") ∈ tblG := tg_r (i := 117) (by decide +kernel) (by decide +kernel)
theorem tw_118 : (Jvm.Cond.fieldLinkNest "SafetyTrees$Odds" (74 : Nat) "SafetyTrees$Causes" "count" "I" "SafetyTrees") ∈ tblN := tn_r (i := 118) (by decide +kernel) (by decide +kernel)
theorem tw_119 : (Jvm.Cond.fieldLinkNest "SafetyTrees" (152 : Nat) "SafetyTrees$Causes" "count" "I" "SafetyTrees") ∈ tblN := tn_r (i := 119) (by decide +kernel) (by decide +kernel)
theorem tw_120 : (Jvm.Cond.fieldLink "SafetyTrees$Causes" (15 : Nat) "SafetyTrees$Causes" "pair" "[I") ∈ tblG := tg_r (i := 120) (by decide +kernel) (by decide +kernel)
theorem tw_121 : (Jvm.Cond.fieldLinkNest "SafetyTrees$Odds" (82 : Nat) "SafetyTrees$Causes" "pair" "[I" "SafetyTrees") ∈ tblN := tn_r (i := 121) (by decide +kernel) (by decide +kernel)
theorem tw_122 : (Jvm.Cond.fieldLink "SafetyTrees$Causes" (19 : Nat) "SafetyTrees$Causes" "up" "[J") ∈ tblG := tg_r (i := 122) (by decide +kernel) (by decide +kernel)
theorem tw_123 : (Jvm.Cond.fieldLinkNest "SafetyTrees$Odds" (85 : Nat) "SafetyTrees$Causes" "up" "[J" "SafetyTrees") ∈ tblN := tn_r (i := 123) (by decide +kernel) (by decide +kernel)
theorem tw_124 : (Jvm.Cond.fieldLink "SafetyTrees$Causes" (23 : Nat) "SafetyTrees$Causes" "down" "[J") ∈ tblG := tg_r (i := 124) (by decide +kernel) (by decide +kernel)
theorem tw_125 : (Jvm.Cond.fieldLinkNest "SafetyTrees$Odds" (88 : Nat) "SafetyTrees$Causes" "down" "[J" "SafetyTrees") ∈ tblN := tn_r (i := 125) (by decide +kernel) (by decide +kernel)
theorem tw_126 : (Jvm.Cond.lays "SafetyTrees$Causes" "SafetyTrees$Causes" "count" "I") ∈ tblG := tg_r (i := 126) (by decide +kernel) (by decide +kernel)
theorem tw_128 : (Jvm.Cond.laysFinal "SafetyTrees$Causes" "SafetyTrees$Causes" "pair" "[I") ∈ tblG := tg_r (i := 128) (by decide +kernel) (by decide +kernel)
theorem tw_130 : (Jvm.Cond.laysFinal "SafetyTrees$Causes" "SafetyTrees$Causes" "up" "[J") ∈ tblG := tg_r (i := 130) (by decide +kernel) (by decide +kernel)
theorem tw_132 : (Jvm.Cond.laysFinal "SafetyTrees$Causes" "SafetyTrees$Causes" "down" "[J") ∈ tblG := tg_r (i := 132) (by decide +kernel) (by decide +kernel)
theorem tw_135 : (Jvm.Cond.classLink "SafetyTrees" (32 : Nat) "SafetyTrees$Cuts") ∈ tblG := tg_r (i := 135) (by decide +kernel) (by decide +kernel)
theorem tw_136 : (Jvm.Cond.instantiable "SafetyTrees$Cuts" (3 : Nat)) ∈ tblG := tg_r (i := 136) (by decide +kernel) (by decide +kernel)
theorem tw_137 : (Jvm.Cond.methodLinkNest "SafetyTrees" (34 : Nat) ({ cls := "SafetyTrees$Cuts", name := "<init>", desc := "()V" } : Jvm.MethodName) "SafetyTrees") ∈ tblN := tn_r (i := 137) (by decide +kernel) (by decide +kernel)
theorem tw_138 : (Jvm.Cond.instanceMethod ({ cls := "SafetyTrees$Cuts", name := "<init>", desc := "()V" } : Jvm.MethodName)) ∈ tblG := tg_r (i := 138) (by decide +kernel) (by decide +kernel)
theorem tw_139 : (Jvm.Cond.code ({ cls := "SafetyTrees$Cuts", name := "<init>", desc := "()V" } : Jvm.MethodName) prog_3_method_1_code (1 : Nat) (Option.none : Option Jvm.ClassFile.FieldType)) ∈ tblG := tg_r (i := 139) (by decide +kernel) (by decide +kernel)
theorem tw_140 : (Jvm.Cond.methodLink "SafetyTrees$Cuts" (3 : Nat) ({ cls := "java/lang/Object", name := "<init>", desc := "()V" } : Jvm.MethodName)) ∈ tblG := tg_r (i := 140) (by decide +kernel) (by decide +kernel)
theorem tw_141 : (Jvm.Cond.fieldLink "SafetyTrees$Cuts" (9 : Nat) "SafetyTrees$Cuts" "count" "I") ∈ tblG := tg_r (i := 141) (by decide +kernel) (by decide +kernel)
theorem tw_142 : (Jvm.Cond.fieldLink "SafetyTrees$Cuts" (15 : Nat) "SafetyTrees$Cuts" "sets" "[I") ∈ tblG := tg_r (i := 142) (by decide +kernel) (by decide +kernel)
theorem tw_143 : (Jvm.Cond.fieldLink "SafetyTrees$Cuts" (19 : Nat) "SafetyTrees$Cuts" "found" "[I") ∈ tblG := tg_r (i := 143) (by decide +kernel) (by decide +kernel)
theorem tw_144 : (Jvm.Cond.lays "SafetyTrees$Cuts" "SafetyTrees$Cuts" "count" "I") ∈ tblG := tg_r (i := 144) (by decide +kernel) (by decide +kernel)
theorem tw_146 : (Jvm.Cond.laysFinal "SafetyTrees$Cuts" "SafetyTrees$Cuts" "sets" "[I") ∈ tblG := tg_r (i := 146) (by decide +kernel) (by decide +kernel)
theorem tw_148 : (Jvm.Cond.laysFinal "SafetyTrees$Cuts" "SafetyTrees$Cuts" "found" "[I") ∈ tblG := tg_r (i := 148) (by decide +kernel) (by decide +kernel)
theorem tw_151 : (Jvm.Cond.classLink "SafetyTrees" (39 : Nat) "SafetyTrees$Odds") ∈ tblG := tg_r (i := 151) (by decide +kernel) (by decide +kernel)
theorem tw_152 : (Jvm.Cond.instantiable "SafetyTrees$Odds" (7 : Nat)) ∈ tblG := tg_r (i := 152) (by decide +kernel) (by decide +kernel)
theorem tw_153 : (Jvm.Cond.methodLink "SafetyTrees" (41 : Nat) ({ cls := "SafetyTrees$Odds", name := "<init>", desc := "(LSafetyTrees$Nodes;LSafetyTrees$Truth;LSafetyTrees$Causes;)V" } : Jvm.MethodName)) ∈ tblG := tg_r (i := 153) (by decide +kernel) (by decide +kernel)
theorem tw_154 : (Jvm.Cond.instanceMethod ({ cls := "SafetyTrees$Odds", name := "<init>", desc := "(LSafetyTrees$Nodes;LSafetyTrees$Truth;LSafetyTrees$Causes;)V" } : Jvm.MethodName)) ∈ tblG := tg_r (i := 154) (by decide +kernel) (by decide +kernel)
theorem tw_155 : (Jvm.Cond.code ({ cls := "SafetyTrees$Odds", name := "<init>", desc := "(LSafetyTrees$Nodes;LSafetyTrees$Truth;LSafetyTrees$Causes;)V" } : Jvm.MethodName) prog_7_method_1_code (4 : Nat) (Option.none : Option Jvm.ClassFile.FieldType)) ∈ tblG := tg_r (i := 155) (by decide +kernel) (by decide +kernel)
theorem tw_156 : (Jvm.Cond.methodLink "SafetyTrees$Odds" (3 : Nat) ({ cls := "java/lang/Object", name := "<init>", desc := "()V" } : Jvm.MethodName)) ∈ tblG := tg_r (i := 156) (by decide +kernel) (by decide +kernel)
theorem tw_157 : (Jvm.Cond.classLink "SafetyTrees$Odds" (9 : Nat) "SafetyTrees$Fraction") ∈ tblG := tg_r (i := 157) (by decide +kernel) (by decide +kernel)
theorem tw_158 : (Jvm.Cond.instantiable "SafetyTrees$Fraction" (2 : Nat)) ∈ tblG := tg_r (i := 158) (by decide +kernel) (by decide +kernel)
theorem tw_159 : (Jvm.Cond.methodLinkNest "SafetyTrees$Odds" (11 : Nat) ({ cls := "SafetyTrees$Fraction", name := "<init>", desc := "()V" } : Jvm.MethodName) "SafetyTrees") ∈ tblN := tn_r (i := 159) (by decide +kernel) (by decide +kernel)
theorem tw_160 : (Jvm.Cond.instanceMethod ({ cls := "SafetyTrees$Fraction", name := "<init>", desc := "()V" } : Jvm.MethodName)) ∈ tblG := tg_r (i := 160) (by decide +kernel) (by decide +kernel)
theorem tw_161 : (Jvm.Cond.code ({ cls := "SafetyTrees$Fraction", name := "<init>", desc := "()V" } : Jvm.MethodName) prog_4_method_1_code (1 : Nat) (Option.none : Option Jvm.ClassFile.FieldType)) ∈ tblG := tg_r (i := 161) (by decide +kernel) (by decide +kernel)
theorem tw_162 : (Jvm.Cond.methodLink "SafetyTrees$Fraction" (1 : Nat) ({ cls := "java/lang/Object", name := "<init>", desc := "()V" } : Jvm.MethodName)) ∈ tblG := tg_r (i := 162) (by decide +kernel) (by decide +kernel)
theorem tw_163 : (Jvm.Cond.fieldLink "SafetyTrees$Fraction" (7 : Nat) "SafetyTrees$Fraction" "above" "J") ∈ tblG := tg_r (i := 163) (by decide +kernel) (by decide +kernel)
theorem tw_164 : (Jvm.Cond.fieldLink "SafetyTrees$Fraction" (13 : Nat) "SafetyTrees$Fraction" "beneath" "J") ∈ tblG := tg_r (i := 164) (by decide +kernel) (by decide +kernel)
theorem tw_165 : (Jvm.Cond.lays "SafetyTrees$Fraction" "SafetyTrees$Fraction" "above" "J") ∈ tblG := tg_r (i := 165) (by decide +kernel) (by decide +kernel)
theorem tw_167 : (Jvm.Cond.lays "SafetyTrees$Fraction" "SafetyTrees$Fraction" "beneath" "J") ∈ tblG := tg_r (i := 167) (by decide +kernel) (by decide +kernel)
theorem tw_170 : (Jvm.Cond.fieldLink "SafetyTrees$Odds" (29 : Nat) "SafetyTrees$Odds" "nodes" "LSafetyTrees$Nodes;") ∈ tblG := tg_r (i := 170) (by decide +kernel) (by decide +kernel)
theorem tw_171 : (Jvm.Cond.fieldLink "SafetyTrees$Odds" (33 : Nat) "SafetyTrees$Odds" "truth" "LSafetyTrees$Truth;") ∈ tblG := tg_r (i := 171) (by decide +kernel) (by decide +kernel)
theorem tw_172 : (Jvm.Cond.fieldLink "SafetyTrees$Odds" (37 : Nat) "SafetyTrees$Odds" "causes" "LSafetyTrees$Causes;") ∈ tblG := tg_r (i := 172) (by decide +kernel) (by decide +kernel)
theorem tw_173 : (Jvm.Cond.fieldLink "SafetyTrees$Odds" (12 : Nat) "SafetyTrees$Odds" "result" "LSafetyTrees$Fraction;") ∈ tblG := tg_r (i := 173) (by decide +kernel) (by decide +kernel)
theorem tw_174 : (Jvm.Cond.fieldLinkNest "SafetyTrees" (138 : Nat) "SafetyTrees$Odds" "result" "LSafetyTrees$Fraction;" "SafetyTrees") ∈ tblN := tn_r (i := 174) (by decide +kernel) (by decide +kernel)
theorem tw_175 : (Jvm.Cond.fieldLink "SafetyTrees$Odds" (18 : Nat) "SafetyTrees$Odds" "isExact" "Z") ∈ tblG := tg_r (i := 175) (by decide +kernel) (by decide +kernel)
theorem tw_176 : (Jvm.Cond.fieldLinkNest "SafetyTrees" (145 : Nat) "SafetyTrees$Odds" "isExact" "Z" "SafetyTrees") ∈ tblN := tn_r (i := 176) (by decide +kernel) (by decide +kernel)
theorem tw_177 : (Jvm.Cond.fieldLink "SafetyTrees$Odds" (22 : Nat) "SafetyTrees$Odds" "weights" "[J") ∈ tblG := tg_r (i := 177) (by decide +kernel) (by decide +kernel)
theorem tw_178 : (Jvm.Cond.fieldLink "SafetyTrees$Odds" (26 : Nat) "SafetyTrees$Odds" "bounds" "[J") ∈ tblG := tg_r (i := 178) (by decide +kernel) (by decide +kernel)
theorem tw_179 : (Jvm.Cond.laysFinal "SafetyTrees$Odds" "SafetyTrees$Odds" "nodes" "LSafetyTrees$Nodes;") ∈ tblG := tg_r (i := 179) (by decide +kernel) (by decide +kernel)
theorem tw_181 : (Jvm.Cond.laysFinal "SafetyTrees$Odds" "SafetyTrees$Odds" "truth" "LSafetyTrees$Truth;") ∈ tblG := tg_r (i := 181) (by decide +kernel) (by decide +kernel)
theorem tw_183 : (Jvm.Cond.laysFinal "SafetyTrees$Odds" "SafetyTrees$Odds" "causes" "LSafetyTrees$Causes;") ∈ tblG := tg_r (i := 183) (by decide +kernel) (by decide +kernel)
theorem tw_185 : (Jvm.Cond.laysFinal "SafetyTrees$Odds" "SafetyTrees$Odds" "result" "LSafetyTrees$Fraction;") ∈ tblG := tg_r (i := 185) (by decide +kernel) (by decide +kernel)
theorem tw_187 : (Jvm.Cond.lays "SafetyTrees$Odds" "SafetyTrees$Odds" "isExact" "Z") ∈ tblG := tg_r (i := 187) (by decide +kernel) (by decide +kernel)
theorem tw_189 : (Jvm.Cond.laysFinal "SafetyTrees$Odds" "SafetyTrees$Odds" "weights" "[J") ∈ tblG := tg_r (i := 189) (by decide +kernel) (by decide +kernel)
theorem tw_191 : (Jvm.Cond.laysFinal "SafetyTrees$Odds" "SafetyTrees$Odds" "bounds" "[J") ∈ tblG := tg_r (i := 191) (by decide +kernel) (by decide +kernel)
theorem tw_194 : (Jvm.Cond.classLink "SafetyTrees" (48 : Nat) "SafetyTrees$Goals") ∈ tblG := tg_r (i := 194) (by decide +kernel) (by decide +kernel)
theorem tw_195 : (Jvm.Cond.instantiable "SafetyTrees$Goals" (6 : Nat)) ∈ tblG := tg_r (i := 195) (by decide +kernel) (by decide +kernel)
theorem tw_196 : (Jvm.Cond.methodLinkNest "SafetyTrees" (50 : Nat) ({ cls := "SafetyTrees$Goals", name := "<init>", desc := "()V" } : Jvm.MethodName) "SafetyTrees") ∈ tblN := tn_r (i := 196) (by decide +kernel) (by decide +kernel)
theorem tw_197 : (Jvm.Cond.instanceMethod ({ cls := "SafetyTrees$Goals", name := "<init>", desc := "()V" } : Jvm.MethodName)) ∈ tblG := tg_r (i := 197) (by decide +kernel) (by decide +kernel)
theorem tw_198 : (Jvm.Cond.code ({ cls := "SafetyTrees$Goals", name := "<init>", desc := "()V" } : Jvm.MethodName) prog_5_method_1_code (1 : Nat) (Option.none : Option Jvm.ClassFile.FieldType)) ∈ tblG := tg_r (i := 198) (by decide +kernel) (by decide +kernel)
theorem tw_199 : (Jvm.Cond.methodLink "SafetyTrees$Goals" (3 : Nat) ({ cls := "java/lang/Object", name := "<init>", desc := "()V" } : Jvm.MethodName)) ∈ tblG := tg_r (i := 199) (by decide +kernel) (by decide +kernel)
theorem tw_200 : (Jvm.Cond.fieldLink "SafetyTrees$Goals" (9 : Nat) "SafetyTrees$Goals" "count" "I") ∈ tblG := tg_r (i := 200) (by decide +kernel) (by decide +kernel)
theorem tw_201 : (Jvm.Cond.fieldLinkNest "SafetyTrees" (163 : Nat) "SafetyTrees$Goals" "count" "I" "SafetyTrees") ∈ tblN := tn_r (i := 201) (by decide +kernel) (by decide +kernel)
theorem tw_202 : (Jvm.Cond.fieldLink "SafetyTrees$Goals" (15 : Nat) "SafetyTrees$Goals" "rows" "I") ∈ tblG := tg_r (i := 202) (by decide +kernel) (by decide +kernel)
theorem tw_203 : (Jvm.Cond.fieldLinkNest "SafetyTrees" (169 : Nat) "SafetyTrees$Goals" "rows" "I" "SafetyTrees") ∈ tblN := tn_r (i := 203) (by decide +kernel) (by decide +kernel)
theorem tw_204 : (Jvm.Cond.fieldLink "SafetyTrees$Goals" (18 : Nat) "SafetyTrees$Goals" "classOf" "[I") ∈ tblG := tg_r (i := 204) (by decide +kernel) (by decide +kernel)
theorem tw_205 : (Jvm.Cond.fieldLink "SafetyTrees$Goals" (22 : Nat) "SafetyTrees$Goals" "goalOf" "[I") ∈ tblG := tg_r (i := 205) (by decide +kernel) (by decide +kernel)
theorem tw_206 : (Jvm.Cond.fieldLink "SafetyTrees$Goals" (25 : Nat) "SafetyTrees$Goals" "partOf" "[I") ∈ tblG := tg_r (i := 206) (by decide +kernel) (by decide +kernel)
theorem tw_207 : (Jvm.Cond.fieldLink "SafetyTrees$Goals" (28 : Nat) "SafetyTrees$Goals" "testOf" "[I") ∈ tblG := tg_r (i := 207) (by decide +kernel) (by decide +kernel)
theorem tw_208 : (Jvm.Cond.lays "SafetyTrees$Goals" "SafetyTrees$Goals" "count" "I") ∈ tblG := tg_r (i := 208) (by decide +kernel) (by decide +kernel)
theorem tw_210 : (Jvm.Cond.lays "SafetyTrees$Goals" "SafetyTrees$Goals" "rows" "I") ∈ tblG := tg_r (i := 210) (by decide +kernel) (by decide +kernel)
theorem tw_212 : (Jvm.Cond.laysFinal "SafetyTrees$Goals" "SafetyTrees$Goals" "classOf" "[I") ∈ tblG := tg_r (i := 212) (by decide +kernel) (by decide +kernel)
theorem tw_214 : (Jvm.Cond.laysFinal "SafetyTrees$Goals" "SafetyTrees$Goals" "goalOf" "[I") ∈ tblG := tg_r (i := 214) (by decide +kernel) (by decide +kernel)
theorem tw_216 : (Jvm.Cond.laysFinal "SafetyTrees$Goals" "SafetyTrees$Goals" "partOf" "[I") ∈ tblG := tg_r (i := 216) (by decide +kernel) (by decide +kernel)
theorem tw_218 : (Jvm.Cond.laysFinal "SafetyTrees$Goals" "SafetyTrees$Goals" "testOf" "[I") ∈ tblG := tg_r (i := 218) (by decide +kernel) (by decide +kernel)
theorem tw_221 : (Jvm.Cond.classLink "SafetyTrees" (55 : Nat) "SafetyTrees$Fraction") ∈ tblG := tg_r (i := 221) (by decide +kernel) (by decide +kernel)
theorem tw_222 : (Jvm.Cond.methodLinkNest "SafetyTrees" (57 : Nat) ({ cls := "SafetyTrees$Fraction", name := "<init>", desc := "()V" } : Jvm.MethodName) "SafetyTrees") ∈ tblN := tn_r (i := 222) (by decide +kernel) (by decide +kernel)
theorem tw_223 : (Jvm.Cond.fieldLink "SafetyTrees" (12 : Nat) "SafetyTrees" "nodes" "LSafetyTrees$Nodes;") ∈ tblG := tg_r (i := 223) (by decide +kernel) (by decide +kernel)
theorem tw_224 : (Jvm.Cond.fieldLink "SafetyTrees" (21 : Nat) "SafetyTrees" "truth" "LSafetyTrees$Truth;") ∈ tblG := tg_r (i := 224) (by decide +kernel) (by decide +kernel)
theorem tw_225 : (Jvm.Cond.fieldLink "SafetyTrees" (28 : Nat) "SafetyTrees" "causes" "LSafetyTrees$Causes;") ∈ tblG := tg_r (i := 225) (by decide +kernel) (by decide +kernel)
theorem tw_226 : (Jvm.Cond.fieldLink "SafetyTrees" (35 : Nat) "SafetyTrees" "told" "LSafetyTrees$Cuts;") ∈ tblG := tg_r (i := 226) (by decide +kernel) (by decide +kernel)
theorem tw_227 : (Jvm.Cond.fieldLink "SafetyTrees" (44 : Nat) "SafetyTrees" "odds" "LSafetyTrees$Odds;") ∈ tblG := tg_r (i := 227) (by decide +kernel) (by decide +kernel)
theorem tw_228 : (Jvm.Cond.fieldLink "SafetyTrees" (51 : Nat) "SafetyTrees" "goals" "LSafetyTrees$Goals;") ∈ tblG := tg_r (i := 228) (by decide +kernel) (by decide +kernel)
theorem tw_229 : (Jvm.Cond.fieldLink "SafetyTrees" (58 : Nat) "SafetyTrees" "share" "LSafetyTrees$Fraction;") ∈ tblG := tg_r (i := 229) (by decide +kernel) (by decide +kernel)
theorem tw_230 : (Jvm.Cond.laysFinal "SafetyTrees" "SafetyTrees" "nodes" "LSafetyTrees$Nodes;") ∈ tblG := tg_r (i := 230) (by decide +kernel) (by decide +kernel)
theorem tw_232 : (Jvm.Cond.laysFinal "SafetyTrees" "SafetyTrees" "truth" "LSafetyTrees$Truth;") ∈ tblG := tg_r (i := 232) (by decide +kernel) (by decide +kernel)
theorem tw_234 : (Jvm.Cond.laysFinal "SafetyTrees" "SafetyTrees" "causes" "LSafetyTrees$Causes;") ∈ tblG := tg_r (i := 234) (by decide +kernel) (by decide +kernel)
theorem tw_236 : (Jvm.Cond.laysFinal "SafetyTrees" "SafetyTrees" "told" "LSafetyTrees$Cuts;") ∈ tblG := tg_r (i := 236) (by decide +kernel) (by decide +kernel)
theorem tw_238 : (Jvm.Cond.laysFinal "SafetyTrees" "SafetyTrees" "odds" "LSafetyTrees$Odds;") ∈ tblG := tg_r (i := 238) (by decide +kernel) (by decide +kernel)
theorem tw_240 : (Jvm.Cond.laysFinal "SafetyTrees" "SafetyTrees" "goals" "LSafetyTrees$Goals;") ∈ tblG := tg_r (i := 240) (by decide +kernel) (by decide +kernel)
theorem tw_242 : (Jvm.Cond.laysFinal "SafetyTrees" "SafetyTrees" "share" "LSafetyTrees$Fraction;") ∈ tblG := tg_r (i := 242) (by decide +kernel) (by decide +kernel)
theorem tw_245 : (Jvm.Cond.methodLink "SafetyTreesLaw" (21 : Nat) ({ cls := "SafetyTrees", name := "event", desc := "(JJ)I" } : Jvm.MethodName)) ∈ tblG := tg_r (i := 245) (by decide +kernel) (by decide +kernel)
theorem tw_246 : (Jvm.Cond.instanceMethod ({ cls := "SafetyTrees", name := "event", desc := "(JJ)I" } : Jvm.MethodName)) ∈ tblG := tg_r (i := 246) (by decide +kernel) (by decide +kernel)
theorem tw_247 : (Jvm.Cond.selects "SafetyTrees" ({ cls := "SafetyTrees", name := "event", desc := "(JJ)I" } : Jvm.MethodName) ({ cls := "SafetyTrees", name := "event", desc := "(JJ)I" } : Jvm.MethodName)) ∈ tblG := tg_r (i := 247) (by decide +kernel) (by decide +kernel)
theorem tw_248 : (Jvm.Cond.code ({ cls := "SafetyTrees", name := "event", desc := "(JJ)I" } : Jvm.MethodName) prog_1_method_2_code (6 : Nat) (Option.some Jvm.ClassFile.FieldType.int)) ∈ tblG := tg_r (i := 248) (by decide +kernel) (by decide +kernel)
theorem tw_249 : (Jvm.Cond.methodLink "SafetyTrees" (62 : Nat) ({ cls := "SafetyTrees", name := "isDown", desc := "(J)Z" } : Jvm.MethodName)) ∈ tblG := tg_r (i := 249) (by decide +kernel) (by decide +kernel)
theorem tw_250 : (Jvm.Cond.static ({ cls := "SafetyTrees", name := "isDown", desc := "(J)Z" } : Jvm.MethodName)) ∈ tblG := tg_r (i := 250) (by decide +kernel) (by decide +kernel)
theorem tw_251 : (Jvm.Cond.code ({ cls := "SafetyTrees", name := "isDown", desc := "(J)Z" } : Jvm.MethodName) prog_1_method_17_code (2 : Nat) (Option.some Jvm.ClassFile.FieldType.boolean)) ∈ tblG := tg_r (i := 251) (by decide +kernel) (by decide +kernel)
theorem tw_252 : (Jvm.Cond.constantLong "SafetyTrees" (199 : Nat) (10 : Int64)) ∈ tblG := tg_r (i := 252) (by decide +kernel) (by decide +kernel)
theorem tw_253 : (Jvm.Cond.methodLink "SafetyTrees" (70 : Nat) ({ cls := "SafetyTrees$Nodes", name := "addEvent", desc := "(JJ)I" } : Jvm.MethodName)) ∈ tblG := tg_r (i := 253) (by decide +kernel) (by decide +kernel)
theorem tw_254 : (Jvm.Cond.instanceMethod ({ cls := "SafetyTrees$Nodes", name := "addEvent", desc := "(JJ)I" } : Jvm.MethodName)) ∈ tblG := tg_r (i := 254) (by decide +kernel) (by decide +kernel)
theorem tw_255 : (Jvm.Cond.selects "SafetyTrees$Nodes" ({ cls := "SafetyTrees$Nodes", name := "addEvent", desc := "(JJ)I" } : Jvm.MethodName) ({ cls := "SafetyTrees$Nodes", name := "addEvent", desc := "(JJ)I" } : Jvm.MethodName)) ∈ tblG := tg_r (i := 255) (by decide +kernel) (by decide +kernel)
theorem tw_256 : (Jvm.Cond.code ({ cls := "SafetyTrees$Nodes", name := "addEvent", desc := "(JJ)I" } : Jvm.MethodName) prog_6_method_5_code (5 : Nat) (Option.some Jvm.ClassFile.FieldType.int)) ∈ tblG := tg_r (i := 256) (by decide +kernel) (by decide +kernel)
theorem tw_257 : (Jvm.Cond.methodLink "SafetyTrees$Nodes" (59 : Nat) ({ cls := "SafetyTrees$Nodes", name := "eventBit", desc := "(I)I" } : Jvm.MethodName)) ∈ tblG := tg_r (i := 257) (by decide +kernel) (by decide +kernel)
theorem tw_258 : (Jvm.Cond.static ({ cls := "SafetyTrees$Nodes", name := "eventBit", desc := "(I)I" } : Jvm.MethodName)) ∈ tblG := tg_r (i := 258) (by decide +kernel) (by decide +kernel)
theorem tw_259 : (Jvm.Cond.code ({ cls := "SafetyTrees$Nodes", name := "eventBit", desc := "(I)I" } : Jvm.MethodName) prog_6_method_7_code (1 : Nat) (Option.some Jvm.ClassFile.FieldType.int)) ∈ tblG := tg_r (i := 259) (by decide +kernel) (by decide +kernel)
theorem tw_260 : (Jvm.Cond.methodLink "SafetyTrees" (74 : Nat) ({ cls := "SafetyTrees$Truth", name := "fillEvent", desc := "(I)V" } : Jvm.MethodName)) ∈ tblG := tg_r (i := 260) (by decide +kernel) (by decide +kernel)
theorem tw_261 : (Jvm.Cond.instanceMethod ({ cls := "SafetyTrees$Truth", name := "fillEvent", desc := "(I)V" } : Jvm.MethodName)) ∈ tblG := tg_r (i := 261) (by decide +kernel) (by decide +kernel)
theorem tw_262 : (Jvm.Cond.selects "SafetyTrees$Truth" ({ cls := "SafetyTrees$Truth", name := "fillEvent", desc := "(I)V" } : Jvm.MethodName) ({ cls := "SafetyTrees$Truth", name := "fillEvent", desc := "(I)V" } : Jvm.MethodName)) ∈ tblG := tg_r (i := 262) (by decide +kernel) (by decide +kernel)
theorem tw_263 : (Jvm.Cond.code ({ cls := "SafetyTrees$Truth", name := "fillEvent", desc := "(I)V" } : Jvm.MethodName) prog_8_method_2_code (4 : Nat) (Option.none : Option Jvm.ClassFile.FieldType)) ∈ tblG := tg_r (i := 263) (by decide +kernel) (by decide +kernel)
theorem tw_264 : (Jvm.Cond.methodLink "SafetyTrees$Truth" (26 : Nat) ({ cls := "SafetyTrees$Truth", name := "eventWord", desc := "(II)J" } : Jvm.MethodName)) ∈ tblG := tg_r (i := 264) (by decide +kernel) (by decide +kernel)
theorem tw_265 : (Jvm.Cond.static ({ cls := "SafetyTrees$Truth", name := "eventWord", desc := "(II)J" } : Jvm.MethodName)) ∈ tblG := tg_r (i := 265) (by decide +kernel) (by decide +kernel)
theorem tw_266 : (Jvm.Cond.code ({ cls := "SafetyTrees$Truth", name := "eventWord", desc := "(II)J" } : Jvm.MethodName) prog_8_method_3_code (3 : Nat) (Option.some Jvm.ClassFile.FieldType.long)) ∈ tblG := tg_r (i := 266) (by decide +kernel) (by decide +kernel)
theorem tw_267 : (Jvm.Cond.fieldLink "SafetyTrees$Truth" (30 : Nat) "SafetyTrees$Truth" "PATTERNS" "[J") ∈ tblG := tg_r (i := 267) (by decide +kernel) (by decide +kernel)
theorem tw_269 : (Jvm.Cond.constantLong "SafetyTrees$Truth" (34 : Nat) (-1 : Int64)) ∈ tblG := tg_r (i := 269) (by decide +kernel) (by decide +kernel)
theorem tw_270 : (Jvm.Cond.methodLink "SafetyTreesLaw" (26 : Nat) ({ cls := "SafetyTrees", name := "gate", desc := "(II)I" } : Jvm.MethodName)) ∈ tblG := tg_r (i := 270) (by decide +kernel) (by decide +kernel)
theorem tw_271 : (Jvm.Cond.instanceMethod ({ cls := "SafetyTrees", name := "gate", desc := "(II)I" } : Jvm.MethodName)) ∈ tblG := tg_r (i := 271) (by decide +kernel) (by decide +kernel)
theorem tw_272 : (Jvm.Cond.selects "SafetyTrees" ({ cls := "SafetyTrees", name := "gate", desc := "(II)I" } : Jvm.MethodName) ({ cls := "SafetyTrees", name := "gate", desc := "(II)I" } : Jvm.MethodName)) ∈ tblG := tg_r (i := 272) (by decide +kernel) (by decide +kernel)
theorem tw_273 : (Jvm.Cond.code ({ cls := "SafetyTrees", name := "gate", desc := "(II)I" } : Jvm.MethodName) prog_1_method_3_code (3 : Nat) (Option.some Jvm.ClassFile.FieldType.int)) ∈ tblG := tg_r (i := 273) (by decide +kernel) (by decide +kernel)
theorem tw_274 : (Jvm.Cond.methodLink "SafetyTrees" (78 : Nat) ({ cls := "SafetyTrees", name := "isKind", desc := "(II)Z" } : Jvm.MethodName)) ∈ tblG := tg_r (i := 274) (by decide +kernel) (by decide +kernel)
theorem tw_275 : (Jvm.Cond.static ({ cls := "SafetyTrees", name := "isKind", desc := "(II)Z" } : Jvm.MethodName)) ∈ tblG := tg_r (i := 275) (by decide +kernel) (by decide +kernel)
theorem tw_276 : (Jvm.Cond.code ({ cls := "SafetyTrees", name := "isKind", desc := "(II)Z" } : Jvm.MethodName) prog_1_method_18_code (2 : Nat) (Option.some Jvm.ClassFile.FieldType.boolean)) ∈ tblG := tg_r (i := 276) (by decide +kernel) (by decide +kernel)
theorem tw_277 : (Jvm.Cond.methodLink "SafetyTrees" (159 : Nat) ({ cls := "SafetyTrees", name := "isWithin", desc := "(III)Z" } : Jvm.MethodName)) ∈ tblG := tg_r (i := 277) (by decide +kernel) (by decide +kernel)
theorem tw_278 : (Jvm.Cond.static ({ cls := "SafetyTrees", name := "isWithin", desc := "(III)Z" } : Jvm.MethodName)) ∈ tblG := tg_r (i := 278) (by decide +kernel) (by decide +kernel)
theorem tw_279 : (Jvm.Cond.code ({ cls := "SafetyTrees", name := "isWithin", desc := "(III)Z" } : Jvm.MethodName) prog_1_method_16_code (3 : Nat) (Option.some Jvm.ClassFile.FieldType.boolean)) ∈ tblG := tg_r (i := 279) (by decide +kernel) (by decide +kernel)
theorem tw_280 : (Jvm.Cond.methodLink "SafetyTrees" (85 : Nat) ({ cls := "SafetyTrees$Nodes", name := "addGate", desc := "(II)I" } : Jvm.MethodName)) ∈ tblG := tg_r (i := 280) (by decide +kernel) (by decide +kernel)
theorem tw_281 : (Jvm.Cond.instanceMethod ({ cls := "SafetyTrees$Nodes", name := "addGate", desc := "(II)I" } : Jvm.MethodName)) ∈ tblG := tg_r (i := 281) (by decide +kernel) (by decide +kernel)
theorem tw_282 : (Jvm.Cond.selects "SafetyTrees$Nodes" ({ cls := "SafetyTrees$Nodes", name := "addGate", desc := "(II)I" } : Jvm.MethodName) ({ cls := "SafetyTrees$Nodes", name := "addGate", desc := "(II)I" } : Jvm.MethodName)) ∈ tblG := tg_r (i := 282) (by decide +kernel) (by decide +kernel)
theorem tw_283 : (Jvm.Cond.code ({ cls := "SafetyTrees$Nodes", name := "addGate", desc := "(II)I" } : Jvm.MethodName) prog_6_method_6_code (3 : Nat) (Option.some Jvm.ClassFile.FieldType.int)) ∈ tblG := tg_r (i := 283) (by decide +kernel) (by decide +kernel)
theorem tw_284 : (Jvm.Cond.methodLink "SafetyTreesLaw" (31 : Nat) ({ cls := "SafetyTrees", name := "below", desc := "(II)I" } : Jvm.MethodName)) ∈ tblG := tg_r (i := 284) (by decide +kernel) (by decide +kernel)
theorem tw_285 : (Jvm.Cond.instanceMethod ({ cls := "SafetyTrees", name := "below", desc := "(II)I" } : Jvm.MethodName)) ∈ tblG := tg_r (i := 285) (by decide +kernel) (by decide +kernel)
theorem tw_286 : (Jvm.Cond.selects "SafetyTrees" ({ cls := "SafetyTrees", name := "below", desc := "(II)I" } : Jvm.MethodName) ({ cls := "SafetyTrees", name := "below", desc := "(II)I" } : Jvm.MethodName)) ∈ tblG := tg_r (i := 286) (by decide +kernel) (by decide +kernel)
theorem tw_287 : (Jvm.Cond.code ({ cls := "SafetyTrees", name := "below", desc := "(II)I" } : Jvm.MethodName) prog_1_method_4_code (3 : Nat) (Option.some Jvm.ClassFile.FieldType.int)) ∈ tblG := tg_r (i := 287) (by decide +kernel) (by decide +kernel)
theorem tw_288 : (Jvm.Cond.methodLink "SafetyTrees" (89 : Nat) ({ cls := "SafetyTrees$Nodes", name := "isGate", desc := "(I)Z" } : Jvm.MethodName)) ∈ tblG := tg_r (i := 288) (by decide +kernel) (by decide +kernel)
theorem tw_289 : (Jvm.Cond.instanceMethod ({ cls := "SafetyTrees$Nodes", name := "isGate", desc := "(I)Z" } : Jvm.MethodName)) ∈ tblG := tg_r (i := 289) (by decide +kernel) (by decide +kernel)
theorem tw_290 : (Jvm.Cond.selects "SafetyTrees$Nodes" ({ cls := "SafetyTrees$Nodes", name := "isGate", desc := "(I)Z" } : Jvm.MethodName) ({ cls := "SafetyTrees$Nodes", name := "isGate", desc := "(I)Z" } : Jvm.MethodName)) ∈ tblG := tg_r (i := 290) (by decide +kernel) (by decide +kernel)
theorem tw_291 : (Jvm.Cond.code ({ cls := "SafetyTrees$Nodes", name := "isGate", desc := "(I)Z" } : Jvm.MethodName) prog_6_method_4_code (2 : Nat) (Option.some Jvm.ClassFile.FieldType.boolean)) ∈ tblG := tg_r (i := 291) (by decide +kernel) (by decide +kernel)
theorem tw_292 : (Jvm.Cond.methodLink "SafetyTrees$Nodes" (55 : Nat) ({ cls := "SafetyTrees$Nodes", name := "isNode", desc := "(I)Z" } : Jvm.MethodName)) ∈ tblG := tg_r (i := 292) (by decide +kernel) (by decide +kernel)
theorem tw_293 : (Jvm.Cond.instanceMethod ({ cls := "SafetyTrees$Nodes", name := "isNode", desc := "(I)Z" } : Jvm.MethodName)) ∈ tblG := tg_r (i := 293) (by decide +kernel) (by decide +kernel)
theorem tw_294 : (Jvm.Cond.selects "SafetyTrees$Nodes" ({ cls := "SafetyTrees$Nodes", name := "isNode", desc := "(I)Z" } : Jvm.MethodName) ({ cls := "SafetyTrees$Nodes", name := "isNode", desc := "(I)Z" } : Jvm.MethodName)) ∈ tblG := tg_r (i := 294) (by decide +kernel) (by decide +kernel)
theorem tw_295 : (Jvm.Cond.code ({ cls := "SafetyTrees$Nodes", name := "isNode", desc := "(I)Z" } : Jvm.MethodName) prog_6_method_2_code (2 : Nat) (Option.some Jvm.ClassFile.FieldType.boolean)) ∈ tblG := tg_r (i := 295) (by decide +kernel) (by decide +kernel)
theorem tw_296 : (Jvm.Cond.methodLink "SafetyTrees" (93 : Nat) ({ cls := "SafetyTrees$Nodes", name := "isNode", desc := "(I)Z" } : Jvm.MethodName)) ∈ tblG := tg_r (i := 296) (by decide +kernel) (by decide +kernel)
theorem tw_297 : (Jvm.Cond.methodLink "SafetyTrees" (96 : Nat) ({ cls := "SafetyTrees$Nodes", name := "isBelow", desc := "(II)Z" } : Jvm.MethodName)) ∈ tblG := tg_r (i := 297) (by decide +kernel) (by decide +kernel)
theorem tw_298 : (Jvm.Cond.instanceMethod ({ cls := "SafetyTrees$Nodes", name := "isBelow", desc := "(II)Z" } : Jvm.MethodName)) ∈ tblG := tg_r (i := 298) (by decide +kernel) (by decide +kernel)
theorem tw_299 : (Jvm.Cond.selects "SafetyTrees$Nodes" ({ cls := "SafetyTrees$Nodes", name := "isBelow", desc := "(II)Z" } : Jvm.MethodName) ({ cls := "SafetyTrees$Nodes", name := "isBelow", desc := "(II)Z" } : Jvm.MethodName)) ∈ tblG := tg_r (i := 299) (by decide +kernel) (by decide +kernel)
theorem tw_300 : (Jvm.Cond.code ({ cls := "SafetyTrees$Nodes", name := "isBelow", desc := "(II)Z" } : Jvm.MethodName) prog_6_method_8_code (4 : Nat) (Option.some Jvm.ClassFile.FieldType.boolean)) ∈ tblG := tg_r (i := 300) (by decide +kernel) (by decide +kernel)
theorem tw_301 : (Jvm.Cond.methodLink "SafetyTrees" (103 : Nat) ({ cls := "SafetyTrees$Nodes", name := "isUnder", desc := "(II)Z" } : Jvm.MethodName)) ∈ tblG := tg_r (i := 301) (by decide +kernel) (by decide +kernel)
theorem tw_302 : (Jvm.Cond.instanceMethod ({ cls := "SafetyTrees$Nodes", name := "isUnder", desc := "(II)Z" } : Jvm.MethodName)) ∈ tblG := tg_r (i := 302) (by decide +kernel) (by decide +kernel)
theorem tw_303 : (Jvm.Cond.selects "SafetyTrees$Nodes" ({ cls := "SafetyTrees$Nodes", name := "isUnder", desc := "(II)Z" } : Jvm.MethodName) ({ cls := "SafetyTrees$Nodes", name := "isUnder", desc := "(II)Z" } : Jvm.MethodName)) ∈ tblG := tg_r (i := 303) (by decide +kernel) (by decide +kernel)
theorem tw_304 : (Jvm.Cond.code ({ cls := "SafetyTrees$Nodes", name := "isUnder", desc := "(II)Z" } : Jvm.MethodName) prog_6_method_9_code (3 : Nat) (Option.some Jvm.ClassFile.FieldType.boolean)) ∈ tblG := tg_r (i := 304) (by decide +kernel) (by decide +kernel)
theorem tw_305 : (Jvm.Cond.methodLink "SafetyTrees" (106 : Nat) ({ cls := "SafetyTrees$Nodes", name := "putBelow", desc := "(II)V" } : Jvm.MethodName)) ∈ tblG := tg_r (i := 305) (by decide +kernel) (by decide +kernel)
theorem tw_306 : (Jvm.Cond.instanceMethod ({ cls := "SafetyTrees$Nodes", name := "putBelow", desc := "(II)V" } : Jvm.MethodName)) ∈ tblG := tg_r (i := 306) (by decide +kernel) (by decide +kernel)
theorem tw_307 : (Jvm.Cond.selects "SafetyTrees$Nodes" ({ cls := "SafetyTrees$Nodes", name := "putBelow", desc := "(II)V" } : Jvm.MethodName) ({ cls := "SafetyTrees$Nodes", name := "putBelow", desc := "(II)V" } : Jvm.MethodName)) ∈ tblG := tg_r (i := 307) (by decide +kernel) (by decide +kernel)
theorem tw_308 : (Jvm.Cond.code ({ cls := "SafetyTrees$Nodes", name := "putBelow", desc := "(II)V" } : Jvm.MethodName) prog_6_method_10_code (6 : Nat) (Option.none : Option Jvm.ClassFile.FieldType)) ∈ tblG := tg_r (i := 308) (by decide +kernel) (by decide +kernel)
theorem tw_309 : (Jvm.Cond.methodLink "SafetyTrees$Nodes" (63 : Nat) ({ cls := "SafetyTrees$Nodes", name := "isUnder", desc := "(II)Z" } : Jvm.MethodName)) ∈ tblG := tg_r (i := 309) (by decide +kernel) (by decide +kernel)
theorem tw_310 : (Jvm.Cond.methodLink "SafetyTreesLaw" (35 : Nat) ({ cls := "SafetyTrees", name := "cuts", desc := "(IJ)I" } : Jvm.MethodName)) ∈ tblG := tg_r (i := 310) (by decide +kernel) (by decide +kernel)
theorem tw_311 : (Jvm.Cond.instanceMethod ({ cls := "SafetyTrees", name := "cuts", desc := "(IJ)I" } : Jvm.MethodName)) ∈ tblG := tg_r (i := 311) (by decide +kernel) (by decide +kernel)
theorem tw_312 : (Jvm.Cond.selects "SafetyTrees" ({ cls := "SafetyTrees", name := "cuts", desc := "(IJ)I" } : Jvm.MethodName) ({ cls := "SafetyTrees", name := "cuts", desc := "(IJ)I" } : Jvm.MethodName)) ∈ tblG := tg_r (i := 312) (by decide +kernel) (by decide +kernel)
theorem tw_313 : (Jvm.Cond.code ({ cls := "SafetyTrees", name := "cuts", desc := "(IJ)I" } : Jvm.MethodName) prog_1_method_5_code (5 : Nat) (Option.some Jvm.ClassFile.FieldType.int)) ∈ tblG := tg_r (i := 313) (by decide +kernel) (by decide +kernel)
theorem tw_314 : (Jvm.Cond.methodLink "SafetyTrees" (113 : Nat) ({ cls := "SafetyTrees", name := "countOfSets", desc := "(I)I" } : Jvm.MethodName)) ∈ tblG := tg_r (i := 314) (by decide +kernel) (by decide +kernel)
theorem tw_315 : (Jvm.Cond.static ({ cls := "SafetyTrees", name := "countOfSets", desc := "(I)I" } : Jvm.MethodName)) ∈ tblG := tg_r (i := 315) (by decide +kernel) (by decide +kernel)
theorem tw_316 : (Jvm.Cond.code ({ cls := "SafetyTrees", name := "countOfSets", desc := "(I)I" } : Jvm.MethodName) prog_1_method_19_code (1 : Nat) (Option.some Jvm.ClassFile.FieldType.int)) ∈ tblG := tg_r (i := 316) (by decide +kernel) (by decide +kernel)
theorem tw_317 : (Jvm.Cond.methodLink "SafetyTrees" (201 : Nat) ({ cls := "java/lang/Integer", name := "bitCount", desc := "(I)I" } : Jvm.MethodName)) ∈ tblG := tg_r (i := 317) (by decide +kernel) (by decide +kernel)
theorem tw_318 : (Jvm.Cond.static ({ cls := "java/lang/Integer", name := "bitCount", desc := "(I)I" } : Jvm.MethodName)) ∈ tblG := tg_r (i := 318) (by decide +kernel) (by decide +kernel)
theorem tw_319 : (Jvm.Cond.code ({ cls := "java/lang/Integer", name := "bitCount", desc := "(I)I" } : Jvm.MethodName) prog_13_method_49_code (1 : Nat) (Option.some Jvm.ClassFile.FieldType.int)) ∈ tblG := tg_r (i := 319) (by decide +kernel) (by decide +kernel)
theorem tw_320 : (Jvm.Cond.constant "java/lang/Integer" (265 : Nat) (1431655765 : Int32)) ∈ tblG := tg_r (i := 320) (by decide +kernel) (by decide +kernel)
theorem tw_321 : (Jvm.Cond.constant "java/lang/Integer" (266 : Nat) (858993459 : Int32)) ∈ tblG := tg_r (i := 321) (by decide +kernel) (by decide +kernel)
theorem tw_322 : (Jvm.Cond.constant "java/lang/Integer" (267 : Nat) (252645135 : Int32)) ∈ tblG := tg_r (i := 322) (by decide +kernel) (by decide +kernel)
theorem tw_323 : (Jvm.Cond.methodLink "SafetyTrees" (117 : Nat) ({ cls := "SafetyTrees$Cuts", name := "clear", desc := "()V" } : Jvm.MethodName)) ∈ tblG := tg_r (i := 323) (by decide +kernel) (by decide +kernel)
theorem tw_324 : (Jvm.Cond.instanceMethod ({ cls := "SafetyTrees$Cuts", name := "clear", desc := "()V" } : Jvm.MethodName)) ∈ tblG := tg_r (i := 324) (by decide +kernel) (by decide +kernel)
theorem tw_325 : (Jvm.Cond.selects "SafetyTrees$Cuts" ({ cls := "SafetyTrees$Cuts", name := "clear", desc := "()V" } : Jvm.MethodName) ({ cls := "SafetyTrees$Cuts", name := "clear", desc := "()V" } : Jvm.MethodName)) ∈ tblG := tg_r (i := 325) (by decide +kernel) (by decide +kernel)
theorem tw_326 : (Jvm.Cond.code ({ cls := "SafetyTrees$Cuts", name := "clear", desc := "()V" } : Jvm.MethodName) prog_3_method_2_code (1 : Nat) (Option.none : Option Jvm.ClassFile.FieldType)) ∈ tblG := tg_r (i := 326) (by decide +kernel) (by decide +kernel)
theorem tw_327 : (Jvm.Cond.methodLink "SafetyTrees" (120 : Nat) ({ cls := "SafetyTrees$Truth", name := "fillGates", desc := "(I)V" } : Jvm.MethodName)) ∈ tblG := tg_r (i := 327) (by decide +kernel) (by decide +kernel)
theorem tw_328 : (Jvm.Cond.instanceMethod ({ cls := "SafetyTrees$Truth", name := "fillGates", desc := "(I)V" } : Jvm.MethodName)) ∈ tblG := tg_r (i := 328) (by decide +kernel) (by decide +kernel)
theorem tw_329 : (Jvm.Cond.selects "SafetyTrees$Truth" ({ cls := "SafetyTrees$Truth", name := "fillGates", desc := "(I)V" } : Jvm.MethodName) ({ cls := "SafetyTrees$Truth", name := "fillGates", desc := "(I)V" } : Jvm.MethodName)) ∈ tblG := tg_r (i := 329) (by decide +kernel) (by decide +kernel)
theorem tw_330 : (Jvm.Cond.code ({ cls := "SafetyTrees$Truth", name := "fillGates", desc := "(I)V" } : Jvm.MethodName) prog_8_method_4_code (5 : Nat) (Option.none : Option Jvm.ClassFile.FieldType)) ∈ tblG := tg_r (i := 330) (by decide +kernel) (by decide +kernel)
theorem tw_331 : (Jvm.Cond.methodLink "SafetyTrees$Truth" (36 : Nat) ({ cls := "SafetyTrees$Nodes", name := "lineUp", desc := "(I)I" } : Jvm.MethodName)) ∈ tblG := tg_r (i := 331) (by decide +kernel) (by decide +kernel)
theorem tw_332 : (Jvm.Cond.instanceMethod ({ cls := "SafetyTrees$Nodes", name := "lineUp", desc := "(I)I" } : Jvm.MethodName)) ∈ tblG := tg_r (i := 332) (by decide +kernel) (by decide +kernel)
theorem tw_333 : (Jvm.Cond.selects "SafetyTrees$Nodes" ({ cls := "SafetyTrees$Nodes", name := "lineUp", desc := "(I)I" } : Jvm.MethodName) ({ cls := "SafetyTrees$Nodes", name := "lineUp", desc := "(I)I" } : Jvm.MethodName)) ∈ tblG := tg_r (i := 333) (by decide +kernel) (by decide +kernel)
theorem tw_334 : (Jvm.Cond.code ({ cls := "SafetyTrees$Nodes", name := "lineUp", desc := "(I)I" } : Jvm.MethodName) prog_6_method_11_code (6 : Nat) (Option.some Jvm.ClassFile.FieldType.int)) ∈ tblG := tg_r (i := 334) (by decide +kernel) (by decide +kernel)
theorem tw_335 : (Jvm.Cond.methodLink "SafetyTrees$Nodes" (67 : Nat) ({ cls := "SafetyTrees$Nodes", name := "isGate", desc := "(I)Z" } : Jvm.MethodName)) ∈ tblG := tg_r (i := 335) (by decide +kernel) (by decide +kernel)
theorem tw_336 : (Jvm.Cond.methodLink "SafetyTrees$Nodes" (70 : Nat) ({ cls := "java/lang/Long", name := "bitCount", desc := "(J)I" } : Jvm.MethodName)) ∈ tblG := tg_r (i := 336) (by decide +kernel) (by decide +kernel)
theorem tw_337 : (Jvm.Cond.static ({ cls := "java/lang/Long", name := "bitCount", desc := "(J)I" } : Jvm.MethodName)) ∈ tblG := tg_r (i := 337) (by decide +kernel) (by decide +kernel)
theorem tw_338 : (Jvm.Cond.code ({ cls := "java/lang/Long", name := "bitCount", desc := "(J)I" } : Jvm.MethodName) prog_14_method_50_code (2 : Nat) (Option.some Jvm.ClassFile.FieldType.int)) ∈ tblG := tg_r (i := 338) (by decide +kernel) (by decide +kernel)
theorem tw_339 : (Jvm.Cond.constantLong "java/lang/Long" (314 : Nat) (6148914691236517205 : Int64)) ∈ tblG := tg_r (i := 339) (by decide +kernel) (by decide +kernel)
theorem tw_340 : (Jvm.Cond.constantLong "java/lang/Long" (316 : Nat) (3689348814741910323 : Int64)) ∈ tblG := tg_r (i := 340) (by decide +kernel) (by decide +kernel)
theorem tw_341 : (Jvm.Cond.constantLong "java/lang/Long" (318 : Nat) (1085102592571150095 : Int64)) ∈ tblG := tg_r (i := 341) (by decide +kernel) (by decide +kernel)
theorem tw_342 : (Jvm.Cond.methodLink "SafetyTrees$Truth" (43 : Nat) ({ cls := "SafetyTrees$Truth", name := "fillGate", desc := "(II)V" } : Jvm.MethodName)) ∈ tblG := tg_r (i := 342) (by decide +kernel) (by decide +kernel)
theorem tw_344 : (Jvm.Cond.instanceMethod ({ cls := "SafetyTrees$Truth", name := "fillGate", desc := "(II)V" } : Jvm.MethodName)) ∈ tblG := tg_r (i := 344) (by decide +kernel) (by decide +kernel)
theorem tw_345 : (Jvm.Cond.code ({ cls := "SafetyTrees$Truth", name := "fillGate", desc := "(II)V" } : Jvm.MethodName) prog_8_method_5_code (4 : Nat) (Option.none : Option Jvm.ClassFile.FieldType)) ∈ tblG := tg_r (i := 345) (by decide +kernel) (by decide +kernel)
theorem tw_346 : (Jvm.Cond.methodLink "SafetyTrees$Truth" (47 : Nat) ({ cls := "SafetyTrees$Truth", name := "gateWord", desc := "(II)J" } : Jvm.MethodName)) ∈ tblG := tg_r (i := 346) (by decide +kernel) (by decide +kernel)
theorem tw_348 : (Jvm.Cond.instanceMethod ({ cls := "SafetyTrees$Truth", name := "gateWord", desc := "(II)J" } : Jvm.MethodName)) ∈ tblG := tg_r (i := 348) (by decide +kernel) (by decide +kernel)
theorem tw_349 : (Jvm.Cond.code ({ cls := "SafetyTrees$Truth", name := "gateWord", desc := "(II)J" } : Jvm.MethodName) prog_8_method_6_code (3 : Nat) (Option.some Jvm.ClassFile.FieldType.long)) ∈ tblG := tg_r (i := 349) (by decide +kernel) (by decide +kernel)
theorem tw_350 : (Jvm.Cond.methodLink "SafetyTrees$Truth" (53 : Nat) ({ cls := "SafetyTrees$Truth", name := "allOf", desc := "(II)J" } : Jvm.MethodName)) ∈ tblG := tg_r (i := 350) (by decide +kernel) (by decide +kernel)
theorem tw_352 : (Jvm.Cond.instanceMethod ({ cls := "SafetyTrees$Truth", name := "allOf", desc := "(II)J" } : Jvm.MethodName)) ∈ tblG := tg_r (i := 352) (by decide +kernel) (by decide +kernel)
theorem tw_353 : (Jvm.Cond.code ({ cls := "SafetyTrees$Truth", name := "allOf", desc := "(II)J" } : Jvm.MethodName) prog_8_method_7_code (6 : Nat) (Option.some Jvm.ClassFile.FieldType.long)) ∈ tblG := tg_r (i := 353) (by decide +kernel) (by decide +kernel)
theorem tw_354 : (Jvm.Cond.methodLink "SafetyTrees$Truth" (56 : Nat) ({ cls := "SafetyTrees$Truth", name := "anyOf", desc := "(II)J" } : Jvm.MethodName)) ∈ tblG := tg_r (i := 354) (by decide +kernel) (by decide +kernel)
theorem tw_356 : (Jvm.Cond.instanceMethod ({ cls := "SafetyTrees$Truth", name := "anyOf", desc := "(II)J" } : Jvm.MethodName)) ∈ tblG := tg_r (i := 356) (by decide +kernel) (by decide +kernel)
theorem tw_357 : (Jvm.Cond.code ({ cls := "SafetyTrees$Truth", name := "anyOf", desc := "(II)J" } : Jvm.MethodName) prog_8_method_8_code (6 : Nat) (Option.some Jvm.ClassFile.FieldType.long)) ∈ tblG := tg_r (i := 357) (by decide +kernel) (by decide +kernel)
theorem tw_358 : (Jvm.Cond.methodLink "SafetyTrees$Truth" (59 : Nat) ({ cls := "SafetyTrees$Truth", name := "votesOf", desc := "(II)J" } : Jvm.MethodName)) ∈ tblG := tg_r (i := 358) (by decide +kernel) (by decide +kernel)
theorem tw_360 : (Jvm.Cond.instanceMethod ({ cls := "SafetyTrees$Truth", name := "votesOf", desc := "(II)J" } : Jvm.MethodName)) ∈ tblG := tg_r (i := 360) (by decide +kernel) (by decide +kernel)
theorem tw_361 : (Jvm.Cond.code ({ cls := "SafetyTrees$Truth", name := "votesOf", desc := "(II)J" } : Jvm.MethodName) prog_8_method_9_code (20 : Nat) (Option.some Jvm.ClassFile.FieldType.long)) ∈ tblG := tg_r (i := 361) (by decide +kernel) (by decide +kernel)
theorem tw_362 : (Jvm.Cond.methodLink "SafetyTrees$Truth" (72 : Nat) ({ cls := "SafetyTrees$Truth", name := "withDigit", desc := "(IJJ)J" } : Jvm.MethodName)) ∈ tblG := tg_r (i := 362) (by decide +kernel) (by decide +kernel)
theorem tw_363 : (Jvm.Cond.static ({ cls := "SafetyTrees$Truth", name := "withDigit", desc := "(IJJ)J" } : Jvm.MethodName)) ∈ tblG := tg_r (i := 363) (by decide +kernel) (by decide +kernel)
theorem tw_364 : (Jvm.Cond.code ({ cls := "SafetyTrees$Truth", name := "withDigit", desc := "(IJJ)J" } : Jvm.MethodName) prog_8_method_10_code (5 : Nat) (Option.some Jvm.ClassFile.FieldType.long)) ∈ tblG := tg_r (i := 364) (by decide +kernel) (by decide +kernel)
theorem tw_365 : (Jvm.Cond.methodLink "SafetyTrees" (123 : Nat) ({ cls := "SafetyTrees$Cuts", name := "tell", desc := "(LSafetyTrees$Truth;II)I" } : Jvm.MethodName)) ∈ tblG := tg_r (i := 365) (by decide +kernel) (by decide +kernel)
theorem tw_366 : (Jvm.Cond.instanceMethod ({ cls := "SafetyTrees$Cuts", name := "tell", desc := "(LSafetyTrees$Truth;II)I" } : Jvm.MethodName)) ∈ tblG := tg_r (i := 366) (by decide +kernel) (by decide +kernel)
theorem tw_367 : (Jvm.Cond.selects "SafetyTrees$Cuts" ({ cls := "SafetyTrees$Cuts", name := "tell", desc := "(LSafetyTrees$Truth;II)I" } : Jvm.MethodName) ({ cls := "SafetyTrees$Cuts", name := "tell", desc := "(LSafetyTrees$Truth;II)I" } : Jvm.MethodName)) ∈ tblG := tg_r (i := 367) (by decide +kernel) (by decide +kernel)
theorem tw_368 : (Jvm.Cond.code ({ cls := "SafetyTrees$Cuts", name := "tell", desc := "(LSafetyTrees$Truth;II)I" } : Jvm.MethodName) prog_3_method_3_code (6 : Nat) (Option.some Jvm.ClassFile.FieldType.int)) ∈ tblG := tg_r (i := 368) (by decide +kernel) (by decide +kernel)
theorem tw_369 : (Jvm.Cond.methodLink "SafetyTrees$Cuts" (22 : Nat) ({ cls := "SafetyTrees$Cuts", name := "find", desc := "(LSafetyTrees$Truth;II)I" } : Jvm.MethodName)) ∈ tblG := tg_r (i := 369) (by decide +kernel) (by decide +kernel)
theorem tw_371 : (Jvm.Cond.instanceMethod ({ cls := "SafetyTrees$Cuts", name := "find", desc := "(LSafetyTrees$Truth;II)I" } : Jvm.MethodName)) ∈ tblG := tg_r (i := 371) (by decide +kernel) (by decide +kernel)
theorem tw_372 : (Jvm.Cond.code ({ cls := "SafetyTrees$Cuts", name := "find", desc := "(LSafetyTrees$Truth;II)I" } : Jvm.MethodName) prog_3_method_4_code (8 : Nat) (Option.some Jvm.ClassFile.FieldType.int)) ∈ tblG := tg_r (i := 372) (by decide +kernel) (by decide +kernel)
theorem tw_373 : (Jvm.Cond.methodLinkNest "SafetyTrees$Cuts" (30 : Nat) ({ cls := "SafetyTrees", name := "countOfSets", desc := "(I)I" } : Jvm.MethodName) "SafetyTrees") ∈ tblN := tn_r (i := 373) (by decide +kernel) (by decide +kernel)
theorem tw_374 : (Jvm.Cond.methodLink "SafetyTrees$Cuts" (34 : Nat) ({ cls := "SafetyTrees$Truth", name := "isMinimal", desc := "(II)Z" } : Jvm.MethodName)) ∈ tblG := tg_r (i := 374) (by decide +kernel) (by decide +kernel)
theorem tw_375 : (Jvm.Cond.instanceMethod ({ cls := "SafetyTrees$Truth", name := "isMinimal", desc := "(II)Z" } : Jvm.MethodName)) ∈ tblG := tg_r (i := 375) (by decide +kernel) (by decide +kernel)
theorem tw_376 : (Jvm.Cond.selects "SafetyTrees$Truth" ({ cls := "SafetyTrees$Truth", name := "isMinimal", desc := "(II)Z" } : Jvm.MethodName) ({ cls := "SafetyTrees$Truth", name := "isMinimal", desc := "(II)Z" } : Jvm.MethodName)) ∈ tblG := tg_r (i := 376) (by decide +kernel) (by decide +kernel)
theorem tw_377 : (Jvm.Cond.code ({ cls := "SafetyTrees$Truth", name := "isMinimal", desc := "(II)Z" } : Jvm.MethodName) prog_8_method_13_code (4 : Nat) (Option.some Jvm.ClassFile.FieldType.boolean)) ∈ tblG := tg_r (i := 377) (by decide +kernel) (by decide +kernel)
theorem tw_378 : (Jvm.Cond.methodLink "SafetyTrees$Truth" (79 : Nat) ({ cls := "SafetyTrees$Truth", name := "isTrue", desc := "(II)Z" } : Jvm.MethodName)) ∈ tblG := tg_r (i := 378) (by decide +kernel) (by decide +kernel)
theorem tw_379 : (Jvm.Cond.instanceMethod ({ cls := "SafetyTrees$Truth", name := "isTrue", desc := "(II)Z" } : Jvm.MethodName)) ∈ tblG := tg_r (i := 379) (by decide +kernel) (by decide +kernel)
theorem tw_380 : (Jvm.Cond.selects "SafetyTrees$Truth" ({ cls := "SafetyTrees$Truth", name := "isTrue", desc := "(II)Z" } : Jvm.MethodName) ({ cls := "SafetyTrees$Truth", name := "isTrue", desc := "(II)Z" } : Jvm.MethodName)) ∈ tblG := tg_r (i := 380) (by decide +kernel) (by decide +kernel)
theorem tw_381 : (Jvm.Cond.code ({ cls := "SafetyTrees$Truth", name := "isTrue", desc := "(II)Z" } : Jvm.MethodName) prog_8_method_11_code (4 : Nat) (Option.some Jvm.ClassFile.FieldType.boolean)) ∈ tblG := tg_r (i := 381) (by decide +kernel) (by decide +kernel)
theorem tw_382 : (Jvm.Cond.methodLink "SafetyTrees$Cuts" (26 : Nat) ({ cls := "SafetyTrees$Cuts", name := "takeOfSize", desc := "(II)V" } : Jvm.MethodName)) ∈ tblG := tg_r (i := 382) (by decide +kernel) (by decide +kernel)
theorem tw_384 : (Jvm.Cond.instanceMethod ({ cls := "SafetyTrees$Cuts", name := "takeOfSize", desc := "(II)V" } : Jvm.MethodName)) ∈ tblG := tg_r (i := 384) (by decide +kernel) (by decide +kernel)
theorem tw_385 : (Jvm.Cond.code ({ cls := "SafetyTrees$Cuts", name := "takeOfSize", desc := "(II)V" } : Jvm.MethodName) prog_3_method_5_code (4 : Nat) (Option.none : Option Jvm.ClassFile.FieldType)) ∈ tblG := tg_r (i := 385) (by decide +kernel) (by decide +kernel)
theorem tw_386 : (Jvm.Cond.methodLink "SafetyTrees$Cuts" (40 : Nat) ({ cls := "java/lang/Integer", name := "bitCount", desc := "(I)I" } : Jvm.MethodName)) ∈ tblG := tg_r (i := 386) (by decide +kernel) (by decide +kernel)
theorem tw_387 : (Jvm.Cond.methodLink "SafetyTreesLaw" (40 : Nat) ({ cls := "SafetyTrees", name := "cut", desc := "(II)I" } : Jvm.MethodName)) ∈ tblG := tg_r (i := 387) (by decide +kernel) (by decide +kernel)
theorem tw_388 : (Jvm.Cond.instanceMethod ({ cls := "SafetyTrees", name := "cut", desc := "(II)I" } : Jvm.MethodName)) ∈ tblG := tg_r (i := 388) (by decide +kernel) (by decide +kernel)
theorem tw_389 : (Jvm.Cond.selects "SafetyTrees" ({ cls := "SafetyTrees", name := "cut", desc := "(II)I" } : Jvm.MethodName) ({ cls := "SafetyTrees", name := "cut", desc := "(II)I" } : Jvm.MethodName)) ∈ tblG := tg_r (i := 389) (by decide +kernel) (by decide +kernel)
theorem tw_390 : (Jvm.Cond.code ({ cls := "SafetyTrees", name := "cut", desc := "(II)I" } : Jvm.MethodName) prog_1_method_6_code (4 : Nat) (Option.some Jvm.ClassFile.FieldType.int)) ∈ tblG := tg_r (i := 390) (by decide +kernel) (by decide +kernel)
theorem tw_391 : (Jvm.Cond.methodLink "SafetyTrees" (127 : Nat) ({ cls := "SafetyTrees$Cuts", name := "eventIndex", desc := "(II)I" } : Jvm.MethodName)) ∈ tblG := tg_r (i := 391) (by decide +kernel) (by decide +kernel)
theorem tw_392 : (Jvm.Cond.instanceMethod ({ cls := "SafetyTrees$Cuts", name := "eventIndex", desc := "(II)I" } : Jvm.MethodName)) ∈ tblG := tg_r (i := 392) (by decide +kernel) (by decide +kernel)
theorem tw_393 : (Jvm.Cond.selects "SafetyTrees$Cuts" ({ cls := "SafetyTrees$Cuts", name := "eventIndex", desc := "(II)I" } : Jvm.MethodName) ({ cls := "SafetyTrees$Cuts", name := "eventIndex", desc := "(II)I" } : Jvm.MethodName)) ∈ tblG := tg_r (i := 393) (by decide +kernel) (by decide +kernel)
theorem tw_394 : (Jvm.Cond.code ({ cls := "SafetyTrees$Cuts", name := "eventIndex", desc := "(II)I" } : Jvm.MethodName) prog_3_method_6_code (5 : Nat) (Option.some Jvm.ClassFile.FieldType.int)) ∈ tblG := tg_r (i := 394) (by decide +kernel) (by decide +kernel)
theorem tw_395 : (Jvm.Cond.methodLink "SafetyTrees$Cuts" (45 : Nat) ({ cls := "SafetyTrees$Nodes", name := "eventBit", desc := "(I)I" } : Jvm.MethodName)) ∈ tblG := tg_r (i := 395) (by decide +kernel) (by decide +kernel)
theorem tw_396 : (Jvm.Cond.methodLink "SafetyTreesLaw" (44 : Nat) ({ cls := "SafetyTrees", name := "chance", desc := "(II)J" } : Jvm.MethodName)) ∈ tblG := tg_r (i := 396) (by decide +kernel) (by decide +kernel)
theorem tw_397 : (Jvm.Cond.instanceMethod ({ cls := "SafetyTrees", name := "chance", desc := "(II)J" } : Jvm.MethodName)) ∈ tblG := tg_r (i := 397) (by decide +kernel) (by decide +kernel)
theorem tw_398 : (Jvm.Cond.selects "SafetyTrees" ({ cls := "SafetyTrees", name := "chance", desc := "(II)J" } : Jvm.MethodName) ({ cls := "SafetyTrees", name := "chance", desc := "(II)J" } : Jvm.MethodName)) ∈ tblG := tg_r (i := 398) (by decide +kernel) (by decide +kernel)
theorem tw_399 : (Jvm.Cond.code ({ cls := "SafetyTrees", name := "chance", desc := "(II)J" } : Jvm.MethodName) prog_1_method_7_code (3 : Nat) (Option.some Jvm.ClassFile.FieldType.long)) ∈ tblG := tg_r (i := 399) (by decide +kernel) (by decide +kernel)
theorem tw_400 : (Jvm.Cond.constantLong "SafetyTrees" (133 : Nat) (-1 : Int64)) ∈ tblG := tg_r (i := 400) (by decide +kernel) (by decide +kernel)
theorem tw_401 : (Jvm.Cond.methodLink "SafetyTrees" (135 : Nat) ({ cls := "SafetyTrees$Odds", name := "work", desc := "(I)V" } : Jvm.MethodName)) ∈ tblG := tg_r (i := 401) (by decide +kernel) (by decide +kernel)
theorem tw_402 : (Jvm.Cond.instanceMethod ({ cls := "SafetyTrees$Odds", name := "work", desc := "(I)V" } : Jvm.MethodName)) ∈ tblG := tg_r (i := 402) (by decide +kernel) (by decide +kernel)
theorem tw_403 : (Jvm.Cond.selects "SafetyTrees$Odds" ({ cls := "SafetyTrees$Odds", name := "work", desc := "(I)V" } : Jvm.MethodName) ({ cls := "SafetyTrees$Odds", name := "work", desc := "(I)V" } : Jvm.MethodName)) ∈ tblG := tg_r (i := 403) (by decide +kernel) (by decide +kernel)
theorem tw_404 : (Jvm.Cond.code ({ cls := "SafetyTrees$Odds", name := "work", desc := "(I)V" } : Jvm.MethodName) prog_7_method_2_code (3 : Nat) (Option.none : Option Jvm.ClassFile.FieldType)) ∈ tblG := tg_r (i := 404) (by decide +kernel) (by decide +kernel)
theorem tw_405 : (Jvm.Cond.methodLink "SafetyTrees$Odds" (47 : Nat) ({ cls := "java/lang/Integer", name := "bitCount", desc := "(I)I" } : Jvm.MethodName)) ∈ tblG := tg_r (i := 405) (by decide +kernel) (by decide +kernel)
theorem tw_406 : (Jvm.Cond.methodLink "SafetyTrees$Odds" (53 : Nat) ({ cls := "SafetyTrees$Causes", name := "countTouching", desc := "(I)I" } : Jvm.MethodName)) ∈ tblG := tg_r (i := 406) (by decide +kernel) (by decide +kernel)
theorem tw_407 : (Jvm.Cond.instanceMethod ({ cls := "SafetyTrees$Causes", name := "countTouching", desc := "(I)I" } : Jvm.MethodName)) ∈ tblG := tg_r (i := 407) (by decide +kernel) (by decide +kernel)
theorem tw_408 : (Jvm.Cond.selects "SafetyTrees$Causes" ({ cls := "SafetyTrees$Causes", name := "countTouching", desc := "(I)I" } : Jvm.MethodName) ({ cls := "SafetyTrees$Causes", name := "countTouching", desc := "(I)I" } : Jvm.MethodName)) ∈ tblG := tg_r (i := 408) (by decide +kernel) (by decide +kernel)
theorem tw_409 : (Jvm.Cond.code ({ cls := "SafetyTrees$Causes", name := "countTouching", desc := "(I)I" } : Jvm.MethodName) prog_2_method_4_code (4 : Nat) (Option.some Jvm.ClassFile.FieldType.int)) ∈ tblG := tg_r (i := 409) (by decide +kernel) (by decide +kernel)
theorem tw_410 : (Jvm.Cond.methodLink "SafetyTrees$Causes" (26 : Nat) ({ cls := "SafetyTrees$Causes", name := "touches", desc := "(II)Z" } : Jvm.MethodName)) ∈ tblG := tg_r (i := 410) (by decide +kernel) (by decide +kernel)
theorem tw_411 : (Jvm.Cond.instanceMethod ({ cls := "SafetyTrees$Causes", name := "touches", desc := "(II)Z" } : Jvm.MethodName)) ∈ tblG := tg_r (i := 411) (by decide +kernel) (by decide +kernel)
theorem tw_412 : (Jvm.Cond.selects "SafetyTrees$Causes" ({ cls := "SafetyTrees$Causes", name := "touches", desc := "(II)Z" } : Jvm.MethodName) ({ cls := "SafetyTrees$Causes", name := "touches", desc := "(II)Z" } : Jvm.MethodName)) ∈ tblG := tg_r (i := 412) (by decide +kernel) (by decide +kernel)
theorem tw_413 : (Jvm.Cond.code ({ cls := "SafetyTrees$Causes", name := "touches", desc := "(II)Z" } : Jvm.MethodName) prog_2_method_3_code (3 : Nat) (Option.some Jvm.ClassFile.FieldType.boolean)) ∈ tblG := tg_r (i := 413) (by decide +kernel) (by decide +kernel)
theorem tw_414 : (Jvm.Cond.methodLink "SafetyTrees$Odds" (58 : Nat) ({ cls := "SafetyTrees$Odds", name := "workExactly", desc := "(II)V" } : Jvm.MethodName)) ∈ tblG := tg_r (i := 414) (by decide +kernel) (by decide +kernel)
theorem tw_416 : (Jvm.Cond.instanceMethod ({ cls := "SafetyTrees$Odds", name := "workExactly", desc := "(II)V" } : Jvm.MethodName)) ∈ tblG := tg_r (i := 416) (by decide +kernel) (by decide +kernel)
theorem tw_417 : (Jvm.Cond.code ({ cls := "SafetyTrees$Odds", name := "workExactly", desc := "(II)V" } : Jvm.MethodName) prog_7_method_3_code (9 : Nat) (Option.none : Option Jvm.ClassFile.FieldType)) ∈ tblG := tg_r (i := 417) (by decide +kernel) (by decide +kernel)
theorem tw_418 : (Jvm.Cond.methodLink "SafetyTrees$Odds" (66 : Nat) ({ cls := "SafetyTrees$Truth", name := "fillGates", desc := "(I)V" } : Jvm.MethodName)) ∈ tblG := tg_r (i := 418) (by decide +kernel) (by decide +kernel)
theorem tw_419 : (Jvm.Cond.methodLink "SafetyTrees$Odds" (71 : Nat) ({ cls := "SafetyTrees$Odds", name := "weighSets", desc := "(II)V" } : Jvm.MethodName)) ∈ tblG := tg_r (i := 419) (by decide +kernel) (by decide +kernel)
theorem tw_421 : (Jvm.Cond.instanceMethod ({ cls := "SafetyTrees$Odds", name := "weighSets", desc := "(II)V" } : Jvm.MethodName)) ∈ tblG := tg_r (i := 421) (by decide +kernel) (by decide +kernel)
theorem tw_422 : (Jvm.Cond.code ({ cls := "SafetyTrees$Odds", name := "weighSets", desc := "(II)V" } : Jvm.MethodName) prog_7_method_4_code (6 : Nat) (Option.none : Option Jvm.ClassFile.FieldType)) ∈ tblG := tg_r (i := 422) (by decide +kernel) (by decide +kernel)
theorem tw_423 : (Jvm.Cond.methodLinkNest "SafetyTrees$Odds" (107 : Nat) ({ cls := "SafetyTrees", name := "countOfSets", desc := "(I)I" } : Jvm.MethodName) "SafetyTrees") ∈ tblN := tn_r (i := 423) (by decide +kernel) (by decide +kernel)
theorem tw_424 : (Jvm.Cond.methodLink "SafetyTrees$Odds" (110 : Nat) ({ cls := "SafetyTrees$Truth", name := "isTrue", desc := "(II)Z" } : Jvm.MethodName)) ∈ tblG := tg_r (i := 424) (by decide +kernel) (by decide +kernel)
theorem tw_425 : (Jvm.Cond.methodLinkNest "SafetyTrees$Odds" (113 : Nat) ({ cls := "SafetyTrees", name := "nextSet", desc := "(II)I" } : Jvm.MethodName) "SafetyTrees") ∈ tblN := tn_r (i := 425) (by decide +kernel) (by decide +kernel)
theorem tw_426 : (Jvm.Cond.static ({ cls := "SafetyTrees", name := "nextSet", desc := "(II)I" } : Jvm.MethodName)) ∈ tblG := tg_r (i := 426) (by decide +kernel) (by decide +kernel)
theorem tw_427 : (Jvm.Cond.code ({ cls := "SafetyTrees", name := "nextSet", desc := "(II)I" } : Jvm.MethodName) prog_1_method_20_code (2 : Nat) (Option.some Jvm.ClassFile.FieldType.int)) ∈ tblG := tg_r (i := 427) (by decide +kernel) (by decide +kernel)
theorem tw_428 : (Jvm.Cond.methodLink "SafetyTrees$Odds" (78 : Nat) ({ cls := "SafetyTrees$Causes", name := "touches", desc := "(II)Z" } : Jvm.MethodName)) ∈ tblG := tg_r (i := 428) (by decide +kernel) (by decide +kernel)
theorem tw_429 : (Jvm.Cond.methodLink "SafetyTrees$Odds" (91 : Nat) ({ cls := "SafetyTrees$Odds", name := "mix", desc := "(IIJJ)V" } : Jvm.MethodName)) ∈ tblG := tg_r (i := 429) (by decide +kernel) (by decide +kernel)
theorem tw_431 : (Jvm.Cond.instanceMethod ({ cls := "SafetyTrees$Odds", name := "mix", desc := "(IIJJ)V" } : Jvm.MethodName)) ∈ tblG := tg_r (i := 431) (by decide +kernel) (by decide +kernel)
theorem tw_432 : (Jvm.Cond.code ({ cls := "SafetyTrees$Odds", name := "mix", desc := "(IIJJ)V" } : Jvm.MethodName) prog_7_method_5_code (10 : Nat) (Option.none : Option Jvm.ClassFile.FieldType)) ∈ tblG := tg_r (i := 432) (by decide +kernel) (by decide +kernel)
theorem tw_433 : (Jvm.Cond.methodLink "SafetyTrees$Odds" (103 : Nat) ({ cls := "SafetyTrees$Fraction", name := "set", desc := "(JJ)V" } : Jvm.MethodName)) ∈ tblG := tg_r (i := 433) (by decide +kernel) (by decide +kernel)
theorem tw_434 : (Jvm.Cond.instanceMethod ({ cls := "SafetyTrees$Fraction", name := "set", desc := "(JJ)V" } : Jvm.MethodName)) ∈ tblG := tg_r (i := 434) (by decide +kernel) (by decide +kernel)
theorem tw_435 : (Jvm.Cond.selects "SafetyTrees$Fraction" ({ cls := "SafetyTrees$Fraction", name := "set", desc := "(JJ)V" } : Jvm.MethodName) ({ cls := "SafetyTrees$Fraction", name := "set", desc := "(JJ)V" } : Jvm.MethodName)) ∈ tblG := tg_r (i := 435) (by decide +kernel) (by decide +kernel)
theorem tw_436 : (Jvm.Cond.code ({ cls := "SafetyTrees$Fraction", name := "set", desc := "(JJ)V" } : Jvm.MethodName) prog_4_method_2_code (7 : Nat) (Option.none : Option Jvm.ClassFile.FieldType)) ∈ tblG := tg_r (i := 436) (by decide +kernel) (by decide +kernel)
theorem tw_437 : (Jvm.Cond.methodLink "SafetyTrees$Fraction" (16 : Nat) ({ cls := "SafetyTrees$Fraction", name := "commonDivisor", desc := "(JJ)J" } : Jvm.MethodName)) ∈ tblG := tg_r (i := 437) (by decide +kernel) (by decide +kernel)
theorem tw_438 : (Jvm.Cond.static ({ cls := "SafetyTrees$Fraction", name := "commonDivisor", desc := "(JJ)J" } : Jvm.MethodName)) ∈ tblG := tg_r (i := 438) (by decide +kernel) (by decide +kernel)
theorem tw_439 : (Jvm.Cond.code ({ cls := "SafetyTrees$Fraction", name := "commonDivisor", desc := "(JJ)J" } : Jvm.MethodName) prog_4_method_4_code (11 : Nat) (Option.some Jvm.ClassFile.FieldType.long)) ∈ tblG := tg_r (i := 439) (by decide +kernel) (by decide +kernel)
end
section
theorem tw_440 : (Jvm.Cond.methodLink "SafetyTrees$Odds" (62 : Nat) ({ cls := "SafetyTrees$Odds", name := "workBound", desc := "(I)V" } : Jvm.MethodName)) ∈ tblG := tg_r (i := 440) (by decide +kernel) (by decide +kernel)
theorem tw_442 : (Jvm.Cond.instanceMethod ({ cls := "SafetyTrees$Odds", name := "workBound", desc := "(I)V" } : Jvm.MethodName)) ∈ tblG := tg_r (i := 442) (by decide +kernel) (by decide +kernel)
theorem tw_443 : (Jvm.Cond.code ({ cls := "SafetyTrees$Odds", name := "workBound", desc := "(I)V" } : Jvm.MethodName) prog_7_method_6_code (4 : Nat) (Option.none : Option Jvm.ClassFile.FieldType)) ∈ tblG := tg_r (i := 443) (by decide +kernel) (by decide +kernel)
theorem tw_444 : (Jvm.Cond.methodLink "SafetyTrees$Odds" (117 : Nat) ({ cls := "SafetyTrees$Odds", name := "eventBound", desc := "(I)J" } : Jvm.MethodName)) ∈ tblG := tg_r (i := 444) (by decide +kernel) (by decide +kernel)
theorem tw_446 : (Jvm.Cond.instanceMethod ({ cls := "SafetyTrees$Odds", name := "eventBound", desc := "(I)J" } : Jvm.MethodName)) ∈ tblG := tg_r (i := 446) (by decide +kernel) (by decide +kernel)
theorem tw_447 : (Jvm.Cond.code ({ cls := "SafetyTrees$Odds", name := "eventBound", desc := "(I)J" } : Jvm.MethodName) prog_7_method_7_code (5 : Nat) (Option.some Jvm.ClassFile.FieldType.long)) ∈ tblG := tg_r (i := 447) (by decide +kernel) (by decide +kernel)
theorem tw_448 : (Jvm.Cond.methodLink "SafetyTrees$Odds" (132 : Nat) ({ cls := "SafetyTrees$Odds", name := "inParts", desc := "(JJ)J" } : Jvm.MethodName)) ∈ tblG := tg_r (i := 448) (by decide +kernel) (by decide +kernel)
theorem tw_449 : (Jvm.Cond.static ({ cls := "SafetyTrees$Odds", name := "inParts", desc := "(JJ)J" } : Jvm.MethodName)) ∈ tblG := tg_r (i := 449) (by decide +kernel) (by decide +kernel)
theorem tw_450 : (Jvm.Cond.code ({ cls := "SafetyTrees$Odds", name := "inParts", desc := "(JJ)J" } : Jvm.MethodName) prog_7_method_8_code (4 : Nat) (Option.some Jvm.ClassFile.FieldType.long)) ∈ tblG := tg_r (i := 450) (by decide +kernel) (by decide +kernel)
theorem tw_451 : (Jvm.Cond.constantLong "SafetyTrees$Odds" (130 : Nat) (2520 : Int64)) ∈ tblG := tg_r (i := 451) (by decide +kernel) (by decide +kernel)
theorem tw_452 : (Jvm.Cond.methodLink "SafetyTrees$Odds" (136 : Nat) ({ cls := "java/lang/Math", name := "min", desc := "(JJ)J" } : Jvm.MethodName)) ∈ tblG := tg_r (i := 452) (by decide +kernel) (by decide +kernel)
theorem tw_453 : (Jvm.Cond.static ({ cls := "java/lang/Math", name := "min", desc := "(JJ)J" } : Jvm.MethodName)) ∈ tblG := tg_r (i := 453) (by decide +kernel) (by decide +kernel)
theorem tw_454 : (Jvm.Cond.code ({ cls := "java/lang/Math", name := "min", desc := "(JJ)J" } : Jvm.MethodName) prog_15_method_70_code (4 : Nat) (Option.some Jvm.ClassFile.FieldType.long)) ∈ tblG := tg_r (i := 454) (by decide +kernel) (by decide +kernel)
theorem tw_455 : (Jvm.Cond.methodLink "SafetyTrees$Odds" (121 : Nat) ({ cls := "SafetyTrees$Nodes", name := "lineUp", desc := "(I)I" } : Jvm.MethodName)) ∈ tblG := tg_r (i := 455) (by decide +kernel) (by decide +kernel)
theorem tw_456 : (Jvm.Cond.methodLink "SafetyTrees$Odds" (127 : Nat) ({ cls := "SafetyTrees$Odds", name := "gateBound", desc := "(I)J" } : Jvm.MethodName)) ∈ tblG := tg_r (i := 456) (by decide +kernel) (by decide +kernel)
theorem tw_458 : (Jvm.Cond.instanceMethod ({ cls := "SafetyTrees$Odds", name := "gateBound", desc := "(I)J" } : Jvm.MethodName)) ∈ tblG := tg_r (i := 458) (by decide +kernel) (by decide +kernel)
theorem tw_459 : (Jvm.Cond.code ({ cls := "SafetyTrees$Odds", name := "gateBound", desc := "(I)J" } : Jvm.MethodName) prog_7_method_9_code (9 : Nat) (Option.some Jvm.ClassFile.FieldType.long)) ∈ tblG := tg_r (i := 459) (by decide +kernel) (by decide +kernel)
theorem tw_460 : (Jvm.Cond.methodLink "SafetyTrees" (141 : Nat) ({ cls := "SafetyTrees$Fraction", name := "side", desc := "(I)J" } : Jvm.MethodName)) ∈ tblG := tg_r (i := 460) (by decide +kernel) (by decide +kernel)
theorem tw_461 : (Jvm.Cond.instanceMethod ({ cls := "SafetyTrees$Fraction", name := "side", desc := "(I)J" } : Jvm.MethodName)) ∈ tblG := tg_r (i := 461) (by decide +kernel) (by decide +kernel)
theorem tw_462 : (Jvm.Cond.selects "SafetyTrees$Fraction" ({ cls := "SafetyTrees$Fraction", name := "side", desc := "(I)J" } : Jvm.MethodName) ({ cls := "SafetyTrees$Fraction", name := "side", desc := "(I)J" } : Jvm.MethodName)) ∈ tblG := tg_r (i := 462) (by decide +kernel) (by decide +kernel)
theorem tw_463 : (Jvm.Cond.code ({ cls := "SafetyTrees$Fraction", name := "side", desc := "(I)J" } : Jvm.MethodName) prog_4_method_3_code (2 : Nat) (Option.some Jvm.ClassFile.FieldType.long)) ∈ tblG := tg_r (i := 463) (by decide +kernel) (by decide +kernel)
theorem tw_464 : (Jvm.Cond.methodLink "SafetyTreesLaw" (48 : Nat) ({ cls := "SafetyTrees", name := "exact", desc := "()Z" } : Jvm.MethodName)) ∈ tblG := tg_r (i := 464) (by decide +kernel) (by decide +kernel)
theorem tw_465 : (Jvm.Cond.instanceMethod ({ cls := "SafetyTrees", name := "exact", desc := "()Z" } : Jvm.MethodName)) ∈ tblG := tg_r (i := 465) (by decide +kernel) (by decide +kernel)
theorem tw_466 : (Jvm.Cond.selects "SafetyTrees" ({ cls := "SafetyTrees", name := "exact", desc := "()Z" } : Jvm.MethodName) ({ cls := "SafetyTrees", name := "exact", desc := "()Z" } : Jvm.MethodName)) ∈ tblG := tg_r (i := 466) (by decide +kernel) (by decide +kernel)
theorem tw_467 : (Jvm.Cond.code ({ cls := "SafetyTrees", name := "exact", desc := "()Z" } : Jvm.MethodName) prog_1_method_8_code (1 : Nat) (Option.some Jvm.ClassFile.FieldType.boolean)) ∈ tblG := tg_r (i := 467) (by decide +kernel) (by decide +kernel)
theorem tw_468 : (Jvm.Cond.methodLink "SafetyTreesLaw" (53 : Nat) ({ cls := "SafetyTrees", name := "common", desc := "(IIJJ)I" } : Jvm.MethodName)) ∈ tblG := tg_r (i := 468) (by decide +kernel) (by decide +kernel)
theorem tw_469 : (Jvm.Cond.instanceMethod ({ cls := "SafetyTrees", name := "common", desc := "(IIJJ)I" } : Jvm.MethodName)) ∈ tblG := tg_r (i := 469) (by decide +kernel) (by decide +kernel)
theorem tw_470 : (Jvm.Cond.selects "SafetyTrees" ({ cls := "SafetyTrees", name := "common", desc := "(IIJJ)I" } : Jvm.MethodName) ({ cls := "SafetyTrees", name := "common", desc := "(IIJJ)I" } : Jvm.MethodName)) ∈ tblG := tg_r (i := 470) (by decide +kernel) (by decide +kernel)
theorem tw_471 : (Jvm.Cond.code ({ cls := "SafetyTrees", name := "common", desc := "(IIJJ)I" } : Jvm.MethodName) prog_1_method_9_code (7 : Nat) (Option.some Jvm.ClassFile.FieldType.int)) ∈ tblG := tg_r (i := 471) (by decide +kernel) (by decide +kernel)
theorem tw_472 : (Jvm.Cond.methodLink "SafetyTrees" (149 : Nat) ({ cls := "SafetyTrees$Nodes", name := "isEvent", desc := "(I)Z" } : Jvm.MethodName)) ∈ tblG := tg_r (i := 472) (by decide +kernel) (by decide +kernel)
theorem tw_473 : (Jvm.Cond.instanceMethod ({ cls := "SafetyTrees$Nodes", name := "isEvent", desc := "(I)Z" } : Jvm.MethodName)) ∈ tblG := tg_r (i := 473) (by decide +kernel) (by decide +kernel)
theorem tw_474 : (Jvm.Cond.selects "SafetyTrees$Nodes" ({ cls := "SafetyTrees$Nodes", name := "isEvent", desc := "(I)Z" } : Jvm.MethodName) ({ cls := "SafetyTrees$Nodes", name := "isEvent", desc := "(I)Z" } : Jvm.MethodName)) ∈ tblG := tg_r (i := 474) (by decide +kernel) (by decide +kernel)
theorem tw_475 : (Jvm.Cond.code ({ cls := "SafetyTrees$Nodes", name := "isEvent", desc := "(I)Z" } : Jvm.MethodName) prog_6_method_3_code (2 : Nat) (Option.some Jvm.ClassFile.FieldType.boolean)) ∈ tblG := tg_r (i := 475) (by decide +kernel) (by decide +kernel)
theorem tw_476 : (Jvm.Cond.methodLink "SafetyTrees" (155 : Nat) ({ cls := "SafetyTrees$Causes", name := "add", desc := "(IJJ)I" } : Jvm.MethodName)) ∈ tblG := tg_r (i := 476) (by decide +kernel) (by decide +kernel)
theorem tw_477 : (Jvm.Cond.instanceMethod ({ cls := "SafetyTrees$Causes", name := "add", desc := "(IJJ)I" } : Jvm.MethodName)) ∈ tblG := tg_r (i := 477) (by decide +kernel) (by decide +kernel)
theorem tw_478 : (Jvm.Cond.selects "SafetyTrees$Causes" ({ cls := "SafetyTrees$Causes", name := "add", desc := "(IJJ)I" } : Jvm.MethodName) ({ cls := "SafetyTrees$Causes", name := "add", desc := "(IJJ)I" } : Jvm.MethodName)) ∈ tblG := tg_r (i := 478) (by decide +kernel) (by decide +kernel)
theorem tw_479 : (Jvm.Cond.code ({ cls := "SafetyTrees$Causes", name := "add", desc := "(IJJ)I" } : Jvm.MethodName) prog_2_method_2_code (6 : Nat) (Option.some Jvm.ClassFile.FieldType.int)) ∈ tblG := tg_r (i := 479) (by decide +kernel) (by decide +kernel)
theorem tw_480 : (Jvm.Cond.methodLink "SafetyTreesLaw" (58 : Nat) ({ cls := "SafetyTrees", name := "grade", desc := "(III)I" } : Jvm.MethodName)) ∈ tblG := tg_r (i := 480) (by decide +kernel) (by decide +kernel)
theorem tw_481 : (Jvm.Cond.instanceMethod ({ cls := "SafetyTrees", name := "grade", desc := "(III)I" } : Jvm.MethodName)) ∈ tblG := tg_r (i := 481) (by decide +kernel) (by decide +kernel)
theorem tw_482 : (Jvm.Cond.selects "SafetyTrees" ({ cls := "SafetyTrees", name := "grade", desc := "(III)I" } : Jvm.MethodName) ({ cls := "SafetyTrees", name := "grade", desc := "(III)I" } : Jvm.MethodName)) ∈ tblG := tg_r (i := 482) (by decide +kernel) (by decide +kernel)
theorem tw_483 : (Jvm.Cond.code ({ cls := "SafetyTrees", name := "grade", desc := "(III)I" } : Jvm.MethodName) prog_1_method_10_code (5 : Nat) (Option.some Jvm.ClassFile.FieldType.int)) ∈ tblG := tg_r (i := 483) (by decide +kernel) (by decide +kernel)
theorem tw_484 : (Jvm.Cond.methodLink "SafetyTreesLaw" (63 : Nat) ({ cls := "SafetyTrees", name := "goal", desc := "(I)I" } : Jvm.MethodName)) ∈ tblG := tg_r (i := 484) (by decide +kernel) (by decide +kernel)
theorem tw_485 : (Jvm.Cond.instanceMethod ({ cls := "SafetyTrees", name := "goal", desc := "(I)I" } : Jvm.MethodName)) ∈ tblG := tg_r (i := 485) (by decide +kernel) (by decide +kernel)
theorem tw_486 : (Jvm.Cond.selects "SafetyTrees" ({ cls := "SafetyTrees", name := "goal", desc := "(I)I" } : Jvm.MethodName) ({ cls := "SafetyTrees", name := "goal", desc := "(I)I" } : Jvm.MethodName)) ∈ tblG := tg_r (i := 486) (by decide +kernel) (by decide +kernel)
theorem tw_487 : (Jvm.Cond.code ({ cls := "SafetyTrees", name := "goal", desc := "(I)I" } : Jvm.MethodName) prog_1_method_11_code (2 : Nat) (Option.some Jvm.ClassFile.FieldType.int)) ∈ tblG := tg_r (i := 487) (by decide +kernel) (by decide +kernel)
theorem tw_488 : (Jvm.Cond.methodLink "SafetyTrees" (164 : Nat) ({ cls := "SafetyTrees$Goals", name := "add", desc := "(I)I" } : Jvm.MethodName)) ∈ tblG := tg_r (i := 488) (by decide +kernel) (by decide +kernel)
theorem tw_489 : (Jvm.Cond.instanceMethod ({ cls := "SafetyTrees$Goals", name := "add", desc := "(I)I" } : Jvm.MethodName)) ∈ tblG := tg_r (i := 489) (by decide +kernel) (by decide +kernel)
theorem tw_490 : (Jvm.Cond.selects "SafetyTrees$Goals" ({ cls := "SafetyTrees$Goals", name := "add", desc := "(I)I" } : Jvm.MethodName) ({ cls := "SafetyTrees$Goals", name := "add", desc := "(I)I" } : Jvm.MethodName)) ∈ tblG := tg_r (i := 490) (by decide +kernel) (by decide +kernel)
theorem tw_491 : (Jvm.Cond.code ({ cls := "SafetyTrees$Goals", name := "add", desc := "(I)I" } : Jvm.MethodName) prog_5_method_2_code (2 : Nat) (Option.some Jvm.ClassFile.FieldType.int)) ∈ tblG := tg_r (i := 491) (by decide +kernel) (by decide +kernel)
theorem tw_492 : (Jvm.Cond.methodLink "SafetyTreesLaw" (68 : Nat) ({ cls := "SafetyTrees", name := "trace", desc := "(III)I" } : Jvm.MethodName)) ∈ tblG := tg_r (i := 492) (by decide +kernel) (by decide +kernel)
theorem tw_493 : (Jvm.Cond.instanceMethod ({ cls := "SafetyTrees", name := "trace", desc := "(III)I" } : Jvm.MethodName)) ∈ tblG := tg_r (i := 493) (by decide +kernel) (by decide +kernel)
theorem tw_494 : (Jvm.Cond.selects "SafetyTrees" ({ cls := "SafetyTrees", name := "trace", desc := "(III)I" } : Jvm.MethodName) ({ cls := "SafetyTrees", name := "trace", desc := "(III)I" } : Jvm.MethodName)) ∈ tblG := tg_r (i := 494) (by decide +kernel) (by decide +kernel)
theorem tw_495 : (Jvm.Cond.code ({ cls := "SafetyTrees", name := "trace", desc := "(III)I" } : Jvm.MethodName) prog_1_method_12_code (4 : Nat) (Option.some Jvm.ClassFile.FieldType.int)) ∈ tblG := tg_r (i := 495) (by decide +kernel) (by decide +kernel)
theorem tw_496 : (Jvm.Cond.methodLink "SafetyTrees" (166 : Nat) ({ cls := "SafetyTrees$Goals", name := "hasRow", desc := "(III)Z" } : Jvm.MethodName)) ∈ tblG := tg_r (i := 496) (by decide +kernel) (by decide +kernel)
theorem tw_497 : (Jvm.Cond.instanceMethod ({ cls := "SafetyTrees$Goals", name := "hasRow", desc := "(III)Z" } : Jvm.MethodName)) ∈ tblG := tg_r (i := 497) (by decide +kernel) (by decide +kernel)
theorem tw_498 : (Jvm.Cond.selects "SafetyTrees$Goals" ({ cls := "SafetyTrees$Goals", name := "hasRow", desc := "(III)Z" } : Jvm.MethodName) ({ cls := "SafetyTrees$Goals", name := "hasRow", desc := "(III)Z" } : Jvm.MethodName)) ∈ tblG := tg_r (i := 498) (by decide +kernel) (by decide +kernel)
theorem tw_499 : (Jvm.Cond.code ({ cls := "SafetyTrees$Goals", name := "hasRow", desc := "(III)Z" } : Jvm.MethodName) prog_5_method_4_code (5 : Nat) (Option.some Jvm.ClassFile.FieldType.boolean)) ∈ tblG := tg_r (i := 499) (by decide +kernel) (by decide +kernel)
theorem tw_500 : (Jvm.Cond.methodLink "SafetyTrees" (172 : Nat) ({ cls := "SafetyTrees$Goals", name := "addRow", desc := "(III)I" } : Jvm.MethodName)) ∈ tblG := tg_r (i := 500) (by decide +kernel) (by decide +kernel)
theorem tw_501 : (Jvm.Cond.instanceMethod ({ cls := "SafetyTrees$Goals", name := "addRow", desc := "(III)I" } : Jvm.MethodName)) ∈ tblG := tg_r (i := 501) (by decide +kernel) (by decide +kernel)
theorem tw_502 : (Jvm.Cond.selects "SafetyTrees$Goals" ({ cls := "SafetyTrees$Goals", name := "addRow", desc := "(III)I" } : Jvm.MethodName) ({ cls := "SafetyTrees$Goals", name := "addRow", desc := "(III)I" } : Jvm.MethodName)) ∈ tblG := tg_r (i := 502) (by decide +kernel) (by decide +kernel)
theorem tw_503 : (Jvm.Cond.code ({ cls := "SafetyTrees$Goals", name := "addRow", desc := "(III)I" } : Jvm.MethodName) prog_5_method_3_code (4 : Nat) (Option.some Jvm.ClassFile.FieldType.int)) ∈ tblG := tg_r (i := 503) (by decide +kernel) (by decide +kernel)
theorem tw_504 : (Jvm.Cond.methodLink "SafetyTreesLaw" (72 : Nat) ({ cls := "SafetyTrees", name := "open", desc := "(I)I" } : Jvm.MethodName)) ∈ tblG := tg_r (i := 504) (by decide +kernel) (by decide +kernel)
theorem tw_505 : (Jvm.Cond.instanceMethod ({ cls := "SafetyTrees", name := "open", desc := "(I)I" } : Jvm.MethodName)) ∈ tblG := tg_r (i := 505) (by decide +kernel) (by decide +kernel)
theorem tw_506 : (Jvm.Cond.selects "SafetyTrees" ({ cls := "SafetyTrees", name := "open", desc := "(I)I" } : Jvm.MethodName) ({ cls := "SafetyTrees", name := "open", desc := "(I)I" } : Jvm.MethodName)) ∈ tblG := tg_r (i := 506) (by decide +kernel) (by decide +kernel)
theorem tw_507 : (Jvm.Cond.code ({ cls := "SafetyTrees", name := "open", desc := "(I)I" } : Jvm.MethodName) prog_1_method_13_code (2 : Nat) (Option.some Jvm.ClassFile.FieldType.int)) ∈ tblG := tg_r (i := 507) (by decide +kernel) (by decide +kernel)
theorem tw_508 : (Jvm.Cond.methodLink "SafetyTrees" (176 : Nat) ({ cls := "SafetyTrees$Goals", name := "findOpen", desc := "(I)I" } : Jvm.MethodName)) ∈ tblG := tg_r (i := 508) (by decide +kernel) (by decide +kernel)
theorem tw_509 : (Jvm.Cond.instanceMethod ({ cls := "SafetyTrees$Goals", name := "findOpen", desc := "(I)I" } : Jvm.MethodName)) ∈ tblG := tg_r (i := 509) (by decide +kernel) (by decide +kernel)
theorem tw_510 : (Jvm.Cond.selects "SafetyTrees$Goals" ({ cls := "SafetyTrees$Goals", name := "findOpen", desc := "(I)I" } : Jvm.MethodName) ({ cls := "SafetyTrees$Goals", name := "findOpen", desc := "(I)I" } : Jvm.MethodName)) ∈ tblG := tg_r (i := 510) (by decide +kernel) (by decide +kernel)
theorem tw_511 : (Jvm.Cond.code ({ cls := "SafetyTrees$Goals", name := "findOpen", desc := "(I)I" } : Jvm.MethodName) prog_5_method_7_code (4 : Nat) (Option.some Jvm.ClassFile.FieldType.int)) ∈ tblG := tg_r (i := 511) (by decide +kernel) (by decide +kernel)
theorem tw_512 : (Jvm.Cond.methodLink "SafetyTrees$Goals" (31 : Nat) ({ cls := "SafetyTrees$Goals", name := "isGoalOpen", desc := "(I)Z" } : Jvm.MethodName)) ∈ tblG := tg_r (i := 512) (by decide +kernel) (by decide +kernel)
theorem tw_514 : (Jvm.Cond.instanceMethod ({ cls := "SafetyTrees$Goals", name := "isGoalOpen", desc := "(I)Z" } : Jvm.MethodName)) ∈ tblG := tg_r (i := 514) (by decide +kernel) (by decide +kernel)
theorem tw_515 : (Jvm.Cond.code ({ cls := "SafetyTrees$Goals", name := "isGoalOpen", desc := "(I)Z" } : Jvm.MethodName) prog_5_method_8_code (3 : Nat) (Option.some Jvm.ClassFile.FieldType.boolean)) ∈ tblG := tg_r (i := 515) (by decide +kernel) (by decide +kernel)
theorem tw_516 : (Jvm.Cond.methodLink "SafetyTrees$Goals" (35 : Nat) ({ cls := "SafetyTrees$Goals", name := "isPartOpen", desc := "(I)Z" } : Jvm.MethodName)) ∈ tblG := tg_r (i := 516) (by decide +kernel) (by decide +kernel)
theorem tw_518 : (Jvm.Cond.instanceMethod ({ cls := "SafetyTrees$Goals", name := "isPartOpen", desc := "(I)Z" } : Jvm.MethodName)) ∈ tblG := tg_r (i := 518) (by decide +kernel) (by decide +kernel)
theorem tw_519 : (Jvm.Cond.code ({ cls := "SafetyTrees$Goals", name := "isPartOpen", desc := "(I)Z" } : Jvm.MethodName) prog_5_method_9_code (2 : Nat) (Option.some Jvm.ClassFile.FieldType.boolean)) ∈ tblG := tg_r (i := 519) (by decide +kernel) (by decide +kernel)
theorem tw_520 : (Jvm.Cond.methodLink "SafetyTrees$Goals" (38 : Nat) ({ cls := "SafetyTrees$Goals", name := "rowsOfPart", desc := "(I)I" } : Jvm.MethodName)) ∈ tblG := tg_r (i := 520) (by decide +kernel) (by decide +kernel)
theorem tw_521 : (Jvm.Cond.instanceMethod ({ cls := "SafetyTrees$Goals", name := "rowsOfPart", desc := "(I)I" } : Jvm.MethodName)) ∈ tblG := tg_r (i := 521) (by decide +kernel) (by decide +kernel)
theorem tw_522 : (Jvm.Cond.selects "SafetyTrees$Goals" ({ cls := "SafetyTrees$Goals", name := "rowsOfPart", desc := "(I)I" } : Jvm.MethodName) ({ cls := "SafetyTrees$Goals", name := "rowsOfPart", desc := "(I)I" } : Jvm.MethodName)) ∈ tblG := tg_r (i := 522) (by decide +kernel) (by decide +kernel)
theorem tw_523 : (Jvm.Cond.code ({ cls := "SafetyTrees$Goals", name := "rowsOfPart", desc := "(I)I" } : Jvm.MethodName) prog_5_method_5_code (4 : Nat) (Option.some Jvm.ClassFile.FieldType.int)) ∈ tblG := tg_r (i := 523) (by decide +kernel) (by decide +kernel)
theorem tw_524 : (Jvm.Cond.methodLink "SafetyTrees$Goals" (42 : Nat) ({ cls := "SafetyTrees$Goals", name := "testedRowsOfPart", desc := "(I)I" } : Jvm.MethodName)) ∈ tblG := tg_r (i := 524) (by decide +kernel) (by decide +kernel)
theorem tw_525 : (Jvm.Cond.instanceMethod ({ cls := "SafetyTrees$Goals", name := "testedRowsOfPart", desc := "(I)I" } : Jvm.MethodName)) ∈ tblG := tg_r (i := 525) (by decide +kernel) (by decide +kernel)
theorem tw_526 : (Jvm.Cond.selects "SafetyTrees$Goals" ({ cls := "SafetyTrees$Goals", name := "testedRowsOfPart", desc := "(I)I" } : Jvm.MethodName) ({ cls := "SafetyTrees$Goals", name := "testedRowsOfPart", desc := "(I)I" } : Jvm.MethodName)) ∈ tblG := tg_r (i := 526) (by decide +kernel) (by decide +kernel)
theorem tw_527 : (Jvm.Cond.code ({ cls := "SafetyTrees$Goals", name := "testedRowsOfPart", desc := "(I)I" } : Jvm.MethodName) prog_5_method_6_code (4 : Nat) (Option.some Jvm.ClassFile.FieldType.int)) ∈ tblG := tg_r (i := 527) (by decide +kernel) (by decide +kernel)
theorem tw_528 : (Jvm.Cond.methodLink "SafetyTreesLaw" (86 : Nat) ({ cls := "SafetyTrees", name := "plain", desc := "(I)I" } : Jvm.MethodName)) ∈ tblG := tg_r (i := 528) (by decide +kernel) (by decide +kernel)
theorem tw_529 : (Jvm.Cond.instanceMethod ({ cls := "SafetyTrees", name := "plain", desc := "(I)I" } : Jvm.MethodName)) ∈ tblG := tg_r (i := 529) (by decide +kernel) (by decide +kernel)
theorem tw_530 : (Jvm.Cond.selects "SafetyTrees" ({ cls := "SafetyTrees", name := "plain", desc := "(I)I" } : Jvm.MethodName) ({ cls := "SafetyTrees", name := "plain", desc := "(I)I" } : Jvm.MethodName)) ∈ tblG := tg_r (i := 530) (by decide +kernel) (by decide +kernel)
theorem tw_531 : (Jvm.Cond.code ({ cls := "SafetyTrees", name := "plain", desc := "(I)I" } : Jvm.MethodName) prog_1_method_15_code (2 : Nat) (Option.some Jvm.ClassFile.FieldType.int)) ∈ tblG := tg_r (i := 531) (by decide +kernel) (by decide +kernel)
theorem tw_532 : (Jvm.Cond.methodLink "SafetyTrees" (196 : Nat) ({ cls := "SafetyTrees$Truth", name := "countTrue", desc := "(II)I" } : Jvm.MethodName)) ∈ tblG := tg_r (i := 532) (by decide +kernel) (by decide +kernel)
theorem tw_533 : (Jvm.Cond.instanceMethod ({ cls := "SafetyTrees$Truth", name := "countTrue", desc := "(II)I" } : Jvm.MethodName)) ∈ tblG := tg_r (i := 533) (by decide +kernel) (by decide +kernel)
theorem tw_534 : (Jvm.Cond.selects "SafetyTrees$Truth" ({ cls := "SafetyTrees$Truth", name := "countTrue", desc := "(II)I" } : Jvm.MethodName) ({ cls := "SafetyTrees$Truth", name := "countTrue", desc := "(II)I" } : Jvm.MethodName)) ∈ tblG := tg_r (i := 534) (by decide +kernel) (by decide +kernel)
theorem tw_535 : (Jvm.Cond.code ({ cls := "SafetyTrees$Truth", name := "countTrue", desc := "(II)I" } : Jvm.MethodName) prog_8_method_12_code (7 : Nat) (Option.some Jvm.ClassFile.FieldType.int)) ∈ tblG := tg_r (i := 535) (by decide +kernel) (by decide +kernel)
theorem tw_536 : (Jvm.Cond.methodLinkNest "SafetyTrees$Truth" (76 : Nat) ({ cls := "SafetyTrees", name := "countOfSets", desc := "(I)I" } : Jvm.MethodName) "SafetyTrees") ∈ tblN := tn_r (i := 536) (by decide +kernel) (by decide +kernel)
theorem tw_537 : (Jvm.Cond.methodLinkNest "SafetyTrees$Truth" (83 : Nat) ({ cls := "SafetyTrees", name := "nextSet", desc := "(II)I" } : Jvm.MethodName) "SafetyTrees") ∈ tblN := tn_r (i := 537) (by decide +kernel) (by decide +kernel)
theorem tw_538 : (Jvm.Cond.methodLink "SafetyTreesLaw" (76 : Nat) ({ cls := "SafetyTreesLaw", name := "cover", desc := "(LSafetyTrees;II[J)I" } : Jvm.MethodName)) ∈ tblG := tg_r (i := 538) (by decide +kernel) (by decide +kernel)
theorem tw_539 : (Jvm.Cond.static ({ cls := "SafetyTreesLaw", name := "cover", desc := "(LSafetyTrees;II[J)I" } : Jvm.MethodName)) ∈ tblG := tg_r (i := 539) (by decide +kernel) (by decide +kernel)
theorem tw_541 : (Jvm.Cond.classLink "SafetyTreesLaw" (13 : Nat) "java/lang/ArithmeticException") ∈ tblG := tg_r (i := 541) (by decide +kernel) (by decide +kernel)
theorem tw_542 : (Jvm.Cond.methodLink "SafetyTreesLaw" (7 : Nat) ({ cls := "SafetyTrees", name := "cover", desc := "(II)J" } : Jvm.MethodName)) ∈ tblG := tg_r (i := 542) (by decide +kernel) (by decide +kernel)
theorem tw_543 : (Jvm.Cond.instanceMethod ({ cls := "SafetyTrees", name := "cover", desc := "(II)J" } : Jvm.MethodName)) ∈ tblG := tg_r (i := 543) (by decide +kernel) (by decide +kernel)
theorem tw_544 : (Jvm.Cond.selects "SafetyTrees" ({ cls := "SafetyTrees", name := "cover", desc := "(II)J" } : Jvm.MethodName) ({ cls := "SafetyTrees", name := "cover", desc := "(II)J" } : Jvm.MethodName)) ∈ tblG := tg_r (i := 544) (by decide +kernel) (by decide +kernel)
theorem tw_545 : (Jvm.Cond.code ({ cls := "SafetyTrees", name := "cover", desc := "(II)J" } : Jvm.MethodName) prog_1_method_14_code (4 : Nat) (Option.some Jvm.ClassFile.FieldType.long)) ∈ tblG := tg_r (i := 545) (by decide +kernel) (by decide +kernel)
theorem tw_546 : (Jvm.Cond.methodLink "SafetyTrees" (179 : Nat) ({ cls := "SafetyTrees$Goals", name := "rowsOfPart", desc := "(I)I" } : Jvm.MethodName)) ∈ tblG := tg_r (i := 546) (by decide +kernel) (by decide +kernel)
theorem tw_547 : (Jvm.Cond.classLink "SafetyTrees" (182 : Nat) "java/lang/ArithmeticException") ∈ tblG := tg_r (i := 547) (by decide +kernel) (by decide +kernel)
theorem tw_548 : (Jvm.Cond.instantiable "java/lang/ArithmeticException" (6 : Nat)) ∈ tblG := tg_r (i := 548) (by decide +kernel) (by decide +kernel)
theorem tw_556 : (Jvm.Cond.selects "java/lang/ArithmeticException" ({ cls := "java/lang/Throwable", name := "fillInStackTrace", desc := "(I)Ljava/lang/Throwable;" } : Jvm.MethodName) ({ cls := "java/lang/Throwable", name := "fillInStackTrace", desc := "(I)Ljava/lang/Throwable;" } : Jvm.MethodName)) ∈ tblG := tg_r (i := 556) (by decide +kernel) (by decide +kernel)
theorem tw_557 : (Jvm.Cond.selects "java/lang/ArithmeticException" ({ cls := "java/lang/Throwable", name := "fillInStackTrace", desc := "()Ljava/lang/Throwable;" } : Jvm.MethodName) ({ cls := "java/lang/Throwable", name := "fillInStackTrace", desc := "()Ljava/lang/Throwable;" } : Jvm.MethodName)) ∈ tblG := tg_r (i := 557) (by decide +kernel) (by decide +kernel)
theorem tw_558 : (Jvm.Cond.lays "java/lang/ArithmeticException" "java/lang/Throwable" "cause" "Ljava/lang/Throwable;") ∈ tblG := tg_r (i := 558) (by decide +kernel) (by decide +kernel)
theorem tw_559 : (Jvm.Cond.lays "java/lang/Throwable" "java/lang/Throwable" "cause" "Ljava/lang/Throwable;") ∈ tblG := tg_r (i := 559) (by decide +kernel) (by decide +kernel)
theorem tw_560 : (Jvm.Cond.lays "java/lang/ArithmeticException" "java/lang/Throwable" "stackTrace" "[Ljava/lang/StackTraceElement;") ∈ tblG := tg_r (i := 560) (by decide +kernel) (by decide +kernel)
theorem tw_561 : (Jvm.Cond.lays "java/lang/Throwable" "java/lang/Throwable" "stackTrace" "[Ljava/lang/StackTraceElement;") ∈ tblG := tg_r (i := 561) (by decide +kernel) (by decide +kernel)
theorem tw_562 : (Jvm.Cond.lays "java/lang/ArithmeticException" "java/lang/Throwable" "suppressedExceptions" "Ljava/util/List;") ∈ tblG := tg_r (i := 562) (by decide +kernel) (by decide +kernel)
theorem tw_563 : (Jvm.Cond.lays "java/lang/Throwable" "java/lang/Throwable" "suppressedExceptions" "Ljava/util/List;") ∈ tblG := tg_r (i := 563) (by decide +kernel) (by decide +kernel)
theorem tw_564 : (Jvm.Cond.lays "java/lang/ArithmeticException" "java/lang/Throwable" "detailMessage" "Ljava/lang/String;") ∈ tblG := tg_r (i := 564) (by decide +kernel) (by decide +kernel)
theorem tw_565 : (Jvm.Cond.lays "java/lang/Throwable" "java/lang/Throwable" "detailMessage" "Ljava/lang/String;") ∈ tblG := tg_r (i := 565) (by decide +kernel) (by decide +kernel)
theorem tw_566 : (Jvm.Cond.lays "java/lang/ArithmeticException" "java/lang/Throwable" "backtrace" "Ljava/lang/Object;") ∈ tblG := tg_r (i := 566) (by decide +kernel) (by decide +kernel)
theorem tw_567 : (Jvm.Cond.lays "java/lang/Throwable" "java/lang/Throwable" "backtrace" "Ljava/lang/Object;") ∈ tblG := tg_r (i := 567) (by decide +kernel) (by decide +kernel)
theorem tw_568 : (Jvm.Cond.fieldLink "java/lang/Throwable" (198 : Nat) "java/lang/Throwable" "backtrace" "Ljava/lang/Object;") ∈ tblG := tg_r (i := 568) (by decide +kernel) (by decide +kernel)
theorem tw_570 : (Jvm.Cond.instanceMethod ({ cls := "java/lang/Throwable", name := "<init>", desc := "()V" } : Jvm.MethodName)) ∈ tblG := tg_r (i := 570) (by decide +kernel) (by decide +kernel)
theorem tw_571 : (Jvm.Cond.code ({ cls := "java/lang/Throwable", name := "<init>", desc := "()V" } : Jvm.MethodName) prog_18_method_1_code (1 : Nat) (Option.none : Option Jvm.ClassFile.FieldType)) ∈ tblG := tg_r (i := 571) (by decide +kernel) (by decide +kernel)
theorem tw_572 : (Jvm.Cond.methodLink "java/lang/Throwable" (1 : Nat) ({ cls := "java/lang/Object", name := "<init>", desc := "()V" } : Jvm.MethodName)) ∈ tblG := tg_r (i := 572) (by decide +kernel) (by decide +kernel)
theorem tw_573 : (Jvm.Cond.fieldLink "java/lang/Throwable" (13 : Nat) "java/lang/Throwable" "UNASSIGNED_STACK" "[Ljava/lang/StackTraceElement;") ∈ tblG := tg_r (i := 573) (by decide +kernel) (by decide +kernel)
theorem tw_575 : (Jvm.Cond.fieldLink "java/lang/Throwable" (20 : Nat) "java/lang/Throwable" "SUPPRESSED_SENTINEL" "Ljava/util/List;") ∈ tblG := tg_r (i := 575) (by decide +kernel) (by decide +kernel)
theorem tw_577 : (Jvm.Cond.methodLink "java/lang/Throwable" (27 : Nat) ({ cls := "java/lang/Throwable", name := "fillInStackTrace", desc := "()Ljava/lang/Throwable;" } : Jvm.MethodName)) ∈ tblG := tg_r (i := 577) (by decide +kernel) (by decide +kernel)
theorem tw_578 : (Jvm.Cond.instanceMethod ({ cls := "java/lang/Throwable", name := "fillInStackTrace", desc := "()Ljava/lang/Throwable;" } : Jvm.MethodName)) ∈ tblG := tg_r (i := 578) (by decide +kernel) (by decide +kernel)
theorem tw_581 : (Jvm.Cond.methodLink "java/lang/Throwable" (202 : Nat) ({ cls := "java/lang/Throwable", name := "fillInStackTrace", desc := "(I)Ljava/lang/Throwable;" } : Jvm.MethodName)) ∈ tblG := tg_r (i := 581) (by decide +kernel) (by decide +kernel)
theorem tw_583 : (Jvm.Cond.instanceMethod ({ cls := "java/lang/Throwable", name := "fillInStackTrace", desc := "(I)Ljava/lang/Throwable;" } : Jvm.MethodName)) ∈ tblG := tg_r (i := 583) (by decide +kernel) (by decide +kernel)
theorem tw_584 : (Jvm.Cond.instantiable "java/lang/Throwable" (6 : Nat)) ∈ tblG := tg_r (i := 584) (by decide +kernel) (by decide +kernel)
theorem tw_587 : (Jvm.Cond.methodLink "SafetyTrees" (186 : Nat) ({ cls := "java/lang/ArithmeticException", name := "<init>", desc := "(Ljava/lang/String;)V" } : Jvm.MethodName)) ∈ tblG := tg_r (i := 587) (by decide +kernel) (by decide +kernel)
theorem tw_588 : (Jvm.Cond.instanceMethod ({ cls := "java/lang/ArithmeticException", name := "<init>", desc := "(Ljava/lang/String;)V" } : Jvm.MethodName)) ∈ tblG := tg_r (i := 588) (by decide +kernel) (by decide +kernel)
theorem tw_589 : (Jvm.Cond.code ({ cls := "java/lang/ArithmeticException", name := "<init>", desc := "(Ljava/lang/String;)V" } : Jvm.MethodName) prog_11_method_2_code (2 : Nat) (Option.none : Option Jvm.ClassFile.FieldType)) ∈ tblG := tg_r (i := 589) (by decide +kernel) (by decide +kernel)
theorem tw_590 : (Jvm.Cond.methodLink "java/lang/ArithmeticException" (7 : Nat) ({ cls := "java/lang/RuntimeException", name := "<init>", desc := "(Ljava/lang/String;)V" } : Jvm.MethodName)) ∈ tblG := tg_r (i := 590) (by decide +kernel) (by decide +kernel)
theorem tw_591 : (Jvm.Cond.instanceMethod ({ cls := "java/lang/RuntimeException", name := "<init>", desc := "(Ljava/lang/String;)V" } : Jvm.MethodName)) ∈ tblG := tg_r (i := 591) (by decide +kernel) (by decide +kernel)
theorem tw_592 : (Jvm.Cond.code ({ cls := "java/lang/RuntimeException", name := "<init>", desc := "(Ljava/lang/String;)V" } : Jvm.MethodName) prog_16_method_2_code (2 : Nat) (Option.none : Option Jvm.ClassFile.FieldType)) ∈ tblG := tg_r (i := 592) (by decide +kernel) (by decide +kernel)
theorem tw_593 : (Jvm.Cond.methodLink "java/lang/RuntimeException" (7 : Nat) ({ cls := "java/lang/Exception", name := "<init>", desc := "(Ljava/lang/String;)V" } : Jvm.MethodName)) ∈ tblG := tg_r (i := 593) (by decide +kernel) (by decide +kernel)
theorem tw_594 : (Jvm.Cond.instanceMethod ({ cls := "java/lang/Exception", name := "<init>", desc := "(Ljava/lang/String;)V" } : Jvm.MethodName)) ∈ tblG := tg_r (i := 594) (by decide +kernel) (by decide +kernel)
theorem tw_595 : (Jvm.Cond.code ({ cls := "java/lang/Exception", name := "<init>", desc := "(Ljava/lang/String;)V" } : Jvm.MethodName) prog_12_method_2_code (2 : Nat) (Option.none : Option Jvm.ClassFile.FieldType)) ∈ tblG := tg_r (i := 595) (by decide +kernel) (by decide +kernel)
theorem tw_596 : (Jvm.Cond.methodLink "java/lang/Exception" (7 : Nat) ({ cls := "java/lang/Throwable", name := "<init>", desc := "(Ljava/lang/String;)V" } : Jvm.MethodName)) ∈ tblG := tg_r (i := 596) (by decide +kernel) (by decide +kernel)
theorem tw_597 : (Jvm.Cond.instanceMethod ({ cls := "java/lang/Throwable", name := "<init>", desc := "(Ljava/lang/String;)V" } : Jvm.MethodName)) ∈ tblG := tg_r (i := 597) (by decide +kernel) (by decide +kernel)
theorem tw_598 : (Jvm.Cond.code ({ cls := "java/lang/Throwable", name := "<init>", desc := "(Ljava/lang/String;)V" } : Jvm.MethodName) prog_18_method_2_code (2 : Nat) (Option.none : Option Jvm.ClassFile.FieldType)) ∈ tblG := tg_r (i := 598) (by decide +kernel) (by decide +kernel)
theorem tw_599 : (Jvm.Cond.fieldLink "java/lang/Throwable" (198 : Nat) "java/lang/Throwable" "backtrace" "Ljava/lang/Object;") ∈ tblG := tg_r (i := 599) (by decide +kernel) (by decide +kernel)
theorem tw_600 : (Jvm.Cond.fieldLink "java/lang/Throwable" (31 : Nat) "java/lang/Throwable" "detailMessage" "Ljava/lang/String;") ∈ tblG := tg_r (i := 600) (by decide +kernel) (by decide +kernel)
theorem tw_601 : (Jvm.Cond.fieldLink "java/lang/Throwable" (7 : Nat) "java/lang/Throwable" "cause" "Ljava/lang/Throwable;") ∈ tblG := tg_r (i := 601) (by decide +kernel) (by decide +kernel)
theorem tw_602 : (Jvm.Cond.fieldLink "java/lang/Throwable" (17 : Nat) "java/lang/Throwable" "stackTrace" "[Ljava/lang/StackTraceElement;") ∈ tblG := tg_r (i := 602) (by decide +kernel) (by decide +kernel)
theorem tw_603 : (Jvm.Cond.fieldLink "java/lang/Throwable" (24 : Nat) "java/lang/Throwable" "suppressedExceptions" "Ljava/util/List;") ∈ tblG := tg_r (i := 603) (by decide +kernel) (by decide +kernel)
theorem tw_608 : (Jvm.Cond.lays "java/lang/ArithmeticException" "java/lang/Throwable" "depth" "I") ∈ tblG := tg_r (i := 608) (by decide +kernel) (by decide +kernel)
theorem tw_612 : (Jvm.Cond.arrayClass Jvm.ClassFile.FieldType.byte) ∈ tblG := tg_r (i := 612) (by decide +kernel) (by decide +kernel)
theorem tw_613 : (Jvm.Cond.methodLink "SafetyTrees" (189 : Nat) ({ cls := "SafetyTrees$Goals", name := "testedRowsOfPart", desc := "(I)I" } : Jvm.MethodName)) ∈ tblG := tg_r (i := 613) (by decide +kernel) (by decide +kernel)
theorem tw_614 : (Jvm.Cond.methodLink "SafetyTrees" (192 : Nat) ({ cls := "SafetyTrees$Fraction", name := "set", desc := "(JJ)V" } : Jvm.MethodName)) ∈ tblG := tg_r (i := 614) (by decide +kernel) (by decide +kernel)
theorem tw_615 : (Jvm.Cond.classLink "SafetyTreesLaw" (16 : Nat) "SafetyTreesModel") ∈ tblG := tg_r (i := 615) (by decide +kernel) (by decide +kernel)
theorem tw_616 : (Jvm.Cond.instantiable "SafetyTreesModel" (35 : Nat)) ∈ tblG := tg_r (i := 616) (by decide +kernel) (by decide +kernel)
theorem tw_617 : (Jvm.Cond.methodLink "SafetyTreesLaw" (18 : Nat) ({ cls := "SafetyTreesModel", name := "<init>", desc := "()V" } : Jvm.MethodName)) ∈ tblG := tg_r (i := 617) (by decide +kernel) (by decide +kernel)
theorem tw_618 : (Jvm.Cond.instanceMethod ({ cls := "SafetyTreesModel", name := "<init>", desc := "()V" } : Jvm.MethodName)) ∈ tblG := tg_r (i := 618) (by decide +kernel) (by decide +kernel)
theorem tw_619 : (Jvm.Cond.code ({ cls := "SafetyTreesModel", name := "<init>", desc := "()V" } : Jvm.MethodName) prog_10_method_1_code (1 : Nat) (Option.none : Option Jvm.ClassFile.FieldType)) ∈ tblG := tg_r (i := 619) (by decide +kernel) (by decide +kernel)
theorem tw_620 : (Jvm.Cond.methodLink "SafetyTreesModel" (1 : Nat) ({ cls := "java/lang/Object", name := "<init>", desc := "()V" } : Jvm.MethodName)) ∈ tblG := tg_r (i := 620) (by decide +kernel) (by decide +kernel)
theorem tw_621 : (Jvm.Cond.fieldLink "SafetyTreesModel" (81 : Nat) "SafetyTreesModel" "fault" "I") ∈ tblG := tg_r (i := 621) (by decide +kernel) (by decide +kernel)
theorem tw_622 : (Jvm.Cond.fieldLink "SafetyTreesModel" (85 : Nat) "SafetyTreesModel" "nodes" "I") ∈ tblG := tg_r (i := 622) (by decide +kernel) (by decide +kernel)
theorem tw_623 : (Jvm.Cond.fieldLink "SafetyTreesModel" (94 : Nat) "SafetyTreesModel" "events" "I") ∈ tblG := tg_r (i := 623) (by decide +kernel) (by decide +kernel)
theorem tw_624 : (Jvm.Cond.fieldLink "SafetyTreesModel" (99 : Nat) "SafetyTreesModel" "gates" "I") ∈ tblG := tg_r (i := 624) (by decide +kernel) (by decide +kernel)
theorem tw_625 : (Jvm.Cond.fieldLink "SafetyTreesModel" (7 : Nat) "SafetyTreesModel" "kind" "[I") ∈ tblG := tg_r (i := 625) (by decide +kernel) (by decide +kernel)
theorem tw_626 : (Jvm.Cond.fieldLink "SafetyTreesModel" (13 : Nat) "SafetyTreesModel" "votes" "[I") ∈ tblG := tg_r (i := 626) (by decide +kernel) (by decide +kernel)
theorem tw_627 : (Jvm.Cond.fieldLink "SafetyTreesModel" (16 : Nat) "SafetyTreesModel" "up" "[I") ∈ tblG := tg_r (i := 627) (by decide +kernel) (by decide +kernel)
theorem tw_628 : (Jvm.Cond.fieldLink "SafetyTreesModel" (19 : Nat) "SafetyTreesModel" "down" "[I") ∈ tblG := tg_r (i := 628) (by decide +kernel) (by decide +kernel)
theorem tw_629 : (Jvm.Cond.fieldLink "SafetyTreesModel" (22 : Nat) "SafetyTreesModel" "size" "[I") ∈ tblG := tg_r (i := 629) (by decide +kernel) (by decide +kernel)
theorem tw_630 : (Jvm.Cond.fieldLink "SafetyTreesModel" (25 : Nat) "SafetyTreesModel" "below" "[I") ∈ tblG := tg_r (i := 630) (by decide +kernel) (by decide +kernel)
theorem tw_631 : (Jvm.Cond.fieldLink "SafetyTreesModel" (149 : Nat) "SafetyTreesModel" "commons" "I") ∈ tblG := tg_r (i := 631) (by decide +kernel) (by decide +kernel)
theorem tw_632 : (Jvm.Cond.fieldLink "SafetyTreesModel" (28 : Nat) "SafetyTreesModel" "commonOne" "[I") ∈ tblG := tg_r (i := 632) (by decide +kernel) (by decide +kernel)
theorem tw_633 : (Jvm.Cond.fieldLink "SafetyTreesModel" (31 : Nat) "SafetyTreesModel" "commonOther" "[I") ∈ tblG := tg_r (i := 633) (by decide +kernel) (by decide +kernel)
theorem tw_634 : (Jvm.Cond.fieldLink "SafetyTreesModel" (34 : Nat) "SafetyTreesModel" "commonUp" "[I") ∈ tblG := tg_r (i := 634) (by decide +kernel) (by decide +kernel)
theorem tw_635 : (Jvm.Cond.fieldLink "SafetyTreesModel" (37 : Nat) "SafetyTreesModel" "commonDown" "[I") ∈ tblG := tg_r (i := 635) (by decide +kernel) (by decide +kernel)
theorem tw_636 : (Jvm.Cond.fieldLink "SafetyTreesModel" (166 : Nat) "SafetyTreesModel" "wasExact" "Z") ∈ tblG := tg_r (i := 636) (by decide +kernel) (by decide +kernel)
theorem tw_637 : (Jvm.Cond.fieldLink "SafetyTreesModel" (40 : Nat) "SafetyTreesModel" "under" "[Z") ∈ tblG := tg_r (i := 637) (by decide +kernel) (by decide +kernel)
theorem tw_638 : (Jvm.Cond.fieldLink "SafetyTreesModel" (110 : Nat) "SafetyTreesModel" "many" "I") ∈ tblG := tg_r (i := 638) (by decide +kernel) (by decide +kernel)
theorem tw_639 : (Jvm.Cond.fieldLink "SafetyTreesModel" (44 : Nat) "SafetyTreesModel" "eventAt" "[I") ∈ tblG := tg_r (i := 639) (by decide +kernel) (by decide +kernel)
theorem tw_640 : (Jvm.Cond.fieldLink "SafetyTreesModel" (113 : Nat) "SafetyTreesModel" "ordered" "I") ∈ tblG := tg_r (i := 640) (by decide +kernel) (by decide +kernel)
theorem tw_641 : (Jvm.Cond.fieldLink "SafetyTreesModel" (47 : Nat) "SafetyTreesModel" "order" "[I") ∈ tblG := tg_r (i := 641) (by decide +kernel) (by decide +kernel)
theorem tw_642 : (Jvm.Cond.fieldLink "SafetyTreesModel" (50 : Nat) "SafetyTreesModel" "done" "[Z") ∈ tblG := tg_r (i := 642) (by decide +kernel) (by decide +kernel)
theorem tw_643 : (Jvm.Cond.fieldLink "SafetyTreesModel" (53 : Nat) "SafetyTreesModel" "value" "[I") ∈ tblG := tg_r (i := 643) (by decide +kernel) (by decide +kernel)
theorem tw_644 : (Jvm.Cond.fieldLink "SafetyTreesModel" (56 : Nat) "SafetyTreesModel" "holds" "[Z") ∈ tblG := tg_r (i := 644) (by decide +kernel) (by decide +kernel)
theorem tw_645 : (Jvm.Cond.fieldLink "SafetyTreesModel" (59 : Nat) "SafetyTreesModel" "weight" "[J") ∈ tblG := tg_r (i := 645) (by decide +kernel) (by decide +kernel)
theorem tw_646 : (Jvm.Cond.fieldLink "SafetyTreesModel" (126 : Nat) "SafetyTreesModel" "cutMany" "I") ∈ tblG := tg_r (i := 646) (by decide +kernel) (by decide +kernel)
theorem tw_647 : (Jvm.Cond.fieldLink "SafetyTreesModel" (63 : Nat) "SafetyTreesModel" "cutOf" "[I") ∈ tblG := tg_r (i := 647) (by decide +kernel) (by decide +kernel)
theorem tw_648 : (Jvm.Cond.fieldLink "SafetyTreesModel" (66 : Nat) "SafetyTreesModel" "toldEvents" "[I") ∈ tblG := tg_r (i := 648) (by decide +kernel) (by decide +kernel)
theorem tw_649 : (Jvm.Cond.fieldLink "SafetyTreesModel" (129 : Nat) "SafetyTreesModel" "toldMany" "I") ∈ tblG := tg_r (i := 649) (by decide +kernel) (by decide +kernel)
theorem tw_650 : (Jvm.Cond.fieldLink "SafetyTreesModel" (184 : Nat) "SafetyTreesModel" "goals" "I") ∈ tblG := tg_r (i := 650) (by decide +kernel) (by decide +kernel)
theorem tw_651 : (Jvm.Cond.fieldLink "SafetyTreesModel" (69 : Nat) "SafetyTreesModel" "cls" "[I") ∈ tblG := tg_r (i := 651) (by decide +kernel) (by decide +kernel)
theorem tw_652 : (Jvm.Cond.fieldLink "SafetyTreesModel" (189 : Nat) "SafetyTreesModel" "rows" "I") ∈ tblG := tg_r (i := 652) (by decide +kernel) (by decide +kernel)
theorem tw_653 : (Jvm.Cond.fieldLink "SafetyTreesModel" (72 : Nat) "SafetyTreesModel" "rowGoal" "[I") ∈ tblG := tg_r (i := 653) (by decide +kernel) (by decide +kernel)
theorem tw_654 : (Jvm.Cond.fieldLink "SafetyTreesModel" (75 : Nat) "SafetyTreesModel" "rowPart" "[I") ∈ tblG := tg_r (i := 654) (by decide +kernel) (by decide +kernel)
theorem tw_655 : (Jvm.Cond.fieldLink "SafetyTreesModel" (78 : Nat) "SafetyTreesModel" "rowTest" "[I") ∈ tblG := tg_r (i := 655) (by decide +kernel) (by decide +kernel)
theorem tw_656 : (Jvm.Cond.lays "SafetyTreesModel" "SafetyTreesModel" "fault" "I") ∈ tblG := tg_r (i := 656) (by decide +kernel) (by decide +kernel)
theorem tw_658 : (Jvm.Cond.lays "SafetyTreesModel" "SafetyTreesModel" "nodes" "I") ∈ tblG := tg_r (i := 658) (by decide +kernel) (by decide +kernel)
theorem tw_660 : (Jvm.Cond.lays "SafetyTreesModel" "SafetyTreesModel" "events" "I") ∈ tblG := tg_r (i := 660) (by decide +kernel) (by decide +kernel)
theorem tw_662 : (Jvm.Cond.lays "SafetyTreesModel" "SafetyTreesModel" "gates" "I") ∈ tblG := tg_r (i := 662) (by decide +kernel) (by decide +kernel)
theorem tw_664 : (Jvm.Cond.laysFinal "SafetyTreesModel" "SafetyTreesModel" "kind" "[I") ∈ tblG := tg_r (i := 664) (by decide +kernel) (by decide +kernel)
theorem tw_666 : (Jvm.Cond.laysFinal "SafetyTreesModel" "SafetyTreesModel" "votes" "[I") ∈ tblG := tg_r (i := 666) (by decide +kernel) (by decide +kernel)
theorem tw_668 : (Jvm.Cond.laysFinal "SafetyTreesModel" "SafetyTreesModel" "up" "[I") ∈ tblG := tg_r (i := 668) (by decide +kernel) (by decide +kernel)
theorem tw_670 : (Jvm.Cond.laysFinal "SafetyTreesModel" "SafetyTreesModel" "down" "[I") ∈ tblG := tg_r (i := 670) (by decide +kernel) (by decide +kernel)
theorem tw_672 : (Jvm.Cond.laysFinal "SafetyTreesModel" "SafetyTreesModel" "size" "[I") ∈ tblG := tg_r (i := 672) (by decide +kernel) (by decide +kernel)
theorem tw_674 : (Jvm.Cond.laysFinal "SafetyTreesModel" "SafetyTreesModel" "below" "[I") ∈ tblG := tg_r (i := 674) (by decide +kernel) (by decide +kernel)
theorem tw_676 : (Jvm.Cond.lays "SafetyTreesModel" "SafetyTreesModel" "commons" "I") ∈ tblG := tg_r (i := 676) (by decide +kernel) (by decide +kernel)
theorem tw_678 : (Jvm.Cond.laysFinal "SafetyTreesModel" "SafetyTreesModel" "commonOne" "[I") ∈ tblG := tg_r (i := 678) (by decide +kernel) (by decide +kernel)
theorem tw_680 : (Jvm.Cond.laysFinal "SafetyTreesModel" "SafetyTreesModel" "commonOther" "[I") ∈ tblG := tg_r (i := 680) (by decide +kernel) (by decide +kernel)
theorem tw_682 : (Jvm.Cond.laysFinal "SafetyTreesModel" "SafetyTreesModel" "commonUp" "[I") ∈ tblG := tg_r (i := 682) (by decide +kernel) (by decide +kernel)
theorem tw_684 : (Jvm.Cond.laysFinal "SafetyTreesModel" "SafetyTreesModel" "commonDown" "[I") ∈ tblG := tg_r (i := 684) (by decide +kernel) (by decide +kernel)
theorem tw_686 : (Jvm.Cond.lays "SafetyTreesModel" "SafetyTreesModel" "wasExact" "Z") ∈ tblG := tg_r (i := 686) (by decide +kernel) (by decide +kernel)
theorem tw_688 : (Jvm.Cond.laysFinal "SafetyTreesModel" "SafetyTreesModel" "under" "[Z") ∈ tblG := tg_r (i := 688) (by decide +kernel) (by decide +kernel)
theorem tw_690 : (Jvm.Cond.lays "SafetyTreesModel" "SafetyTreesModel" "many" "I") ∈ tblG := tg_r (i := 690) (by decide +kernel) (by decide +kernel)
theorem tw_692 : (Jvm.Cond.laysFinal "SafetyTreesModel" "SafetyTreesModel" "eventAt" "[I") ∈ tblG := tg_r (i := 692) (by decide +kernel) (by decide +kernel)
theorem tw_694 : (Jvm.Cond.lays "SafetyTreesModel" "SafetyTreesModel" "ordered" "I") ∈ tblG := tg_r (i := 694) (by decide +kernel) (by decide +kernel)
theorem tw_696 : (Jvm.Cond.laysFinal "SafetyTreesModel" "SafetyTreesModel" "order" "[I") ∈ tblG := tg_r (i := 696) (by decide +kernel) (by decide +kernel)
theorem tw_698 : (Jvm.Cond.laysFinal "SafetyTreesModel" "SafetyTreesModel" "done" "[Z") ∈ tblG := tg_r (i := 698) (by decide +kernel) (by decide +kernel)
theorem tw_700 : (Jvm.Cond.laysFinal "SafetyTreesModel" "SafetyTreesModel" "value" "[I") ∈ tblG := tg_r (i := 700) (by decide +kernel) (by decide +kernel)
theorem tw_702 : (Jvm.Cond.laysFinal "SafetyTreesModel" "SafetyTreesModel" "holds" "[Z") ∈ tblG := tg_r (i := 702) (by decide +kernel) (by decide +kernel)
theorem tw_704 : (Jvm.Cond.laysFinal "SafetyTreesModel" "SafetyTreesModel" "weight" "[J") ∈ tblG := tg_r (i := 704) (by decide +kernel) (by decide +kernel)
theorem tw_706 : (Jvm.Cond.lays "SafetyTreesModel" "SafetyTreesModel" "cutMany" "I") ∈ tblG := tg_r (i := 706) (by decide +kernel) (by decide +kernel)
theorem tw_708 : (Jvm.Cond.laysFinal "SafetyTreesModel" "SafetyTreesModel" "cutOf" "[I") ∈ tblG := tg_r (i := 708) (by decide +kernel) (by decide +kernel)
theorem tw_710 : (Jvm.Cond.laysFinal "SafetyTreesModel" "SafetyTreesModel" "toldEvents" "[I") ∈ tblG := tg_r (i := 710) (by decide +kernel) (by decide +kernel)
theorem tw_712 : (Jvm.Cond.lays "SafetyTreesModel" "SafetyTreesModel" "toldMany" "I") ∈ tblG := tg_r (i := 712) (by decide +kernel) (by decide +kernel)
theorem tw_714 : (Jvm.Cond.lays "SafetyTreesModel" "SafetyTreesModel" "goals" "I") ∈ tblG := tg_r (i := 714) (by decide +kernel) (by decide +kernel)
theorem tw_716 : (Jvm.Cond.laysFinal "SafetyTreesModel" "SafetyTreesModel" "cls" "[I") ∈ tblG := tg_r (i := 716) (by decide +kernel) (by decide +kernel)
theorem tw_718 : (Jvm.Cond.lays "SafetyTreesModel" "SafetyTreesModel" "rows" "I") ∈ tblG := tg_r (i := 718) (by decide +kernel) (by decide +kernel)
theorem tw_720 : (Jvm.Cond.laysFinal "SafetyTreesModel" "SafetyTreesModel" "rowGoal" "[I") ∈ tblG := tg_r (i := 720) (by decide +kernel) (by decide +kernel)
theorem tw_722 : (Jvm.Cond.laysFinal "SafetyTreesModel" "SafetyTreesModel" "rowPart" "[I") ∈ tblG := tg_r (i := 722) (by decide +kernel) (by decide +kernel)
theorem tw_724 : (Jvm.Cond.laysFinal "SafetyTreesModel" "SafetyTreesModel" "rowTest" "[I") ∈ tblG := tg_r (i := 724) (by decide +kernel) (by decide +kernel)
theorem tw_727 : (Jvm.Cond.arrayClass Jvm.ClassFile.FieldType.boolean) ∈ tblG := tg_r (i := 727) (by decide +kernel) (by decide +kernel)
theorem tw_728 : (Jvm.Cond.methodLink "SafetyTreesLaw" (82 : Nat) ({ cls := "SafetyTreesModel", name := "thrown", desc := "()I" } : Jvm.MethodName)) ∈ tblG := tg_r (i := 728) (by decide +kernel) (by decide +kernel)
theorem tw_729 : (Jvm.Cond.instanceMethod ({ cls := "SafetyTreesModel", name := "thrown", desc := "()I" } : Jvm.MethodName)) ∈ tblG := tg_r (i := 729) (by decide +kernel) (by decide +kernel)
theorem tw_730 : (Jvm.Cond.selects "SafetyTreesModel" ({ cls := "SafetyTreesModel", name := "thrown", desc := "()I" } : Jvm.MethodName) ({ cls := "SafetyTreesModel", name := "thrown", desc := "()I" } : Jvm.MethodName)) ∈ tblG := tg_r (i := 730) (by decide +kernel) (by decide +kernel)
theorem tw_731 : (Jvm.Cond.code ({ cls := "SafetyTreesModel", name := "thrown", desc := "()I" } : Jvm.MethodName) prog_10_method_2_code (1 : Nat) (Option.some Jvm.ClassFile.FieldType.int)) ∈ tblG := tg_r (i := 731) (by decide +kernel) (by decide +kernel)
theorem tw_732 : (Jvm.Cond.methodLink "SafetyTreesLaw" (25 : Nat) ({ cls := "SafetyTreesModel", name := "event", desc := "(JJ)I" } : Jvm.MethodName)) ∈ tblG := tg_r (i := 732) (by decide +kernel) (by decide +kernel)
theorem tw_733 : (Jvm.Cond.instanceMethod ({ cls := "SafetyTreesModel", name := "event", desc := "(JJ)I" } : Jvm.MethodName)) ∈ tblG := tg_r (i := 733) (by decide +kernel) (by decide +kernel)
theorem tw_734 : (Jvm.Cond.selects "SafetyTreesModel" ({ cls := "SafetyTreesModel", name := "event", desc := "(JJ)I" } : Jvm.MethodName) ({ cls := "SafetyTreesModel", name := "event", desc := "(JJ)I" } : Jvm.MethodName)) ∈ tblG := tg_r (i := 734) (by decide +kernel) (by decide +kernel)
theorem tw_735 : (Jvm.Cond.code ({ cls := "SafetyTreesModel", name := "event", desc := "(JJ)I" } : Jvm.MethodName) prog_10_method_6_code (5 : Nat) (Option.some Jvm.ClassFile.FieldType.int)) ∈ tblG := tg_r (i := 735) (by decide +kernel) (by decide +kernel)
theorem tw_736 : (Jvm.Cond.constantLong "SafetyTreesModel" (92 : Nat) (10 : Int64)) ∈ tblG := tg_r (i := 736) (by decide +kernel) (by decide +kernel)
theorem tw_737 : (Jvm.Cond.methodLink "SafetyTreesModel" (88 : Nat) ({ cls := "SafetyTreesModel", name := "isIn", desc := "(JJJ)Z" } : Jvm.MethodName)) ∈ tblG := tg_r (i := 737) (by decide +kernel) (by decide +kernel)
theorem tw_738 : (Jvm.Cond.static ({ cls := "SafetyTreesModel", name := "isIn", desc := "(JJJ)Z" } : Jvm.MethodName)) ∈ tblG := tg_r (i := 738) (by decide +kernel) (by decide +kernel)
theorem tw_739 : (Jvm.Cond.code ({ cls := "SafetyTreesModel", name := "isIn", desc := "(JJJ)Z" } : Jvm.MethodName) prog_10_method_3_code (6 : Nat) (Option.some Jvm.ClassFile.FieldType.boolean)) ∈ tblG := tg_r (i := 739) (by decide +kernel) (by decide +kernel)
theorem tw_740 : (Jvm.Cond.methodLink "SafetyTreesLaw" (30 : Nat) ({ cls := "SafetyTreesModel", name := "gate", desc := "(II)I" } : Jvm.MethodName)) ∈ tblG := tg_r (i := 740) (by decide +kernel) (by decide +kernel)
theorem tw_741 : (Jvm.Cond.instanceMethod ({ cls := "SafetyTreesModel", name := "gate", desc := "(II)I" } : Jvm.MethodName)) ∈ tblG := tg_r (i := 741) (by decide +kernel) (by decide +kernel)
theorem tw_742 : (Jvm.Cond.selects "SafetyTreesModel" ({ cls := "SafetyTreesModel", name := "gate", desc := "(II)I" } : Jvm.MethodName) ({ cls := "SafetyTreesModel", name := "gate", desc := "(II)I" } : Jvm.MethodName)) ∈ tblG := tg_r (i := 742) (by decide +kernel) (by decide +kernel)
theorem tw_743 : (Jvm.Cond.code ({ cls := "SafetyTreesModel", name := "gate", desc := "(II)I" } : Jvm.MethodName) prog_10_method_7_code (3 : Nat) (Option.some Jvm.ClassFile.FieldType.int)) ∈ tblG := tg_r (i := 743) (by decide +kernel) (by decide +kernel)
theorem tw_744 : (Jvm.Cond.constantLong "SafetyTreesModel" (97 : Nat) (2 : Int64)) ∈ tblG := tg_r (i := 744) (by decide +kernel) (by decide +kernel)
theorem tw_745 : (Jvm.Cond.methodLink "SafetyTreesLaw" (34 : Nat) ({ cls := "SafetyTreesModel", name := "below", desc := "(II)I" } : Jvm.MethodName)) ∈ tblG := tg_r (i := 745) (by decide +kernel) (by decide +kernel)
theorem tw_746 : (Jvm.Cond.instanceMethod ({ cls := "SafetyTreesModel", name := "below", desc := "(II)I" } : Jvm.MethodName)) ∈ tblG := tg_r (i := 746) (by decide +kernel) (by decide +kernel)
theorem tw_747 : (Jvm.Cond.selects "SafetyTreesModel" ({ cls := "SafetyTreesModel", name := "below", desc := "(II)I" } : Jvm.MethodName) ({ cls := "SafetyTreesModel", name := "below", desc := "(II)I" } : Jvm.MethodName)) ∈ tblG := tg_r (i := 747) (by decide +kernel) (by decide +kernel)
theorem tw_748 : (Jvm.Cond.code ({ cls := "SafetyTreesModel", name := "below", desc := "(II)I" } : Jvm.MethodName) prog_10_method_9_code (4 : Nat) (Option.some Jvm.ClassFile.FieldType.int)) ∈ tblG := tg_r (i := 748) (by decide +kernel) (by decide +kernel)
theorem tw_749 : (Jvm.Cond.methodLink "SafetyTreesModel" (102 : Nat) ({ cls := "SafetyTreesModel", name := "isGate", desc := "(I)Z" } : Jvm.MethodName)) ∈ tblG := tg_r (i := 749) (by decide +kernel) (by decide +kernel)
theorem tw_751 : (Jvm.Cond.instanceMethod ({ cls := "SafetyTreesModel", name := "isGate", desc := "(I)Z" } : Jvm.MethodName)) ∈ tblG := tg_r (i := 751) (by decide +kernel) (by decide +kernel)
theorem tw_752 : (Jvm.Cond.code ({ cls := "SafetyTreesModel", name := "isGate", desc := "(I)Z" } : Jvm.MethodName) prog_10_method_4_code (2 : Nat) (Option.some Jvm.ClassFile.FieldType.boolean)) ∈ tblG := tg_r (i := 752) (by decide +kernel) (by decide +kernel)
theorem tw_753 : (Jvm.Cond.methodLink "SafetyTreesModel" (106 : Nat) ({ cls := "SafetyTreesModel", name := "mark", desc := "(I)V" } : Jvm.MethodName)) ∈ tblG := tg_r (i := 753) (by decide +kernel) (by decide +kernel)
theorem tw_755 : (Jvm.Cond.instanceMethod ({ cls := "SafetyTreesModel", name := "mark", desc := "(I)V" } : Jvm.MethodName)) ∈ tblG := tg_r (i := 755) (by decide +kernel) (by decide +kernel)
theorem tw_756 : (Jvm.Cond.code ({ cls := "SafetyTreesModel", name := "mark", desc := "(I)V" } : Jvm.MethodName) prog_10_method_8_code (6 : Nat) (Option.none : Option Jvm.ClassFile.FieldType)) ∈ tblG := tg_r (i := 756) (by decide +kernel) (by decide +kernel)
theorem tw_757 : (Jvm.Cond.methodLink "SafetyTreesLaw" (39 : Nat) ({ cls := "SafetyTreesModel", name := "cuts", desc := "(IJ)I" } : Jvm.MethodName)) ∈ tblG := tg_r (i := 757) (by decide +kernel) (by decide +kernel)
theorem tw_758 : (Jvm.Cond.instanceMethod ({ cls := "SafetyTreesModel", name := "cuts", desc := "(IJ)I" } : Jvm.MethodName)) ∈ tblG := tg_r (i := 758) (by decide +kernel) (by decide +kernel)
theorem tw_759 : (Jvm.Cond.selects "SafetyTreesModel" ({ cls := "SafetyTreesModel", name := "cuts", desc := "(IJ)I" } : Jvm.MethodName) ({ cls := "SafetyTreesModel", name := "cuts", desc := "(IJ)I" } : Jvm.MethodName)) ∈ tblG := tg_r (i := 759) (by decide +kernel) (by decide +kernel)
theorem tw_760 : (Jvm.Cond.code ({ cls := "SafetyTreesModel", name := "cuts", desc := "(IJ)I" } : Jvm.MethodName) prog_10_method_16_code (6 : Nat) (Option.some Jvm.ClassFile.FieldType.int)) ∈ tblG := tg_r (i := 760) (by decide +kernel) (by decide +kernel)
theorem tw_761 : (Jvm.Cond.methodLink "SafetyTreesModel" (119 : Nat) ({ cls := "SafetyTreesModel", name := "prepare", desc := "(I)V" } : Jvm.MethodName)) ∈ tblG := tg_r (i := 761) (by decide +kernel) (by decide +kernel)
theorem tw_763 : (Jvm.Cond.instanceMethod ({ cls := "SafetyTreesModel", name := "prepare", desc := "(I)V" } : Jvm.MethodName)) ∈ tblG := tg_r (i := 763) (by decide +kernel) (by decide +kernel)
theorem tw_764 : (Jvm.Cond.code ({ cls := "SafetyTreesModel", name := "prepare", desc := "(I)V" } : Jvm.MethodName) prog_10_method_10_code (4 : Nat) (Option.none : Option Jvm.ClassFile.FieldType)) ∈ tblG := tg_r (i := 764) (by decide +kernel) (by decide +kernel)
theorem tw_765 : (Jvm.Cond.methodLink "SafetyTreesModel" (116 : Nat) ({ cls := "SafetyTreesModel", name := "isReady", desc := "(I)Z" } : Jvm.MethodName)) ∈ tblG := tg_r (i := 765) (by decide +kernel) (by decide +kernel)
theorem tw_767 : (Jvm.Cond.instanceMethod ({ cls := "SafetyTreesModel", name := "isReady", desc := "(I)Z" } : Jvm.MethodName)) ∈ tblG := tg_r (i := 767) (by decide +kernel) (by decide +kernel)
theorem tw_768 : (Jvm.Cond.code ({ cls := "SafetyTreesModel", name := "isReady", desc := "(I)Z" } : Jvm.MethodName) prog_10_method_11_code (4 : Nat) (Option.some Jvm.ClassFile.FieldType.boolean)) ∈ tblG := tg_r (i := 768) (by decide +kernel) (by decide +kernel)
theorem tw_769 : (Jvm.Cond.methodLink "SafetyTreesModel" (132 : Nat) ({ cls := "SafetyTreesModel", name := "tryAll", desc := "(I)V" } : Jvm.MethodName)) ∈ tblG := tg_r (i := 769) (by decide +kernel) (by decide +kernel)
theorem tw_771 : (Jvm.Cond.instanceMethod ({ cls := "SafetyTreesModel", name := "tryAll", desc := "(I)V" } : Jvm.MethodName)) ∈ tblG := tg_r (i := 771) (by decide +kernel) (by decide +kernel)
theorem tw_772 : (Jvm.Cond.code ({ cls := "SafetyTreesModel", name := "tryAll", desc := "(I)V" } : Jvm.MethodName) prog_10_method_13_code (7 : Nat) (Option.none : Option Jvm.ClassFile.FieldType)) ∈ tblG := tg_r (i := 772) (by decide +kernel) (by decide +kernel)
theorem tw_773 : (Jvm.Cond.methodLink "SafetyTreesModel" (122 : Nat) ({ cls := "SafetyTreesModel", name := "bit", desc := "(I)I" } : Jvm.MethodName)) ∈ tblG := tg_r (i := 773) (by decide +kernel) (by decide +kernel)
theorem tw_775 : (Jvm.Cond.instanceMethod ({ cls := "SafetyTreesModel", name := "bit", desc := "(I)I" } : Jvm.MethodName)) ∈ tblG := tg_r (i := 775) (by decide +kernel) (by decide +kernel)
theorem tw_776 : (Jvm.Cond.code ({ cls := "SafetyTreesModel", name := "bit", desc := "(I)I" } : Jvm.MethodName) prog_10_method_12_code (2 : Nat) (Option.some Jvm.ClassFile.FieldType.int)) ∈ tblG := tg_r (i := 776) (by decide +kernel) (by decide +kernel)
theorem tw_777 : (Jvm.Cond.methodLink "SafetyTreesModel" (135 : Nat) ({ cls := "SafetyTreesModel", name := "ones", desc := "(I)I" } : Jvm.MethodName)) ∈ tblG := tg_r (i := 777) (by decide +kernel) (by decide +kernel)
theorem tw_778 : (Jvm.Cond.static ({ cls := "SafetyTreesModel", name := "ones", desc := "(I)I" } : Jvm.MethodName)) ∈ tblG := tg_r (i := 778) (by decide +kernel) (by decide +kernel)
theorem tw_779 : (Jvm.Cond.code ({ cls := "SafetyTreesModel", name := "ones", desc := "(I)I" } : Jvm.MethodName) prog_10_method_14_code (3 : Nat) (Option.some Jvm.ClassFile.FieldType.int)) ∈ tblG := tg_r (i := 779) (by decide +kernel) (by decide +kernel)
theorem tw_780 : (Jvm.Cond.methodLink "SafetyTreesModel" (138 : Nat) ({ cls := "SafetyTreesModel", name := "isMinimal", desc := "(I)Z" } : Jvm.MethodName)) ∈ tblG := tg_r (i := 780) (by decide +kernel) (by decide +kernel)
theorem tw_782 : (Jvm.Cond.instanceMethod ({ cls := "SafetyTreesModel", name := "isMinimal", desc := "(I)Z" } : Jvm.MethodName)) ∈ tblG := tg_r (i := 782) (by decide +kernel) (by decide +kernel)
theorem tw_783 : (Jvm.Cond.code ({ cls := "SafetyTreesModel", name := "isMinimal", desc := "(I)Z" } : Jvm.MethodName) prog_10_method_15_code (4 : Nat) (Option.some Jvm.ClassFile.FieldType.boolean)) ∈ tblG := tg_r (i := 783) (by decide +kernel) (by decide +kernel)
theorem tw_784 : (Jvm.Cond.methodLink "SafetyTreesLaw" (43 : Nat) ({ cls := "SafetyTreesModel", name := "cut", desc := "(II)I" } : Jvm.MethodName)) ∈ tblG := tg_r (i := 784) (by decide +kernel) (by decide +kernel)
theorem tw_785 : (Jvm.Cond.instanceMethod ({ cls := "SafetyTreesModel", name := "cut", desc := "(II)I" } : Jvm.MethodName)) ∈ tblG := tg_r (i := 785) (by decide +kernel) (by decide +kernel)
theorem tw_786 : (Jvm.Cond.selects "SafetyTreesModel" ({ cls := "SafetyTreesModel", name := "cut", desc := "(II)I" } : Jvm.MethodName) ({ cls := "SafetyTreesModel", name := "cut", desc := "(II)I" } : Jvm.MethodName)) ∈ tblG := tg_r (i := 786) (by decide +kernel) (by decide +kernel)
theorem tw_787 : (Jvm.Cond.code ({ cls := "SafetyTreesModel", name := "cut", desc := "(II)I" } : Jvm.MethodName) prog_10_method_17_code (5 : Nat) (Option.some Jvm.ClassFile.FieldType.int)) ∈ tblG := tg_r (i := 787) (by decide +kernel) (by decide +kernel)
theorem tw_788 : (Jvm.Cond.methodLink "SafetyTreesLaw" (89 : Nat) ({ cls := "SafetyTreesModel", name := "plain", desc := "(I)I" } : Jvm.MethodName)) ∈ tblG := tg_r (i := 788) (by decide +kernel) (by decide +kernel)
theorem tw_789 : (Jvm.Cond.instanceMethod ({ cls := "SafetyTreesModel", name := "plain", desc := "(I)I" } : Jvm.MethodName)) ∈ tblG := tg_r (i := 789) (by decide +kernel) (by decide +kernel)
theorem tw_790 : (Jvm.Cond.selects "SafetyTreesModel" ({ cls := "SafetyTreesModel", name := "plain", desc := "(I)I" } : Jvm.MethodName) ({ cls := "SafetyTreesModel", name := "plain", desc := "(I)I" } : Jvm.MethodName)) ∈ tblG := tg_r (i := 790) (by decide +kernel) (by decide +kernel)
theorem tw_791 : (Jvm.Cond.code ({ cls := "SafetyTreesModel", name := "plain", desc := "(I)I" } : Jvm.MethodName) prog_10_method_18_code (4 : Nat) (Option.some Jvm.ClassFile.FieldType.int)) ∈ tblG := tg_r (i := 791) (by decide +kernel) (by decide +kernel)
theorem tw_792 : (Jvm.Cond.methodLink "SafetyTreesLaw" (47 : Nat) ({ cls := "SafetyTreesModel", name := "chance", desc := "(II)J" } : Jvm.MethodName)) ∈ tblG := tg_r (i := 792) (by decide +kernel) (by decide +kernel)
theorem tw_793 : (Jvm.Cond.instanceMethod ({ cls := "SafetyTreesModel", name := "chance", desc := "(II)J" } : Jvm.MethodName)) ∈ tblG := tg_r (i := 793) (by decide +kernel) (by decide +kernel)
theorem tw_794 : (Jvm.Cond.selects "SafetyTreesModel" ({ cls := "SafetyTreesModel", name := "chance", desc := "(II)J" } : Jvm.MethodName) ({ cls := "SafetyTreesModel", name := "chance", desc := "(II)J" } : Jvm.MethodName)) ∈ tblG := tg_r (i := 794) (by decide +kernel) (by decide +kernel)
theorem tw_795 : (Jvm.Cond.code ({ cls := "SafetyTreesModel", name := "chance", desc := "(II)J" } : Jvm.MethodName) prog_10_method_26_code (5 : Nat) (Option.some Jvm.ClassFile.FieldType.long)) ∈ tblG := tg_r (i := 795) (by decide +kernel) (by decide +kernel)
theorem tw_796 : (Jvm.Cond.constantLong "SafetyTreesModel" (164 : Nat) (-1 : Int64)) ∈ tblG := tg_r (i := 796) (by decide +kernel) (by decide +kernel)
theorem tw_797 : (Jvm.Cond.methodLink "SafetyTreesModel" (170 : Nat) ({ cls := "SafetyTreesModel", name := "exactChance", desc := "(II)J" } : Jvm.MethodName)) ∈ tblG := tg_r (i := 797) (by decide +kernel) (by decide +kernel)
theorem tw_799 : (Jvm.Cond.instanceMethod ({ cls := "SafetyTreesModel", name := "exactChance", desc := "(II)J" } : Jvm.MethodName)) ∈ tblG := tg_r (i := 799) (by decide +kernel) (by decide +kernel)
theorem tw_800 : (Jvm.Cond.code ({ cls := "SafetyTreesModel", name := "exactChance", desc := "(II)J" } : Jvm.MethodName) prog_10_method_22_code (8 : Nat) (Option.some Jvm.ClassFile.FieldType.long)) ∈ tblG := tg_r (i := 800) (by decide +kernel) (by decide +kernel)
theorem tw_801 : (Jvm.Cond.methodLink "SafetyTreesModel" (145 : Nat) ({ cls := "SafetyTreesModel", name := "spread", desc := "(IJJ)V" } : Jvm.MethodName)) ∈ tblG := tg_r (i := 801) (by decide +kernel) (by decide +kernel)
theorem tw_803 : (Jvm.Cond.instanceMethod ({ cls := "SafetyTreesModel", name := "spread", desc := "(IJJ)V" } : Jvm.MethodName)) ∈ tblG := tg_r (i := 803) (by decide +kernel) (by decide +kernel)
theorem tw_804 : (Jvm.Cond.code ({ cls := "SafetyTreesModel", name := "spread", desc := "(IJJ)V" } : Jvm.MethodName) prog_10_method_23_code (9 : Nat) (Option.none : Option Jvm.ClassFile.FieldType)) ∈ tblG := tg_r (i := 804) (by decide +kernel) (by decide +kernel)
theorem tw_805 : (Jvm.Cond.methodLink "SafetyTreesModel" (152 : Nat) ({ cls := "SafetyTreesModel", name := "bitsOf", desc := "(I)I" } : Jvm.MethodName)) ∈ tblG := tg_r (i := 805) (by decide +kernel) (by decide +kernel)
theorem tw_807 : (Jvm.Cond.instanceMethod ({ cls := "SafetyTreesModel", name := "bitsOf", desc := "(I)I" } : Jvm.MethodName)) ∈ tblG := tg_r (i := 807) (by decide +kernel) (by decide +kernel)
theorem tw_808 : (Jvm.Cond.code ({ cls := "SafetyTreesModel", name := "bitsOf", desc := "(I)I" } : Jvm.MethodName) prog_10_method_21_code (4 : Nat) (Option.some Jvm.ClassFile.FieldType.int)) ∈ tblG := tg_r (i := 808) (by decide +kernel) (by decide +kernel)
theorem tw_809 : (Jvm.Cond.methodLink "SafetyTreesModel" (155 : Nat) ({ cls := "SafetyTreesModel", name := "lowest", desc := "(JJI)J" } : Jvm.MethodName)) ∈ tblG := tg_r (i := 809) (by decide +kernel) (by decide +kernel)
theorem tw_810 : (Jvm.Cond.static ({ cls := "SafetyTreesModel", name := "lowest", desc := "(JJI)J" } : Jvm.MethodName)) ∈ tblG := tg_r (i := 810) (by decide +kernel) (by decide +kernel)
theorem tw_811 : (Jvm.Cond.code ({ cls := "SafetyTreesModel", name := "lowest", desc := "(JJI)J" } : Jvm.MethodName) prog_10_method_20_code (7 : Nat) (Option.some Jvm.ClassFile.FieldType.long)) ∈ tblG := tg_r (i := 811) (by decide +kernel) (by decide +kernel)
theorem tw_812 : (Jvm.Cond.methodLink "SafetyTreesModel" (141 : Nat) ({ cls := "SafetyTreesModel", name := "gcd", desc := "(JJ)J" } : Jvm.MethodName)) ∈ tblG := tg_r (i := 812) (by decide +kernel) (by decide +kernel)
theorem tw_813 : (Jvm.Cond.static ({ cls := "SafetyTreesModel", name := "gcd", desc := "(JJ)J" } : Jvm.MethodName)) ∈ tblG := tg_r (i := 813) (by decide +kernel) (by decide +kernel)
theorem tw_814 : (Jvm.Cond.code ({ cls := "SafetyTreesModel", name := "gcd", desc := "(JJ)J" } : Jvm.MethodName) prog_10_method_19_code (10 : Nat) (Option.some Jvm.ClassFile.FieldType.long)) ∈ tblG := tg_r (i := 814) (by decide +kernel) (by decide +kernel)
theorem tw_815 : (Jvm.Cond.methodLink "SafetyTreesModel" (174 : Nat) ({ cls := "SafetyTreesModel", name := "boundChance", desc := "(II)J" } : Jvm.MethodName)) ∈ tblG := tg_r (i := 815) (by decide +kernel) (by decide +kernel)
theorem tw_817 : (Jvm.Cond.instanceMethod ({ cls := "SafetyTreesModel", name := "boundChance", desc := "(II)J" } : Jvm.MethodName)) ∈ tblG := tg_r (i := 817) (by decide +kernel) (by decide +kernel)
theorem tw_818 : (Jvm.Cond.code ({ cls := "SafetyTreesModel", name := "boundChance", desc := "(II)J" } : Jvm.MethodName) prog_10_method_25_code (9 : Nat) (Option.some Jvm.ClassFile.FieldType.long)) ∈ tblG := tg_r (i := 818) (by decide +kernel) (by decide +kernel)
theorem tw_819 : (Jvm.Cond.methodLink "SafetyTreesModel" (159 : Nat) ({ cls := "SafetyTreesModel", name := "boundOfEvent", desc := "(I)I" } : Jvm.MethodName)) ∈ tblG := tg_r (i := 819) (by decide +kernel) (by decide +kernel)
theorem tw_821 : (Jvm.Cond.instanceMethod ({ cls := "SafetyTreesModel", name := "boundOfEvent", desc := "(I)I" } : Jvm.MethodName)) ∈ tblG := tg_r (i := 821) (by decide +kernel) (by decide +kernel)
theorem tw_822 : (Jvm.Cond.code ({ cls := "SafetyTreesModel", name := "boundOfEvent", desc := "(I)I" } : Jvm.MethodName) prog_10_method_24_code (4 : Nat) (Option.some Jvm.ClassFile.FieldType.int)) ∈ tblG := tg_r (i := 822) (by decide +kernel) (by decide +kernel)
theorem tw_823 : (Jvm.Cond.constantLong "SafetyTreesModel" (162 : Nat) (2520 : Int64)) ∈ tblG := tg_r (i := 823) (by decide +kernel) (by decide +kernel)
theorem tw_824 : (Jvm.Cond.methodLink "SafetyTreesLaw" (52 : Nat) ({ cls := "SafetyTreesModel", name := "exact", desc := "()Z" } : Jvm.MethodName)) ∈ tblG := tg_r (i := 824) (by decide +kernel) (by decide +kernel)
theorem tw_825 : (Jvm.Cond.instanceMethod ({ cls := "SafetyTreesModel", name := "exact", desc := "()Z" } : Jvm.MethodName)) ∈ tblG := tg_r (i := 825) (by decide +kernel) (by decide +kernel)
theorem tw_826 : (Jvm.Cond.selects "SafetyTreesModel" ({ cls := "SafetyTreesModel", name := "exact", desc := "()Z" } : Jvm.MethodName) ({ cls := "SafetyTreesModel", name := "exact", desc := "()Z" } : Jvm.MethodName)) ∈ tblG := tg_r (i := 826) (by decide +kernel) (by decide +kernel)
theorem tw_827 : (Jvm.Cond.code ({ cls := "SafetyTreesModel", name := "exact", desc := "()Z" } : Jvm.MethodName) prog_10_method_27_code (1 : Nat) (Option.some Jvm.ClassFile.FieldType.boolean)) ∈ tblG := tg_r (i := 827) (by decide +kernel) (by decide +kernel)
theorem tw_828 : (Jvm.Cond.methodLink "SafetyTreesLaw" (57 : Nat) ({ cls := "SafetyTreesModel", name := "common", desc := "(IIJJ)I" } : Jvm.MethodName)) ∈ tblG := tg_r (i := 828) (by decide +kernel) (by decide +kernel)
theorem tw_829 : (Jvm.Cond.instanceMethod ({ cls := "SafetyTreesModel", name := "common", desc := "(IIJJ)I" } : Jvm.MethodName)) ∈ tblG := tg_r (i := 829) (by decide +kernel) (by decide +kernel)
theorem tw_830 : (Jvm.Cond.selects "SafetyTreesModel" ({ cls := "SafetyTreesModel", name := "common", desc := "(IIJJ)I" } : Jvm.MethodName) ({ cls := "SafetyTreesModel", name := "common", desc := "(IIJJ)I" } : Jvm.MethodName)) ∈ tblG := tg_r (i := 830) (by decide +kernel) (by decide +kernel)
theorem tw_831 : (Jvm.Cond.code ({ cls := "SafetyTreesModel", name := "common", desc := "(IIJJ)I" } : Jvm.MethodName) prog_10_method_28_code (7 : Nat) (Option.some Jvm.ClassFile.FieldType.int)) ∈ tblG := tg_r (i := 831) (by decide +kernel) (by decide +kernel)
theorem tw_832 : (Jvm.Cond.methodLink "SafetyTreesModel" (177 : Nat) ({ cls := "SafetyTreesModel", name := "isEvent", desc := "(I)Z" } : Jvm.MethodName)) ∈ tblG := tg_r (i := 832) (by decide +kernel) (by decide +kernel)
theorem tw_834 : (Jvm.Cond.instanceMethod ({ cls := "SafetyTreesModel", name := "isEvent", desc := "(I)Z" } : Jvm.MethodName)) ∈ tblG := tg_r (i := 834) (by decide +kernel) (by decide +kernel)
theorem tw_835 : (Jvm.Cond.code ({ cls := "SafetyTreesModel", name := "isEvent", desc := "(I)Z" } : Jvm.MethodName) prog_10_method_5_code (2 : Nat) (Option.some Jvm.ClassFile.FieldType.boolean)) ∈ tblG := tg_r (i := 835) (by decide +kernel) (by decide +kernel)
theorem tw_836 : (Jvm.Cond.methodLink "SafetyTreesLaw" (62 : Nat) ({ cls := "SafetyTreesModel", name := "grade", desc := "(III)I" } : Jvm.MethodName)) ∈ tblG := tg_r (i := 836) (by decide +kernel) (by decide +kernel)
theorem tw_837 : (Jvm.Cond.instanceMethod ({ cls := "SafetyTreesModel", name := "grade", desc := "(III)I" } : Jvm.MethodName)) ∈ tblG := tg_r (i := 837) (by decide +kernel) (by decide +kernel)
theorem tw_838 : (Jvm.Cond.selects "SafetyTreesModel" ({ cls := "SafetyTreesModel", name := "grade", desc := "(III)I" } : Jvm.MethodName) ({ cls := "SafetyTreesModel", name := "grade", desc := "(III)I" } : Jvm.MethodName)) ∈ tblG := tg_r (i := 838) (by decide +kernel) (by decide +kernel)
theorem tw_839 : (Jvm.Cond.code ({ cls := "SafetyTreesModel", name := "grade", desc := "(III)I" } : Jvm.MethodName) prog_10_method_29_code (5 : Nat) (Option.some Jvm.ClassFile.FieldType.int)) ∈ tblG := tg_r (i := 839) (by decide +kernel) (by decide +kernel)
theorem tw_840 : (Jvm.Cond.constantLong "SafetyTreesModel" (180 : Nat) (3 : Int64)) ∈ tblG := tg_r (i := 840) (by decide +kernel) (by decide +kernel)
theorem tw_841 : (Jvm.Cond.constantLong "SafetyTreesModel" (182 : Nat) (4 : Int64)) ∈ tblG := tg_r (i := 841) (by decide +kernel) (by decide +kernel)
theorem tw_842 : (Jvm.Cond.methodLink "SafetyTreesLaw" (67 : Nat) ({ cls := "SafetyTreesModel", name := "goal", desc := "(I)I" } : Jvm.MethodName)) ∈ tblG := tg_r (i := 842) (by decide +kernel) (by decide +kernel)
theorem tw_843 : (Jvm.Cond.instanceMethod ({ cls := "SafetyTreesModel", name := "goal", desc := "(I)I" } : Jvm.MethodName)) ∈ tblG := tg_r (i := 843) (by decide +kernel) (by decide +kernel)
theorem tw_844 : (Jvm.Cond.selects "SafetyTreesModel" ({ cls := "SafetyTreesModel", name := "goal", desc := "(I)I" } : Jvm.MethodName) ({ cls := "SafetyTreesModel", name := "goal", desc := "(I)I" } : Jvm.MethodName)) ∈ tblG := tg_r (i := 844) (by decide +kernel) (by decide +kernel)
theorem tw_845 : (Jvm.Cond.code ({ cls := "SafetyTreesModel", name := "goal", desc := "(I)I" } : Jvm.MethodName) prog_10_method_30_code (2 : Nat) (Option.some Jvm.ClassFile.FieldType.int)) ∈ tblG := tg_r (i := 845) (by decide +kernel) (by decide +kernel)
theorem tw_846 : (Jvm.Cond.methodLink "SafetyTreesLaw" (71 : Nat) ({ cls := "SafetyTreesModel", name := "trace", desc := "(III)I" } : Jvm.MethodName)) ∈ tblG := tg_r (i := 846) (by decide +kernel) (by decide +kernel)
theorem tw_847 : (Jvm.Cond.instanceMethod ({ cls := "SafetyTreesModel", name := "trace", desc := "(III)I" } : Jvm.MethodName)) ∈ tblG := tg_r (i := 847) (by decide +kernel) (by decide +kernel)
theorem tw_848 : (Jvm.Cond.selects "SafetyTreesModel" ({ cls := "SafetyTreesModel", name := "trace", desc := "(III)I" } : Jvm.MethodName) ({ cls := "SafetyTreesModel", name := "trace", desc := "(III)I" } : Jvm.MethodName)) ∈ tblG := tg_r (i := 848) (by decide +kernel) (by decide +kernel)
theorem tw_849 : (Jvm.Cond.code ({ cls := "SafetyTreesModel", name := "trace", desc := "(III)I" } : Jvm.MethodName) prog_10_method_31_code (5 : Nat) (Option.some Jvm.ClassFile.FieldType.int)) ∈ tblG := tg_r (i := 849) (by decide +kernel) (by decide +kernel)
theorem tw_850 : (Jvm.Cond.constantLong "SafetyTreesModel" (187 : Nat) (50 : Int64)) ∈ tblG := tg_r (i := 850) (by decide +kernel) (by decide +kernel)
theorem tw_851 : (Jvm.Cond.methodLink "SafetyTreesLaw" (75 : Nat) ({ cls := "SafetyTreesModel", name := "open", desc := "(I)I" } : Jvm.MethodName)) ∈ tblG := tg_r (i := 851) (by decide +kernel) (by decide +kernel)
theorem tw_852 : (Jvm.Cond.instanceMethod ({ cls := "SafetyTreesModel", name := "open", desc := "(I)I" } : Jvm.MethodName)) ∈ tblG := tg_r (i := 852) (by decide +kernel) (by decide +kernel)
theorem tw_853 : (Jvm.Cond.selects "SafetyTreesModel" ({ cls := "SafetyTreesModel", name := "open", desc := "(I)I" } : Jvm.MethodName) ({ cls := "SafetyTreesModel", name := "open", desc := "(I)I" } : Jvm.MethodName)) ∈ tblG := tg_r (i := 853) (by decide +kernel) (by decide +kernel)
theorem tw_854 : (Jvm.Cond.code ({ cls := "SafetyTreesModel", name := "open", desc := "(I)I" } : Jvm.MethodName) prog_10_method_33_code (4 : Nat) (Option.some Jvm.ClassFile.FieldType.int)) ∈ tblG := tg_r (i := 854) (by decide +kernel) (by decide +kernel)
theorem tw_855 : (Jvm.Cond.methodLink "SafetyTreesModel" (192 : Nat) ({ cls := "SafetyTreesModel", name := "rowsOf", desc := "(IIZ)I" } : Jvm.MethodName)) ∈ tblG := tg_r (i := 855) (by decide +kernel) (by decide +kernel)
theorem tw_857 : (Jvm.Cond.instanceMethod ({ cls := "SafetyTreesModel", name := "rowsOf", desc := "(IIZ)I" } : Jvm.MethodName)) ∈ tblG := tg_r (i := 857) (by decide +kernel) (by decide +kernel)
theorem tw_858 : (Jvm.Cond.code ({ cls := "SafetyTreesModel", name := "rowsOf", desc := "(IIZ)I" } : Jvm.MethodName) prog_10_method_32_code (7 : Nat) (Option.some Jvm.ClassFile.FieldType.int)) ∈ tblG := tg_r (i := 858) (by decide +kernel) (by decide +kernel)
theorem tw_859 : (Jvm.Cond.methodLink "SafetyTreesLaw" (81 : Nat) ({ cls := "SafetyTreesModel", name := "cover", desc := "(II)J" } : Jvm.MethodName)) ∈ tblG := tg_r (i := 859) (by decide +kernel) (by decide +kernel)
theorem tw_860 : (Jvm.Cond.instanceMethod ({ cls := "SafetyTreesModel", name := "cover", desc := "(II)J" } : Jvm.MethodName)) ∈ tblG := tg_r (i := 860) (by decide +kernel) (by decide +kernel)
theorem tw_861 : (Jvm.Cond.selects "SafetyTreesModel" ({ cls := "SafetyTreesModel", name := "cover", desc := "(II)J" } : Jvm.MethodName) ({ cls := "SafetyTreesModel", name := "cover", desc := "(II)J" } : Jvm.MethodName)) ∈ tblG := tg_r (i := 861) (by decide +kernel) (by decide +kernel)
theorem tw_862 : (Jvm.Cond.code ({ cls := "SafetyTreesModel", name := "cover", desc := "(II)J" } : Jvm.MethodName) prog_10_method_34_code (4 : Nat) (Option.some Jvm.ClassFile.FieldType.long)) ∈ tblG := tg_r (i := 862) (by decide +kernel) (by decide +kernel)
theorem tw_863 : (Jvm.Cond.constantLong "SafetyTreesLaw" (19 : Nat) (4294967295 : Int64)) ∈ tblG := tg_r (i := 863) (by decide +kernel) (by decide +kernel)
theorem tp_0 : Cond.selects "SafetyTrees$Truth" ⟨"SafetyTrees$Truth", "fillGate", "(II)V"⟩ ⟨"SafetyTrees$Truth", "fillGate", "(II)V"⟩ ∈ tblG := tg_l (i := 0) (by decide +kernel) (by decide +kernel)
theorem tp_1 : Cond.selects "SafetyTrees$Truth" ⟨"SafetyTrees$Truth", "gateWord", "(II)J"⟩ ⟨"SafetyTrees$Truth", "gateWord", "(II)J"⟩ ∈ tblG := tg_l (i := 1) (by decide +kernel) (by decide +kernel)
theorem tp_2 : Cond.selects "SafetyTrees$Truth" ⟨"SafetyTrees$Truth", "allOf", "(II)J"⟩ ⟨"SafetyTrees$Truth", "allOf", "(II)J"⟩ ∈ tblG := tg_l (i := 2) (by decide +kernel) (by decide +kernel)
theorem tp_3 : Cond.selects "SafetyTrees$Truth" ⟨"SafetyTrees$Truth", "anyOf", "(II)J"⟩ ⟨"SafetyTrees$Truth", "anyOf", "(II)J"⟩ ∈ tblG := tg_l (i := 3) (by decide +kernel) (by decide +kernel)
theorem tp_4 : Cond.selects "SafetyTrees$Truth" ⟨"SafetyTrees$Truth", "votesOf", "(II)J"⟩ ⟨"SafetyTrees$Truth", "votesOf", "(II)J"⟩ ∈ tblG := tg_l (i := 4) (by decide +kernel) (by decide +kernel)
theorem tp_5 : Cond.selects "SafetyTrees$Cuts" ⟨"SafetyTrees$Cuts", "find", "(LSafetyTrees$Truth;II)I"⟩ ⟨"SafetyTrees$Cuts", "find", "(LSafetyTrees$Truth;II)I"⟩ ∈ tblG := tg_l (i := 5) (by decide +kernel) (by decide +kernel)
theorem tp_6 : Cond.selects "SafetyTrees$Cuts" ⟨"SafetyTrees$Cuts", "takeOfSize", "(II)V"⟩ ⟨"SafetyTrees$Cuts", "takeOfSize", "(II)V"⟩ ∈ tblG := tg_l (i := 6) (by decide +kernel) (by decide +kernel)
theorem tp_7 : Cond.selects "SafetyTrees$Odds" ⟨"SafetyTrees$Odds", "workExactly", "(II)V"⟩ ⟨"SafetyTrees$Odds", "workExactly", "(II)V"⟩ ∈ tblG := tg_l (i := 7) (by decide +kernel) (by decide +kernel)
theorem tp_8 : Cond.selects "SafetyTrees$Odds" ⟨"SafetyTrees$Odds", "weighSets", "(II)V"⟩ ⟨"SafetyTrees$Odds", "weighSets", "(II)V"⟩ ∈ tblG := tg_l (i := 8) (by decide +kernel) (by decide +kernel)
theorem tp_9 : Cond.selects "SafetyTrees$Odds" ⟨"SafetyTrees$Odds", "mix", "(IIJJ)V"⟩ ⟨"SafetyTrees$Odds", "mix", "(IIJJ)V"⟩ ∈ tblG := tg_l (i := 9) (by decide +kernel) (by decide +kernel)
theorem tp_10 : Cond.selects "SafetyTrees$Odds" ⟨"SafetyTrees$Odds", "workBound", "(I)V"⟩ ⟨"SafetyTrees$Odds", "workBound", "(I)V"⟩ ∈ tblG := tg_l (i := 10) (by decide +kernel) (by decide +kernel)
theorem tp_11 : Cond.selects "SafetyTrees$Odds" ⟨"SafetyTrees$Odds", "eventBound", "(I)J"⟩ ⟨"SafetyTrees$Odds", "eventBound", "(I)J"⟩ ∈ tblG := tg_l (i := 11) (by decide +kernel) (by decide +kernel)
theorem tp_12 : Cond.selects "SafetyTrees$Odds" ⟨"SafetyTrees$Odds", "gateBound", "(I)J"⟩ ⟨"SafetyTrees$Odds", "gateBound", "(I)J"⟩ ∈ tblG := tg_l (i := 12) (by decide +kernel) (by decide +kernel)
theorem tp_13 : Cond.selects "SafetyTrees$Goals" ⟨"SafetyTrees$Goals", "isGoalOpen", "(I)Z"⟩ ⟨"SafetyTrees$Goals", "isGoalOpen", "(I)Z"⟩ ∈ tblG := tg_l (i := 13) (by decide +kernel) (by decide +kernel)
theorem tp_14 : Cond.selects "SafetyTrees$Goals" ⟨"SafetyTrees$Goals", "isPartOpen", "(I)Z"⟩ ⟨"SafetyTrees$Goals", "isPartOpen", "(I)Z"⟩ ∈ tblG := tg_l (i := 14) (by decide +kernel) (by decide +kernel)
theorem tp_15 : Cond.selects "java/lang/Throwable" ⟨"java/lang/Throwable", "fillInStackTrace", "(I)Ljava/lang/Throwable;"⟩ ⟨"java/lang/Throwable", "fillInStackTrace", "(I)Ljava/lang/Throwable;"⟩ ∈ tblG := tg_l (i := 15) (by decide +kernel) (by decide +kernel)
theorem tp_16 : Cond.selects "SafetyTreesModel" ⟨"SafetyTreesModel", "isGate", "(I)Z"⟩ ⟨"SafetyTreesModel", "isGate", "(I)Z"⟩ ∈ tblG := tg_l (i := 16) (by decide +kernel) (by decide +kernel)
theorem tp_17 : Cond.selects "SafetyTreesModel" ⟨"SafetyTreesModel", "mark", "(I)V"⟩ ⟨"SafetyTreesModel", "mark", "(I)V"⟩ ∈ tblG := tg_l (i := 17) (by decide +kernel) (by decide +kernel)
theorem tp_18 : Cond.selects "SafetyTreesModel" ⟨"SafetyTreesModel", "prepare", "(I)V"⟩ ⟨"SafetyTreesModel", "prepare", "(I)V"⟩ ∈ tblG := tg_l (i := 18) (by decide +kernel) (by decide +kernel)
theorem tp_19 : Cond.selects "SafetyTreesModel" ⟨"SafetyTreesModel", "isReady", "(I)Z"⟩ ⟨"SafetyTreesModel", "isReady", "(I)Z"⟩ ∈ tblG := tg_l (i := 19) (by decide +kernel) (by decide +kernel)
theorem tp_20 : Cond.selects "SafetyTreesModel" ⟨"SafetyTreesModel", "tryAll", "(I)V"⟩ ⟨"SafetyTreesModel", "tryAll", "(I)V"⟩ ∈ tblG := tg_l (i := 20) (by decide +kernel) (by decide +kernel)
theorem tp_21 : Cond.selects "SafetyTreesModel" ⟨"SafetyTreesModel", "bit", "(I)I"⟩ ⟨"SafetyTreesModel", "bit", "(I)I"⟩ ∈ tblG := tg_l (i := 21) (by decide +kernel) (by decide +kernel)
theorem tp_22 : Cond.selects "SafetyTreesModel" ⟨"SafetyTreesModel", "isMinimal", "(I)Z"⟩ ⟨"SafetyTreesModel", "isMinimal", "(I)Z"⟩ ∈ tblG := tg_l (i := 22) (by decide +kernel) (by decide +kernel)
theorem tp_23 : Cond.selects "SafetyTreesModel" ⟨"SafetyTreesModel", "exactChance", "(II)J"⟩ ⟨"SafetyTreesModel", "exactChance", "(II)J"⟩ ∈ tblG := tg_l (i := 23) (by decide +kernel) (by decide +kernel)
theorem tp_24 : Cond.selects "SafetyTreesModel" ⟨"SafetyTreesModel", "spread", "(IJJ)V"⟩ ⟨"SafetyTreesModel", "spread", "(IJJ)V"⟩ ∈ tblG := tg_l (i := 24) (by decide +kernel) (by decide +kernel)
theorem tp_25 : Cond.selects "SafetyTreesModel" ⟨"SafetyTreesModel", "bitsOf", "(I)I"⟩ ⟨"SafetyTreesModel", "bitsOf", "(I)I"⟩ ∈ tblG := tg_l (i := 25) (by decide +kernel) (by decide +kernel)
theorem tp_26 : Cond.selects "SafetyTreesModel" ⟨"SafetyTreesModel", "boundChance", "(II)J"⟩ ⟨"SafetyTreesModel", "boundChance", "(II)J"⟩ ∈ tblG := tg_l (i := 26) (by decide +kernel) (by decide +kernel)
theorem tp_27 : Cond.selects "SafetyTreesModel" ⟨"SafetyTreesModel", "boundOfEvent", "(I)I"⟩ ⟨"SafetyTreesModel", "boundOfEvent", "(I)I"⟩ ∈ tblG := tg_l (i := 27) (by decide +kernel) (by decide +kernel)
theorem tp_28 : Cond.selects "SafetyTreesModel" ⟨"SafetyTreesModel", "isEvent", "(I)Z"⟩ ⟨"SafetyTreesModel", "isEvent", "(I)Z"⟩ ∈ tblG := tg_l (i := 28) (by decide +kernel) (by decide +kernel)
theorem tp_29 : Cond.selects "SafetyTreesModel" ⟨"SafetyTreesModel", "rowsOf", "(IIZ)I"⟩ ⟨"SafetyTreesModel", "rowsOf", "(IIZ)I"⟩ ∈ tblG := tg_l (i := 29) (by decide +kernel) (by decide +kernel)
end
section
/-! Rows of this claim's own, between the kit's and the walks: contracts over one whole world, numbers by Nat. -/
/-- a boolean answer -/
def b2 (b : Bool) : Int32 := if b = true then 1 else 0
theorem b2_t : b2 true = 1 := rfl
theorem b2_f : b2 false = 0 := rfl
theorem b2T {b : Bool} (h : b = true) : nI 1 = b2 b := by rw [h]; rfl
theorem b2F {b : Bool} (h : b = false) : nI 0 = b2 b := by rw [h]; rfl
theorem b2_eq0 {b : Bool} : b2 b = 0 ↔ b = false := by cases b <;> simp [b2]
theorem b2_dec {P : Prop} {h : Decidable P} (hp : P) : nI 1 = b2 (decide P) := by simp [b2, hp]; rfl
theorem b2_decN {P : Prop} {h : Decidable P} (hp : ¬ P) : nI 0 = b2 (decide P) := by simp [b2, hp]; rfl
/-- contracts: the method keeps to the world w0, leaves w1 and answers r -/
def ct_i (l : Launch) (g : va_G) (cl : List vw_C) (tys : List (ClassId × FieldType)) (y : MethodName) (cc : ByteArray) (maxL : Nat) (ret : Option FieldType) (rm : Room) (av : List Value) (w0 w1 : va_W) (r : Int32) : Prop :=
  ∀ sz : Nat, Met l y (Cond.code y cc maxL ret :: tblG) rm (va_Pc av (fun U => U.heap.size = sz ∧ va_P g cl w0 U.heap ∧ va_K g cl tys U ∧ va_D (fun _ => True) w0 ∧ nst U)) (va_Qi (fun (x : Int32) (_ : Unit) => x = r) (fun _ t => va_P g cl w1 t.heap ∧ va_K g cl tys t ∧ va_D (va_A w0 sz) w1) (va_A w0 sz)) 0 0 (va_A w0 sz)
def ct_l (l : Launch) (g : va_G) (cl : List vw_C) (tys : List (ClassId × FieldType)) (y : MethodName) (cc : ByteArray) (maxL : Nat) (ret : Option FieldType) (rm : Room) (av : List Value) (w0 w1 : va_W) (r : Int64) : Prop :=
  ∀ sz : Nat, Met l y (Cond.code y cc maxL ret :: tblG) rm (va_Pc av (fun U => U.heap.size = sz ∧ va_P g cl w0 U.heap ∧ va_K g cl tys U ∧ va_D (fun _ => True) w0 ∧ nst U)) (va_Ql (fun (x : Int64) (_ : Unit) => x = r) (fun _ t => va_P g cl w1 t.heap ∧ va_K g cl tys t ∧ va_D (va_A w0 sz) w1) (va_A w0 sz)) 0 0 (va_A w0 sz)
def ct_v (l : Launch) (g : va_G) (cl : List vw_C) (tys : List (ClassId × FieldType)) (y : MethodName) (cc : ByteArray) (maxL : Nat) (ret : Option FieldType) (rm : Room) (av : List Value) (w0 w1 : va_W) : Prop :=
  ∀ sz : Nat, Met l y (Cond.code y cc maxL ret :: tblG) rm (va_Pc av (fun U => U.heap.size = sz ∧ va_P g cl w0 U.heap ∧ va_K g cl tys U ∧ va_D (fun _ => True) w0 ∧ nst U)) (va_Qv (fun (_ : Unit) => True) (fun _ t => va_P g cl w1 t.heap ∧ va_K g cl tys t ∧ va_D (va_A w0 sz) w1) (va_A w0 sz)) 0 0 (va_A w0 sz)
section MYC
variable {l : Launch} {g : va_G} {cl : List vw_C} {tys : List (ClassId × FieldType)} {y : MethodName} {rm : Room} {av : List Value} {w0 w1 : va_W} {cc : ByteArray} {maxL : Nat}
theorem ct_i.intro {r : Int32} (hy : plainName y.cls = true) (hlen : (lg_sl av).length ≤ maxL)
    (body : ∀ (p : Program) (e : Env) (s : State) (m : MethodId) (args : Array Value) (below : List Frame) (meth : Method) (c : Code) (Q : State → Prop) (A : Nat → Prop) (ls : Array Slot),
      p.tables.exec = Jvm.exec → c.code = cc → c.maxLocals = maxL → (∀ w ∈ tblG, w.before args s = true) → s.vm.findClass y.cls = some m.cls → (∀ q : Nat, s.heap.size ≤ q → A q) → va_K g cl tys s → nst s →
      (∀ (H : Heap) (locs : List Loc) (pc : Nat) (ls : Array Slot) (v : Int32), va_P g cl w1 H → va_D A w1 → va_S A s.heap H locs → decode cc pc = .ok (.ireturn, 1) → v = r → W p l e rm s m args below meth c H locs 0 0 Q (F0 m pc ls [.int v])) →
      va_P g cl w0 s.heap → va_D A w0 → va_S A s.heap s.heap [] → lv_has ls maxL (lv_args 0 av) → W p l e rm s m args below meth c s.heap [] 0 0 Q (F0 m 0 ls [])) : ct_i l g cl tys y cc maxL (some .int) rm av w0 w1 r := by
  intro sz
  refine Met.ofW (cc := cc) (maxL := maxL) (ret := some .int) hy rfl ?_
  intro p e s m args below meth c s₁ B hml hv
  obtain ⟨rfl, hsz, hP, hK, hD0, hN⟩ := hv
  have hts0 := atoms_spec (ws := Cond.code y cc maxL _ :: tblG) B.pre
  have hts : ∀ w ∈ tblG, w.before av.toArray s = true := fun w h => hts0 w (List.mem_cons_of_mem _ h)
  have hown : s.vm.findClass y.cls = some m.cls := findClass_of_methodNamed B.named
  have hlocks := B.notSynchronized
  subst hsz
  have hD := hD0.self (sz := s.heap.size)
  have hl := lv_entry av (n := maxL) hlen
  rw [lg_entry_eq]
  refine body p e s m av.toArray below meth c _ (va_A w0 s.heap.size) _ B.exec B.bytes hml hts hown (fun q h => Or.inr h) hK hN ?_ hP hD va_S.rf hl
  intro H locs pc ls v h1 h2 h3 h4 h5
  exact W.iret (v := v) B.exec B.bytes B.returns (fun t ht hW => ⟨⟨v, (), rfl, h5, by rw [ht]; exact h1, va_K.moved hW.alike hK, h2⟩, h3.F ht⟩) h3.2.2 h4
theorem ct_i.introZ {b : Bool} (hy : plainName y.cls = true) (hlen : (lg_sl av).length ≤ maxL)
    (body : ∀ (p : Program) (e : Env) (s : State) (m : MethodId) (args : Array Value) (below : List Frame) (meth : Method) (c : Code) (Q : State → Prop) (A : Nat → Prop) (ls : Array Slot),
      p.tables.exec = Jvm.exec → c.code = cc → c.maxLocals = maxL → (∀ w ∈ tblG, w.before args s = true) → s.vm.findClass y.cls = some m.cls → (∀ q : Nat, s.heap.size ≤ q → A q) → va_K g cl tys s → nst s →
      (∀ (H : Heap) (locs : List Loc) (pc : Nat) (ls : Array Slot) (v : Int32), va_P g cl w1 H → va_D A w1 → va_S A s.heap H locs → decode cc pc = .ok (.ireturn, 1) → v = b2 b → W p l e rm s m args below meth c H locs 0 0 Q (F0 m pc ls [.int v])) →
      va_P g cl w0 s.heap → va_D A w0 → va_S A s.heap s.heap [] → lv_has ls maxL (lv_args 0 av) → W p l e rm s m args below meth c s.heap [] 0 0 Q (F0 m 0 ls [])) : ct_i l g cl tys y cc maxL (some .boolean) rm av w0 w1 (b2 b) := by
  intro sz
  refine Met.ofW (cc := cc) (maxL := maxL) (ret := some .boolean) hy rfl ?_
  intro p e s m args below meth c s₁ B hml hv
  obtain ⟨rfl, hsz, hP, hK, hD0, hN⟩ := hv
  have hts0 := atoms_spec (ws := Cond.code y cc maxL _ :: tblG) B.pre
  have hts : ∀ w ∈ tblG, w.before av.toArray s = true := fun w h => hts0 w (List.mem_cons_of_mem _ h)
  have hown : s.vm.findClass y.cls = some m.cls := findClass_of_methodNamed B.named
  have hlocks := B.notSynchronized
  subst hsz
  have hD := hD0.self (sz := s.heap.size)
  have hl := lv_entry av (n := maxL) hlen
  rw [lg_entry_eq]
  refine body p e s m av.toArray below meth c _ (va_A w0 s.heap.size) _ B.exec B.bytes hml hts hown (fun q h => Or.inr h) hK hN ?_ hP hD va_S.rf hl
  intro H locs pc ls v h1 h2 h3 h4 h5
  have hn : narrow .boolean (.int v) = .int v := by subst h5; cases b <;> rfl
  exact W.zret (v := v) B.exec B.bytes B.returns hn (fun t ht hW => ⟨⟨v, (), rfl, h5, by rw [ht]; exact h1, va_K.moved hW.alike hK, h2⟩, h3.F ht⟩) h3.2.2 h4
theorem ct_l.intro {r : Int64} (hy : plainName y.cls = true) (hlen : (lg_sl av).length ≤ maxL)
    (body : ∀ (p : Program) (e : Env) (s : State) (m : MethodId) (args : Array Value) (below : List Frame) (meth : Method) (c : Code) (Q : State → Prop) (A : Nat → Prop) (ls : Array Slot),
      p.tables.exec = Jvm.exec → c.code = cc → c.maxLocals = maxL → (∀ w ∈ tblG, w.before args s = true) → s.vm.findClass y.cls = some m.cls → (∀ q : Nat, s.heap.size ≤ q → A q) → va_K g cl tys s → nst s →
      (∀ (H : Heap) (locs : List Loc) (pc : Nat) (ls : Array Slot) (v : Int64), va_P g cl w1 H → va_D A w1 → va_S A s.heap H locs → decode cc pc = .ok (.lreturn, 1) → v = r → W p l e rm s m args below meth c H locs 0 0 Q (F0 m pc ls [.long v])) →
      va_P g cl w0 s.heap → va_D A w0 → va_S A s.heap s.heap [] → lv_has ls maxL (lv_args 0 av) → W p l e rm s m args below meth c s.heap [] 0 0 Q (F0 m 0 ls [])) : ct_l l g cl tys y cc maxL (some .long) rm av w0 w1 r := by
  intro sz
  refine Met.ofW (cc := cc) (maxL := maxL) (ret := some .long) hy rfl ?_
  intro p e s m args below meth c s₁ B hml hv
  obtain ⟨rfl, hsz, hP, hK, hD0, hN⟩ := hv
  have hts0 := atoms_spec (ws := Cond.code y cc maxL _ :: tblG) B.pre
  have hts : ∀ w ∈ tblG, w.before av.toArray s = true := fun w h => hts0 w (List.mem_cons_of_mem _ h)
  have hown : s.vm.findClass y.cls = some m.cls := findClass_of_methodNamed B.named
  have hlocks := B.notSynchronized
  subst hsz
  have hD := hD0.self (sz := s.heap.size)
  have hl := lv_entry av (n := maxL) hlen
  rw [lg_entry_eq]
  refine body p e s m av.toArray below meth c _ (va_A w0 s.heap.size) _ B.exec B.bytes hml hts hown (fun q h => Or.inr h) hK hN ?_ hP hD va_S.rf hl
  intro H locs pc ls v h1 h2 h3 h4 h5
  exact W.lret (v := v) B.exec B.bytes B.returns (fun t ht hW => ⟨⟨v, (), rfl, h5, by rw [ht]; exact h1, va_K.moved hW.alike hK, h2⟩, h3.F ht⟩) h3.2.2 h4
theorem ct_v.intro (hy : plainName y.cls = true) (hlen : (lg_sl av).length ≤ maxL)
    (body : ∀ (p : Program) (e : Env) (s : State) (m : MethodId) (args : Array Value) (below : List Frame) (meth : Method) (c : Code) (Q : State → Prop) (A : Nat → Prop) (ls : Array Slot),
      p.tables.exec = Jvm.exec → c.code = cc → c.maxLocals = maxL → (∀ w ∈ tblG, w.before args s = true) → s.vm.findClass y.cls = some m.cls → (∀ q : Nat, s.heap.size ≤ q → A q) → va_K g cl tys s → nst s →
      (∀ (H : Heap) (locs : List Loc) (pc : Nat) (ls : Array Slot), va_P g cl w1 H → va_D A w1 → va_S A s.heap H locs → decode cc pc = .ok (.return_, 1) → W p l e rm s m args below meth c H locs 0 0 Q (F0 m pc ls [])) →
      va_P g cl w0 s.heap → va_D A w0 → va_S A s.heap s.heap [] → lv_has ls maxL (lv_args 0 av) → W p l e rm s m args below meth c s.heap [] 0 0 Q (F0 m 0 ls [])) : ct_v l g cl tys y cc maxL none rm av w0 w1 := by
  intro sz
  refine Met.ofW (cc := cc) (maxL := maxL) (ret := none) hy rfl ?_
  intro p e s m args below meth c s₁ B hml hv
  obtain ⟨rfl, hsz, hP, hK, hD0, hN⟩ := hv
  have hts0 := atoms_spec (ws := Cond.code y cc maxL _ :: tblG) B.pre
  have hts : ∀ w ∈ tblG, w.before av.toArray s = true := fun w h => hts0 w (List.mem_cons_of_mem _ h)
  have hown : s.vm.findClass y.cls = some m.cls := findClass_of_methodNamed B.named
  have hlocks := B.notSynchronized
  subst hsz
  have hD := hD0.self (sz := s.heap.size)
  have hl := lv_entry av (n := maxL) hlen
  rw [lg_entry_eq]
  refine body p e s m av.toArray below meth c _ (va_A w0 s.heap.size) _ B.exec B.bytes hml hts hown (fun q h => Or.inr h) hK hN ?_ hP hD va_S.rf hl
  intro H locs pc ls h1 h2 h3 h4
  exact W.vret B.exec B.bytes B.returns (fun t ht hW => ⟨⟨(), rfl, trivial, by rw [ht]; exact h1, va_K.moved hW.alike hK, h2⟩, h3.F ht⟩) h3.2.2 h4
end MYC
theorem my_lc_eq {x y : Int64} : lg_cmp x y = 0 ↔ x = y := by
  unfold lg_cmp
  by_cases h : x > y
  · rw [if_pos h]
    refine ⟨fun q => absurd q (by decide), fun q => ?_⟩
    subst q
    exact absurd h (Int64.lt_irrefl)
  · rw [if_neg h]
    by_cases h2 : x = y
    · rw [if_pos h2]; exact ⟨fun _ => h2, fun _ => rfl⟩
    · rw [if_neg h2]; exact ⟨fun q => absurd q (by decide), fun q => absurd q h2⟩
theorem my_lc_lt {x y : Int64} : lg_cmp x y < 0 ↔ x < y := by
  unfold lg_cmp
  have e : ∀ a b : Int64, a < b ↔ a.toInt < b.toInt := fun a b => Int64.lt_iff_toInt_lt
  have j : ∀ a b : Int64, a = b ↔ a.toInt = b.toInt := fun a b => Int64.toInt_inj.symm
  by_cases h : x > y
  · rw [if_pos h]
    refine ⟨fun q => absurd q (by decide), fun q => ?_⟩
    have h1 := (e y x).mp h
    have h2 := (e x y).mp q
    omega
  · rw [if_neg h]
    by_cases h2 : x = y
    · rw [if_pos h2]; subst h2; exact ⟨fun q => absurd q (by decide), fun q => absurd q h⟩
    · rw [if_neg h2]
      refine ⟨fun _ => ?_, fun _ => by decide⟩
      have h1 : ¬ y.toInt < x.toInt := fun z => h ((e y x).mpr z)
      have h3 : ¬ x.toInt = y.toInt := fun z => h2 ((j x y).mpr z)
      exact (e x y).mpr (by omega)
theorem my_lc_gt {x y : Int64} : 0 < lg_cmp x y ↔ y < x := by
  unfold lg_cmp
  by_cases h : x > y
  · rw [if_pos h]; exact ⟨fun _ => h, fun _ => by decide⟩
  · rw [if_neg h]
    by_cases h2 : x = y
    · rw [if_pos h2]; exact ⟨fun q => absurd q (by decide), fun q => absurd q h⟩
    · rw [if_neg h2]; exact ⟨fun q => absurd q (by decide), fun q => absurd q h⟩
theorem my_i0 (z : Int32) : (0 ≤ z ↔ ¬ z < 0) ∧ (z ≤ 0 ↔ ¬ 0 < z) := by
  rw [Int32.le_iff_toInt_le, Int32.lt_iff_toInt_lt, Int32.le_iff_toInt_le, Int32.lt_iff_toInt_lt]
  omega
theorem my_j0 (x y : Int64) : y ≤ x ↔ ¬ x < y := by
  rw [Int64.le_iff_toInt_le, Int64.lt_iff_toInt_lt]
  omega
theorem my_lc_ge {x y : Int64} : 0 ≤ lg_cmp x y ↔ y ≤ x := by rw [(my_i0 _).1, my_j0, my_lc_lt]
theorem my_lc_le {x y : Int64} : lg_cmp x y ≤ 0 ↔ x ≤ y := by rw [(my_i0 _).2, my_j0, my_lc_gt]
theorem b2_eq0' {b : Bool} : b2 b = 0 ↔ b = false := b2_eq0
section MYR
variable {p : Program} {l : Launch} {e : Env} {R : Room} {s : State} {m : MethodId} {args : Array Value} {below : List Frame} {meth : Method} {c : Code} {H : Heap} {locs : List Loc} {cells slots : Nat} {Q : State → Prop}
variable {cc : ByteArray} {pc : Nat} {ls : Array Slot} {rest st0 : List Value} {g : va_G} {cl : List vw_C} {tys : List (ClassId × FieldType)} {A A1 : Nat → Prop} {w0 w1 : va_W} {av : Array Value} {ws : va_W} {a : Nat} {D : va_G} {H0 : Heap}
theorem my_ei {x y : Int32} (h : x = y) (k : W p l e R s m args below meth c H locs cells slots Q (F0 m pc ls (.int y :: rest))) : W p l e R s m args below meth c H locs cells slots Q (F0 m pc ls (.int x :: rest)) := h ▸ k
theorem my_el {x y : Int64} (h : x = y) (k : W p l e R s m args below meth c H locs cells slots Q (F0 m pc ls (.long y :: rest))) : W p l e R s m args below meth c H locs cells slots Q (F0 m pc ls (.long x :: rest)) := h ▸ k
theorem my_preV {sz ci q0 b : Nat} {q : vw_C} {fs : List Value} {As : List Value} (hsz : H.size = sz) (hN : nst s) (hK : va_K g cl tys s) (hP : va_P g cl w0 H) (hD : va_D A w0) (hc : cl[ci]? = some q) (he : w0[q0]? = some (b, .inr (ci, fs))) :
    PreV s H q.1 b (va_Pc (.ref b :: As) (fun U => U.heap.size = sz ∧ va_P g cl w0 U.heap ∧ va_K g cl tys U ∧ va_D (fun _ => True) w0 ∧ nst U)) As :=
  ⟨fun a U gg mk h => by obtain ⟨q0, q1, qP, qK, qD, qN⟩ := h; exact ⟨q0, q1, qP, va_K.moved (u := U) (U := U.calling gg mk a) (Vm.Alike.refl U.vm) qK, qD, nst.same (u := U) (U := U.calling gg mk a) rfl qN⟩, va_recv hK hP hc he, fun U hU hW => ⟨rfl, by rw [hU]; exact hsz, by rw [hU]; exact hP, va_K.moved hW.alike hK, hD.weaken (fun _ _ _ _ => trivial), nst.warm hW hN⟩⟩
theorem my_preS {sz : Nat} {As : List Value} (hsz : H.size = sz) (hN : nst s) (hK : va_K g cl tys s) (hP : va_P g cl w0 H) (hD : va_D A w0) :
    PreS s H (va_Pc As (fun U => U.heap.size = sz ∧ va_P g cl w0 U.heap ∧ va_K g cl tys U ∧ va_D (fun _ => True) w0 ∧ nst U)) As :=
  ⟨fun a U gg mk h => by obtain ⟨q0, q1, qP, qK, qD, qN⟩ := h; exact ⟨q0, q1, qP, va_K.moved (u := U) (U := U.calling gg mk a) (Vm.Alike.refl U.vm) qK, qD, nst.same (u := U) (U := U.calling gg mk a) rfl qN⟩, fun U hU hW => ⟨rfl, by rw [hU]; exact hsz, by rw [hU]; exact hP, va_K.moved hW.alike hK, hD.weaken (fun _ _ _ _ => trivial), nst.warm hW hN⟩⟩
theorem my_fr (hD : va_D A w0) (hS : va_S A s.heap H locs) (hA : ∀ q : Nat, s.heap.size ≤ q → A q) : ∀ q, va_A w0 H.size q → A q := by
  intro q h
  rcases h with ⟨k, e0, hk⟩ | h
  · exact hD.2 k _ hk
  · exact hA q (Nat.le_trans hS.1 h)
theorem my_calli {r : Int32} (run : va_Run p l e R s m args below meth c H locs cells slots 0 0 (F0 m pc ls st0) rest (va_Qi (fun (x : Int32) (_ : Unit) => x = r) (fun _ t => va_P g cl w1 t.heap ∧ va_K g cl tys t ∧ va_D A1 w1) A1 av) A1) (hS : va_S A s.heap H locs) (hF : ∀ q, A1 q → A q)
    (kk : ∀ (H1 : Heap) (locs1 : List Loc), va_P g cl w1 H1 → va_D A w1 → va_S A s.heap H1 locs1 → W p l e R s m args below meth c H1 locs1 cells slots Q (F0 m (pc + 3) ls (.int r :: rest))) : W p l e R s m args below meth c H locs cells slots Q (F0 m pc ls st0) := by
  refine va_calli run hS (fun q _ h => hF q h) hF (fun r' u t H1 locs1 ht hvm hw hB hz hk hS1 => ?_)
  obtain ⟨hP1, hK1, hD1⟩ := hB
  subst hw
  rw [ht] at hP1
  exact kk H1 locs1 hP1 (hD1.weaken (fun _ _ _ h => hF _ h)) hS1
theorem my_calll {r : Int64} (run : va_Run p l e R s m args below meth c H locs cells slots 0 0 (F0 m pc ls st0) rest (va_Ql (fun (x : Int64) (_ : Unit) => x = r) (fun _ t => va_P g cl w1 t.heap ∧ va_K g cl tys t ∧ va_D A1 w1) A1 av) A1) (hS : va_S A s.heap H locs) (hF : ∀ q, A1 q → A q)
    (kk : ∀ (H1 : Heap) (locs1 : List Loc), va_P g cl w1 H1 → va_D A w1 → va_S A s.heap H1 locs1 → W p l e R s m args below meth c H1 locs1 cells slots Q (F0 m (pc + 3) ls (.long r :: rest))) : W p l e R s m args below meth c H locs cells slots Q (F0 m pc ls st0) := by
  refine va_calll run hS (fun q _ h => hF q h) hF (fun r' u t H1 locs1 ht hvm hw hB hz hk hS1 => ?_)
  obtain ⟨hP1, hK1, hD1⟩ := hB
  subst hw
  rw [ht] at hP1
  exact kk H1 locs1 hP1 (hD1.weaken (fun _ _ _ h => hF _ h)) hS1
theorem my_callv (run : va_Run p l e R s m args below meth c H locs cells slots 0 0 (F0 m pc ls st0) rest (va_Qv (fun (_ : Unit) => True) (fun _ t => va_P g cl w1 t.heap ∧ va_K g cl tys t ∧ va_D A1 w1) A1 av) A1) (hS : va_S A s.heap H locs) (hF : ∀ q, A1 q → A q)
    (kk : ∀ (H1 : Heap) (locs1 : List Loc), va_P g cl w1 H1 → va_D A w1 → va_S A s.heap H1 locs1 → W p l e R s m args below meth c H1 locs1 cells slots Q (F0 m (pc + 3) ls rest)) : W p l e R s m args below meth c H locs cells slots Q (F0 m pc ls st0) := by
  refine va_callv run hS (fun q _ h => hF q h) hF (fun u t H1 locs1 ht hvm hw hB hz hk hS1 => ?_)
  obtain ⟨hP1, hK1, hD1⟩ := hB
  rw [ht] at hP1
  exact kk H1 locs1 hP1 (hD1.weaken (fun _ _ _ h => hF _ h)) hS1
theorem my_icmp_eq (hx : p.tables.exec = Jvm.exec) (hb : c.code = cc) {a b : Nat} {off : Int} {tgt : Nat} (hdg : decode cc pc = .ok (.if_icmp .eq off, 3)) (ht : (pc : Int) + off = (tgt : Int)) (ha : a < 2 ^ 31) (hb2 : b < 2 ^ 31) (kt : a = b → W p l e R s m args below meth c H locs cells slots Q (F0 m tgt ls rest)) (kf : ¬ a = b → W p l e R s m args below meth c H locs cells slots Q (F0 m (pc + 3) ls rest)) : W p l e R s m args below meth c H locs cells slots Q (F0 m pc ls (.int (nI b) :: .int (nI a) :: rest)) := by
  refine lv_icmp_eq hx hb hdg ht (fun q => kt ?_) (fun q => kf ?_)
  all_goals rw [nI_eq ha hb2] at q
  all_goals omega
theorem my_icmp_ne (hx : p.tables.exec = Jvm.exec) (hb : c.code = cc) {a b : Nat} {off : Int} {tgt : Nat} (hdg : decode cc pc = .ok (.if_icmp .ne off, 3)) (ht : (pc : Int) + off = (tgt : Int)) (ha : a < 2 ^ 31) (hb2 : b < 2 ^ 31) (kt : ¬ a = b → W p l e R s m args below meth c H locs cells slots Q (F0 m tgt ls rest)) (kf : a = b → W p l e R s m args below meth c H locs cells slots Q (F0 m (pc + 3) ls rest)) : W p l e R s m args below meth c H locs cells slots Q (F0 m pc ls (.int (nI b) :: .int (nI a) :: rest)) := by
  refine lv_icmp_ne hx hb hdg ht (fun q => kt ?_) (fun q => kf ?_)
  all_goals rw [nI_eq ha hb2] at q
  all_goals omega
theorem my_icmp_lt (hx : p.tables.exec = Jvm.exec) (hb : c.code = cc) {a b : Nat} {off : Int} {tgt : Nat} (hdg : decode cc pc = .ok (.if_icmp .lt off, 3)) (ht : (pc : Int) + off = (tgt : Int)) (ha : a < 2 ^ 31) (hb2 : b < 2 ^ 31) (kt : a < b → W p l e R s m args below meth c H locs cells slots Q (F0 m tgt ls rest)) (kf : b ≤ a → W p l e R s m args below meth c H locs cells slots Q (F0 m (pc + 3) ls rest)) : W p l e R s m args below meth c H locs cells slots Q (F0 m pc ls (.int (nI b) :: .int (nI a) :: rest)) := by
  refine lv_icmp_lt hx hb hdg ht (fun q => kt ?_) (fun q => kf ?_)
  all_goals rw [nI_ltI ha hb2] at q
  all_goals omega
theorem my_icmp_ge (hx : p.tables.exec = Jvm.exec) (hb : c.code = cc) {a b : Nat} {off : Int} {tgt : Nat} (hdg : decode cc pc = .ok (.if_icmp .ge off, 3)) (ht : (pc : Int) + off = (tgt : Int)) (ha : a < 2 ^ 31) (hb2 : b < 2 ^ 31) (kt : b ≤ a → W p l e R s m args below meth c H locs cells slots Q (F0 m tgt ls rest)) (kf : a < b → W p l e R s m args below meth c H locs cells slots Q (F0 m (pc + 3) ls rest)) : W p l e R s m args below meth c H locs cells slots Q (F0 m pc ls (.int (nI b) :: .int (nI a) :: rest)) := by
  refine lv_icmp_ge hx hb hdg ht (fun q => kt ?_) (fun q => kf ?_)
  all_goals rw [nI_leI hb2 ha] at q
  all_goals omega
theorem my_icmp_gt (hx : p.tables.exec = Jvm.exec) (hb : c.code = cc) {a b : Nat} {off : Int} {tgt : Nat} (hdg : decode cc pc = .ok (.if_icmp .gt off, 3)) (ht : (pc : Int) + off = (tgt : Int)) (ha : a < 2 ^ 31) (hb2 : b < 2 ^ 31) (kt : b < a → W p l e R s m args below meth c H locs cells slots Q (F0 m tgt ls rest)) (kf : a ≤ b → W p l e R s m args below meth c H locs cells slots Q (F0 m (pc + 3) ls rest)) : W p l e R s m args below meth c H locs cells slots Q (F0 m pc ls (.int (nI b) :: .int (nI a) :: rest)) := by
  refine lv_icmp_gt hx hb hdg ht (fun q => kt ?_) (fun q => kf ?_)
  all_goals rw [nI_ltI hb2 ha] at q
  all_goals omega
theorem my_icmp_le (hx : p.tables.exec = Jvm.exec) (hb : c.code = cc) {a b : Nat} {off : Int} {tgt : Nat} (hdg : decode cc pc = .ok (.if_icmp .le off, 3)) (ht : (pc : Int) + off = (tgt : Int)) (ha : a < 2 ^ 31) (hb2 : b < 2 ^ 31) (kt : a ≤ b → W p l e R s m args below meth c H locs cells slots Q (F0 m tgt ls rest)) (kf : b < a → W p l e R s m args below meth c H locs cells slots Q (F0 m (pc + 3) ls rest)) : W p l e R s m args below meth c H locs cells slots Q (F0 m pc ls (.int (nI b) :: .int (nI a) :: rest)) := by
  refine lv_icmp_le hx hb hdg ht (fun q => kt ?_) (fun q => kf ?_)
  all_goals rw [nI_leI ha hb2] at q
  all_goals omega
theorem my_if_eq (hx : p.tables.exec = Jvm.exec) (hb : c.code = cc) {a : Nat} {off : Int} {tgt : Nat} (hdg : decode cc pc = .ok (.ifCond .eq off, 3)) (ht : (pc : Int) + off = (tgt : Int)) (ha : a < 2 ^ 31) (kt : a = 0 → W p l e R s m args below meth c H locs cells slots Q (F0 m tgt ls rest)) (kf : 0 < a → W p l e R s m args below meth c H locs cells slots Q (F0 m (pc + 3) ls rest)) : W p l e R s m args below meth c H locs cells slots Q (F0 m pc ls (.int (nI a) :: rest)) := by
  have h0 : (0 : Nat) < 2 ^ 31 := by decide
  refine lv_if_eq hx hb hdg ht (fun q => kt ?_) (fun q => kf ?_)
  all_goals rw [← nI_0, nI_eq ha h0] at q
  all_goals omega
theorem my_if_ne (hx : p.tables.exec = Jvm.exec) (hb : c.code = cc) {a : Nat} {off : Int} {tgt : Nat} (hdg : decode cc pc = .ok (.ifCond .ne off, 3)) (ht : (pc : Int) + off = (tgt : Int)) (ha : a < 2 ^ 31) (kt : 0 < a → W p l e R s m args below meth c H locs cells slots Q (F0 m tgt ls rest)) (kf : a = 0 → W p l e R s m args below meth c H locs cells slots Q (F0 m (pc + 3) ls rest)) : W p l e R s m args below meth c H locs cells slots Q (F0 m pc ls (.int (nI a) :: rest)) := by
  have h0 : (0 : Nat) < 2 ^ 31 := by decide
  refine lv_if_ne hx hb hdg ht (fun q => kt ?_) (fun q => kf ?_)
  all_goals rw [← nI_0, nI_eq ha h0] at q
  all_goals omega
theorem my_if_gt (hx : p.tables.exec = Jvm.exec) (hb : c.code = cc) {a : Nat} {off : Int} {tgt : Nat} (hdg : decode cc pc = .ok (.ifCond .gt off, 3)) (ht : (pc : Int) + off = (tgt : Int)) (ha : a < 2 ^ 31) (kt : 0 < a → W p l e R s m args below meth c H locs cells slots Q (F0 m tgt ls rest)) (kf : a = 0 → W p l e R s m args below meth c H locs cells slots Q (F0 m (pc + 3) ls rest)) : W p l e R s m args below meth c H locs cells slots Q (F0 m pc ls (.int (nI a) :: rest)) := by
  have h0 : (0 : Nat) < 2 ^ 31 := by decide
  refine lv_if_gt hx hb hdg ht (fun q => kt ?_) (fun q => kf ?_)
  all_goals rw [← nI_0, nI_ltI h0 ha] at q
  all_goals omega
theorem my_if_le (hx : p.tables.exec = Jvm.exec) (hb : c.code = cc) {a : Nat} {off : Int} {tgt : Nat} (hdg : decode cc pc = .ok (.ifCond .le off, 3)) (ht : (pc : Int) + off = (tgt : Int)) (ha : a < 2 ^ 31) (kt : a = 0 → W p l e R s m args below meth c H locs cells slots Q (F0 m tgt ls rest)) (kf : 0 < a → W p l e R s m args below meth c H locs cells slots Q (F0 m (pc + 3) ls rest)) : W p l e R s m args below meth c H locs cells slots Q (F0 m pc ls (.int (nI a) :: rest)) := by
  have h0 : (0 : Nat) < 2 ^ 31 := by decide
  refine lv_if_le hx hb hdg ht (fun q => kt ?_) (fun q => kf ?_)
  all_goals rw [← nI_0, nI_leI ha h0] at q
  all_goals omega
theorem my_if_eq_b (hx : p.tables.exec = Jvm.exec) (hb : c.code = cc) {b : Bool} {off : Int} {tgt : Nat} (hdg : decode cc pc = .ok (.ifCond .eq off, 3)) (ht : (pc : Int) + off = (tgt : Int)) (kt : b = false → W p l e R s m args below meth c H locs cells slots Q (F0 m tgt ls rest)) (kf : b = true → W p l e R s m args below meth c H locs cells slots Q (F0 m (pc + 3) ls rest)) : W p l e R s m args below meth c H locs cells slots Q (F0 m pc ls (.int (b2 b) :: rest)) := by
  refine lv_if_eq hx hb hdg ht (fun q => kt ?_) (fun q => kf ?_)
  all_goals rw [b2_eq0] at q
  all_goals cases b <;> simp_all
theorem my_if_ne_b (hx : p.tables.exec = Jvm.exec) (hb : c.code = cc) {b : Bool} {off : Int} {tgt : Nat} (hdg : decode cc pc = .ok (.ifCond .ne off, 3)) (ht : (pc : Int) + off = (tgt : Int)) (kt : b = true → W p l e R s m args below meth c H locs cells slots Q (F0 m tgt ls rest)) (kf : b = false → W p l e R s m args below meth c H locs cells slots Q (F0 m (pc + 3) ls rest)) : W p l e R s m args below meth c H locs cells slots Q (F0 m pc ls (.int (b2 b) :: rest)) := by
  refine lv_if_ne hx hb hdg ht (fun q => kt ?_) (fun q => kf ?_)
  all_goals rw [b2_eq0] at q
  all_goals cases b <;> simp_all
theorem my_lcmpR_eq (hx : p.tables.exec = Jvm.exec) (hb : c.code = cc) {x y : Int64} {off : Int} {tgt : Nat} (hd1 : decode cc pc = .ok (.lcmp, 1)) (hdg : decode cc (pc + 1) = .ok (.ifCond .eq off, 3)) (ht : ((pc + 1 : Nat) : Int) + off = (tgt : Int)) (kt : x = y → W p l e R s m args below meth c H locs cells slots Q (F0 m tgt ls rest)) (kf : ¬ x = y → W p l e R s m args below meth c H locs cells slots Q (F0 m (pc + 4) ls rest)) : W p l e R s m args below meth c H locs cells slots Q (F0 m pc ls (.long y :: .long x :: rest)) := by
  refine W.lcmp hx hb hd1 ?_
  refine lv_if_eq hx hb hdg ht (fun q => kt ?_) (fun q => kf ?_)
  all_goals rw [my_lc_eq] at q
  all_goals exact q
theorem my_lcmpR_ne (hx : p.tables.exec = Jvm.exec) (hb : c.code = cc) {x y : Int64} {off : Int} {tgt : Nat} (hd1 : decode cc pc = .ok (.lcmp, 1)) (hdg : decode cc (pc + 1) = .ok (.ifCond .ne off, 3)) (ht : ((pc + 1 : Nat) : Int) + off = (tgt : Int)) (kt : ¬ x = y → W p l e R s m args below meth c H locs cells slots Q (F0 m tgt ls rest)) (kf : x = y → W p l e R s m args below meth c H locs cells slots Q (F0 m (pc + 4) ls rest)) : W p l e R s m args below meth c H locs cells slots Q (F0 m pc ls (.long y :: .long x :: rest)) := by
  refine W.lcmp hx hb hd1 ?_
  refine lv_if_ne hx hb hdg ht (fun q => kt ?_) (fun q => kf ?_)
  all_goals rw [my_lc_eq] at q
  all_goals exact q
theorem my_lcmpR_lt (hx : p.tables.exec = Jvm.exec) (hb : c.code = cc) {x y : Int64} {off : Int} {tgt : Nat} (hd1 : decode cc pc = .ok (.lcmp, 1)) (hdg : decode cc (pc + 1) = .ok (.ifCond .lt off, 3)) (ht : ((pc + 1 : Nat) : Int) + off = (tgt : Int)) (kt : x < y → W p l e R s m args below meth c H locs cells slots Q (F0 m tgt ls rest)) (kf : ¬ x < y → W p l e R s m args below meth c H locs cells slots Q (F0 m (pc + 4) ls rest)) : W p l e R s m args below meth c H locs cells slots Q (F0 m pc ls (.long y :: .long x :: rest)) := by
  refine W.lcmp hx hb hd1 ?_
  refine lv_if_lt hx hb hdg ht (fun q => kt ?_) (fun q => kf ?_)
  all_goals rw [my_lc_lt] at q
  all_goals exact q
theorem my_lcmpR_ge (hx : p.tables.exec = Jvm.exec) (hb : c.code = cc) {x y : Int64} {off : Int} {tgt : Nat} (hd1 : decode cc pc = .ok (.lcmp, 1)) (hdg : decode cc (pc + 1) = .ok (.ifCond .ge off, 3)) (ht : ((pc + 1 : Nat) : Int) + off = (tgt : Int)) (kt : y ≤ x → W p l e R s m args below meth c H locs cells slots Q (F0 m tgt ls rest)) (kf : ¬ y ≤ x → W p l e R s m args below meth c H locs cells slots Q (F0 m (pc + 4) ls rest)) : W p l e R s m args below meth c H locs cells slots Q (F0 m pc ls (.long y :: .long x :: rest)) := by
  refine W.lcmp hx hb hd1 ?_
  refine lv_if_ge hx hb hdg ht (fun q => kt ?_) (fun q => kf ?_)
  all_goals rw [my_lc_ge] at q
  all_goals exact q
theorem my_lcmpR_gt (hx : p.tables.exec = Jvm.exec) (hb : c.code = cc) {x y : Int64} {off : Int} {tgt : Nat} (hd1 : decode cc pc = .ok (.lcmp, 1)) (hdg : decode cc (pc + 1) = .ok (.ifCond .gt off, 3)) (ht : ((pc + 1 : Nat) : Int) + off = (tgt : Int)) (kt : y < x → W p l e R s m args below meth c H locs cells slots Q (F0 m tgt ls rest)) (kf : ¬ y < x → W p l e R s m args below meth c H locs cells slots Q (F0 m (pc + 4) ls rest)) : W p l e R s m args below meth c H locs cells slots Q (F0 m pc ls (.long y :: .long x :: rest)) := by
  refine W.lcmp hx hb hd1 ?_
  refine lv_if_gt hx hb hdg ht (fun q => kt ?_) (fun q => kf ?_)
  all_goals rw [my_lc_gt] at q
  all_goals exact q
theorem my_lcmpR_le (hx : p.tables.exec = Jvm.exec) (hb : c.code = cc) {x y : Int64} {off : Int} {tgt : Nat} (hd1 : decode cc pc = .ok (.lcmp, 1)) (hdg : decode cc (pc + 1) = .ok (.ifCond .le off, 3)) (ht : ((pc + 1 : Nat) : Int) + off = (tgt : Int)) (kt : x ≤ y → W p l e R s m args below meth c H locs cells slots Q (F0 m tgt ls rest)) (kf : ¬ x ≤ y → W p l e R s m args below meth c H locs cells slots Q (F0 m (pc + 4) ls rest)) : W p l e R s m args below meth c H locs cells slots Q (F0 m pc ls (.long y :: .long x :: rest)) := by
  refine W.lcmp hx hb hd1 ?_
  refine lv_if_le hx hb hdg ht (fun q => kt ?_) (fun q => kf ?_)
  all_goals rw [my_lc_le] at q
  all_goals exact q
theorem my_lcmp_eq (hx : p.tables.exec = Jvm.exec) (hb : c.code = cc) {a b : Nat} {off : Int} {tgt : Nat} (hd1 : decode cc pc = .ok (.lcmp, 1)) (hdg : decode cc (pc + 1) = .ok (.ifCond .eq off, 3)) (ht : ((pc + 1 : Nat) : Int) + off = (tgt : Int)) (ha : a < 2 ^ 63) (hb2 : b < 2 ^ 63) (kt : a = b → W p l e R s m args below meth c H locs cells slots Q (F0 m tgt ls rest)) (kf : ¬ a = b → W p l e R s m args below meth c H locs cells slots Q (F0 m (pc + 4) ls rest)) : W p l e R s m args below meth c H locs cells slots Q (F0 m pc ls (.long (lN b) :: .long (lN a) :: rest)) := by
  refine my_lcmpR_eq hx hb hd1 hdg ht (fun q => kt ?_) (fun q => kf ?_)
  all_goals rw [pk_lEQ ha hb2] at q
  all_goals omega
theorem my_lcmp_ne (hx : p.tables.exec = Jvm.exec) (hb : c.code = cc) {a b : Nat} {off : Int} {tgt : Nat} (hd1 : decode cc pc = .ok (.lcmp, 1)) (hdg : decode cc (pc + 1) = .ok (.ifCond .ne off, 3)) (ht : ((pc + 1 : Nat) : Int) + off = (tgt : Int)) (ha : a < 2 ^ 63) (hb2 : b < 2 ^ 63) (kt : ¬ a = b → W p l e R s m args below meth c H locs cells slots Q (F0 m tgt ls rest)) (kf : a = b → W p l e R s m args below meth c H locs cells slots Q (F0 m (pc + 4) ls rest)) : W p l e R s m args below meth c H locs cells slots Q (F0 m pc ls (.long (lN b) :: .long (lN a) :: rest)) := by
  refine my_lcmpR_ne hx hb hd1 hdg ht (fun q => kt ?_) (fun q => kf ?_)
  all_goals rw [pk_lEQ ha hb2] at q
  all_goals omega
theorem my_lcmp_lt (hx : p.tables.exec = Jvm.exec) (hb : c.code = cc) {a b : Nat} {off : Int} {tgt : Nat} (hd1 : decode cc pc = .ok (.lcmp, 1)) (hdg : decode cc (pc + 1) = .ok (.ifCond .lt off, 3)) (ht : ((pc + 1 : Nat) : Int) + off = (tgt : Int)) (ha : a < 2 ^ 63) (hb2 : b < 2 ^ 63) (kt : a < b → W p l e R s m args below meth c H locs cells slots Q (F0 m tgt ls rest)) (kf : b ≤ a → W p l e R s m args below meth c H locs cells slots Q (F0 m (pc + 4) ls rest)) : W p l e R s m args below meth c H locs cells slots Q (F0 m pc ls (.long (lN b) :: .long (lN a) :: rest)) := by
  refine my_lcmpR_lt hx hb hd1 hdg ht (fun q => kt ?_) (fun q => kf ?_)
  all_goals rw [pk_lLT ha hb2] at q
  all_goals omega
theorem my_lcmp_ge (hx : p.tables.exec = Jvm.exec) (hb : c.code = cc) {a b : Nat} {off : Int} {tgt : Nat} (hd1 : decode cc pc = .ok (.lcmp, 1)) (hdg : decode cc (pc + 1) = .ok (.ifCond .ge off, 3)) (ht : ((pc + 1 : Nat) : Int) + off = (tgt : Int)) (ha : a < 2 ^ 63) (hb2 : b < 2 ^ 63) (kt : b ≤ a → W p l e R s m args below meth c H locs cells slots Q (F0 m tgt ls rest)) (kf : a < b → W p l e R s m args below meth c H locs cells slots Q (F0 m (pc + 4) ls rest)) : W p l e R s m args below meth c H locs cells slots Q (F0 m pc ls (.long (lN b) :: .long (lN a) :: rest)) := by
  refine my_lcmpR_ge hx hb hd1 hdg ht (fun q => kt ?_) (fun q => kf ?_)
  all_goals rw [pk_lLE hb2 ha] at q
  all_goals omega
theorem my_lcmp_gt (hx : p.tables.exec = Jvm.exec) (hb : c.code = cc) {a b : Nat} {off : Int} {tgt : Nat} (hd1 : decode cc pc = .ok (.lcmp, 1)) (hdg : decode cc (pc + 1) = .ok (.ifCond .gt off, 3)) (ht : ((pc + 1 : Nat) : Int) + off = (tgt : Int)) (ha : a < 2 ^ 63) (hb2 : b < 2 ^ 63) (kt : b < a → W p l e R s m args below meth c H locs cells slots Q (F0 m tgt ls rest)) (kf : a ≤ b → W p l e R s m args below meth c H locs cells slots Q (F0 m (pc + 4) ls rest)) : W p l e R s m args below meth c H locs cells slots Q (F0 m pc ls (.long (lN b) :: .long (lN a) :: rest)) := by
  refine my_lcmpR_gt hx hb hd1 hdg ht (fun q => kt ?_) (fun q => kf ?_)
  all_goals rw [pk_lLT hb2 ha] at q
  all_goals omega
theorem my_lcmp_le (hx : p.tables.exec = Jvm.exec) (hb : c.code = cc) {a b : Nat} {off : Int} {tgt : Nat} (hd1 : decode cc pc = .ok (.lcmp, 1)) (hdg : decode cc (pc + 1) = .ok (.ifCond .le off, 3)) (ht : ((pc + 1 : Nat) : Int) + off = (tgt : Int)) (ha : a < 2 ^ 63) (hb2 : b < 2 ^ 63) (kt : a ≤ b → W p l e R s m args below meth c H locs cells slots Q (F0 m tgt ls rest)) (kf : b < a → W p l e R s m args below meth c H locs cells slots Q (F0 m (pc + 4) ls rest)) : W p l e R s m args below meth c H locs cells slots Q (F0 m pc ls (.long (lN b) :: .long (lN a) :: rest)) := by
  refine my_lcmpR_le hx hb hd1 hdg ht (fun q => kt ?_) (fun q => kf ?_)
  all_goals rw [pk_lLE ha hb2] at q
  all_goals omega
theorem my_ldiv (hx : p.tables.exec = Jvm.exec) (hb : c.code = cc) {a b : Nat} (hdg : decode cc pc = .ok (.ldiv, 1)) (ha : a < 2 ^ 63) (h0 : 0 < b) (hb2 : b < 2 ^ 63) (k : W p l e R s m args below meth c H locs cells slots Q (F0 m (pc + 1) ls (.long (lN (a / b)) :: rest))) : W p l e R s m args below meth c H locs cells slots Q (F0 m pc ls (.long (lN b) :: .long (lN a) :: rest)) := by
  refine lv_ldiv hx hb hdg ?_ ?_
  · intro q
    have : lN b = lN 0 := q
    rw [pk_lEQ hb2 (by decide)] at this
    omega
  · rw [pk_lDiv ha h0 hb2]; exact k
theorem my_lrem (hx : p.tables.exec = Jvm.exec) (hb : c.code = cc) {a b : Nat} (hdg : decode cc pc = .ok (.lrem, 1)) (ha : a < 2 ^ 63) (h0 : 0 < b) (hb2 : b < 2 ^ 63) (k : W p l e R s m args below meth c H locs cells slots Q (F0 m (pc + 1) ls (.long (lN (a % b)) :: rest))) : W p l e R s m args below meth c H locs cells slots Q (F0 m pc ls (.long (lN b) :: .long (lN a) :: rest)) := by
  refine lv_lrem hx hb hdg ?_ ?_
  · intro q
    have : lN b = lN 0 := q
    rw [pk_lEQ hb2 (by decide)] at this
    omega
  · rw [pk_lRem ha h0 hb2]; exact k
theorem my_iald (hx : p.tables.exec = Jvm.exec) (hb : c.code = cc) (hK : va_K D cl tys s) (hP : va_P D cl ws H) (q0 t0 : Nat) {cA : ClassId} {n : Nat} {f : Nat → Int32} (ha : ws[q0]? = some (a, .inl (cA, n, .inl f))) (ht : tys[t0]? = some (cA, .int)) {i : Nat} (hi : i < n) (hn : n < 2 ^ 31) {v : Int32} (hv : f i = v) (hdg : decode cc pc = .ok (.iaload, 1)) (kk : W p l e R s m args below meth c H locs cells slots Q (F0 m (pc + 1) ls (.int v :: rest))) : W p l e R s m args below meth c H locs cells slots Q (F0 m pc ls (.int (nI i) :: .ref a :: rest)) :=
  va_iald hx hb hK hP q0 t0 ha ht (vp_in_nI hi hn) hdg (by rw [nI_clamp (by omega), hv]; exact kk)
theorem my_lald (hx : p.tables.exec = Jvm.exec) (hb : c.code = cc) (hK : va_K D cl tys s) (hP : va_P D cl ws H) (q0 t0 : Nat) {cA : ClassId} {n : Nat} {f : Nat → Int64} (ha : ws[q0]? = some (a, .inl (cA, n, .inr (.inl f)))) (ht : tys[t0]? = some (cA, .long)) {i : Nat} (hi : i < n) (hn : n < 2 ^ 31) {v : Int64} (hv : f i = v) (hdg : decode cc pc = .ok (.laload, 1)) (kk : W p l e R s m args below meth c H locs cells slots Q (F0 m (pc + 1) ls (.long v :: rest))) : W p l e R s m args below meth c H locs cells slots Q (F0 m pc ls (.int (nI i) :: .ref a :: rest)) :=
  va_lald hx hb hK hP q0 t0 ha ht (vp_in_nI hi hn) hdg (by rw [nI_clamp (by omega), hv]; exact kk)
theorem my_upN (f : Nat → Nat) (i v : Nat) : upd (fun j => nI (f j)) i (nI v) = fun j => nI (va_up f i v j) := by
  funext j
  simp only [upd, va_up]
  split <;> rfl
theorem my_upL (f : Nat → Nat) (i v : Nat) : vp_updL (fun j => lN (f j)) i (lN v) = fun j => lN (va_up f i v j) := by
  funext j
  simp only [vp_updL, va_up]
  split <;> rfl
theorem my_iast (hx : p.tables.exec = Jvm.exec) (hb : c.code = cc) (hK : va_K D cl tys s) (hP : va_P D cl ws H) (hD : va_D A ws) (hS : va_S A H0 H locs) (q0 t0 : Nat) {cA : ClassId} {n : Nat} {f : Nat → Int32} (ha : ws[q0]? = some (a, .inl (cA, n, .inl f))) (ht : tys[t0]? = some (cA, .int)) {i : Nat} {x : Int32} (hi : i < n) (hn : n < 2 ^ 31) {f' : Nat → Int32} (hf : upd f i x = f') {w' : va_W} (hw : ws.set q0 (a, .inl (cA, n, .inl f')) = w') (hdg : decode cc pc = .ok (.iastore, 1))
    (kk : ∀ (H1 : Heap) (locs1 : List Loc), va_P D cl w' H1 → va_D A w' → va_S A H0 H1 locs1 → W p l e R s m args below meth c H1 locs1 cells slots Q (F0 m (pc + 1) ls rest)) : W p l e R s m args below meth c H locs cells slots Q (F0 m pc ls (.int x :: .int (nI i) :: .ref a :: rest)) := by
  subst hw
  subst hf
  refine va_iast hx hb hK hP hD hS q0 t0 ha ht (vp_in_nI hi hn) hdg ?_
  rw [nI_clamp (by omega)]
  exact kk
theorem my_last (hx : p.tables.exec = Jvm.exec) (hb : c.code = cc) (hK : va_K D cl tys s) (hP : va_P D cl ws H) (hD : va_D A ws) (hS : va_S A H0 H locs) (q0 t0 : Nat) {cA : ClassId} {n : Nat} {f : Nat → Int64} (ha : ws[q0]? = some (a, .inl (cA, n, .inr (.inl f)))) (ht : tys[t0]? = some (cA, .long)) {i : Nat} {x : Int64} (hi : i < n) (hn : n < 2 ^ 31) {f' : Nat → Int64} (hf : vp_updL f i x = f') {w' : va_W} (hw : ws.set q0 (a, .inl (cA, n, .inr (.inl f'))) = w') (hdg : decode cc pc = .ok (.lastore, 1))
    (kk : ∀ (H1 : Heap) (locs1 : List Loc), va_P D cl w' H1 → va_D A w' → va_S A H0 H1 locs1 → W p l e R s m args below meth c H1 locs1 cells slots Q (F0 m (pc + 1) ls rest)) : W p l e R s m args below meth c H locs cells slots Q (F0 m pc ls (.long x :: .int (nI i) :: .ref a :: rest)) := by
  subst hw
  subst hf
  refine va_last hx hb hK hP hD hS q0 t0 ha ht (vp_in_nI hi hn) hdg ?_
  rw [nI_clamp (by omega)]
  exact kk
theorem tg_good {w : Cond} (h : w ∈ tblG) : (w.onTables && w.keeps) = true ∨ ∃ ty, w = .arrayClass ty := good_of_word (List.mem_filter.mp h).2
theorem gC {y : MethodName} {cc : ByteArray} {maxL : Nat} {ret : Option FieldType} (hc : Cond.code y cc maxL ret ∈ tblG) : GoodIn tblG (Cond.code y cc maxL ret :: tblG) := fun w hw => by
  rcases List.mem_cons.mp hw with rfl | h
  · exact ⟨hc, tg_good hc⟩
  · exact ⟨h, tg_good h⟩
theorem gApp {a b : List Cond} (ha : ∀ w ∈ a, w ∈ tblG) (hb : GoodIn tblG b) : GoodIn tblG (a ++ b) := fun w h => by
  rcases List.mem_append.mp h with h | h
  · exact ⟨ha w h, tg_good (ha w h)⟩
  · exact hb w h
theorem my_V_i {r : Int32} {y : MethodName} {bytes : ByteArray} {maxL nL n index q0 ci b : Nat} {ret : Option FieldType} {rm : Room} {own C : String} {As fs : List Value} {T : u_T} {nF : Nat} {lv : List (Nat × Value)} (hM : ct_i l g cl tys y bytes maxL ret rm (.ref b :: As) w0 w1 r) (hx : p.tables.exec = Jvm.exec) (hb : c.code = cc) (hml : c.maxLocals = nL) (hown : s.vm.findClass own = some m.cls) (hT : ∀ w ∈ tblG, w.before args s = true) (hN : nst s) (k1 : Cond.methodLink own index y ∈ tblG) (k2 : Cond.instanceMethod y ∈ tblG) (k3 : Cond.selects C y y ∈ tblG) (k4 : Cond.initialized C ∈ tblG) (k5 : Cond.code y bytes maxL ret ∈ tblG) (hd : y.cls = C ∧ y.cls ≠ "java/lang/invoke/MethodHandle" ∧ y.cls ≠ "java/lang/invoke/VarHandle" ∧ (parseMethodDescriptor y.desc).map (fun d => d.parameters.length) = some n) (hrc : rm.cells = 0) (hrs : rm.slots = 0) (hR : rm.frames + 1 ≤ R.frames ∧ 8 + (maxL + 11) + rm.locals ≤ R.locals) (hf : cells ≤ R.cells ∧ slots ≤ R.slots)
    (hK : va_K g cl tys s) (hP : va_P g cl w0 H) (hD : va_D A w0) (hS : va_S A s.heap H locs) (hA : ∀ q : Nat, s.heap.size ≤ q → A q) (hc : cl[ci]? = some (C, T, nF)) (he : w0[q0]? = some (b, .inr (ci, fs))) (hn : As.length = n) (hl : lv_has ls nL lv) (hst : st0 = As.reverse ++ .ref b :: rest) (hrm : (rest.map fun v => v.category).sum ≤ 8) (hdg : decode cc pc = .ok (.invokevirtual index, 3))
    (kk : ∀ (H1 : Heap) (locs1 : List Loc), va_P g cl w1 H1 → va_D A w1 → va_S A s.heap H1 locs1 → W p l e R s m args below meth c H1 locs1 cells slots Q (F0 m (pc + 3) ls (.int r :: rest))) : W p l e R s m args below meth c H locs cells slots Q (F0 m pc ls st0) :=
  my_calli (va_runV (As := As) (rest := rest) (n := n) ⟨hx, hb, hml, hown, hT⟩ (hM H.size) (cwV n hT (gApp (List.forall_mem_cons.mpr ⟨k1, List.forall_mem_cons.mpr ⟨k2, List.forall_mem_cons.mpr ⟨k3, List.forall_mem_cons.mpr ⟨k4, fun _ h => absurd h List.not_mem_nil⟩⟩⟩⟩) (gC k5)) rfl hrc hrs hd hR) (my_preV rfl hN hK hP hD hc he) rfl hn hl.1 hst (lv_room hrm) hdg hf) hS (my_fr hD hS hA) kk
theorem my_S_i {r : Int32} {y : MethodName} {bytes : ByteArray} {maxL nL n index : Nat} {ret : Option FieldType} {rm : Room} {own : String} {As : List Value} {lv : List (Nat × Value)} (hM : ct_i l g cl tys y bytes maxL ret rm As w0 w1 r) (hx : p.tables.exec = Jvm.exec) (hb : c.code = cc) (hml : c.maxLocals = nL) (hown : s.vm.findClass own = some m.cls) (hT : ∀ w ∈ tblG, w.before args s = true) (hN : nst s) (k1 : Cond.methodLink own index y ∈ tblG) (k2 : Cond.static y ∈ tblG) (k4 : Cond.initialized y.cls ∈ tblG) (k5 : Cond.code y bytes maxL ret ∈ tblG) (hd : y.cls ≠ "java/lang/invoke/MethodHandle" ∧ y.cls ≠ "java/lang/invoke/VarHandle" ∧ (parseMethodDescriptor y.desc).map (fun d => d.parameters.length) = some n) (hrc : rm.cells = 0) (hrs : rm.slots = 0) (hR : rm.frames + 1 ≤ R.frames ∧ 8 + (maxL + 11) + rm.locals ≤ R.locals) (hf : cells ≤ R.cells ∧ slots ≤ R.slots)
    (hK : va_K g cl tys s) (hP : va_P g cl w0 H) (hD : va_D A w0) (hS : va_S A s.heap H locs) (hA : ∀ q : Nat, s.heap.size ≤ q → A q) (hn : As.length = n) (hl : lv_has ls nL lv) (hst : st0 = As.reverse ++ rest) (hrm : (rest.map fun v => v.category).sum ≤ 8) (hdg : decode cc pc = .ok (.invokestatic index, 3))
    (kk : ∀ (H1 : Heap) (locs1 : List Loc), va_P g cl w1 H1 → va_D A w1 → va_S A s.heap H1 locs1 → W p l e R s m args below meth c H1 locs1 cells slots Q (F0 m (pc + 3) ls (.int r :: rest))) : W p l e R s m args below meth c H locs cells slots Q (F0 m pc ls st0) :=
  my_calli (va_runS (As := As) (rest := rest) (n := n) ⟨hx, hb, hml, hown, hT⟩ (hM H.size) (va_cwS n hT (gApp (List.forall_mem_cons.mpr ⟨k1, List.forall_mem_cons.mpr ⟨k2, List.forall_mem_cons.mpr ⟨k4, fun _ h => absurd h List.not_mem_nil⟩⟩⟩) (gC k5)) rfl hrc hrs hd hR) (my_preS rfl hN hK hP hD) rfl hn hl.1 hst (lv_room hrm) hdg hf) hS (my_fr hD hS hA) kk
theorem my_VN_i {r : Int32} {y : MethodName} {bytes : ByteArray} {maxL nL n index q0 ci b : Nat} {ret : Option FieldType} {rm : Room} {own C : String} {host : String} {As fs : List Value} {T : u_T} {nF : Nat} {lv : List (Nat × Value)} (hM : ct_i l g cl tys y bytes maxL ret rm (.ref b :: As) w0 w1 r) (hx : p.tables.exec = Jvm.exec) (hb : c.code = cc) (hml : c.maxLocals = nL) (hown : s.vm.findClass own = some m.cls) (hT : ∀ w ∈ tblG, w.before args s = true) (hN : nst s) (k1 : Cond.methodLinkNest own index y host ∈ tblN) (k2 : Cond.instanceMethod y ∈ tblG) (k3 : Cond.selects C y y ∈ tblG) (k4 : Cond.initialized y.cls ∈ tblG) (k5 : Cond.code y bytes maxL ret ∈ tblG) (hd : y.cls ≠ "java/lang/invoke/MethodHandle" ∧ y.cls ≠ "java/lang/invoke/VarHandle" ∧ (parseMethodDescriptor y.desc).map (fun d => d.parameters.length) = some n) (hrc : rm.cells = 0) (hrs : rm.slots = 0) (hR : rm.frames + 1 ≤ R.frames ∧ 8 + (maxL + 11) + rm.locals ≤ R.locals) (hf : cells ≤ R.cells ∧ slots ≤ R.slots)
    (hK : va_K g cl tys s) (hP : va_P g cl w0 H) (hD : va_D A w0) (hS : va_S A s.heap H locs) (hA : ∀ q : Nat, s.heap.size ≤ q → A q) (hc : cl[ci]? = some (C, T, nF)) (he : w0[q0]? = some (b, .inr (ci, fs))) (hn : As.length = n) (hl : lv_has ls nL lv) (hst : st0 = As.reverse ++ .ref b :: rest) (hrm : (rest.map fun v => v.category).sum ≤ 8) (hdg : decode cc pc = .ok (.invokevirtual index, 3))
    (kk : ∀ (H1 : Heap) (locs1 : List Loc), va_P g cl w1 H1 → va_D A w1 → va_S A s.heap H1 locs1 → W p l e R s m args below meth c H1 locs1 cells slots Q (F0 m (pc + 3) ls (.int r :: rest))) : W p l e R s m args below meth c H locs cells slots Q (F0 m pc ls st0) :=
  my_calli (va_runVN (As := As) (rest := rest) (n := n) ⟨hx, hb, hml, hown, hT⟩ (hM H.size) ⟨va_cnB n hT (gC k5) rfl hrc hrs (hN _ k1) (hT _ k4) hd hR, hT _ k2, hT _ k3⟩ (my_preV rfl hN hK hP hD hc he) rfl hn hl.1 hst (lv_room hrm) hdg hf) hS (my_fr hD hS hA) kk
theorem my_SN_i {r : Int32} {y : MethodName} {bytes : ByteArray} {maxL nL n index : Nat} {ret : Option FieldType} {rm : Room} {own : String} {host : String} {As : List Value} {lv : List (Nat × Value)} (hM : ct_i l g cl tys y bytes maxL ret rm As w0 w1 r) (hx : p.tables.exec = Jvm.exec) (hb : c.code = cc) (hml : c.maxLocals = nL) (hown : s.vm.findClass own = some m.cls) (hT : ∀ w ∈ tblG, w.before args s = true) (hN : nst s) (k1 : Cond.methodLinkNest own index y host ∈ tblN) (k2 : Cond.static y ∈ tblG) (k4 : Cond.initialized y.cls ∈ tblG) (k5 : Cond.code y bytes maxL ret ∈ tblG) (hd : y.cls ≠ "java/lang/invoke/MethodHandle" ∧ y.cls ≠ "java/lang/invoke/VarHandle" ∧ (parseMethodDescriptor y.desc).map (fun d => d.parameters.length) = some n) (hrc : rm.cells = 0) (hrs : rm.slots = 0) (hR : rm.frames + 1 ≤ R.frames ∧ 8 + (maxL + 11) + rm.locals ≤ R.locals) (hf : cells ≤ R.cells ∧ slots ≤ R.slots)
    (hK : va_K g cl tys s) (hP : va_P g cl w0 H) (hD : va_D A w0) (hS : va_S A s.heap H locs) (hA : ∀ q : Nat, s.heap.size ≤ q → A q) (hn : As.length = n) (hl : lv_has ls nL lv) (hst : st0 = As.reverse ++ rest) (hrm : (rest.map fun v => v.category).sum ≤ 8) (hdg : decode cc pc = .ok (.invokestatic index, 3))
    (kk : ∀ (H1 : Heap) (locs1 : List Loc), va_P g cl w1 H1 → va_D A w1 → va_S A s.heap H1 locs1 → W p l e R s m args below meth c H1 locs1 cells slots Q (F0 m (pc + 3) ls (.int r :: rest))) : W p l e R s m args below meth c H locs cells slots Q (F0 m pc ls st0) :=
  my_calli (va_runSN (As := As) (rest := rest) (n := n) ⟨hx, hb, hml, hown, hT⟩ (hM H.size) ⟨va_cnB n hT (gC k5) rfl hrc hrs (hN _ k1) (hT _ k4) hd hR, hT _ k2, trivial⟩ (my_preS rfl hN hK hP hD) rfl hn hl.1 hst (lv_room hrm) hdg hf) hS (my_fr hD hS hA) kk
theorem my_V_l {r : Int64} {y : MethodName} {bytes : ByteArray} {maxL nL n index q0 ci b : Nat} {ret : Option FieldType} {rm : Room} {own C : String} {As fs : List Value} {T : u_T} {nF : Nat} {lv : List (Nat × Value)} (hM : ct_l l g cl tys y bytes maxL ret rm (.ref b :: As) w0 w1 r) (hx : p.tables.exec = Jvm.exec) (hb : c.code = cc) (hml : c.maxLocals = nL) (hown : s.vm.findClass own = some m.cls) (hT : ∀ w ∈ tblG, w.before args s = true) (hN : nst s) (k1 : Cond.methodLink own index y ∈ tblG) (k2 : Cond.instanceMethod y ∈ tblG) (k3 : Cond.selects C y y ∈ tblG) (k4 : Cond.initialized C ∈ tblG) (k5 : Cond.code y bytes maxL ret ∈ tblG) (hd : y.cls = C ∧ y.cls ≠ "java/lang/invoke/MethodHandle" ∧ y.cls ≠ "java/lang/invoke/VarHandle" ∧ (parseMethodDescriptor y.desc).map (fun d => d.parameters.length) = some n) (hrc : rm.cells = 0) (hrs : rm.slots = 0) (hR : rm.frames + 1 ≤ R.frames ∧ 8 + (maxL + 11) + rm.locals ≤ R.locals) (hf : cells ≤ R.cells ∧ slots ≤ R.slots)
    (hK : va_K g cl tys s) (hP : va_P g cl w0 H) (hD : va_D A w0) (hS : va_S A s.heap H locs) (hA : ∀ q : Nat, s.heap.size ≤ q → A q) (hc : cl[ci]? = some (C, T, nF)) (he : w0[q0]? = some (b, .inr (ci, fs))) (hn : As.length = n) (hl : lv_has ls nL lv) (hst : st0 = As.reverse ++ .ref b :: rest) (hrm : (rest.map fun v => v.category).sum ≤ 8) (hdg : decode cc pc = .ok (.invokevirtual index, 3))
    (kk : ∀ (H1 : Heap) (locs1 : List Loc), va_P g cl w1 H1 → va_D A w1 → va_S A s.heap H1 locs1 → W p l e R s m args below meth c H1 locs1 cells slots Q (F0 m (pc + 3) ls (.long r :: rest))) : W p l e R s m args below meth c H locs cells slots Q (F0 m pc ls st0) :=
  my_calll (va_runV (As := As) (rest := rest) (n := n) ⟨hx, hb, hml, hown, hT⟩ (hM H.size) (cwV n hT (gApp (List.forall_mem_cons.mpr ⟨k1, List.forall_mem_cons.mpr ⟨k2, List.forall_mem_cons.mpr ⟨k3, List.forall_mem_cons.mpr ⟨k4, fun _ h => absurd h List.not_mem_nil⟩⟩⟩⟩) (gC k5)) rfl hrc hrs hd hR) (my_preV rfl hN hK hP hD hc he) rfl hn hl.1 hst (lv_room hrm) hdg hf) hS (my_fr hD hS hA) kk
theorem my_S_l {r : Int64} {y : MethodName} {bytes : ByteArray} {maxL nL n index : Nat} {ret : Option FieldType} {rm : Room} {own : String} {As : List Value} {lv : List (Nat × Value)} (hM : ct_l l g cl tys y bytes maxL ret rm As w0 w1 r) (hx : p.tables.exec = Jvm.exec) (hb : c.code = cc) (hml : c.maxLocals = nL) (hown : s.vm.findClass own = some m.cls) (hT : ∀ w ∈ tblG, w.before args s = true) (hN : nst s) (k1 : Cond.methodLink own index y ∈ tblG) (k2 : Cond.static y ∈ tblG) (k4 : Cond.initialized y.cls ∈ tblG) (k5 : Cond.code y bytes maxL ret ∈ tblG) (hd : y.cls ≠ "java/lang/invoke/MethodHandle" ∧ y.cls ≠ "java/lang/invoke/VarHandle" ∧ (parseMethodDescriptor y.desc).map (fun d => d.parameters.length) = some n) (hrc : rm.cells = 0) (hrs : rm.slots = 0) (hR : rm.frames + 1 ≤ R.frames ∧ 8 + (maxL + 11) + rm.locals ≤ R.locals) (hf : cells ≤ R.cells ∧ slots ≤ R.slots)
    (hK : va_K g cl tys s) (hP : va_P g cl w0 H) (hD : va_D A w0) (hS : va_S A s.heap H locs) (hA : ∀ q : Nat, s.heap.size ≤ q → A q) (hn : As.length = n) (hl : lv_has ls nL lv) (hst : st0 = As.reverse ++ rest) (hrm : (rest.map fun v => v.category).sum ≤ 8) (hdg : decode cc pc = .ok (.invokestatic index, 3))
    (kk : ∀ (H1 : Heap) (locs1 : List Loc), va_P g cl w1 H1 → va_D A w1 → va_S A s.heap H1 locs1 → W p l e R s m args below meth c H1 locs1 cells slots Q (F0 m (pc + 3) ls (.long r :: rest))) : W p l e R s m args below meth c H locs cells slots Q (F0 m pc ls st0) :=
  my_calll (va_runS (As := As) (rest := rest) (n := n) ⟨hx, hb, hml, hown, hT⟩ (hM H.size) (va_cwS n hT (gApp (List.forall_mem_cons.mpr ⟨k1, List.forall_mem_cons.mpr ⟨k2, List.forall_mem_cons.mpr ⟨k4, fun _ h => absurd h List.not_mem_nil⟩⟩⟩) (gC k5)) rfl hrc hrs hd hR) (my_preS rfl hN hK hP hD) rfl hn hl.1 hst (lv_room hrm) hdg hf) hS (my_fr hD hS hA) kk
theorem my_VN_l {r : Int64} {y : MethodName} {bytes : ByteArray} {maxL nL n index q0 ci b : Nat} {ret : Option FieldType} {rm : Room} {own C : String} {host : String} {As fs : List Value} {T : u_T} {nF : Nat} {lv : List (Nat × Value)} (hM : ct_l l g cl tys y bytes maxL ret rm (.ref b :: As) w0 w1 r) (hx : p.tables.exec = Jvm.exec) (hb : c.code = cc) (hml : c.maxLocals = nL) (hown : s.vm.findClass own = some m.cls) (hT : ∀ w ∈ tblG, w.before args s = true) (hN : nst s) (k1 : Cond.methodLinkNest own index y host ∈ tblN) (k2 : Cond.instanceMethod y ∈ tblG) (k3 : Cond.selects C y y ∈ tblG) (k4 : Cond.initialized y.cls ∈ tblG) (k5 : Cond.code y bytes maxL ret ∈ tblG) (hd : y.cls ≠ "java/lang/invoke/MethodHandle" ∧ y.cls ≠ "java/lang/invoke/VarHandle" ∧ (parseMethodDescriptor y.desc).map (fun d => d.parameters.length) = some n) (hrc : rm.cells = 0) (hrs : rm.slots = 0) (hR : rm.frames + 1 ≤ R.frames ∧ 8 + (maxL + 11) + rm.locals ≤ R.locals) (hf : cells ≤ R.cells ∧ slots ≤ R.slots)
    (hK : va_K g cl tys s) (hP : va_P g cl w0 H) (hD : va_D A w0) (hS : va_S A s.heap H locs) (hA : ∀ q : Nat, s.heap.size ≤ q → A q) (hc : cl[ci]? = some (C, T, nF)) (he : w0[q0]? = some (b, .inr (ci, fs))) (hn : As.length = n) (hl : lv_has ls nL lv) (hst : st0 = As.reverse ++ .ref b :: rest) (hrm : (rest.map fun v => v.category).sum ≤ 8) (hdg : decode cc pc = .ok (.invokevirtual index, 3))
    (kk : ∀ (H1 : Heap) (locs1 : List Loc), va_P g cl w1 H1 → va_D A w1 → va_S A s.heap H1 locs1 → W p l e R s m args below meth c H1 locs1 cells slots Q (F0 m (pc + 3) ls (.long r :: rest))) : W p l e R s m args below meth c H locs cells slots Q (F0 m pc ls st0) :=
  my_calll (va_runVN (As := As) (rest := rest) (n := n) ⟨hx, hb, hml, hown, hT⟩ (hM H.size) ⟨va_cnB n hT (gC k5) rfl hrc hrs (hN _ k1) (hT _ k4) hd hR, hT _ k2, hT _ k3⟩ (my_preV rfl hN hK hP hD hc he) rfl hn hl.1 hst (lv_room hrm) hdg hf) hS (my_fr hD hS hA) kk
theorem my_SN_l {r : Int64} {y : MethodName} {bytes : ByteArray} {maxL nL n index : Nat} {ret : Option FieldType} {rm : Room} {own : String} {host : String} {As : List Value} {lv : List (Nat × Value)} (hM : ct_l l g cl tys y bytes maxL ret rm As w0 w1 r) (hx : p.tables.exec = Jvm.exec) (hb : c.code = cc) (hml : c.maxLocals = nL) (hown : s.vm.findClass own = some m.cls) (hT : ∀ w ∈ tblG, w.before args s = true) (hN : nst s) (k1 : Cond.methodLinkNest own index y host ∈ tblN) (k2 : Cond.static y ∈ tblG) (k4 : Cond.initialized y.cls ∈ tblG) (k5 : Cond.code y bytes maxL ret ∈ tblG) (hd : y.cls ≠ "java/lang/invoke/MethodHandle" ∧ y.cls ≠ "java/lang/invoke/VarHandle" ∧ (parseMethodDescriptor y.desc).map (fun d => d.parameters.length) = some n) (hrc : rm.cells = 0) (hrs : rm.slots = 0) (hR : rm.frames + 1 ≤ R.frames ∧ 8 + (maxL + 11) + rm.locals ≤ R.locals) (hf : cells ≤ R.cells ∧ slots ≤ R.slots)
    (hK : va_K g cl tys s) (hP : va_P g cl w0 H) (hD : va_D A w0) (hS : va_S A s.heap H locs) (hA : ∀ q : Nat, s.heap.size ≤ q → A q) (hn : As.length = n) (hl : lv_has ls nL lv) (hst : st0 = As.reverse ++ rest) (hrm : (rest.map fun v => v.category).sum ≤ 8) (hdg : decode cc pc = .ok (.invokestatic index, 3))
    (kk : ∀ (H1 : Heap) (locs1 : List Loc), va_P g cl w1 H1 → va_D A w1 → va_S A s.heap H1 locs1 → W p l e R s m args below meth c H1 locs1 cells slots Q (F0 m (pc + 3) ls (.long r :: rest))) : W p l e R s m args below meth c H locs cells slots Q (F0 m pc ls st0) :=
  my_calll (va_runSN (As := As) (rest := rest) (n := n) ⟨hx, hb, hml, hown, hT⟩ (hM H.size) ⟨va_cnB n hT (gC k5) rfl hrc hrs (hN _ k1) (hT _ k4) hd hR, hT _ k2, trivial⟩ (my_preS rfl hN hK hP hD) rfl hn hl.1 hst (lv_room hrm) hdg hf) hS (my_fr hD hS hA) kk
theorem my_V_v  {y : MethodName} {bytes : ByteArray} {maxL nL n index q0 ci b : Nat} {ret : Option FieldType} {rm : Room} {own C : String} {As fs : List Value} {T : u_T} {nF : Nat} {lv : List (Nat × Value)} (hM : ct_v l g cl tys y bytes maxL ret rm (.ref b :: As) w0 w1) (hx : p.tables.exec = Jvm.exec) (hb : c.code = cc) (hml : c.maxLocals = nL) (hown : s.vm.findClass own = some m.cls) (hT : ∀ w ∈ tblG, w.before args s = true) (hN : nst s) (k1 : Cond.methodLink own index y ∈ tblG) (k2 : Cond.instanceMethod y ∈ tblG) (k3 : Cond.selects C y y ∈ tblG) (k4 : Cond.initialized C ∈ tblG) (k5 : Cond.code y bytes maxL ret ∈ tblG) (hd : y.cls = C ∧ y.cls ≠ "java/lang/invoke/MethodHandle" ∧ y.cls ≠ "java/lang/invoke/VarHandle" ∧ (parseMethodDescriptor y.desc).map (fun d => d.parameters.length) = some n) (hrc : rm.cells = 0) (hrs : rm.slots = 0) (hR : rm.frames + 1 ≤ R.frames ∧ 8 + (maxL + 11) + rm.locals ≤ R.locals) (hf : cells ≤ R.cells ∧ slots ≤ R.slots)
    (hK : va_K g cl tys s) (hP : va_P g cl w0 H) (hD : va_D A w0) (hS : va_S A s.heap H locs) (hA : ∀ q : Nat, s.heap.size ≤ q → A q) (hc : cl[ci]? = some (C, T, nF)) (he : w0[q0]? = some (b, .inr (ci, fs))) (hn : As.length = n) (hl : lv_has ls nL lv) (hst : st0 = As.reverse ++ .ref b :: rest) (hrm : (rest.map fun v => v.category).sum ≤ 8) (hdg : decode cc pc = .ok (.invokevirtual index, 3))
    (kk : ∀ (H1 : Heap) (locs1 : List Loc), va_P g cl w1 H1 → va_D A w1 → va_S A s.heap H1 locs1 → W p l e R s m args below meth c H1 locs1 cells slots Q (F0 m (pc + 3) ls rest)) : W p l e R s m args below meth c H locs cells slots Q (F0 m pc ls st0) :=
  my_callv (va_runV (As := As) (rest := rest) (n := n) ⟨hx, hb, hml, hown, hT⟩ (hM H.size) (cwV n hT (gApp (List.forall_mem_cons.mpr ⟨k1, List.forall_mem_cons.mpr ⟨k2, List.forall_mem_cons.mpr ⟨k3, List.forall_mem_cons.mpr ⟨k4, fun _ h => absurd h List.not_mem_nil⟩⟩⟩⟩) (gC k5)) rfl hrc hrs hd hR) (my_preV rfl hN hK hP hD hc he) rfl hn hl.1 hst (lv_room hrm) hdg hf) hS (my_fr hD hS hA) kk
theorem my_S_v  {y : MethodName} {bytes : ByteArray} {maxL nL n index : Nat} {ret : Option FieldType} {rm : Room} {own : String} {As : List Value} {lv : List (Nat × Value)} (hM : ct_v l g cl tys y bytes maxL ret rm As w0 w1) (hx : p.tables.exec = Jvm.exec) (hb : c.code = cc) (hml : c.maxLocals = nL) (hown : s.vm.findClass own = some m.cls) (hT : ∀ w ∈ tblG, w.before args s = true) (hN : nst s) (k1 : Cond.methodLink own index y ∈ tblG) (k2 : Cond.static y ∈ tblG) (k4 : Cond.initialized y.cls ∈ tblG) (k5 : Cond.code y bytes maxL ret ∈ tblG) (hd : y.cls ≠ "java/lang/invoke/MethodHandle" ∧ y.cls ≠ "java/lang/invoke/VarHandle" ∧ (parseMethodDescriptor y.desc).map (fun d => d.parameters.length) = some n) (hrc : rm.cells = 0) (hrs : rm.slots = 0) (hR : rm.frames + 1 ≤ R.frames ∧ 8 + (maxL + 11) + rm.locals ≤ R.locals) (hf : cells ≤ R.cells ∧ slots ≤ R.slots)
    (hK : va_K g cl tys s) (hP : va_P g cl w0 H) (hD : va_D A w0) (hS : va_S A s.heap H locs) (hA : ∀ q : Nat, s.heap.size ≤ q → A q) (hn : As.length = n) (hl : lv_has ls nL lv) (hst : st0 = As.reverse ++ rest) (hrm : (rest.map fun v => v.category).sum ≤ 8) (hdg : decode cc pc = .ok (.invokestatic index, 3))
    (kk : ∀ (H1 : Heap) (locs1 : List Loc), va_P g cl w1 H1 → va_D A w1 → va_S A s.heap H1 locs1 → W p l e R s m args below meth c H1 locs1 cells slots Q (F0 m (pc + 3) ls rest)) : W p l e R s m args below meth c H locs cells slots Q (F0 m pc ls st0) :=
  my_callv (va_runS (As := As) (rest := rest) (n := n) ⟨hx, hb, hml, hown, hT⟩ (hM H.size) (va_cwS n hT (gApp (List.forall_mem_cons.mpr ⟨k1, List.forall_mem_cons.mpr ⟨k2, List.forall_mem_cons.mpr ⟨k4, fun _ h => absurd h List.not_mem_nil⟩⟩⟩) (gC k5)) rfl hrc hrs hd hR) (my_preS rfl hN hK hP hD) rfl hn hl.1 hst (lv_room hrm) hdg hf) hS (my_fr hD hS hA) kk
theorem my_VN_v  {y : MethodName} {bytes : ByteArray} {maxL nL n index q0 ci b : Nat} {ret : Option FieldType} {rm : Room} {own C : String} {host : String} {As fs : List Value} {T : u_T} {nF : Nat} {lv : List (Nat × Value)} (hM : ct_v l g cl tys y bytes maxL ret rm (.ref b :: As) w0 w1) (hx : p.tables.exec = Jvm.exec) (hb : c.code = cc) (hml : c.maxLocals = nL) (hown : s.vm.findClass own = some m.cls) (hT : ∀ w ∈ tblG, w.before args s = true) (hN : nst s) (k1 : Cond.methodLinkNest own index y host ∈ tblN) (k2 : Cond.instanceMethod y ∈ tblG) (k3 : Cond.selects C y y ∈ tblG) (k4 : Cond.initialized y.cls ∈ tblG) (k5 : Cond.code y bytes maxL ret ∈ tblG) (hd : y.cls ≠ "java/lang/invoke/MethodHandle" ∧ y.cls ≠ "java/lang/invoke/VarHandle" ∧ (parseMethodDescriptor y.desc).map (fun d => d.parameters.length) = some n) (hrc : rm.cells = 0) (hrs : rm.slots = 0) (hR : rm.frames + 1 ≤ R.frames ∧ 8 + (maxL + 11) + rm.locals ≤ R.locals) (hf : cells ≤ R.cells ∧ slots ≤ R.slots)
    (hK : va_K g cl tys s) (hP : va_P g cl w0 H) (hD : va_D A w0) (hS : va_S A s.heap H locs) (hA : ∀ q : Nat, s.heap.size ≤ q → A q) (hc : cl[ci]? = some (C, T, nF)) (he : w0[q0]? = some (b, .inr (ci, fs))) (hn : As.length = n) (hl : lv_has ls nL lv) (hst : st0 = As.reverse ++ .ref b :: rest) (hrm : (rest.map fun v => v.category).sum ≤ 8) (hdg : decode cc pc = .ok (.invokevirtual index, 3))
    (kk : ∀ (H1 : Heap) (locs1 : List Loc), va_P g cl w1 H1 → va_D A w1 → va_S A s.heap H1 locs1 → W p l e R s m args below meth c H1 locs1 cells slots Q (F0 m (pc + 3) ls rest)) : W p l e R s m args below meth c H locs cells slots Q (F0 m pc ls st0) :=
  my_callv (va_runVN (As := As) (rest := rest) (n := n) ⟨hx, hb, hml, hown, hT⟩ (hM H.size) ⟨va_cnB n hT (gC k5) rfl hrc hrs (hN _ k1) (hT _ k4) hd hR, hT _ k2, hT _ k3⟩ (my_preV rfl hN hK hP hD hc he) rfl hn hl.1 hst (lv_room hrm) hdg hf) hS (my_fr hD hS hA) kk
theorem my_SN_v  {y : MethodName} {bytes : ByteArray} {maxL nL n index : Nat} {ret : Option FieldType} {rm : Room} {own : String} {host : String} {As : List Value} {lv : List (Nat × Value)} (hM : ct_v l g cl tys y bytes maxL ret rm As w0 w1) (hx : p.tables.exec = Jvm.exec) (hb : c.code = cc) (hml : c.maxLocals = nL) (hown : s.vm.findClass own = some m.cls) (hT : ∀ w ∈ tblG, w.before args s = true) (hN : nst s) (k1 : Cond.methodLinkNest own index y host ∈ tblN) (k2 : Cond.static y ∈ tblG) (k4 : Cond.initialized y.cls ∈ tblG) (k5 : Cond.code y bytes maxL ret ∈ tblG) (hd : y.cls ≠ "java/lang/invoke/MethodHandle" ∧ y.cls ≠ "java/lang/invoke/VarHandle" ∧ (parseMethodDescriptor y.desc).map (fun d => d.parameters.length) = some n) (hrc : rm.cells = 0) (hrs : rm.slots = 0) (hR : rm.frames + 1 ≤ R.frames ∧ 8 + (maxL + 11) + rm.locals ≤ R.locals) (hf : cells ≤ R.cells ∧ slots ≤ R.slots)
    (hK : va_K g cl tys s) (hP : va_P g cl w0 H) (hD : va_D A w0) (hS : va_S A s.heap H locs) (hA : ∀ q : Nat, s.heap.size ≤ q → A q) (hn : As.length = n) (hl : lv_has ls nL lv) (hst : st0 = As.reverse ++ rest) (hrm : (rest.map fun v => v.category).sum ≤ 8) (hdg : decode cc pc = .ok (.invokestatic index, 3))
    (kk : ∀ (H1 : Heap) (locs1 : List Loc), va_P g cl w1 H1 → va_D A w1 → va_S A s.heap H1 locs1 → W p l e R s m args below meth c H1 locs1 cells slots Q (F0 m (pc + 3) ls rest)) : W p l e R s m args below meth c H locs cells slots Q (F0 m pc ls st0) :=
  my_callv (va_runSN (As := As) (rest := rest) (n := n) ⟨hx, hb, hml, hown, hT⟩ (hM H.size) ⟨va_cnB n hT (gC k5) rfl hrc hrs (hN _ k1) (hT _ k4) hd hR, hT _ k2, trivial⟩ (my_preS rfl hN hK hP hD) rfl hn hl.1 hst (lv_room hrm) hdg hf) hS (my_fr hD hS hA) kk
end MYR
end
section
/-! Bits by Nat: rows of this claim (nx_and, nx_xor began as kit/laws/BITS.to-paste) -/
theorem nx_and (a b : Nat) : nI a &&& nI b = nI (a &&& b) := by
  apply Int32.toBitVec_inj.1
  show BitVec.ofNat 32 a &&& BitVec.ofNat 32 b = BitVec.ofNat 32 (a &&& b)
  apply BitVec.eq_of_getLsbD_eq
  intro i hi
  simp [hi]
theorem nx_or (a b : Nat) : nI a ||| nI b = nI (a ||| b) := by
  apply Int32.toBitVec_inj.1
  show BitVec.ofNat 32 a ||| BitVec.ofNat 32 b = BitVec.ofNat 32 (a ||| b)
  apply BitVec.eq_of_getLsbD_eq
  intro i hi
  simp [hi]
theorem nx_xor (a b : Nat) : nI a ^^^ nI b = nI (a ^^^ b) := by
  apply Int32.toBitVec_inj.1
  show BitVec.ofNat 32 a ^^^ BitVec.ofNat 32 b = BitVec.ofNat 32 (a ^^^ b)
  apply BitVec.eq_of_getLsbD_eq
  intro i hi
  simp [hi]
theorem lx_and (a b : Nat) : lN a &&& lN b = lN (a &&& b) := by
  apply Int64.toBitVec_inj.1
  show BitVec.ofNat 64 a &&& BitVec.ofNat 64 b = BitVec.ofNat 64 (a &&& b)
  apply BitVec.eq_of_getLsbD_eq
  intro i hi
  simp [hi]
theorem lx_or (a b : Nat) : lN a ||| lN b = lN (a ||| b) := by
  apply Int64.toBitVec_inj.1
  show BitVec.ofNat 64 a ||| BitVec.ofNat 64 b = BitVec.ofNat 64 (a ||| b)
  apply BitVec.eq_of_getLsbD_eq
  intro i hi
  simp [hi]
theorem nx_shl1 : ∀ k, k < 32 → (nI 1) <<< (nI k &&& 31) = nI (2 ^ k) := by decide +kernel
theorem lx_shl1 : ∀ k, k < 64 → (lN 1) <<< ((nI k).toInt64 &&& 63) = lN (2 ^ k) := by decide +kernel
/-- how many of the first f bits are set -/
def popc (n : Nat) : Nat → Nat
  | 0 => 0
  | f + 1 => popc n f + (n.testBit f).toNat
theorem popc_le (n f : Nat) : popc n f ≤ f := by
  induction f with
  | zero => exact Nat.le_refl _
  | succ f ih =>
    show popc n f + (n.testBit f).toNat ≤ f + 1
    have : (n.testBit f).toNat ≤ 1 := Bool.toNat_le _
    omega
theorem popc_mono {a b : Nat} (f : Nat) (h : ∀ i, i < f → a.testBit i = true → b.testBit i = true) : popc a f ≤ popc b f := by
  induction f with
  | zero => exact Nat.le_refl _
  | succ f ih =>
    show popc a f + (a.testBit f).toNat ≤ popc b f + (b.testBit f).toNat
    have h1 := ih (fun i hi => h i (by omega))
    have h2 : (a.testBit f).toNat ≤ (b.testBit f).toNat := by
      have := h f (by omega)
      cases ha : a.testBit f
      · exact Nat.zero_le _
      · rw [this ha]; exact Nat.le_refl _
    omega
theorem popc_lt {a b : Nat} (f : Nat) (h : ∀ i, i < f → a.testBit i = true → b.testBit i = true) (k : Nat) (hk : k < f) (h1 : a.testBit k = false) (h2 : b.testBit k = true) : popc a f < popc b f := by
  induction f with
  | zero => omega
  | succ f ih =>
    show popc a f + (a.testBit f).toNat < popc b f + (b.testBit f).toNat
    rcases Nat.lt_or_ge k f with q | q
    · have h3 := ih (fun i hi => h i (by omega)) q
      have h4 : (a.testBit f).toNat ≤ (b.testBit f).toNat := by
        have := h f (by omega)
        cases ha : a.testBit f
        · exact Nat.zero_le _
        · rw [this ha]; exact Nat.le_refl _
      omega
    · have e : k = f := by omega
      subst e
      have h3 := popc_mono k (fun i hi => h i (by omega))
      rw [h1, h2]
      show popc a k + 0 < popc b k + 1
      omega
/-! rows of a grid, as a stretch of the world -/
theorem row_get {X Y : va_W} {f : Nat → Nat × va_E} {n i k : Nat} (h : i < n) (hk : k = X.length + i) : (X ++ (List.range n).map f ++ Y)[k]? = some (f i) := by
  subst hk
  rw [List.append_assoc, List.getElem?_append_right (Nat.le_add_right _ _), Nat.add_sub_cancel_left, List.getElem?_append_left (by simpa using h)]
  simp [h]
theorem row_set {X Y : va_W} {f f' : Nat → Nat × va_E} {n i k : Nat} (h : i < n) (hk : k = X.length + i) (hf : ∀ j, j < n → j ≠ i → f' j = f j) : (X ++ (List.range n).map f ++ Y).set k (f' i) = X ++ (List.range n).map f' ++ Y := by
  subst hk
  apply List.ext_getElem?
  intro j
  rw [List.getElem?_set]
  by_cases e : X.length + i = j
  · subst e
    rw [if_pos rfl, row_get h rfl, if_pos]
    simp only [List.length_append, List.length_map, List.length_range]
    omega
  · rw [if_neg e, List.append_assoc, List.append_assoc]
    rcases Nat.lt_or_ge j X.length with q | q
    · rw [List.getElem?_append_left q, List.getElem?_append_left q]
    · rw [List.getElem?_append_right q, List.getElem?_append_right q]
      rcases Nat.lt_or_ge (j - X.length) n with q2 | q2
      · rw [List.getElem?_append_left (by simpa using q2), List.getElem?_append_left (by simpa using q2)]
        simp only [List.getElem?_map, List.getElem?_range q2, Option.map_some]
        rw [hf _ q2 (by omega)]
      · rw [List.getElem?_append_right (by simpa using q2), List.getElem?_append_right (by simpa using q2)]
        simp
end
section
theorem i_ST : ∀ w ∈ u_ws R_ST F_ST 7, w ∈ tblG := by decide +kernel
theorem i_No : ∀ w ∈ u_ws R_No F_No 13, w ∈ tblG := by decide +kernel
theorem i_Tr : ∀ w ∈ u_ws R_Tr F_Tr 2, w ∈ tblG := by decide +kernel
theorem i_Ca : ∀ w ∈ u_ws R_Ca F_Ca 4, w ∈ tblG := by decide +kernel
theorem i_Cu : ∀ w ∈ u_ws R_Cu F_Cu 3, w ∈ tblG := by decide +kernel
theorem i_Od : ∀ w ∈ u_ws R_Od F_Od 7, w ∈ tblG := by decide +kernel
theorem i_Go : ∀ w ∈ u_ws R_Go F_Go 6, w ∈ tblG := by decide +kernel
theorem i_Fr : ∀ w ∈ u_ws R_Fr F_Fr 2, w ∈ tblG := by decide +kernel
theorem i_Mo : ∀ w ∈ u_ws R_Mo F_Mo 35, w ∈ tblG := by decide +kernel
def stX (a : Nat → Nat) (rB rT : Nat → Nat) (cI cJ cII cJJ : ClassId) (nc : Nat) (nv : Nat) (ng : Nat) (kd : Nat → Int32) (vo : Nat → Nat) (nu : Nat → Nat) (nd : Nat → Nat) (en : Nat → Nat) (br : Nat → Nat → Nat) (bc : Nat → Nat) (un : Nat → Nat) (eu : Nat → Nat) (li : Nat → Nat) (tb : Nat → Nat → Int64) (cc0 : Nat) (cp : Nat → Nat) (cu : Nat → Nat) (cd : Nat → Nat) (tc : Nat) (ts : Nat → Nat) (tf : Nat → Nat) (ox : Bool) (ow : Nat → Nat) (ob : Nat → Nat) (ra : Nat) (rb : Nat) (gc : Nat) (gr : Nat) (gk : Nat → Nat) (gg : Nat → Nat) (gp : Nat → Nat) (gt : Nat → Nat) (sa : Nat) (sb : Nat) : va_W :=
  [(a 0, .inr (0, [.ref (a 1), .ref (a 2), .ref (a 3), .ref (a 4), .ref (a 5), .ref (a 6), .ref (a 7)])),
   (a 1, .inr (1, [.int (nI nc), .int (nI nv), .int (nI ng), .ref (a 9), .ref (a 10), .ref (a 11), .ref (a 12), .ref (a 13), .ref (a 14), .ref (a 15), .ref (a 16), .ref (a 17), .ref (a 18)])),
   (a 2, .inr (2, [.ref (a 1), .ref (a 19)])),
   (a 3, .inr (3, [.int (nI cc0), .ref (a 20), .ref (a 21), .ref (a 22)])),
   (a 4, .inr (4, [.int (nI tc), .ref (a 23), .ref (a 24)])),
   (a 5, .inr (5, [.ref (a 1), .ref (a 2), .ref (a 3), .ref (a 8), .int (b2 ox), .ref (a 25), .ref (a 26)])),
   (a 6, .inr (6, [.int (nI gc), .int (nI gr), .ref (a 27), .ref (a 28), .ref (a 29), .ref (a 30)])),
   (a 7, .inr (7, [.long (lN sa), .long (lN sb)])),
   (a 8, .inr (7, [.long (lN ra), .long (lN rb)])),
   (a 9, .inl (cI, 33, .inl kd)),
   (a 10, .inl (cI, 33, .inl (fun j => nI (vo j)))),
   (a 11, .inl (cJ, 33, .inr (.inl (fun j => lN (nu j))))),
   (a 12, .inl (cJ, 33, .inr (.inl (fun j => lN (nd j))))),
   (a 13, .inl (cI, 12, .inl (fun j => nI (en j)))),
   (a 14, .inl (cII, 33, .inr (.inr (.inr (.inr (fun i => if i < 33 then some (rB i) else none)))))),
   (a 15, .inl (cI, 33, .inl (fun j => nI (bc j)))),
   (a 16, .inl (cJ, 33, .inr (.inl (fun j => lN (un j))))),
   (a 17, .inl (cI, 33, .inl (fun j => nI (eu j)))),
   (a 18, .inl (cI, 20, .inl (fun j => nI (li j)))),
   (a 19, .inl (cJJ, 33, .inr (.inr (.inr (.inr (fun i => if i < 33 then some (rT i) else none)))))),
   (a 20, .inl (cI, 4, .inl (fun j => nI (cp j)))),
   (a 21, .inl (cJ, 4, .inr (.inl (fun j => lN (cu j))))),
   (a 22, .inl (cJ, 4, .inr (.inl (fun j => lN (cd j))))),
   (a 23, .inl (cI, 924, .inl (fun j => nI (ts j)))),
   (a 24, .inl (cI, 924, .inl (fun j => nI (tf j)))),
   (a 25, .inl (cJ, 4096, .inr (.inl (fun j => lN (ow j))))),
   (a 26, .inl (cJ, 33, .inr (.inl (fun j => lN (ob j))))),
   (a 27, .inl (cI, 31, .inl (fun j => nI (gk j)))),
   (a 28, .inl (cI, 100, .inl (fun j => nI (gg j)))),
   (a 29, .inl (cI, 100, .inl (fun j => nI (gp j)))),
   (a 30, .inl (cI, 100, .inl (fun j => nI (gt j))))]
def stB (rB : Nat → Nat) (cI : ClassId) (br : Nat → Nat → Nat) : Nat → Nat × va_E := fun i => (rB i, .inl (cI, 10, .inl (fun j => nI (br i j))))
def stT (rT : Nat → Nat) (cJ : ClassId) (tb : Nat → Nat → Int64) : Nat → Nat × va_E := fun i => (rT i, .inl (cJ, 64, .inr (.inl (tb i))))
/-- the class's whole world -/
def stW (a : Nat → Nat) (rB rT : Nat → Nat) (cI cJ cII cJJ : ClassId) (nc : Nat) (nv : Nat) (ng : Nat) (kd : Nat → Int32) (vo : Nat → Nat) (nu : Nat → Nat) (nd : Nat → Nat) (en : Nat → Nat) (br : Nat → Nat → Nat) (bc : Nat → Nat) (un : Nat → Nat) (eu : Nat → Nat) (li : Nat → Nat) (tb : Nat → Nat → Int64) (cc0 : Nat) (cp : Nat → Nat) (cu : Nat → Nat) (cd : Nat → Nat) (tc : Nat) (ts : Nat → Nat) (tf : Nat → Nat) (ox : Bool) (ow : Nat → Nat) (ob : Nat → Nat) (ra : Nat) (rb : Nat) (gc : Nat) (gr : Nat) (gk : Nat → Nat) (gg : Nat → Nat) (gp : Nat → Nat) (gt : Nat → Nat) (sa : Nat) (sb : Nat) : va_W :=
  stX a rB rT cI cJ cII cJJ nc nv ng kd vo nu nd en br bc un eu li tb cc0 cp cu cd tc ts tf ox ow ob ra rb gc gr gk gg gp gt sa sb ++ (List.range 33).map (stB rB cI br) ++ (List.range 33).map (stT rT cJ tb)
abbrev tyS (cI cJ cII cJJ : ClassId) : List (ClassId × FieldType) := [(cI, .int), (cJ, .long), (cII, .array .int), (cJJ, .array .long)]
theorem stX_len {a rB rT : Nat → Nat} {cI cJ cII cJJ : ClassId} {nc : Nat} {nv : Nat} {ng : Nat} {kd : Nat → Int32} {vo : Nat → Nat} {nu : Nat → Nat} {nd : Nat → Nat} {en : Nat → Nat} {br : Nat → Nat → Nat} {bc : Nat → Nat} {un : Nat → Nat} {eu : Nat → Nat} {li : Nat → Nat} {tb : Nat → Nat → Int64} {cc0 : Nat} {cp : Nat → Nat} {cu : Nat → Nat} {cd : Nat → Nat} {tc : Nat} {ts : Nat → Nat} {tf : Nat → Nat} {ox : Bool} {ow : Nat → Nat} {ob : Nat → Nat} {ra : Nat} {rb : Nat} {gc : Nat} {gr : Nat} {gk : Nat → Nat} {gg : Nat → Nat} {gp : Nat → Nat} {gt : Nat → Nat} {sa : Nat} {sb : Nat} : (stX a rB rT cI cJ cII cJJ nc nv ng kd vo nu nd en br bc un eu li tb cc0 cp cu cd tc ts tf ox ow ob ra rb gc gr gk gg gp gt sa sb).length = 31 := rfl
theorem stB_at {a rB rT : Nat → Nat} {cI cJ cII cJJ : ClassId} {nc : Nat} {nv : Nat} {ng : Nat} {kd : Nat → Int32} {vo : Nat → Nat} {nu : Nat → Nat} {nd : Nat → Nat} {en : Nat → Nat} {br : Nat → Nat → Nat} {bc : Nat → Nat} {un : Nat → Nat} {eu : Nat → Nat} {li : Nat → Nat} {tb : Nat → Nat → Int64} {cc0 : Nat} {cp : Nat → Nat} {cu : Nat → Nat} {cd : Nat → Nat} {tc : Nat} {ts : Nat → Nat} {tf : Nat → Nat} {ox : Bool} {ow : Nat → Nat} {ob : Nat → Nat} {ra : Nat} {rb : Nat} {gc : Nat} {gr : Nat} {gk : Nat → Nat} {gg : Nat → Nat} {gp : Nat → Nat} {gt : Nat → Nat} {sa : Nat} {sb : Nat} {i : Nat} (h : i < 33) : (stW a rB rT cI cJ cII cJJ nc nv ng kd vo nu nd en br bc un eu li tb cc0 cp cu cd tc ts tf ox ow ob ra rb gc gr gk gg gp gt sa sb)[31 + i]? = some (rB i, .inl (cI, 10, .inl (fun j => nI (br i j)))) :=
  row_get (X := stX a rB rT cI cJ cII cJJ nc nv ng kd vo nu nd en br bc un eu li tb cc0 cp cu cd tc ts tf ox ow ob ra rb gc gr gk gg gp gt sa sb) (f := stB rB cI br) h rfl
theorem stT_at {a rB rT : Nat → Nat} {cI cJ cII cJJ : ClassId} {nc : Nat} {nv : Nat} {ng : Nat} {kd : Nat → Int32} {vo : Nat → Nat} {nu : Nat → Nat} {nd : Nat → Nat} {en : Nat → Nat} {br : Nat → Nat → Nat} {bc : Nat → Nat} {un : Nat → Nat} {eu : Nat → Nat} {li : Nat → Nat} {tb : Nat → Nat → Int64} {cc0 : Nat} {cp : Nat → Nat} {cu : Nat → Nat} {cd : Nat → Nat} {tc : Nat} {ts : Nat → Nat} {tf : Nat → Nat} {ox : Bool} {ow : Nat → Nat} {ob : Nat → Nat} {ra : Nat} {rb : Nat} {gc : Nat} {gr : Nat} {gk : Nat → Nat} {gg : Nat → Nat} {gp : Nat → Nat} {gt : Nat → Nat} {sa : Nat} {sb : Nat} {i : Nat} (h : i < 33) : (stW a rB rT cI cJ cII cJJ nc nv ng kd vo nu nd en br bc un eu li tb cc0 cp cu cd tc ts tf ox ow ob ra rb gc gr gk gg gp gt sa sb)[64 + i]? = some (rT i, .inl (cJ, 64, .inr (.inl (tb i)))) := by
  have := row_get (X := stX a rB rT cI cJ cII cJJ nc nv ng kd vo nu nd en br bc un eu li tb cc0 cp cu cd tc ts tf ox ow ob ra rb gc gr gk gg gp gt sa sb ++ (List.range 33).map (stB rB cI br)) (Y := []) (f := stT rT cJ tb) (k := 64 + i) h (by simp [stX_len])
  rw [List.append_nil] at this
  exact this
theorem stB_set {a rB rT : Nat → Nat} {cI cJ cII cJJ : ClassId} {nc : Nat} {nv : Nat} {ng : Nat} {kd : Nat → Int32} {vo : Nat → Nat} {nu : Nat → Nat} {nd : Nat → Nat} {en : Nat → Nat} {br : Nat → Nat → Nat} {bc : Nat → Nat} {un : Nat → Nat} {eu : Nat → Nat} {li : Nat → Nat} {tb : Nat → Nat → Int64} {cc0 : Nat} {cp : Nat → Nat} {cu : Nat → Nat} {cd : Nat → Nat} {tc : Nat} {ts : Nat → Nat} {tf : Nat → Nat} {ox : Bool} {ow : Nat → Nat} {ob : Nat → Nat} {ra : Nat} {rb : Nat} {gc : Nat} {gr : Nat} {gk : Nat → Nat} {gg : Nat → Nat} {gp : Nat → Nat} {gt : Nat → Nat} {sa : Nat} {sb : Nat} {i : Nat} {f : Nat → Nat} (h : i < 33) : (stW a rB rT cI cJ cII cJJ nc nv ng kd vo nu nd en br bc un eu li tb cc0 cp cu cd tc ts tf ox ow ob ra rb gc gr gk gg gp gt sa sb).set (31 + i) (rB i, .inl (cI, 10, .inl (fun j => nI (f j)))) = stW a rB rT cI cJ cII cJJ nc nv ng kd vo nu nd en (va_up br i f) bc un eu li tb cc0 cp cu cd tc ts tf ox ow ob ra rb gc gr gk gg gp gt sa sb := by
  have := row_set (X := stX a rB rT cI cJ cII cJJ nc nv ng kd vo nu nd en br bc un eu li tb cc0 cp cu cd tc ts tf ox ow ob ra rb gc gr gk gg gp gt sa sb) (Y := (List.range 33).map (stT rT cJ tb)) (f := stB rB cI br) (f' := stB rB cI (va_up br i f)) (k := 31 + i) h rfl (fun j _ hj => by simp [stB, va_up, hj])
  rw [show stB rB cI (va_up br i f) i = (rB i, .inl (cI, 10, .inl (fun j => nI (f j)))) by simp [stB, va_up]] at this
  exact this
theorem stT_set {a rB rT : Nat → Nat} {cI cJ cII cJJ : ClassId} {nc : Nat} {nv : Nat} {ng : Nat} {kd : Nat → Int32} {vo : Nat → Nat} {nu : Nat → Nat} {nd : Nat → Nat} {en : Nat → Nat} {br : Nat → Nat → Nat} {bc : Nat → Nat} {un : Nat → Nat} {eu : Nat → Nat} {li : Nat → Nat} {tb : Nat → Nat → Int64} {cc0 : Nat} {cp : Nat → Nat} {cu : Nat → Nat} {cd : Nat → Nat} {tc : Nat} {ts : Nat → Nat} {tf : Nat → Nat} {ox : Bool} {ow : Nat → Nat} {ob : Nat → Nat} {ra : Nat} {rb : Nat} {gc : Nat} {gr : Nat} {gk : Nat → Nat} {gg : Nat → Nat} {gp : Nat → Nat} {gt : Nat → Nat} {sa : Nat} {sb : Nat} {i : Nat} {f : Nat → Int64} (h : i < 33) : (stW a rB rT cI cJ cII cJJ nc nv ng kd vo nu nd en br bc un eu li tb cc0 cp cu cd tc ts tf ox ow ob ra rb gc gr gk gg gp gt sa sb).set (64 + i) (rT i, .inl (cJ, 64, .inr (.inl f))) = stW a rB rT cI cJ cII cJJ nc nv ng kd vo nu nd en br bc un eu li (va_up tb i f) cc0 cp cu cd tc ts tf ox ow ob ra rb gc gr gk gg gp gt sa sb := by
  have := row_set (X := stX a rB rT cI cJ cII cJJ nc nv ng kd vo nu nd en br bc un eu li tb cc0 cp cu cd tc ts tf ox ow ob ra rb gc gr gk gg gp gt sa sb ++ (List.range 33).map (stB rB cI br)) (Y := []) (f := stT rT cJ tb) (f' := stT rT cJ (va_up tb i f)) (k := 64 + i) h (by simp [stX_len]) (fun j _ hj => by simp [stT, va_up, hj])
  rw [show stT rT cJ (va_up tb i f) i = (rT i, .inl (cJ, 64, .inr (.inl f))) by simp [stT, va_up], List.append_nil, List.append_nil] at this
  exact this
theorem b2_nar (b : Bool) : narrow .boolean (.int (b2 b)) = .int (b2 b) := by cases b <;> rfl
theorem b2_fit (b : Bool) : fits .boolean (.int (b2 b)) = true := by cases b <;> rfl
theorem my_upI (f : Nat → Int32) (i : Nat) (v : Int32) : upd f i v = va_up f i v := rfl
theorem my_upJ (f : Nat → Int64) (i : Nat) (v : Int64) : vp_updL f i v = va_up f i v := rfl
section MYA
variable {p : Program} {l : Launch} {e : Env} {R : Room} {s : State} {m : MethodId} {args : Array Value} {below : List Frame} {meth : Method} {c : Code} {H : Heap} {locs : List Loc} {cells slots : Nat} {Q : State → Prop}
variable {cc : ByteArray} {pc : Nat} {ls : Array Slot} {rest : List Value} {D : va_G} {cl : List vw_C} {tys : List (ClassId × FieldType)} {ws : va_W} {a : Nat}
/-- a row of a grid -/
theorem my_aald {r : Nat → Nat} {cA : ClassId} {ty : FieldType} {n i : Nat} (hx : p.tables.exec = Jvm.exec) (hb : c.code = cc) (hK : va_K D cl tys s) (hP : va_P D cl ws H) (q0 t0 : Nat) (ha : ws[q0]? = some (a, .inl (cA, n, .inr (.inr (.inr (.inr (fun i => if i < n then some (r i) else none))))))) (ht : tys[t0]? = some (cA, .array ty)) (hi : i < n) (hn : n < 2 ^ 31) (hdg : decode cc pc = .ok (.aaload, 1))
    (kk : W p l e R s m args below meth c H locs cells slots Q (F0 m (pc + 1) ls (.ref (r i) :: rest))) : W p l e R s m args below meth c H locs cells slots Q (F0 m pc ls (.int (nI i) :: .ref a :: rest)) := by
  have hin : vp_in (nI i) n := vp_in_nI hi hn
  have hc : (nI i).toNatClampNeg = i := nI_clamp (by omega)
  have hlt : (nI i).toNatClampNeg < n := by rw [hc]; exact hi
  refine W.aald (v := va_rf ((fun i => if i < n then some (r i) else none) (nI i).toNatClampNeg)) (ty := .array ty) hx hb (hP q0 _ ha) ((hK.2 t0 _ ht).1 n (fun j => va_rf ((fun i => if i < n then some (r i) else none) j))) rfl (fun q => by cases q) (by show ¬ (nI i < 0 ∨ (arrV _ _ _).slots.size ≤ _); rw [arrV_size]; exact hin) (by show (arrV _ _ _).slots[_]? = _; rw [arrV_read _ _ hlt]) rfl rfl hdg ?_
  rw [hc]
  show W p l e R s m args below meth c H locs cells slots Q (F0 m (pc + 1) ls (va_rf (if i < n then some (r i) else none) :: rest))
  rw [if_pos hi]
  exact kk
end MYA
end
