section
-- ===== PART A: goes FIRST, ahead of the names: the tables' words, and 'selects' of the private methods out of them =====
/-- a private method of a class that the tables say can be made, by its rows of tables_1 -/
def lw_okq (q : MethodName × Nat) : Prop := (q.1.cls ≠ "java/lang/invoke/MethodHandle" ∧ q.1.cls ≠ "java/lang/invoke/VarHandle") ∧ Cond.instantiable q.1.cls q.2 ∈ tables_1 ∧ Cond.privateMethod q.1 ∈ tables_1 ∧ Cond.instanceMethod q.1 ∈ tables_1
theorem lw_p0 : lw_okq (⟨"MarkovTree$Word", "multiply", "(JJJ)V"⟩, 4) := ⟨⟨by decide +kernel, by decide +kernel⟩, List.mem_of_getElem? (i := 182) (by decide +kernel), List.mem_of_getElem? (i := 196) (by decide +kernel), List.mem_of_getElem? (i := 197) (by decide +kernel)⟩
theorem lw_p1 : lw_okq (⟨"MarkovTree$Course", "fail", "(II)V"⟩, 11) := ⟨⟨by decide +kernel, by decide +kernel⟩, List.mem_of_getElem? (i := 44) (by decide +kernel), List.mem_of_getElem? (i := 343) (by decide +kernel), List.mem_of_getElem? (i := 344) (by decide +kernel)⟩
theorem lw_p2 : lw_okq (⟨"MarkovTree$Course", "readNumber", "(LMarkovTree$Tape;I)I"⟩, 11) := ⟨⟨by decide +kernel, by decide +kernel⟩, List.mem_of_getElem? (i := 44) (by decide +kernel), List.mem_of_getElem? (i := 354) (by decide +kernel), List.mem_of_getElem? (i := 355) (by decide +kernel)⟩
theorem lw_p3 : lw_okq (⟨"MarkovTree$Course", "readSign", "(II)I"⟩, 11) := ⟨⟨by decide +kernel, by decide +kernel⟩, List.mem_of_getElem? (i := 44) (by decide +kernel), List.mem_of_getElem? (i := 361) (by decide +kernel), List.mem_of_getElem? (i := 362) (by decide +kernel)⟩
theorem lw_p4 : lw_okq (⟨"MarkovTree$Course", "putAct", "(II)V"⟩, 11) := ⟨⟨by decide +kernel, by decide +kernel⟩, List.mem_of_getElem? (i := 44) (by decide +kernel), List.mem_of_getElem? (i := 365) (by decide +kernel), List.mem_of_getElem? (i := 366) (by decide +kernel)⟩
theorem lw_p5 : lw_okq (⟨"MarkovTree$Course", "openBracket", "(I)V"⟩, 11) := ⟨⟨by decide +kernel, by decide +kernel⟩, List.mem_of_getElem? (i := 44) (by decide +kernel), List.mem_of_getElem? (i := 369) (by decide +kernel), List.mem_of_getElem? (i := 370) (by decide +kernel)⟩
theorem lw_p6 : lw_okq (⟨"MarkovTree$Course", "closeBracket", "(I)V"⟩, 11) := ⟨⟨by decide +kernel, by decide +kernel⟩, List.mem_of_getElem? (i := 44) (by decide +kernel), List.mem_of_getElem? (i := 373) (by decide +kernel), List.mem_of_getElem? (i := 374) (by decide +kernel)⟩
theorem lw_p7 : lw_okq (⟨"MarkovTree$Marks", "copyRow", "(LMarkovTree$Marks;II)V"⟩, 4) := ⟨⟨by decide +kernel, by decide +kernel⟩, List.mem_of_getElem? (i := 117) (by decide +kernel), List.mem_of_getElem? (i := 401) (by decide +kernel), List.mem_of_getElem? (i := 402) (by decide +kernel)⟩
theorem lw_p8 : lw_okq (⟨"MarkovTree$Course", "afterBracket", "(I)I"⟩, 11) := ⟨⟨by decide +kernel, by decide +kernel⟩, List.mem_of_getElem? (i := 44) (by decide +kernel), List.mem_of_getElem? (i := 414) (by decide +kernel), List.mem_of_getElem? (i := 415) (by decide +kernel)⟩
theorem lw_p9 : lw_okq (⟨"MarkovTree", "stepped", "(Z)I"⟩, 10) := ⟨⟨by decide +kernel, by decide +kernel⟩, List.mem_of_getElem? (i := 22) (by decide +kernel), List.mem_of_getElem? (i := 501) (by decide +kernel), List.mem_of_getElem? (i := 502) (by decide +kernel)⟩
theorem lw_p10 : lw_okq (⟨"MarkovTree", "moveTo", "(II)I"⟩, 10) := ⟨⟨by decide +kernel, by decide +kernel⟩, List.mem_of_getElem? (i := 22) (by decide +kernel), List.mem_of_getElem? (i := 526) (by decide +kernel), List.mem_of_getElem? (i := 527) (by decide +kernel)⟩
theorem lw_p11 : lw_okq (⟨"MarkovTree", "setForm", "()Z"⟩, 10) := ⟨⟨by decide +kernel, by decide +kernel⟩, List.mem_of_getElem? (i := 22) (by decide +kernel), List.mem_of_getElem? (i := 568) (by decide +kernel), List.mem_of_getElem? (i := 569) (by decide +kernel)⟩
theorem lw_p12 : lw_okq (⟨"MarkovTree", "numberHere", "()J"⟩, 10) := ⟨⟨by decide +kernel, by decide +kernel⟩, List.mem_of_getElem? (i := 22) (by decide +kernel), List.mem_of_getElem? (i := 572) (by decide +kernel), List.mem_of_getElem? (i := 573) (by decide +kernel)⟩
theorem lw_p13 : lw_okq (⟨"MarkovTree", "numberOf", "(II)J"⟩, 10) := ⟨⟨by decide +kernel, by decide +kernel⟩, List.mem_of_getElem? (i := 22) (by decide +kernel), List.mem_of_getElem? (i := 576) (by decide +kernel), List.mem_of_getElem? (i := 577) (by decide +kernel)⟩
theorem lw_p14 : lw_okq (⟨"MarkovTree$Form", "goToNext", "()V"⟩, 7) := ⟨⟨by decide +kernel, by decide +kernel⟩, List.mem_of_getElem? (i := 214) (by decide +kernel), List.mem_of_getElem? (i := 607) (by decide +kernel), List.mem_of_getElem? (i := 608) (by decide +kernel)⟩
theorem lw_p15 : lw_okq (⟨"MarkovTree$Table", "fill", "()V"⟩, 7) := ⟨⟨by decide +kernel, by decide +kernel⟩, List.mem_of_getElem? (i := 251) (by decide +kernel), List.mem_of_getElem? (i := 636) (by decide +kernel), List.mem_of_getElem? (i := 637) (by decide +kernel)⟩
def lw_privs_1 : List (MethodName × Nat) := [(⟨"MarkovTree$Word", "multiply", "(JJJ)V"⟩, 4), (⟨"MarkovTree$Course", "fail", "(II)V"⟩, 11), (⟨"MarkovTree$Course", "readNumber", "(LMarkovTree$Tape;I)I"⟩, 11), (⟨"MarkovTree$Course", "readSign", "(II)I"⟩, 11), (⟨"MarkovTree$Course", "putAct", "(II)V"⟩, 11), (⟨"MarkovTree$Course", "openBracket", "(I)V"⟩, 11), (⟨"MarkovTree$Course", "closeBracket", "(I)V"⟩, 11), (⟨"MarkovTree$Marks", "copyRow", "(LMarkovTree$Marks;II)V"⟩, 4), (⟨"MarkovTree$Course", "afterBracket", "(I)I"⟩, 11), (⟨"MarkovTree", "stepped", "(Z)I"⟩, 10), (⟨"MarkovTree", "moveTo", "(II)I"⟩, 10), (⟨"MarkovTree", "setForm", "()Z"⟩, 10), (⟨"MarkovTree", "numberHere", "()J"⟩, 10), (⟨"MarkovTree", "numberOf", "(II)J"⟩, 10), (⟨"MarkovTree$Form", "goToNext", "()V"⟩, 7), (⟨"MarkovTree$Table", "fill", "()V"⟩, 7)]
theorem lw_r1 : ∀ q ∈ lw_privs_1, lw_okq q := List.forall_mem_cons.mpr ⟨lw_p0, List.forall_mem_cons.mpr ⟨lw_p1, List.forall_mem_cons.mpr ⟨lw_p2, List.forall_mem_cons.mpr ⟨lw_p3, List.forall_mem_cons.mpr ⟨lw_p4, List.forall_mem_cons.mpr ⟨lw_p5, List.forall_mem_cons.mpr ⟨lw_p6, List.forall_mem_cons.mpr ⟨lw_p7, List.forall_mem_cons.mpr ⟨lw_p8, List.forall_mem_cons.mpr ⟨lw_p9, List.forall_mem_cons.mpr ⟨lw_p10, List.forall_mem_cons.mpr ⟨lw_p11, List.forall_mem_cons.mpr ⟨lw_p12, List.forall_mem_cons.mpr ⟨lw_p13, List.forall_mem_cons.mpr ⟨lw_p14, List.forall_mem_cons.mpr ⟨lw_p15, fun _ h => absurd h List.not_mem_nil⟩⟩⟩⟩⟩⟩⟩⟩⟩⟩⟩⟩⟩⟩⟩⟩
theorem lw_p16 : lw_okq (⟨"MarkovTree$Table", "putRow", "(JJJI)V"⟩, 7) := ⟨⟨by decide +kernel, by decide +kernel⟩, List.mem_of_getElem? (i := 251) (by decide +kernel), List.mem_of_getElem? (i := 642) (by decide +kernel), List.mem_of_getElem? (i := 643) (by decide +kernel)⟩
theorem lw_p17 : lw_okq (⟨"MarkovTree$Table", "putNext", "(JJJI)V"⟩, 7) := ⟨⟨by decide +kernel, by decide +kernel⟩, List.mem_of_getElem? (i := 251) (by decide +kernel), List.mem_of_getElem? (i := 646) (by decide +kernel), List.mem_of_getElem? (i := 647) (by decide +kernel)⟩
theorem lw_p18 : lw_okq (⟨"MarkovTree$Table", "fillNumbers", "()V"⟩, 7) := ⟨⟨by decide +kernel, by decide +kernel⟩, List.mem_of_getElem? (i := 251) (by decide +kernel), List.mem_of_getElem? (i := 652) (by decide +kernel), List.mem_of_getElem? (i := 653) (by decide +kernel)⟩
theorem lw_p19 : lw_okq (⟨"MarkovTree$Table", "has", "(I)Z"⟩, 7) := ⟨⟨by decide +kernel, by decide +kernel⟩, List.mem_of_getElem? (i := 251) (by decide +kernel), List.mem_of_getElem? (i := 695) (by decide +kernel), List.mem_of_getElem? (i := 696) (by decide +kernel)⟩
theorem lw_p20 : lw_okq (⟨"MarkovTree", "markHere", "()Z"⟩, 10) := ⟨⟨by decide +kernel, by decide +kernel⟩, List.mem_of_getElem? (i := 22) (by decide +kernel), List.mem_of_getElem? (i := 733) (by decide +kernel), List.mem_of_getElem? (i := 734) (by decide +kernel)⟩
theorem lw_p21 : lw_okq (⟨"MarkovTree$Telling", "goOn", "(III)I"⟩, 3) := ⟨⟨by decide +kernel, by decide +kernel⟩, List.mem_of_getElem? (i := 163) (by decide +kernel), List.mem_of_getElem? (i := 804) (by decide +kernel), List.mem_of_getElem? (i := 805) (by decide +kernel)⟩
theorem lw_p22 : lw_okq (⟨"MarkovTree$Telling", "put", "(I)V"⟩, 3) := ⟨⟨by decide +kernel, by decide +kernel⟩, List.mem_of_getElem? (i := 163) (by decide +kernel), List.mem_of_getElem? (i := 809) (by decide +kernel), List.mem_of_getElem? (i := 810) (by decide +kernel)⟩
theorem lw_p23 : lw_okq (⟨"MarkovTree$Telling", "putNumber", "(I)V"⟩, 3) := ⟨⟨by decide +kernel, by decide +kernel⟩, List.mem_of_getElem? (i := 163) (by decide +kernel), List.mem_of_getElem? (i := 813) (by decide +kernel), List.mem_of_getElem? (i := 814) (by decide +kernel)⟩
theorem lw_p24 : lw_okq (⟨"MarkovTree", "doDrawn", "(I)Z"⟩, 10) := ⟨⟨by decide +kernel, by decide +kernel⟩, List.mem_of_getElem? (i := 22) (by decide +kernel), List.mem_of_getElem? (i := 830) (by decide +kernel), List.mem_of_getElem? (i := 831) (by decide +kernel)⟩
theorem lw_p25 : lw_okq (⟨"MarkovTree", "imageAt", "(I)LMarkovTree$State;"⟩, 10) := ⟨⟨by decide +kernel, by decide +kernel⟩, List.mem_of_getElem? (i := 22) (by decide +kernel), List.mem_of_getElem? (i := 846) (by decide +kernel), List.mem_of_getElem? (i := 847) (by decide +kernel)⟩
theorem lw_p26 : lw_okq (⟨"java/lang/Throwable", "fillInStackTrace", "(I)Ljava/lang/Throwable;"⟩, 6) := ⟨⟨by decide +kernel, by decide +kernel⟩, List.mem_of_getElem? (i := 903) (by decide +kernel), List.mem_of_getElem? (i := 901) (by decide +kernel), List.mem_of_getElem? (i := 902) (by decide +kernel)⟩
theorem lw_p27 : lw_okq (⟨"MarkovTreeModel", "lay", "(I)V"⟩, 39) := ⟨⟨by decide +kernel, by decide +kernel⟩, List.mem_of_getElem? (i := 956) (by decide +kernel), List.mem_of_getElem? (i := 954) (by decide +kernel), List.mem_of_getElem? (i := 955) (by decide +kernel)⟩
theorem lw_p28 : lw_okq (⟨"MarkovTreeModel", "stepsOnce", "(I)I"⟩, 39) := ⟨⟨by decide +kernel, by decide +kernel⟩, List.mem_of_getElem? (i := 956) (by decide +kernel), List.mem_of_getElem? (i := 1090) (by decide +kernel), List.mem_of_getElem? (i := 1091) (by decide +kernel)⟩
theorem lw_p29 : lw_okq (⟨"MarkovTreeModel", "steps", "(I)Z"⟩, 39) := ⟨⟨by decide +kernel, by decide +kernel⟩, List.mem_of_getElem? (i := 956) (by decide +kernel), List.mem_of_getElem? (i := 1097) (by decide +kernel), List.mem_of_getElem? (i := 1098) (by decide +kernel)⟩
theorem lw_p30 : lw_okq (⟨"MarkovTreeModel", "lays", "()V"⟩, 39) := ⟨⟨by decide +kernel, by decide +kernel⟩, List.mem_of_getElem? (i := 956) (by decide +kernel), List.mem_of_getElem? (i := 1101) (by decide +kernel), List.mem_of_getElem? (i := 1102) (by decide +kernel)⟩
theorem lw_p31 : lw_okq (⟨"MarkovTreeModel", "goesTo", "(II)V"⟩, 39) := ⟨⟨by decide +kernel, by decide +kernel⟩, List.mem_of_getElem? (i := 956) (by decide +kernel), List.mem_of_getElem? (i := 1105) (by decide +kernel), List.mem_of_getElem? (i := 1106) (by decide +kernel)⟩
def lw_privs_2 : List (MethodName × Nat) := [(⟨"MarkovTree$Table", "putRow", "(JJJI)V"⟩, 7), (⟨"MarkovTree$Table", "putNext", "(JJJI)V"⟩, 7), (⟨"MarkovTree$Table", "fillNumbers", "()V"⟩, 7), (⟨"MarkovTree$Table", "has", "(I)Z"⟩, 7), (⟨"MarkovTree", "markHere", "()Z"⟩, 10), (⟨"MarkovTree$Telling", "goOn", "(III)I"⟩, 3), (⟨"MarkovTree$Telling", "put", "(I)V"⟩, 3), (⟨"MarkovTree$Telling", "putNumber", "(I)V"⟩, 3), (⟨"MarkovTree", "doDrawn", "(I)Z"⟩, 10), (⟨"MarkovTree", "imageAt", "(I)LMarkovTree$State;"⟩, 10), (⟨"java/lang/Throwable", "fillInStackTrace", "(I)Ljava/lang/Throwable;"⟩, 6), (⟨"MarkovTreeModel", "lay", "(I)V"⟩, 39), (⟨"MarkovTreeModel", "stepsOnce", "(I)I"⟩, 39), (⟨"MarkovTreeModel", "steps", "(I)Z"⟩, 39), (⟨"MarkovTreeModel", "lays", "()V"⟩, 39), (⟨"MarkovTreeModel", "goesTo", "(II)V"⟩, 39)]
theorem lw_r2 : ∀ q ∈ lw_privs_2, lw_okq q := List.forall_mem_cons.mpr ⟨lw_p16, List.forall_mem_cons.mpr ⟨lw_p17, List.forall_mem_cons.mpr ⟨lw_p18, List.forall_mem_cons.mpr ⟨lw_p19, List.forall_mem_cons.mpr ⟨lw_p20, List.forall_mem_cons.mpr ⟨lw_p21, List.forall_mem_cons.mpr ⟨lw_p22, List.forall_mem_cons.mpr ⟨lw_p23, List.forall_mem_cons.mpr ⟨lw_p24, List.forall_mem_cons.mpr ⟨lw_p25, List.forall_mem_cons.mpr ⟨lw_p26, List.forall_mem_cons.mpr ⟨lw_p27, List.forall_mem_cons.mpr ⟨lw_p28, List.forall_mem_cons.mpr ⟨lw_p29, List.forall_mem_cons.mpr ⟨lw_p30, List.forall_mem_cons.mpr ⟨lw_p31, fun _ h => absurd h List.not_mem_nil⟩⟩⟩⟩⟩⟩⟩⟩⟩⟩⟩⟩⟩⟩⟩⟩
theorem lw_p32 : lw_okq (⟨"MarkovTreeModel", "becomes", "(II)V"⟩, 39) := ⟨⟨by decide +kernel, by decide +kernel⟩, List.mem_of_getElem? (i := 956) (by decide +kernel), List.mem_of_getElem? (i := 1109) (by decide +kernel), List.mem_of_getElem? (i := 1110) (by decide +kernel)⟩
theorem lw_p33 : lw_okq (⟨"MarkovTreeModel", "stay", "()V"⟩, 39) := ⟨⟨by decide +kernel, by decide +kernel⟩, List.mem_of_getElem? (i := 956) (by decide +kernel), List.mem_of_getElem? (i := 1113) (by decide +kernel), List.mem_of_getElem? (i := 1114) (by decide +kernel)⟩
theorem lw_p34 : lw_okq (⟨"MarkovTreeModel", "snap", "()V"⟩, 39) := ⟨⟨by decide +kernel, by decide +kernel⟩, List.mem_of_getElem? (i := 956) (by decide +kernel), List.mem_of_getElem? (i := 1117) (by decide +kernel), List.mem_of_getElem? (i := 1118) (by decide +kernel)⟩
theorem lw_p35 : lw_okq (⟨"MarkovTreeModel", "goesThere", "(II)I"⟩, 39) := ⟨⟨by decide +kernel, by decide +kernel⟩, List.mem_of_getElem? (i := 956) (by decide +kernel), List.mem_of_getElem? (i := 1143) (by decide +kernel), List.mem_of_getElem? (i := 1144) (by decide +kernel)⟩
theorem lw_p36 : lw_okq (⟨"MarkovTreeModel", "depth", "()I"⟩, 39) := ⟨⟨by decide +kernel, by decide +kernel⟩, List.mem_of_getElem? (i := 956) (by decide +kernel), List.mem_of_getElem? (i := 1147) (by decide +kernel), List.mem_of_getElem? (i := 1148) (by decide +kernel)⟩
theorem lw_p37 : lw_okq (⟨"MarkovTreeModel", "numberOf", "(II)J"⟩, 39) := ⟨⟨by decide +kernel, by decide +kernel⟩, List.mem_of_getElem? (i := 956) (by decide +kernel), List.mem_of_getElem? (i := 1155) (by decide +kernel), List.mem_of_getElem? (i := 1156) (by decide +kernel)⟩
theorem lw_p38 : lw_okq (⟨"MarkovTreeModel", "laysMatrix", "(II)V"⟩, 39) := ⟨⟨by decide +kernel, by decide +kernel⟩, List.mem_of_getElem? (i := 956) (by decide +kernel), List.mem_of_getElem? (i := 1159) (by decide +kernel), List.mem_of_getElem? (i := 1160) (by decide +kernel)⟩
theorem lw_p39 : lw_okq (⟨"MarkovTreeModel", "number", "()J"⟩, 39) := ⟨⟨by decide +kernel, by decide +kernel⟩, List.mem_of_getElem? (i := 956) (by decide +kernel), List.mem_of_getElem? (i := 1168) (by decide +kernel), List.mem_of_getElem? (i := 1169) (by decide +kernel)⟩
theorem lw_p40 : lw_okq (⟨"MarkovTreeModel", "refuse", "()I"⟩, 39) := ⟨⟨by decide +kernel, by decide +kernel⟩, List.mem_of_getElem? (i := 956) (by decide +kernel), List.mem_of_getElem? (i := 1172) (by decide +kernel), List.mem_of_getElem? (i := 1173) (by decide +kernel)⟩
theorem lw_p41 : lw_okq (⟨"MarkovTreeModel", "laysForm", "()Z"⟩, 39) := ⟨⟨by decide +kernel, by decide +kernel⟩, List.mem_of_getElem? (i := 956) (by decide +kernel), List.mem_of_getElem? (i := 1192) (by decide +kernel), List.mem_of_getElem? (i := 1193) (by decide +kernel)⟩
theorem lw_p42 : lw_okq (⟨"MarkovTreeModel", "laysRound", "()I"⟩, 39) := ⟨⟨by decide +kernel, by decide +kernel⟩, List.mem_of_getElem? (i := 956) (by decide +kernel), List.mem_of_getElem? (i := 1213) (by decide +kernel), List.mem_of_getElem? (i := 1214) (by decide +kernel)⟩
theorem lw_p43 : lw_okq (⟨"MarkovTreeModel", "formOn", "()V"⟩, 39) := ⟨⟨by decide +kernel, by decide +kernel⟩, List.mem_of_getElem? (i := 956) (by decide +kernel), List.mem_of_getElem? (i := 1217) (by decide +kernel), List.mem_of_getElem? (i := 1218) (by decide +kernel)⟩
theorem lw_p44 : lw_okq (⟨"MarkovTreeModel", "laysNumbers", "(J)V"⟩, 39) := ⟨⟨by decide +kernel, by decide +kernel⟩, List.mem_of_getElem? (i := 956) (by decide +kernel), List.mem_of_getElem? (i := 1231) (by decide +kernel), List.mem_of_getElem? (i := 1232) (by decide +kernel)⟩
theorem lw_p45 : lw_okq (⟨"MarkovTreeModel", "comes", "(J)V"⟩, 39) := ⟨⟨by decide +kernel, by decide +kernel⟩, List.mem_of_getElem? (i := 956) (by decide +kernel), List.mem_of_getElem? (i := 1235) (by decide +kernel), List.mem_of_getElem? (i := 1236) (by decide +kernel)⟩
theorem lw_p46 : lw_okq (⟨"MarkovTreeModel", "grows", "(JJJ)V"⟩, 39) := ⟨⟨by decide +kernel, by decide +kernel⟩, List.mem_of_getElem? (i := 956) (by decide +kernel), List.mem_of_getElem? (i := 1239) (by decide +kernel), List.mem_of_getElem? (i := 1240) (by decide +kernel)⟩
theorem lw_p47 : lw_okq (⟨"MarkovTreeModel", "markHere", "()I"⟩, 39) := ⟨⟨by decide +kernel, by decide +kernel⟩, List.mem_of_getElem? (i := 956) (by decide +kernel), List.mem_of_getElem? (i := 1282) (by decide +kernel), List.mem_of_getElem? (i := 1283) (by decide +kernel)⟩
def lw_privs_3 : List (MethodName × Nat) := [(⟨"MarkovTreeModel", "becomes", "(II)V"⟩, 39), (⟨"MarkovTreeModel", "stay", "()V"⟩, 39), (⟨"MarkovTreeModel", "snap", "()V"⟩, 39), (⟨"MarkovTreeModel", "goesThere", "(II)I"⟩, 39), (⟨"MarkovTreeModel", "depth", "()I"⟩, 39), (⟨"MarkovTreeModel", "numberOf", "(II)J"⟩, 39), (⟨"MarkovTreeModel", "laysMatrix", "(II)V"⟩, 39), (⟨"MarkovTreeModel", "number", "()J"⟩, 39), (⟨"MarkovTreeModel", "refuse", "()I"⟩, 39), (⟨"MarkovTreeModel", "laysForm", "()Z"⟩, 39), (⟨"MarkovTreeModel", "laysRound", "()I"⟩, 39), (⟨"MarkovTreeModel", "formOn", "()V"⟩, 39), (⟨"MarkovTreeModel", "laysNumbers", "(J)V"⟩, 39), (⟨"MarkovTreeModel", "comes", "(J)V"⟩, 39), (⟨"MarkovTreeModel", "grows", "(JJJ)V"⟩, 39), (⟨"MarkovTreeModel", "markHere", "()I"⟩, 39)]
theorem lw_r3 : ∀ q ∈ lw_privs_3, lw_okq q := List.forall_mem_cons.mpr ⟨lw_p32, List.forall_mem_cons.mpr ⟨lw_p33, List.forall_mem_cons.mpr ⟨lw_p34, List.forall_mem_cons.mpr ⟨lw_p35, List.forall_mem_cons.mpr ⟨lw_p36, List.forall_mem_cons.mpr ⟨lw_p37, List.forall_mem_cons.mpr ⟨lw_p38, List.forall_mem_cons.mpr ⟨lw_p39, List.forall_mem_cons.mpr ⟨lw_p40, List.forall_mem_cons.mpr ⟨lw_p41, List.forall_mem_cons.mpr ⟨lw_p42, List.forall_mem_cons.mpr ⟨lw_p43, List.forall_mem_cons.mpr ⟨lw_p44, List.forall_mem_cons.mpr ⟨lw_p45, List.forall_mem_cons.mpr ⟨lw_p46, List.forall_mem_cons.mpr ⟨lw_p47, fun _ h => absurd h List.not_mem_nil⟩⟩⟩⟩⟩⟩⟩⟩⟩⟩⟩⟩⟩⟩⟩⟩
theorem lw_p48 : lw_okq (⟨"MarkovTreeModel", "markP", "(I)I"⟩, 39) := ⟨⟨by decide +kernel, by decide +kernel⟩, List.mem_of_getElem? (i := 956) (by decide +kernel), List.mem_of_getElem? (i := 1286) (by decide +kernel), List.mem_of_getElem? (i := 1287) (by decide +kernel)⟩
theorem lw_p49 : lw_okq (⟨"MarkovTreeModel", "markQ", "(I)I"⟩, 39) := ⟨⟨by decide +kernel, by decide +kernel⟩, List.mem_of_getElem? (i := 956) (by decide +kernel), List.mem_of_getElem? (i := 1290) (by decide +kernel), List.mem_of_getElem? (i := 1291) (by decide +kernel)⟩
theorem lw_p50 : lw_okq (⟨"MarkovTreeModel", "marks", "()V"⟩, 39) := ⟨⟨by decide +kernel, by decide +kernel⟩, List.mem_of_getElem? (i := 956) (by decide +kernel), List.mem_of_getElem? (i := 1294) (by decide +kernel), List.mem_of_getElem? (i := 1295) (by decide +kernel)⟩
theorem lw_p51 : lw_okq (⟨"MarkovTreeModel", "markNumber", "(I)J"⟩, 39) := ⟨⟨by decide +kernel, by decide +kernel⟩, List.mem_of_getElem? (i := 956) (by decide +kernel), List.mem_of_getElem? (i := 1298) (by decide +kernel), List.mem_of_getElem? (i := 1299) (by decide +kernel)⟩
theorem lw_p52 : lw_okq (⟨"MarkovTreeModel", "bad", "(II)V"⟩, 39) := ⟨⟨by decide +kernel, by decide +kernel⟩, List.mem_of_getElem? (i := 956) (by decide +kernel), List.mem_of_getElem? (i := 1330) (by decide +kernel), List.mem_of_getElem? (i := 1331) (by decide +kernel)⟩
theorem lw_p53 : lw_okq (⟨"MarkovTreeModel", "reads", "(Z)V"⟩, 39) := ⟨⟨by decide +kernel, by decide +kernel⟩, List.mem_of_getElem? (i := 956) (by decide +kernel), List.mem_of_getElem? (i := 1334) (by decide +kernel), List.mem_of_getElem? (i := 1335) (by decide +kernel)⟩
theorem lw_p54 : lw_okq (⟨"MarkovTreeModel", "here", "()I"⟩, 39) := ⟨⟨by decide +kernel, by decide +kernel⟩, List.mem_of_getElem? (i := 956) (by decide +kernel), List.mem_of_getElem? (i := 1338) (by decide +kernel), List.mem_of_getElem? (i := 1339) (by decide +kernel)⟩
theorem lw_p55 : lw_okq (⟨"MarkovTreeModel", "often", "()I"⟩, 39) := ⟨⟨by decide +kernel, by decide +kernel⟩, List.mem_of_getElem? (i := 956) (by decide +kernel), List.mem_of_getElem? (i := 1342) (by decide +kernel), List.mem_of_getElem? (i := 1343) (by decide +kernel)⟩
theorem lw_p56 : lw_okq (⟨"MarkovTreeModel", "readsBracket", "(I)V"⟩, 39) := ⟨⟨by decide +kernel, by decide +kernel⟩, List.mem_of_getElem? (i := 956) (by decide +kernel), List.mem_of_getElem? (i := 1349) (by decide +kernel), List.mem_of_getElem? (i := 1350) (by decide +kernel)⟩
theorem lw_p57 : lw_okq (⟨"MarkovTreeModel", "goes", "(Z)V"⟩, 39) := ⟨⟨by decide +kernel, by decide +kernel⟩, List.mem_of_getElem? (i := 956) (by decide +kernel), List.mem_of_getElem? (i := 1353) (by decide +kernel), List.mem_of_getElem? (i := 1354) (by decide +kernel)⟩
theorem lw_p58 : lw_okq (⟨"MarkovTreeModel", "does", "(II)V"⟩, 39) := ⟨⟨by decide +kernel, by decide +kernel⟩, List.mem_of_getElem? (i := 956) (by decide +kernel), List.mem_of_getElem? (i := 1357) (by decide +kernel), List.mem_of_getElem? (i := 1358) (by decide +kernel)⟩
theorem lw_p59 : lw_okq (⟨"MarkovTreeModel", "skips", "()V"⟩, 39) := ⟨⟨by decide +kernel, by decide +kernel⟩, List.mem_of_getElem? (i := 956) (by decide +kernel), List.mem_of_getElem? (i := 1361) (by decide +kernel), List.mem_of_getElem? (i := 1362) (by decide +kernel)⟩
theorem lw_p60 : lw_okq (⟨"MarkovTreeModel", "draws", "()Z"⟩, 39) := ⟨⟨by decide +kernel, by decide +kernel⟩, List.mem_of_getElem? (i := 956) (by decide +kernel), List.mem_of_getElem? (i := 1374) (by decide +kernel), List.mem_of_getElem? (i := 1375) (by decide +kernel)⟩
theorem lw_p61 : lw_okq (⟨"MarkovTreeModel", "draw", "(I)I"⟩, 39) := ⟨⟨by decide +kernel, by decide +kernel⟩, List.mem_of_getElem? (i := 956) (by decide +kernel), List.mem_of_getElem? (i := 1378) (by decide +kernel), List.mem_of_getElem? (i := 1379) (by decide +kernel)⟩
def lw_privs_4 : List (MethodName × Nat) := [(⟨"MarkovTreeModel", "markP", "(I)I"⟩, 39), (⟨"MarkovTreeModel", "markQ", "(I)I"⟩, 39), (⟨"MarkovTreeModel", "marks", "()V"⟩, 39), (⟨"MarkovTreeModel", "markNumber", "(I)J"⟩, 39), (⟨"MarkovTreeModel", "bad", "(II)V"⟩, 39), (⟨"MarkovTreeModel", "reads", "(Z)V"⟩, 39), (⟨"MarkovTreeModel", "here", "()I"⟩, 39), (⟨"MarkovTreeModel", "often", "()I"⟩, 39), (⟨"MarkovTreeModel", "readsBracket", "(I)V"⟩, 39), (⟨"MarkovTreeModel", "goes", "(Z)V"⟩, 39), (⟨"MarkovTreeModel", "does", "(II)V"⟩, 39), (⟨"MarkovTreeModel", "skips", "()V"⟩, 39), (⟨"MarkovTreeModel", "draws", "()Z"⟩, 39), (⟨"MarkovTreeModel", "draw", "(I)I"⟩, 39)]
theorem lw_r4 : ∀ q ∈ lw_privs_4, lw_okq q := List.forall_mem_cons.mpr ⟨lw_p48, List.forall_mem_cons.mpr ⟨lw_p49, List.forall_mem_cons.mpr ⟨lw_p50, List.forall_mem_cons.mpr ⟨lw_p51, List.forall_mem_cons.mpr ⟨lw_p52, List.forall_mem_cons.mpr ⟨lw_p53, List.forall_mem_cons.mpr ⟨lw_p54, List.forall_mem_cons.mpr ⟨lw_p55, List.forall_mem_cons.mpr ⟨lw_p56, List.forall_mem_cons.mpr ⟨lw_p57, List.forall_mem_cons.mpr ⟨lw_p58, List.forall_mem_cons.mpr ⟨lw_p59, List.forall_mem_cons.mpr ⟨lw_p60, List.forall_mem_cons.mpr ⟨lw_p61, fun _ h => absurd h List.not_mem_nil⟩⟩⟩⟩⟩⟩⟩⟩⟩⟩⟩⟩⟩⟩
def lw_privs : List (MethodName × Nat) := lw_privs_1 ++ (lw_privs_2 ++ (lw_privs_3 ++ (lw_privs_4)))
def lw_tbl : List Cond := k2_sels lw_privs ++ tables_1
theorem lw_privs_ok : ∀ q ∈ lw_privs, lw_okq q := by
  show ∀ q ∈ lw_privs_1 ++ (lw_privs_2 ++ (lw_privs_3 ++ (lw_privs_4))), lw_okq q
  exact List.forall_mem_append.mpr ⟨lw_r1, List.forall_mem_append.mpr ⟨lw_r2, List.forall_mem_append.mpr ⟨lw_r3, lw_r4⟩⟩⟩
/-- the streams that the claim lets the run draw from -/
abbrev lw_cs : List Choice := [Jvm.Choice.named "NaN.bits"]
theorem lw_bits : nanBits ∈ lw_cs := by first | decide | exact List.mem_cons_self | simp [lw_cs, nanBits]
-- ===== end of PART A; then your names; then what follows =====
end
section
/-! ===== BEGIN words of one list among another's, by their places ===== -/
theorem goodIn_r {big : List Cond} (ws : List Cond) (ps : List Nat) (hp : ws = ps.filterMap (fun i => big[i]?)) (h : ws.all goodWord = true) : GoodIn big ws := by
  intro w hw
  have h1 := List.all_eq_true.mp h w hw
  rw [hp] at hw
  obtain ⟨i, -, hi⟩ := List.mem_filterMap.mp hw
  have hm : w ∈ big := by first | exact List.mem_of_getElem? hi | exact List.getElem?_mem hi
  exact ⟨hm, good_of_word h1⟩
theorem goodIn_app {big a b : List Cond} (ha : GoodIn big a) (hb : GoodIn big b) : GoodIn big (a ++ b) := fun w h => (List.mem_append.mp h).elim (ha w) (hb w)
theorem goodIn_ca {big a b : List Cond} {c : Cond} (ha : GoodIn big (c :: a)) (hb : GoodIn big b) : GoodIn big (c :: (a ++ b)) := fun w h => (List.mem_cons.mp h).elim (fun e => ha w (List.mem_cons.mpr (Or.inl e))) (fun h => (List.mem_append.mp h).elim (fun h => ha w (List.mem_cons.mpr (Or.inr h))) (hb w))
theorem goodIn_sub {big ws : List Cond} (hm : ∀ w ∈ ws, w ∈ big) (h : ws.all goodWord = true) : GoodIn big ws := fun w hw => ⟨hm w hw, good_of_word (List.all_eq_true.mp h w hw)⟩
/-! ===== END ===== -/

/-! ===== BEGIN exceptions that leave a method, and their catching by the caller (launches without stack traces) ===== -/
section VXA
/-! The laws vx_back, vx_callV, vx_callS, vx_callSW, vx_throw0, vx_throwS follow proofs of the library, with one case more: JvmDerived/Free/Laws.lean (Back.of_free), Shelf42/LK1.lean (callV, callS), Shelf/KitTraced.lean (throwNew0V, throwNewS). -/
/-- where a method has thrown q: the class by its name, the cell, what was written, the world -/
def vx_T (XC : String → State → State → Prop) (st : State) (q : Addr) (t : State) (mc ms : Nat) (free : Addr → Prop) : Prop :=
  ∃ (E : String) (ce : Cell) (L : List Loc), XC E st t ∧ t.heap[q]? = some ce ∧ ce.vm = .none ∧ st.vm.findClass E = some ce.cls ∧ st.WarmedH t.vm ∧ st.sameButNew ({ t with vm := st.vm } : State) L mc ms ∧ ∀ z ∈ L, free z.base
def vx_Q (Qc : Array Value → State → Outcome → State → Prop) (XC : String → State → State → Prop) (mc ms : Nat) (free : Addr → Prop) : Array Value → State → Outcome → State → Prop := fun a st o t =>
  (Qc a st o t ∧ ∃ L, FrameEnd st o t L mc ms ∧ ∀ q ∈ L, free q.base) ∨ ∃ q, o = .threw q ∧ vx_T XC st q t mc ms free
/-- a callee that returns or throws -/
def vx_Met (l : Launch) (y : MethodName) (ws : List Cond) (rm : Room) (Pc : Array Value → State → Prop) (Qc : Array Value → State → Outcome → State → Prop) (XC : String → State → State → Prop) (mc ms : Nat) (free : Addr → Prop) : Prop :=
  MetFree l y (headSpec ws rm) Pc (fun _ _ _ _ _ => True) (vx_Q Qc XC mc ms free)
def vx_Post (XC : String → State → State → Prop) (mc ms : Nat) (free : Addr → Prop) : Pt → Array Value → Addr → Pt → Prop := fun A a q B =>
  ∃ (g : JFrame) (mk : MethodId) (t : State) (L : List Loc) (E : String) (ce : Cell), B.U.heap = t.heap ∧ B.U.vm = t.vm ∧ XC E (A.U.calling g mk a) t ∧ t.heap[q]? = some ce ∧ ce.vm = .none ∧ A.U.vm.findClass E = some ce.cls ∧ B.locs = A.locs ++ L ∧ (∀ z ∈ L, free z.base) ∧ B.cells = A.cells + mc ∧ B.slots = A.slots + ms
def vx_Back (l : Launch) (R : Room) (p : Program) (e : Env) (below : List Frame) (s : State) (sargs : Array Value) (y : MethodName) (len W9 : Nat)
    (Pre : Pt → Array Value → Prop) (Post : Pt → Array Value → Option Value → Pt → Prop) (PostX : Pt → Array Value → Addr → Pt → Prop) : Prop :=
  ∀ (m : MethodId) (meth : Method) (c : Code) (A : Pt) (g : JFrame) (ig : Instr) (mk : MethodId) (a : Array Value),
    Stand p l e R s m sargs below meth c A.U A.locs A.cells A.slots → g.method = m → g.locals.size = c.maxLocals → decode c.code g.pc = .ok (ig, len) →
    2 * g.monitorRoom + (g.stack.map fun v => v.category).sum ≤ W9 → A.U.methodNamed? y = some mk → Pre A a →
    (∃ (v : Option Value) (B : Pt), Stand p l e R s m sargs below meth c B.U B.locs B.cells B.slots ∧ Post A a v B ∧
      Steps p.tables e below (doInvoke e (A.U.setTop g) [] mk a).1 (B.U.setTop { g with pc := g.pc + len, stack := v.toList ++ g.stack })) ∨
    (∃ (q : Addr) (B : Pt), Stand p l e R s m sargs below meth c B.U B.locs B.cells B.slots ∧ PostX A a q B ∧
      Steps p.tables e below (doInvoke e (A.U.setTop g) [] mk a).1 ((B.U.setTop g).pushFrame (.throwing q)))
section Payer
variable {l : Launch} {R : Room} {p : Program} {e : Env} {below : List Frame} {s : State} {sargs : Array Value} {y : MethodName} {len W9 : Nat}
theorem vx_back {ws : List Cond} {rm : Room} {Pc : Array Value → State → Prop} {Qc : Array Value → State → Outcome → State → Prop} {XC : String → State → State → Prop} {mc ms : Nat} {free : Addr → Prop} {bytes : ByteArray} {maxL : Nat} {ret : Option FieldType}
    (hM : vx_Met l y ws rm Pc Qc XC mc ms free) (hblind : FrameBlind Pc) (hrc : rm.cells = mc) (hrs : rm.slots = ms)
    (hframes : rm.frames + 1 ≤ R.frames) (hlocals : W9 + (maxL + 11) + rm.locals ≤ R.locals)
    (hws : ∀ w ∈ ws, ∀ a' U, s.WarmedH U.vm → w.before a' U = true) (hcode : Cond.code y bytes maxL ret ∈ ws) (hinit : ∀ a' U, s.WarmedH U.vm → (Cond.initialized y.cls).before a' U = true) :
    vx_Back l R p e below s sargs y len W9 (PreOf R mc ms Pc) (PostOf Qc mc ms free) (vx_Post XC mc ms free) := by
  intro m meth c A g ig mk a X hg hsize hdg hW hn hp
  have h1 : (headSpec ws rm).pre.before a A.U = true := atoms_intro fun w hw => hws w hw _ _ X.warmed
  have h2 : (Cond.code y bytes maxL ret).before a A.U = true := hws _ hcode _ _ X.warmed
  have h3 : (Cond.initialized y.cls).before a A.U = true := hinit _ _ X.warmed
  have h4 : A.cells + (headSpec ws rm).room.cells ≤ R.cells := by rw [show (headSpec ws rm).room.cells = mc from hrc]; exact hp.1
  have h5 : A.slots + (headSpec ws rm).room.slots ≤ R.slots := by rw [show (headSpec ws rm).room.slots = ms from hrs]; exact hp.2.1
  have hPc : Pc a (A.U.calling g mk a) := hblind _ _ _ _ hp.2.2
  obtain ⟨U, Ls, c0, s0⟩ := A
  dsimp only [Pt.U, Pt.locs, Pt.cells, Pt.slots] at h1 h2 h3 h4 h5 X hn hPc ⊢
  obtain ⟨methY, cY, hmY, hcY, -, hlY, -, -, -, -⟩ := Cond.code_spec hn h2
  obtain ⟨kY, hkY, -⟩ := className_of_methodNamed hn
  have hinitY : kY.init = .initialized := Cond.initialized_spec (findClass_of_methodNamed hn) hkY h3
  have h : At U g.method c below := by rw [hg]; exact X.here
  have hlocals9 : W9 + (maxL + 11) + (headSpec ws rm).room.locals ≤ R.locals := hlocals
  have happ : (headSpec ws rm).appliesLoose y e.platform (U.calling g mk a) = true :=
    Spec.appliesLoose_calling (g := g) h hdg hn hkY hinitY
      (X.room_calling (g := g) (R' := (headSpec ws rm).room) hsize hmY hcY hframes (by rw [hlY]; omega) h4 h5) h1
  obtain ⟨mid, hmid⟩ := h.above
  have hfr : (U.setTop g).frames = (.java g :: mid) ++ below := by rw [State.frames_setTop' g h.top, hmid]; rfl
  obtain ⟨o, s₂, hsteps, -, hend, hq⟩ := Steps.callFree hM p X.admits X.cas X.clock (acts := []) hfr happ hPc trivial
  have hq' : vx_Q Qc XC mc ms free a (U.calling g mk a) o s₂ := hq
  rw [State.frames_setTop' g h.top] at hend
  obtain ⟨g₀, hg0⟩ := Option.isSome_iff_exists.mp h.top
  obtain ⟨r, hr⟩ := State.topJava?_eq_some.mp hg0
  have hr' : (({ U with heap := s₂.heap, slotsUsed := s₂.slotsUsed } : State).setVm s₂.vm).frames = .java g₀ :: r := hr
  rcases hq' with ⟨hqc, L, hfe, hL⟩ | ⟨q, rfl, E, ce, L, hx, hce, hcv, hcl, hW₂, hsm, hL⟩
  · obtain ⟨⟨v, rfl⟩, hW₂, e2, q2, q3, q4, q5, q6⟩ := id hfe
    have e3 : s₂ = ({ (U.calling g mk a).setFrames s₂.frames with heap := s₂.heap, slotsUsed := s₂.slotsUsed } : State).setVm s₂.vm := by
      have : s₂ = ({ s₂ with vm := (U.calling g mk a).vm } : State).setVm s₂.vm := rfl
      rw [e2] at this
      exact this
    obtain ⟨c₂, i₂, len₂, hc₂, hd₂, hf₂⟩ := hend
    have hW' : U.WarmedH s₂.vm := hW₂
    have hcc : c₂ = c := by
      have h1 : s₂.code? g.method = U.code? g.method := by
        rw [State.code?_eq, State.code?_eq, hW'.alike.method?]
      exact Option.some.inj (hc₂.symm.trans (h1.trans h.code))
    subst hcc
    have hlen : len₂ = len := by rw [hdg] at hd₂; cases hd₂; rfl
    subst hlen
    have hs₂ : s₂ = (({ U with heap := s₂.heap, slotsUsed := s₂.slotsUsed } : State).setVm s₂.vm).setTop { g with pc := g.pc + len₂, stack := v.toList ++ g.stack } := by
      refine e3.trans ?_
      rw [hf₂, State.calling_eq h.top, State.setFrames_setFrames, State.setTop_of_frames _ hr', hr]
      rfl
    have hsame : U.sameButNew ({ U with heap := s₂.heap, slotsUsed := s₂.slotsUsed } : State) L mc ms := by
      refine ⟨?_, q2, q3, q4, q5, q6⟩
      obtain ⟨t, ht, -⟩ := State.frames_cons hr
      show ({ U with heap := s₂.heap, slotsUsed := s₂.slotsUsed } : State) = { U.setFrames U.frames with heap := s₂.heap, slotsUsed := s₂.slotsUsed }
      rw [State.setFrames_self ht]
    subst hg
    refine Or.inl ⟨v, ⟨(({ U with heap := s₂.heap, slotsUsed := s₂.slotsUsed } : State).setVm s₂.vm), Ls ++ L, c0 + mc, s0 + ms⟩,
      ⟨X.admits, X.cas, X.clock, X.frames, X.room, X.hears, X.method, X.code, (X.here.setHeapUsed s₂.heap s₂.slotsUsed).setVm hW'.alike, X.tail, State.WarmedH.trans X.warmed hW', X.limits, X.bytes, X.same.trans (hsame.setVm s.vm)⟩,
      ⟨g, mk, s₂, L, rfl, rfl, hqc, rfl, hL, rfl, rfl⟩, ?_⟩
    show Steps p.tables e below _ ((({ U with heap := s₂.heap, slotsUsed := s₂.slotsUsed } : State).setVm s₂.vm).setTop { g with pc := g.pc + len₂, stack := v.toList ++ g.stack })
    rw [← hs₂]
    exact hsteps
  · obtain ⟨e2, q2, q3, q4, q5, q6⟩ := id hsm
    have e3 : s₂ = ({ (U.calling g mk a).setFrames s₂.frames with heap := s₂.heap, slotsUsed := s₂.slotsUsed } : State).setVm s₂.vm := by
      have : s₂ = ({ s₂ with vm := (U.calling g mk a).vm } : State).setVm s₂.vm := rfl
      rw [e2] at this
      exact this
    have hf₂ : s₂.frames = .throwing q :: .java g :: U.frames.tail := hend
    have hW' : U.WarmedH s₂.vm := hW₂
    have hs₂ : s₂ = ((({ U with heap := s₂.heap, slotsUsed := s₂.slotsUsed } : State).setVm s₂.vm).setTop g).pushFrame (.throwing q) := by
      refine e3.trans ?_
      rw [hf₂, State.calling_eq h.top, State.setFrames_setFrames, State.pushFrame, State.frames_setTop _ hr', State.setTop_of_frames _ hr', State.setFrames_setFrames, hr]
      rfl
    have hsame : U.sameButNew ({ U with heap := s₂.heap, slotsUsed := s₂.slotsUsed } : State) L mc ms := by
      refine ⟨?_, q2, q3, q4, q5, q6⟩
      obtain ⟨t, ht, -⟩ := State.frames_cons hr
      show ({ U with heap := s₂.heap, slotsUsed := s₂.slotsUsed } : State) = { U.setFrames U.frames with heap := s₂.heap, slotsUsed := s₂.slotsUsed }
      rw [State.setFrames_self ht]
    subst hg
    refine Or.inr ⟨q, ⟨(({ U with heap := s₂.heap, slotsUsed := s₂.slotsUsed } : State).setVm s₂.vm), Ls ++ L, c0 + mc, s0 + ms⟩,
      ⟨X.admits, X.cas, X.clock, X.frames, X.room, X.hears, X.method, X.code, (X.here.setHeapUsed s₂.heap s₂.slotsUsed).setVm hW'.alike, X.tail, State.WarmedH.trans X.warmed hW', X.limits, X.bytes, X.same.trans (hsame.setVm s.vm)⟩,
      ⟨g, mk, s₂, L, E, ce, rfl, rfl, hx, hce, hcv, hcl, rfl, hL, rfl, rfl⟩, ?_⟩
    show Steps p.tables e below _ (((({ U with heap := s₂.heap, slotsUsed := s₂.slotsUsed } : State).setVm s₂.vm).setTop g).pushFrame (.throwing q))
    rw [← hs₂]
    exact hsteps
end Payer
section Calls
variable {p : Program} {l : Launch} {e : Env} {R : Room} {s : State} {m : MethodId} {args : Array Value} {below : List Frame} {meth : Method} {c : Code} {T : State} {locs : List Loc} {cells slots : Nat}
theorem vx_callV (X : Stand p l e R s m args below meth c T locs cells slots) (hexec : p.tables.exec = Jvm.exec) {own C : String} {index : Nat} {y : MethodName} {bytes : ByteArray} {maxL : Nat} {ret : Option FieldType}
    (hown : s.vm.findClass own = some m.cls) (hlink : (Cond.methodLink own index y).before args s = true) (hinst : (Cond.instanceMethod y).before args s = true) (hsel : (Cond.selects C y y).before args s = true)
    (hcode : (Cond.code y bytes maxL ret).before args s = true) (hy : y.cls ≠ "java/lang/invoke/MethodHandle" ∧ y.cls ≠ "java/lang/invoke/VarHandle")
    {W9 : Nat} {Pre : Pt → Array Value → Prop} {Post : Pt → Array Value → Option Value → Pt → Prop} {PostX : Pt → Array Value → Addr → Pt → Prop} (hK : vx_Back l R p e below s args y 3 W9 Pre Post PostX)
    {b : Addr} {cellB : Cell} (hcell : T.heap[b]? = some cellB) (hobj : cellB.vm.isStatics = false) (hcls : s.vm.findClass C = some cellB.cls)
    {g : JFrame} (hg : g.method = m) (hsize : g.locals.size = c.maxLocals) {argsL rest : List Value} (hlen : ∀ sig, parseMethodDescriptor y.desc = some sig → argsL.length = sig.parameters.length)
    (hstack : g.stack = argsL.reverse ++ .ref b :: rest) (hW : 2 * g.monitorRoom + (rest.map fun v => v.category).sum ≤ W9) (hdg : decode c.code g.pc = .ok (.invokevirtual index, 3))
    (hpre : ∀ vm₁, s.WarmedH vm₁ → Pre ⟨T.setVm vm₁, locs, cells, slots⟩ (Value.ref b :: argsL).toArray) :
    (∃ (v : Option Value) (vm₁ : Vm) (B : Pt), s.WarmedH vm₁ ∧ Stand p l e R s m args below meth c B.U B.locs B.cells B.slots ∧ Post ⟨T.setVm vm₁, locs, cells, slots⟩ (Value.ref b :: argsL).toArray v B ∧
      ∀ target, Steps p.tables e below (B.U.setTop { g with pc := g.pc + 3, stack := v.toList ++ rest }) target → Steps p.tables e below (T.setTop g) target) ∨
    (∃ (q : Addr) (vm₁ : Vm) (B : Pt), s.WarmedH vm₁ ∧ Stand p l e R s m args below meth c B.U B.locs B.cells B.slots ∧ PostX ⟨T.setVm vm₁, locs, cells, slots⟩ (Value.ref b :: argsL).toArray q B ∧
      Steps p.tables e below (T.setTop g) ((B.U.setTop { g with stack := rest }).pushFrame (.throwing q))) := by
  obtain ⟨mk, methM, hnamed, hmethM, hstM, habM⟩ := Cond.instanceMethod_spec hinst
  obtain ⟨methM', cM, hmethM', -, -, -, -, -, -, hsigM⟩ := Cond.code_spec hnamed hcode
  cases hmethM.symm.trans hmethM'
  obtain ⟨c2, r2, m2, q1, q2, q3, q4, kP, hkP, hkPi⟩ := Cond.selects_spec hsel
  cases hcls.symm.trans q1
  cases (State.methodFound?_of_named hnamed hy).symm.trans q2
  cases hnamed.symm.trans q3
  have hselP : selectMethod e.platform s.vm cellB.cls mk = .method mk := by rw [Launch.admits_selectMethod X.admits]; exact q4
  obtain ⟨vm₁, X₁, hstep₁⟩ := X.invokevirtual hexec hown hlink hnamed hmethM hstM hkP hkPi hy (a := b) (cell := cellB) hcell
    (fun z h => by rw [h] at hobj; cases hobj) hselP hmethM habM hkP hkPi (g := g) hg (argsL := argsL) (rest := rest) (hlen _ hsigM) hstack hdg
  rcases hK m meth c ⟨T.setVm vm₁, locs, cells, slots⟩ { g with stack := rest } (.invokevirtual index) mk (Value.ref b :: argsL).toArray X₁ hg hsize hdg hW (X₁.named hnamed) (hpre vm₁ X₁.warmed) with ⟨v, B, X', hpost, hsteps⟩ | ⟨q, B, X', hpost, hsteps⟩
  · exact Or.inl ⟨v, vm₁, B, X₁.warmed, X', hpost, fun target h => hstep₁ _ fun acts => by rw [doInvoke_state]; exact hsteps.trans h⟩
  · exact Or.inr ⟨q, vm₁, B, X₁.warmed, X', hpost, hstep₁ _ fun acts => by rw [doInvoke_state]; exact hsteps⟩
theorem vx_callS (X : Stand p l e R s m args below meth c T locs cells slots) (hexec : p.tables.exec = Jvm.exec) {own : String} {index : Nat} {y : MethodName} {bytes : ByteArray} {maxL : Nat} {ret : Option FieldType}
    (hown : s.vm.findClass own = some m.cls) (hlink : (Cond.methodLink own index y).before args s = true) (hstat : (Cond.static y).before args s = true) (hinit : (Cond.initialized y.cls).before args s = true)
    (hcode : (Cond.code y bytes maxL ret).before args s = true) (hy : y.cls ≠ "java/lang/invoke/MethodHandle" ∧ y.cls ≠ "java/lang/invoke/VarHandle")
    {W9 : Nat} {Pre : Pt → Array Value → Prop} {Post : Pt → Array Value → Option Value → Pt → Prop} {PostX : Pt → Array Value → Addr → Pt → Prop} (hK : vx_Back l R p e below s args y 3 W9 Pre Post PostX)
    {g : JFrame} (hg : g.method = m) (hsize : g.locals.size = c.maxLocals) {argsL rest : List Value} (hlen : ∀ sig, parseMethodDescriptor y.desc = some sig → argsL.length = sig.parameters.length)
    (hstack : g.stack = argsL.reverse ++ rest) (hW : 2 * g.monitorRoom + (rest.map fun v => v.category).sum ≤ W9) (hdg : decode c.code g.pc = .ok (.invokestatic index, 3))
    (hpre : ∀ vm₁, s.WarmedH vm₁ → Pre ⟨T.setVm vm₁, locs, cells, slots⟩ argsL.toArray) :
    (∃ (v : Option Value) (vm₁ : Vm) (B : Pt), s.WarmedH vm₁ ∧ Stand p l e R s m args below meth c B.U B.locs B.cells B.slots ∧ Post ⟨T.setVm vm₁, locs, cells, slots⟩ argsL.toArray v B ∧
      ∀ target, Steps p.tables e below (B.U.setTop { g with pc := g.pc + 3, stack := v.toList ++ rest }) target → Steps p.tables e below (T.setTop g) target) ∨
    (∃ (q : Addr) (vm₁ : Vm) (B : Pt), s.WarmedH vm₁ ∧ Stand p l e R s m args below meth c B.U B.locs B.cells B.slots ∧ PostX ⟨T.setVm vm₁, locs, cells, slots⟩ argsL.toArray q B ∧
      Steps p.tables e below (T.setTop g) ((B.U.setTop { g with stack := rest }).pushFrame (.throwing q))) := by
  obtain ⟨mk, hnamed⟩ := Cond.code_named hcode
  obtain ⟨methM, cM, hmethM, -, -, -, -, -, -, hsigM⟩ := Cond.code_spec hnamed hcode
  have hstatic : methM.isStatic = true := Cond.static_spec hnamed hmethM hstat
  obtain ⟨kP, hkP, -⟩ := className_of_methodNamed hnamed
  have hinitP : kP.init = .initialized := Cond.initialized_spec (findClass_of_methodNamed hnamed) hkP hinit
  obtain ⟨vm₁, X₁, hstep₁⟩ := X.invokestatic hexec hown hlink hnamed hmethM hstatic hkP hinitP hy (g := g) hg (argsL := argsL) (rest := rest) (hlen _ hsigM) hstack hdg
  rcases hK m meth c ⟨T.setVm vm₁, locs, cells, slots⟩ { g with stack := rest } (.invokestatic index) mk argsL.toArray X₁ hg hsize hdg hW (X₁.named hnamed) (hpre vm₁ X₁.warmed) with ⟨v, B, X', hpost, hsteps⟩ | ⟨q, B, X', hpost, hsteps⟩
  · exact Or.inl ⟨v, vm₁, B, X₁.warmed, X', hpost, fun target h => hstep₁ _ fun acts => by rw [doInvoke_state]; exact hsteps.trans h⟩
  · exact Or.inr ⟨q, vm₁, B, X₁.warmed, X', hpost, hstep₁ _ fun acts => by rw [doInvoke_state]; exact hsteps⟩
end Calls
theorem vx_cls {s : State} {T : State} {vm₁ : Vm} {E : String} {k : ClassId} (hW : s.WarmedH vm₁) (h : (T.setVm vm₁).vm.findClass E = some k) : s.vm.findClass E = some k := by
  have h1 : vm₁.findClass E = some k := h
  rw [hW.alike.findClass] at h1
  exact h1
/-- the method's frame g, with q thrown over it -/
def vx_W (p : Program) (l : Launch) (e : Env) (R : Room) (s : State) (m : MethodId) (args : Array Value) (below : List Frame) (meth : Method) (c : Code) (H : Heap) (locs : List Loc) (cells slots : Nat) (Q : State → Prop) (g : JFrame) (q : Addr) : Prop :=
  ∀ T : State, T.heap = H → Stand p l e R s m args below meth c T locs cells slots → ∃ t, Steps p.tables e below ((T.setTop g).pushFrame (.throwing q)) t ∧ Q t
def vx_Run (p : Program) (l : Launch) (e : Env) (R : Room) (s : State) (m : MethodId) (args : Array Value) (below : List Frame) (meth : Method) (c : Code) (H : Heap) (locs : List Loc) (cells slots mc ms : Nat) (g : JFrame) (rest : List Value) (Qa : State → Outcome → State → Prop) (XC : String → State → State → Prop) (free : Addr → Prop) : Prop :=
  ∀ T : State, T.heap = H → Stand p l e R s m args below meth c T locs cells slots →
    (∃ (v : Option Value) (st₀ t T' : State) (L : List Loc), st₀.heap = H ∧ Stand p l e R s m args below meth c T' (locs ++ L) (cells + mc) (slots + ms) ∧ (∀ q ∈ L, free q.base) ∧ T'.heap = t.heap ∧ T'.vm = t.vm ∧ Qa st₀ (.returned v) t ∧
      Goes p e below T g T' { g with pc := g.pc + 3, stack := v.toList ++ rest }) ∨
    (∃ (q : Addr) (st₀ t T' : State) (L : List Loc) (E : String) (ce : Cell), st₀.heap = H ∧ Stand p l e R s m args below meth c T' (locs ++ L) (cells + mc) (slots + ms) ∧ (∀ z ∈ L, free z.base) ∧ T'.heap = t.heap ∧ T'.vm = t.vm ∧ XC E st₀ t ∧ t.heap[q]? = some ce ∧ ce.vm = .none ∧ s.vm.findClass E = some ce.cls ∧
      Steps p.tables e below (T.setTop g) ((T'.setTop { g with stack := rest }).pushFrame (.throwing q)))
def vx_X {S : Type} (px : S → Prop) (B : String → S → State → Prop) (A : Nat → Prop) : String → State → State → Prop := fun E st t => ∃ u : S, px u ∧ B E u t ∧ va_F A st t
section Runs
variable {p : Program} {l : Launch} {e : Env} {R : Room} {s : State} {m : MethodId} {args : Array Value} {below : List Frame} {meth : Method} {c : Code} {H : Heap} {locs : List Loc} {cells slots : Nat}
variable {y : MethodName} {bytes cc : ByteArray} {maxL nL mc ms n index : Nat} {ret : Option FieldType} {ws : List Cond} {rm : Room} {Pc : Array Value → State → Prop} {Qc : Array Value → State → Outcome → State → Prop} {XC : String → State → State → Prop} {free : Addr → Prop} {Ts : List Cond} {own C : String} {b : Addr} {As rest : List Value} {g : JFrame}
theorem vx_callBack (cb : CallB R s args own index y bytes maxL ret ws rm mc ms n) (hM : vx_Met l y ws rm Pc Qc XC mc ms free) (hbl : FrameBlind Pc) : vx_Back l R p e below s args y 3 8 (PreOf R mc ms Pc) (PostOf Qc mc ms free) (vx_Post XC mc ms free) := by
  obtain ⟨hrc, hrs, hfr, hlo, hws, hcw, -, hini, -⟩ := cb
  exact vx_back (bytes := bytes) (maxL := maxL) (ret := ret) hM hbl hrc hrs hfr hlo hws hcw (fun a' U hW => word_at hW (Or.inl (by first | rfl | simp [Cond.onTables, Cond.keeps, Cond.steady])) hini)
theorem vx_runV (S : CallFix p m c cc nL s args Ts own) (hM : vx_Met l y ws rm Pc Qc XC mc ms free) (cw : CallW R s args own C index y bytes maxL ret ws rm mc ms n) (hp : PreV s H C b Pc As)
    (hg : g.method = m) (hn : As.length = n) (hsize : g.locals.size = nL) (hstack : g.stack = As.reverse ++ .ref b :: rest) (hW : 2 * g.monitorRoom + (rest.map fun v => v.category).sum ≤ 8) (hdg : decode cc g.pc = .ok (.invokevirtual index, 3)) (hf : cells + mc ≤ R.cells ∧ slots + ms ≤ R.slots) :
    vx_Run p l e R s m args below meth c H locs cells slots mc ms g rest (Qc (Value.ref b :: As).toArray) XC free := by
  have hK : vx_Back l R p e below s args y 3 8 (PreOf R mc ms Pc) (PostOf Qc mc ms free) (vx_Post XC mc ms free) := vx_callBack cw.1 hM hp.1
  obtain ⟨⟨-, -, -, -, -, -, hcode, -, hy, hlen, hl⟩, hin, hse⟩ := cw
  obtain ⟨hx, hb, hml, ho, -⟩ := S
  obtain ⟨-, ⟨cellB, hcB, hoB, hclB⟩, hPc⟩ := hp
  intro T hT X
  rcases vx_callV X hx (C := C) (bytes := bytes) (maxL := maxL) (ret := ret) ho hl hin hse hcode hy hK (by rw [hT]; exact hcB) hoB hclB hg (hsize.trans hml.symm) (argsL := As) (rest := rest) (fun sig h => hn.trans (hlen sig h)) hstack hW (by rw [hb]; exact hdg)
    (fun vm₁ hW₁ => ⟨hf.1, hf.2, hPc (T.setVm vm₁) hT hW₁⟩) with ⟨v, vm₁, ⟨U', l2, c2, s2⟩, hW₁, X', ⟨g', mk, t, L, e1, e2, hq, h1, hL, h2, h3⟩, st⟩ | ⟨q, vm₁, ⟨U', l2, c2, s2⟩, hW₁, X', ⟨g', mk, t, L, E, ce, e1, e2, hq, hce, hcv, hcl, h1, hL, h2, h3⟩, st⟩
  · dsimp only [Pt.U, Pt.locs, Pt.cells, Pt.slots] at X' e1 e2 h1 h2 h3 st
    subst h1; subst h2; subst h3
    exact Or.inl ⟨v, (T.setVm vm₁).calling g' mk (Value.ref b :: As).toArray, t, U', L, hT, X', hL, e1, e2, hq, st⟩
  · dsimp only [Pt.U, Pt.locs, Pt.cells, Pt.slots] at X' e1 e2 h1 h2 h3 st hcl
    subst h1; subst h2; subst h3
    exact Or.inr ⟨q, (T.setVm vm₁).calling g' mk (Value.ref b :: As).toArray, t, U', L, E, ce, hT, X', hL, e1, e2, hq, hce, hcv, vx_cls hW₁ hcl, st⟩
theorem vx_runS (S : CallFix p m c cc nL s args Ts own) (hM : vx_Met l y ws rm Pc Qc XC mc ms free) (cw : CallB R s args own index y bytes maxL ret ws rm mc ms n ∧ (Cond.static y).before args s = true) (hp : PreS s H Pc As)
    (hg : g.method = m) (hn : As.length = n) (hsize : g.locals.size = nL) (hstack : g.stack = As.reverse ++ rest) (hW : 2 * g.monitorRoom + (rest.map fun v => v.category).sum ≤ 8) (hdg : decode cc g.pc = .ok (.invokestatic index, 3)) (hf : cells + mc ≤ R.cells ∧ slots + ms ≤ R.slots) :
    vx_Run p l e R s m args below meth c H locs cells slots mc ms g rest (Qc As.toArray) XC free := by
  have hK : vx_Back l R p e below s args y 3 8 (PreOf R mc ms Pc) (PostOf Qc mc ms free) (vx_Post XC mc ms free) := vx_callBack cw.1 hM hp.1
  obtain ⟨⟨-, -, -, -, -, -, hcode, hini, hy, hlen, hl⟩, hstt⟩ := cw
  obtain ⟨hx, hb, hml, ho, -⟩ := S
  intro T hT X
  rcases vx_callS X hx (bytes := bytes) (maxL := maxL) (ret := ret) ho hl hstt hini hcode hy hK hg (hsize.trans hml.symm) (argsL := As) (rest := rest) (fun sig h => hn.trans (hlen sig h)) hstack hW (by rw [hb]; exact hdg)
    (fun vm₁ hW₁ => ⟨hf.1, hf.2, hp.2 (T.setVm vm₁) hT hW₁⟩) with ⟨v, vm₁, ⟨U', l2, c2, s2⟩, hW₁, X', ⟨g', mk, t, L, e1, e2, hq, h1, hL, h2, h3⟩, st⟩ | ⟨q, vm₁, ⟨U', l2, c2, s2⟩, hW₁, X', ⟨g', mk, t, L, E, ce, e1, e2, hq, hce, hcv, hcl, h1, hL, h2, h3⟩, st⟩
  · dsimp only [Pt.U, Pt.locs, Pt.cells, Pt.slots] at X' e1 e2 h1 h2 h3 st
    subst h1; subst h2; subst h3
    exact Or.inl ⟨v, (T.setVm vm₁).calling g' mk As.toArray, t, U', L, hT, X', hL, e1, e2, hq, st⟩
  · dsimp only [Pt.U, Pt.locs, Pt.cells, Pt.slots] at X' e1 e2 h1 h2 h3 st hcl
    subst h1; subst h2; subst h3
    exact Or.inr ⟨q, (T.setVm vm₁).calling g' mk As.toArray, t, U', L, E, ce, hT, X', hL, e1, e2, hq, hce, hcv, vx_cls hW₁ hcl, st⟩
end Runs
section Rows
variable {p : Program} {l : Launch} {e : Env} {R : Room} {s : State} {m : MethodId} {args : Array Value} {below : List Frame} {meth : Method} {c : Code} {H : Heap} {locs : List Loc} {cells slots : Nat} {Q : State → Prop}
variable {mc ms : Nat} {free : Addr → Prop} {A0 A1 : Nat → Prop} {H0 : Heap} {a : Array Value} {pc : Nat} {ls : Array Slot} {st0 rest : List Value}
theorem vx_keep {st₀ t T' : State} {L : List Loc} (h0 : st₀.heap = H) (e1 : T'.heap = t.heap) (hS : va_S A0 H0 H locs) (hA : ∀ q, q < H.size → A1 q → A0 q) (hf : ∀ q, free q → A0 q) (hL : ∀ q ∈ L, free q.base) (hF : va_F A1 st₀ t) :
    H.size ≤ T'.heap.size ∧ (∀ q : Nat, q < H.size → ¬ A1 q → T'.heap[q]? = H[q]?) ∧ va_S A0 H0 T'.heap (locs ++ L) := by
  obtain ⟨hz, hk⟩ := hF
  rw [h0] at hz hk
  exact ⟨by rw [e1]; exact hz, fun q h1 h2 => by rw [e1]; exact hk q h1 h2,
    ⟨Nat.le_trans hS.1 (by rw [e1]; exact hz), fun q h1 h2 => by rw [e1, hk q (Nat.lt_of_lt_of_le h1 hS.1) (fun z => h2 (hA q (Nat.lt_of_lt_of_le h1 hS.1) z))]; exact hS.2.1 q h1 h2, fun q hq => by
      rcases List.mem_append.mp hq with h | h
      · exact hS.2.2 q h
      · exact hf _ (hL q h)⟩⟩
theorem vx_calli {S SX : Type} {post : Int32 → S → Prop} {px : SX → Prop} {B : S → State → Prop} {BX : String → SX → State → Prop} {AX : Nat → Prop} (hr : vx_Run p l e R s m args below meth c H locs cells slots mc ms (F0 m pc ls st0) rest (va_Qi post B A1 a) (vx_X px BX AX) free) (hS : va_S A0 H0 H locs) (hA : ∀ q, q < H.size → A1 q → A0 q) (hf : ∀ q, free q → A0 q) (hAX : ∀ q, q < H.size → AX q → A0 q)
    (kx : ∀ (E : String) (ce : Cell) (q9 : Addr) (u : SX) (t : State) (H1 : Heap) (locs1 : List Loc), t.heap = H1 → s.vm.Alike t.vm → px u → BX E u t → H.size ≤ H1.size → (∀ q : Nat, q < H.size → ¬ AX q → H1[q]? = H[q]?) → va_S A0 H0 H1 locs1 → H1[q9]? = some ce → ce.vm = .none → s.vm.findClass E = some ce.cls → vx_W p l e R s m args below meth c H1 locs1 (cells + mc) (slots + ms) Q (F0 m pc ls rest) q9)
    (kk : ∀ (r : Int32) (u : S) (t : State) (H1 : Heap) (locs1 : List Loc), t.heap = H1 → s.vm.Alike t.vm → post r u → B u t → H.size ≤ H1.size → (∀ q : Nat, q < H.size → ¬ A1 q → H1[q]? = H[q]?) → va_S A0 H0 H1 locs1 → W p l e R s m args below meth c H1 locs1 (cells + mc) (slots + ms) Q (F0 m (pc + 3) ls (.int r :: rest))) : W p l e R s m args below meth c H locs cells slots Q (F0 m pc ls st0) := by
  intro T hT X
  rcases hr T hT X with ⟨v, st₀, t, T', L, h0, X', hL, e1, e2, ⟨⟨r, u, hv, hp, hb⟩, hF⟩, st⟩ | ⟨q, st₀, t, T', L, E, ce, h0, X', hL, e1, e2, ⟨u, hp, hb, hF⟩, hce, hcv, hcl, st⟩
  · cases hv
    obtain ⟨k1, k2, k3⟩ := vx_keep h0 e1 hS hA hf hL hF
    obtain ⟨t2, a1, b1⟩ := kk r u t T'.heap (locs ++ L) e1.symm (by rw [← e2]; exact X'.warmed.alike) hp hb k1 k2 k3 T' rfl X'
    exact ⟨t2, st t2 a1, b1⟩
  · obtain ⟨k1, k2, k3⟩ := vx_keep h0 e1 hS hAX hf hL hF
    obtain ⟨t2, a1, b1⟩ := kx E ce q u t T'.heap (locs ++ L) e1.symm (by rw [← e2]; exact X'.warmed.alike) hp hb k1 k2 k3 (by rw [e1]; exact hce) hcv hcl T' rfl X'
    exact ⟨t2, st.trans a1, b1⟩
theorem vx_calll {S SX : Type} {post : Int64 → S → Prop} {px : SX → Prop} {B : S → State → Prop} {BX : String → SX → State → Prop} {AX : Nat → Prop} (hr : vx_Run p l e R s m args below meth c H locs cells slots mc ms (F0 m pc ls st0) rest (va_Ql post B A1 a) (vx_X px BX AX) free) (hS : va_S A0 H0 H locs) (hA : ∀ q, q < H.size → A1 q → A0 q) (hf : ∀ q, free q → A0 q) (hAX : ∀ q, q < H.size → AX q → A0 q)
    (kx : ∀ (E : String) (ce : Cell) (q9 : Addr) (u : SX) (t : State) (H1 : Heap) (locs1 : List Loc), t.heap = H1 → s.vm.Alike t.vm → px u → BX E u t → H.size ≤ H1.size → (∀ q : Nat, q < H.size → ¬ AX q → H1[q]? = H[q]?) → va_S A0 H0 H1 locs1 → H1[q9]? = some ce → ce.vm = .none → s.vm.findClass E = some ce.cls → vx_W p l e R s m args below meth c H1 locs1 (cells + mc) (slots + ms) Q (F0 m pc ls rest) q9)
    (kk : ∀ (r : Int64) (u : S) (t : State) (H1 : Heap) (locs1 : List Loc), t.heap = H1 → s.vm.Alike t.vm → post r u → B u t → H.size ≤ H1.size → (∀ q : Nat, q < H.size → ¬ A1 q → H1[q]? = H[q]?) → va_S A0 H0 H1 locs1 → W p l e R s m args below meth c H1 locs1 (cells + mc) (slots + ms) Q (F0 m (pc + 3) ls (.long r :: rest))) : W p l e R s m args below meth c H locs cells slots Q (F0 m pc ls st0) := by
  intro T hT X
  rcases hr T hT X with ⟨v, st₀, t, T', L, h0, X', hL, e1, e2, ⟨⟨r, u, hv, hp, hb⟩, hF⟩, st⟩ | ⟨q, st₀, t, T', L, E, ce, h0, X', hL, e1, e2, ⟨u, hp, hb, hF⟩, hce, hcv, hcl, st⟩
  · cases hv
    obtain ⟨k1, k2, k3⟩ := vx_keep h0 e1 hS hA hf hL hF
    obtain ⟨t2, a1, b1⟩ := kk r u t T'.heap (locs ++ L) e1.symm (by rw [← e2]; exact X'.warmed.alike) hp hb k1 k2 k3 T' rfl X'
    exact ⟨t2, st t2 a1, b1⟩
  · obtain ⟨k1, k2, k3⟩ := vx_keep h0 e1 hS hAX hf hL hF
    obtain ⟨t2, a1, b1⟩ := kx E ce q u t T'.heap (locs ++ L) e1.symm (by rw [← e2]; exact X'.warmed.alike) hp hb k1 k2 k3 (by rw [e1]; exact hce) hcv hcl T' rfl X'
    exact ⟨t2, st.trans a1, b1⟩
theorem vx_callf {S SX : Type} {post : UInt32 → S → Prop} {px : SX → Prop} {B : S → State → Prop} {BX : String → SX → State → Prop} {AX : Nat → Prop} (hr : vx_Run p l e R s m args below meth c H locs cells slots mc ms (F0 m pc ls st0) rest (va_Qf post B A1 a) (vx_X px BX AX) free) (hS : va_S A0 H0 H locs) (hA : ∀ q, q < H.size → A1 q → A0 q) (hf : ∀ q, free q → A0 q) (hAX : ∀ q, q < H.size → AX q → A0 q)
    (kx : ∀ (E : String) (ce : Cell) (q9 : Addr) (u : SX) (t : State) (H1 : Heap) (locs1 : List Loc), t.heap = H1 → s.vm.Alike t.vm → px u → BX E u t → H.size ≤ H1.size → (∀ q : Nat, q < H.size → ¬ AX q → H1[q]? = H[q]?) → va_S A0 H0 H1 locs1 → H1[q9]? = some ce → ce.vm = .none → s.vm.findClass E = some ce.cls → vx_W p l e R s m args below meth c H1 locs1 (cells + mc) (slots + ms) Q (F0 m pc ls rest) q9)
    (kk : ∀ (r : UInt32) (u : S) (t : State) (H1 : Heap) (locs1 : List Loc), t.heap = H1 → s.vm.Alike t.vm → post r u → B u t → H.size ≤ H1.size → (∀ q : Nat, q < H.size → ¬ A1 q → H1[q]? = H[q]?) → va_S A0 H0 H1 locs1 → W p l e R s m args below meth c H1 locs1 (cells + mc) (slots + ms) Q (F0 m (pc + 3) ls (.float r :: rest))) : W p l e R s m args below meth c H locs cells slots Q (F0 m pc ls st0) := by
  intro T hT X
  rcases hr T hT X with ⟨v, st₀, t, T', L, h0, X', hL, e1, e2, ⟨⟨r, u, hv, hp, hb⟩, hF⟩, st⟩ | ⟨q, st₀, t, T', L, E, ce, h0, X', hL, e1, e2, ⟨u, hp, hb, hF⟩, hce, hcv, hcl, st⟩
  · cases hv
    obtain ⟨k1, k2, k3⟩ := vx_keep h0 e1 hS hA hf hL hF
    obtain ⟨t2, a1, b1⟩ := kk r u t T'.heap (locs ++ L) e1.symm (by rw [← e2]; exact X'.warmed.alike) hp hb k1 k2 k3 T' rfl X'
    exact ⟨t2, st t2 a1, b1⟩
  · obtain ⟨k1, k2, k3⟩ := vx_keep h0 e1 hS hAX hf hL hF
    obtain ⟨t2, a1, b1⟩ := kx E ce q u t T'.heap (locs ++ L) e1.symm (by rw [← e2]; exact X'.warmed.alike) hp hb k1 k2 k3 (by rw [e1]; exact hce) hcv hcl T' rfl X'
    exact ⟨t2, st.trans a1, b1⟩
theorem vx_calld {S SX : Type} {post : UInt64 → S → Prop} {px : SX → Prop} {B : S → State → Prop} {BX : String → SX → State → Prop} {AX : Nat → Prop} (hr : vx_Run p l e R s m args below meth c H locs cells slots mc ms (F0 m pc ls st0) rest (va_Qd post B A1 a) (vx_X px BX AX) free) (hS : va_S A0 H0 H locs) (hA : ∀ q, q < H.size → A1 q → A0 q) (hf : ∀ q, free q → A0 q) (hAX : ∀ q, q < H.size → AX q → A0 q)
    (kx : ∀ (E : String) (ce : Cell) (q9 : Addr) (u : SX) (t : State) (H1 : Heap) (locs1 : List Loc), t.heap = H1 → s.vm.Alike t.vm → px u → BX E u t → H.size ≤ H1.size → (∀ q : Nat, q < H.size → ¬ AX q → H1[q]? = H[q]?) → va_S A0 H0 H1 locs1 → H1[q9]? = some ce → ce.vm = .none → s.vm.findClass E = some ce.cls → vx_W p l e R s m args below meth c H1 locs1 (cells + mc) (slots + ms) Q (F0 m pc ls rest) q9)
    (kk : ∀ (r : UInt64) (u : S) (t : State) (H1 : Heap) (locs1 : List Loc), t.heap = H1 → s.vm.Alike t.vm → post r u → B u t → H.size ≤ H1.size → (∀ q : Nat, q < H.size → ¬ A1 q → H1[q]? = H[q]?) → va_S A0 H0 H1 locs1 → W p l e R s m args below meth c H1 locs1 (cells + mc) (slots + ms) Q (F0 m (pc + 3) ls (.double r :: rest))) : W p l e R s m args below meth c H locs cells slots Q (F0 m pc ls st0) := by
  intro T hT X
  rcases hr T hT X with ⟨v, st₀, t, T', L, h0, X', hL, e1, e2, ⟨⟨r, u, hv, hp, hb⟩, hF⟩, st⟩ | ⟨q, st₀, t, T', L, E, ce, h0, X', hL, e1, e2, ⟨u, hp, hb, hF⟩, hce, hcv, hcl, st⟩
  · cases hv
    obtain ⟨k1, k2, k3⟩ := vx_keep h0 e1 hS hA hf hL hF
    obtain ⟨t2, a1, b1⟩ := kk r u t T'.heap (locs ++ L) e1.symm (by rw [← e2]; exact X'.warmed.alike) hp hb k1 k2 k3 T' rfl X'
    exact ⟨t2, st t2 a1, b1⟩
  · obtain ⟨k1, k2, k3⟩ := vx_keep h0 e1 hS hAX hf hL hF
    obtain ⟨t2, a1, b1⟩ := kx E ce q u t T'.heap (locs ++ L) e1.symm (by rw [← e2]; exact X'.warmed.alike) hp hb k1 k2 k3 (by rw [e1]; exact hce) hcv hcl T' rfl X'
    exact ⟨t2, st.trans a1, b1⟩
theorem vx_callv {S SX : Type} {post : S → Prop} {px : SX → Prop} {B : S → State → Prop} {BX : String → SX → State → Prop} {AX : Nat → Prop} (hr : vx_Run p l e R s m args below meth c H locs cells slots mc ms (F0 m pc ls st0) rest (va_Qv post B A1 a) (vx_X px BX AX) free) (hS : va_S A0 H0 H locs) (hA : ∀ q, q < H.size → A1 q → A0 q) (hf : ∀ q, free q → A0 q) (hAX : ∀ q, q < H.size → AX q → A0 q)
    (kx : ∀ (E : String) (ce : Cell) (q9 : Addr) (u : SX) (t : State) (H1 : Heap) (locs1 : List Loc), t.heap = H1 → s.vm.Alike t.vm → px u → BX E u t → H.size ≤ H1.size → (∀ q : Nat, q < H.size → ¬ AX q → H1[q]? = H[q]?) → va_S A0 H0 H1 locs1 → H1[q9]? = some ce → ce.vm = .none → s.vm.findClass E = some ce.cls → vx_W p l e R s m args below meth c H1 locs1 (cells + mc) (slots + ms) Q (F0 m pc ls rest) q9)
    (kk : ∀ (u : S) (t : State) (H1 : Heap) (locs1 : List Loc), t.heap = H1 → s.vm.Alike t.vm → post u → B u t → H.size ≤ H1.size → (∀ q : Nat, q < H.size → ¬ A1 q → H1[q]? = H[q]?) → va_S A0 H0 H1 locs1 → W p l e R s m args below meth c H1 locs1 (cells + mc) (slots + ms) Q (F0 m (pc + 3) ls (rest))) : W p l e R s m args below meth c H locs cells slots Q (F0 m pc ls st0) := by
  intro T hT X
  rcases hr T hT X with ⟨v, st₀, t, T', L, h0, X', hL, e1, e2, ⟨⟨u, hv, hp, hb⟩, hF⟩, st⟩ | ⟨q, st₀, t, T', L, E, ce, h0, X', hL, e1, e2, ⟨u, hp, hb, hF⟩, hce, hcv, hcl, st⟩
  · cases hv
    obtain ⟨k1, k2, k3⟩ := vx_keep h0 e1 hS hA hf hL hF
    obtain ⟨t2, a1, b1⟩ := kk u t T'.heap (locs ++ L) e1.symm (by rw [← e2]; exact X'.warmed.alike) hp hb k1 k2 k3 T' rfl X'
    exact ⟨t2, st t2 a1, b1⟩
  · obtain ⟨k1, k2, k3⟩ := vx_keep h0 e1 hS hAX hf hL hF
    obtain ⟨t2, a1, b1⟩ := kx E ce q u t T'.heap (locs ++ L) e1.symm (by rw [← e2]; exact X'.warmed.alike) hp hb k1 k2 k3 (by rw [e1]; exact hce) hcv hcl T' rfl X'
    exact ⟨t2, st.trans a1, b1⟩
/-- caught by the row x of this method's table; the rows ahead don't take it -/
theorem vx_catch {own name : String} {E : String} {ce : Cell} {q : Addr} (hown : s.vm.findClass own = some m.cls) (pre : List ExceptionTableEntry) (x : ExceptionTableEntry) (suf : List ExceptionTableEntry) (hsplit : c.exceptionTable.toList = pre ++ x :: suf)
    (hpass : ∀ z ∈ pre, covers z pc = false ∨ (z.catchType ≠ 0 ∧ ∃ nm : String, (Cond.classLink own z.catchType nm).before args s = true ∧ va_Nc E nm s)) (hx : covers x pc = true) (h0 : x.catchType ≠ 0)
    (hlink : (Cond.classLink own x.catchType name).before args s = true) (hcast : (Cond.castable E name).before args s = true) (hcell : H[q]? = some ce) (hv : ce.vm = .none) (hcl : s.vm.findClass E = some ce.cls)
    (kk : W p l e R s m args below meth c H locs cells slots Q (F0 m x.handlerPc ls [.ref q])) : vx_W p l e R s m args below meth c H locs cells slots Q (F0 m pc ls rest) q := by
  intro T hT X
  have hpl : e.platform.magicAccessors = ({} : Platform).magicAccessors := by rw [X.admits.platform]
  obtain ⟨c3, c4, hc3, hc4, hasg⟩ := Cond.castable_spec hcast
  cases Option.some.inj (hc3.symm.trans hcl)
  obtain ⟨c5, hc5, hcl5⟩ := Cond.classLink_spec hown hlink e.platform hpl
  cases Option.some.inj (hc4.symm.trans hc5)
  obtain ⟨vm', X', st⟩ := X.thenCaughtThrough q (g := F0 m pc ls rest) rfl (Steps.refl _) (by rw [hT]; exact hcell) (by rw [hv]; rfl) (by obtain ⟨k9, h9, -⟩ := Vm.findClass_spec hcl; exact ⟨k9, h9⟩) pre x suf hsplit
    (fun z hz => by
      rcases hpass z hz with h | ⟨hz0, nm, hl1, hn1⟩
      · exact Or.inl h
      · obtain ⟨c6, hc6, hcl6⟩ := Cond.classLink_spec hown hl1 e.platform hpl
        obtain ⟨a8, b8, h1, h2, h3⟩ := hn1
        cases Option.some.inj (h1.symm.trans hcl)
        cases Option.some.inj (h2.symm.trans hc6)
        exact Or.inr ⟨hz0, _, hcl6, h3⟩) hx (Or.inr ⟨h0, c4, hcl5, hasg⟩)
  obtain ⟨t, a1, b1⟩ := kk (T.setVm vm') hT X'
  exact ⟨t, st.trans a1, b1⟩
end Rows
section Ends
variable {p : Program} {l : Launch} {e : Env} {R : Room} {s : State} {m : MethodId} {args : Array Value} {below : List Frame} {meth : Method} {c : Code} {H : Heap} {locs : List Loc} {cells slots : Nat} {Q : State → Prop}
variable {mc ms : Nat} {free : Addr → Prop} {A0 A1 : Nat → Prop} {H0 : Heap} {a : Array Value} {ls : Array Slot} {st0 rest : List Value}
variable {Qc : Array Value → State → Outcome → State → Prop} {XC : String → State → State → Prop}
/-- what a body that may throw owes at its end -/
def vx_MQ (below : List Frame) (Qc : Array Value → State → Outcome → State → Prop) (XC : String → State → State → Prop) (a : Array Value) (s : State) (mc ms : Nat) (free : Addr → Prop) : State → Prop := fun t =>
  ∃ o, t.status = .running ∧ Ended t below o ∧ vx_Q Qc XC mc ms free a s o t
theorem vx_ret {g : JFrame} {mc ms : Nat} (k : W p l e R s m args below meth c H locs cells slots (MQ below Qc args s mc ms free) g) : W p l e R s m args below meth c H locs cells slots (vx_MQ below Qc XC args s mc ms free) g := by
  intro T hT X
  obtain ⟨t, a1, o, b1, b2, b3, b4⟩ := k T hT X
  exact ⟨t, a1, o, b1, b2, Or.inl ⟨b3, b4⟩⟩
/-- not caught here: it goes on to the caller -/
theorem vx_widen {g : JFrame} {q : Addr} {k n : Nat} (h1 : cells ≤ k) (h2 : slots ≤ n) (kk : vx_W p l e R s m args below meth c H locs k n Q g q) : vx_W p l e R s m args below meth c H locs cells slots Q g q := fun T hT X => kk T hT (stand_widen X h1 h2)
theorem vx_out {pc : Nat} {E : String} {ce : Cell} {q : Addr} {mc ms : Nat} (hout : ∀ x ∈ c.exceptionTable.toList, covers x pc = false) (hlocks : meth.locks = false) (hcell : H[q]? = some ce) (hv : ce.vm = .none) (hcl : s.vm.findClass E = some ce.cls)
    (hx : ∀ t : State, t.heap = H → s.vm.Alike t.vm → XC E s t) (hf : ∀ z ∈ locs, free z.base) (hc : cells ≤ mc) (hs : slots ≤ ms) :
    vx_W p l e R s m args below meth c H locs cells slots (vx_MQ below Qc XC args s mc ms free) (F0 m pc ls rest) q := by
  intro T hT X
  obtain ⟨st1, hrun, hend, hW, hsm⟩ := X.leaveThrown q (g := F0 m pc ls rest) rfl rfl rfl hout hlocks
  have hcell9 : (T.setFrames (.throwing q :: below)).heap[q]? = some ce := by
    show T.heap[q]? = some ce
    rw [hT]; exact hcell
  exact ⟨_, st1, .threw q, hrun, hend, Or.inr ⟨q, rfl, E, ce, locs, hx _ hT hW.alike, hcell9, hv, hcl, hW, hsm.mono hc hs, hf⟩⟩
theorem vx_frame {U : State} {k n : Nat} (h : s.sameButNew ({ U with vm := s.vm } : State) locs k n) : s.heap.size ≤ U.heap.size ∧ ∀ q : Nat, q < s.heap.size → (∀ z ∈ locs, z.base ≠ q) → U.heap[q]? = s.heap[q]? := by
  obtain ⟨-, h2, -, -, -, h6⟩ := h
  refine ⟨h2, fun q hq hz => ?_⟩
  obtain ⟨c9, e1, e2, e3, e4⟩ := h6 q _ (Array.getElem?_eq_getElem hq)
  have hs : c9.slots = (s.heap[q]).slots := Array.ext_getElem? fun i => e4 i fun hm => hz _ hm rfl
  have h9 : c9 = s.heap[q] := by
    rw [hs] at e2
    exact e2
  have e5 : U.heap[q]? = some c9 := e1
  rw [e5, h9, Array.getElem?_eq_getElem hq]
/-- the words of a throw but the four that speak of the heap -/
def vx_no (w : Cond) : Bool := decide (w ≠ .isRef (.static Bundle.tN "UNASSIGNED_STACK" Bundle.steD)) && decide (w ≠ .isRef (.static Bundle.tN "SUPPRESSED_SENTINEL" Bundle.listD)) && decide (w ≠ .laysStatic Bundle.tN "UNASSIGNED_STACK" Bundle.steD) && decide (w ≠ .laysStatic Bundle.tN "SUPPRESSED_SENTINEL" Bundle.listD)
def vx_at0 (own : String) (ic : Nat) (X : String) (names : List String) : List Cond := (Bundle.ownAtoms0 own ic X names).filter vx_no
def vx_atS (own : String) (ic : Nat) (X : String) (names : List String) : List Cond := (Bundle.ownAtoms own ic X names).filter vx_no
/-- a word that the tables alone decide, or a good one -/
def vx_ot (w : Cond) : Bool := w.onTables || goodWord w
theorem vx_ot_at {args a' : Array Value} {s U : State} {w : Cond} (hW : s.WarmedH U.vm) (hvm : s.vm = U.vm) (hg : vx_ot w = true) (h : w.before args s = true) : w.before a' U = true := by
  simp only [vx_ot, Bool.or_eq_true] at hg
  rcases hg with hg | hg
  · exact va_tabs hg hvm h
  · exact word_at hW (good_of_word hg) h
/-- a list's words: the good ones out of the method's own list, the others by premises of their own -/
theorem vx_hat {args : Array Value} {s : State} {L B : List Cond} (h1 : ∀ w ∈ L.filter goodWord, w.before args s = true) (h2 : ∀ w ∈ L.filter (fun w => !goodWord w), w ∈ B) (h3 : ∀ w ∈ B, w.before args s = true) : ∀ w ∈ L, w.before args s = true := by
  intro w hw
  by_cases g : goodWord w = true
  · exact h1 w (List.mem_filter.mpr ⟨hw, g⟩)
  · refine h3 w (h2 w (List.mem_filter.mpr ⟨hw, ?_⟩))
    show (!goodWord w) = true
    cases hgw : goodWord w
    · rfl
    · exact absurd hgw g
theorem vx_c {args : Array Value} {s : State} {w : Cond} {B : List Cond} (h : w.before args s = true) (t : ∀ w ∈ B, w.before args s = true) : ∀ w' ∈ w :: B, w'.before args s = true := fun w' h' => (List.mem_cons.mp h').elim (fun e => by rw [e]; exact h) (t w')
theorem vx_n {args : Array Value} {s : State} : ∀ w ∈ ([] : List Cond), w.before args s = true := fun _ h => nomatch h
theorem vx_own {args : Array Value} {s : State} {L : List Cond} (h1 : ∀ w ∈ L.filter vx_no, w.before args s = true)
    (hU : (Cond.isRef (.static Bundle.tN "UNASSIGNED_STACK" Bundle.steD)).before args s = true) (hN : (Cond.isRef (.static Bundle.tN "SUPPRESSED_SENTINEL" Bundle.listD)).before args s = true)
    (lU : (Cond.laysStatic Bundle.tN "UNASSIGNED_STACK" Bundle.steD).before args s = true) (lN : (Cond.laysStatic Bundle.tN "SUPPRESSED_SENTINEL" Bundle.listD).before args s = true) : ∀ w ∈ L, w.before args s = true := by
  intro w hw
  by_cases e1 : w = .isRef (.static Bundle.tN "UNASSIGNED_STACK" Bundle.steD)
  · rw [e1]; exact hU
  · by_cases e2 : w = .isRef (.static Bundle.tN "SUPPRESSED_SENTINEL" Bundle.listD)
    · rw [e2]; exact hN
    · by_cases e3 : w = .laysStatic Bundle.tN "UNASSIGNED_STACK" Bundle.steD
      · rw [e3]; exact lU
      · by_cases e4 : w = .laysStatic Bundle.tN "SUPPRESSED_SENTINEL" Bundle.listD
        · rw [e4]; exact lN
        · exact h1 w (List.mem_filter.mpr ⟨hw, by unfold vx_no; rw [decide_eq_true e1, decide_eq_true e2, decide_eq_true e3, decide_eq_true e4]; rfl⟩)
/-- where a static field lies, its class's statics cell in H -/
def vx_L (C n d : String) (A : Nat → Prop) (U : State) (H : Heap) : Prop := ∃ (c : ClassId) (k : Class) (i : Nat) (f : Field) (a : Nat) (cell : Cell), U.vm.findClass C = some c ∧ U.fieldFound? C n d = some (c, k, i, f) ∧ f.isStatic = true ∧ k.statics = some a ∧ H[a]? = some cell ∧ cell.vm.isStatics = true ∧ cell.cls = c ∧ f.slot < cell.slots.size ∧ k.staticTypes[f.slot]? = some f.type ∧ ¬ A a
theorem vx_L.moved {C n d : String} {A : Nat → Prop} {u U : State} {H : Heap} (hvm : u.vm.Alike U.vm) (h : vx_L C n d A u H) : vx_L C n d A U H := by
  obtain ⟨c, k, i, f, a, cell, h1, h2, h3, h4, h5, h6, h7, h8, h9, h10⟩ := h
  obtain ⟨k', hi', he⟩ := State.fieldFound?_setVm hvm h2
  exact ⟨c, k', i, f, a, cell, by rw [hvm.findClass]; exact h1, hi', h3, by rw [he]; exact h4, h5, h6, h7, h8, by rw [he]; exact h9, h10⟩
theorem vx_L.kept {C n d : String} {A : Nat → Prop} {U : State} {H H1 : Heap} (h : vx_L C n d A U H) (hq : ∀ a : Nat, a < H.size → ¬ A a → H1[a]? = H[a]?) : vx_L C n d A U H1 := by
  obtain ⟨c, k, i, f, a, cell, h1, h2, h3, h4, h5, h6, h7, h8, h9, h10⟩ := h
  exact ⟨c, k, i, f, a, cell, h1, h2, h3, h4, by rw [hq a (Array.getElem?_eq_some_iff.mp h5).1 h10]; exact h5, h6, h7, h8, h9, h10⟩
theorem vx_L.narrow {C n d : String} {A B : Nat → Prop} {U : State} {H : Heap} (h : vx_L C n d A U H) (hAB : ∀ q, B q → A q) : vx_L C n d B U H := by
  obtain ⟨c, k, i, f, a, cell, h1, h2, h3, h4, h5, h6, h7, h8, h9, h10⟩ := h
  exact ⟨c, k, i, f, a, cell, h1, h2, h3, h4, h5, h6, h7, h8, h9, fun z => h10 (hAB _ z)⟩
theorem vx_L.word {C n d : String} {A : Nat → Prop} {s : State} {args : Array Value} (h : vx_L C n d A s s.heap) : (Cond.laysStatic C n d).before args s = true := by
  obtain ⟨c, k, i, f, a, cell, h1, h2, h3, h4, h5, h6, h7, h8, h9, -⟩ := h
  show (Cond.laysStatic C n d).holds args s none s [] = true
  exact Cond.laysStatic_of h1 h2 h3 h4 h5 h6 h7 h8 h9
/-- .. and what it holds: null or some reference -/
def vx_Zq (C n d : String) (A : Nat → Prop) (U : State) (H : Heap) : Prop := va_Zq C n d A U H ∧ vx_L C n d A U H
theorem vx_Zq.moved {C n d : String} {A : Nat → Prop} {u U : State} {H : Heap} (hvm : u.vm.Alike U.vm) (h : vx_Zq C n d A u H) : vx_Zq C n d A U H := ⟨va_Zq.moved hvm h.1, vx_L.moved hvm h.2⟩
theorem vx_Zq.kept {C n d : String} {A : Nat → Prop} {U : State} {H H1 : Heap} (h : vx_Zq C n d A U H) (hq : ∀ a : Nat, a < H.size → ¬ A a → H1[a]? = H[a]?) : vx_Zq C n d A U H1 := ⟨va_Zq.kept h.1 hq, vx_L.kept h.2 hq⟩
theorem vx_Zq.narrow {C n d : String} {A B : Nat → Prop} {U : State} {H : Heap} (h : vx_Zq C n d A U H) (hAB : ∀ q, B q → A q) : vx_Zq C n d B U H := ⟨va_Zq.narrow h.1 hAB, vx_L.narrow h.2 hAB⟩
theorem vx_Zqof {args : Array Value} {s : State} {C n d : String} {A : Nat → Prop} (hl : (Cond.laysStatic C n d).before args s = true) (hini : (Cond.initialized C).before args s = true) (h : (Cond.isRef (.static C n d)).before args s = true) (hA : ∀ a : Nat, a < s.heap.size → ¬ A a) : vx_Zq C n d A s s.heap := by
  refine ⟨va_Zqof hl hini h hA, ?_⟩
  obtain ⟨c, k, i, f, a, cell, h1, h2, h3, h4, h5, h6, h7, h8, h9⟩ := Cond.laysStatic_spec hl
  exact ⟨c, k, i, f, a, cell, h1, h2, h3, h4, h5, h6, h7, h8, h9, hA a (Array.getElem?_eq_some_iff.mp h5).1⟩
theorem vx_isRef {C n d : String} {v : Value} {A : Nat → Prop} {s : State} {args : Array Value} (h : va_Z C n d v A s s.heap) (hv : v.isRef = true) : (Cond.isRef (.static C n d)).before args s = true := by
  obtain ⟨cf, kf, fi, f, a, cell, h1, h2, h3, h4, h5, h6, h7, -⟩ := h
  have he : (Term.static C n d).eval args s none [] s = some v := by
    simp [Term.eval, State.fieldNamed?, h1, h2, h4, h5, h6, h7]
  simp only [Cond.before, Cond.holds, Cond.value, he]
  cases v <;> simp_all [Value.isRef]
theorem vx_isRefq {C n d : String} {A : Nat → Prop} {s : State} {args : Array Value} (h : va_Zq C n d A s s.heap) : (Cond.isRef (.static C n d)).before args s = true := by
  rcases h with h | ⟨t, h⟩
  · exact vx_isRef h rfl
  · exact vx_isRef h rfl
/-- the same frame, seen from here: as if the method were called anew in this heap -/
theorem vx_rebase {T : State} (X : Stand p l e R s m args below meth c T locs cells slots) {R' : Room} (hf : R'.frames ≤ R.frames) (hl : R'.locals ≤ R.locals) (hc : cells + R'.cells ≤ R.cells) (hs : slots + R'.slots ≤ R.slots) :
    Stand p l e R' ((T.setVm s.vm).setFrames (.invoking m args :: below)) m args below meth c T [] 0 0 := by
  have htop : (T.setVm s.vm).topJava?.isSome := X.here.top
  have hF : ((T.setVm s.vm).setFrames (.invoking m args :: below)).frames = .invoking m args :: below := State.frames_setFrames _ (State.cur_lt_of_top htop)
  obtain ⟨g₀, hg0⟩ := Option.isSome_iff_exists.mp htop
  obtain ⟨r, hr⟩ := State.topJava?_eq_some.mp hg0
  have hl9 : e.platform.stackLimits (T.setVm s.vm).me = e.platform.stackLimits s.me := X.limits
  have hb9 : (T.setVm s.vm).me.stackBytes = s.me.stackBytes := X.bytes
  refine ⟨X.admits, X.cas, X.clock, hF, ?_, X.hears, X.method, X.code, X.here, X.tail, X.warmed, ?_, ?_, ?_⟩
  · have h := X.room
    have hU : ((T.setVm s.vm).setFrames (.invoking m args :: below)).localsInUse = s.localsInUse := by
      rw [State.localsInUse_invoking hF (meth := meth) (c := c) X.method X.code, State.localsInUse_invoking X.frames X.method X.code]
    simp only [State.hasRoom, Bool.and_eq_true, decide_eq_true_eq] at h ⊢
    obtain ⟨⟨⟨⟨h1, h2, h3, h4, h5, h6⟩, h7⟩, h8⟩, h9⟩ := h
    rw [X.frames, List.length_cons] at h2 h3
    have q1 := X.heapSize
    have q2 := X.used
    simp only [hF, hU, List.length_cons, State.stackLimits_setFrames, State.stackBytes_setFrames, hl9, hb9]
    refine ⟨⟨⟨⟨by omega, by omega, by omega, by omega, by omega, h6⟩, ?_⟩, ?_⟩, X.book⟩
    · show T.heap.size + R'.cells ≤ e.platform.maxCells
      omega
    · show T.slotsUsed + R'.slots ≤ e.platform.maxSlots
      omega
  · rw [State.stackLimits_setFrames]; rfl
  · rw [State.stackBytes_setFrames]; rfl
  · refine ⟨?_, Nat.le_refl _, Nat.le_refl _, ?_, ?_, fun a c9 h9 => ⟨c9, h9, rfl, rfl, fun _ _ => rfl⟩⟩
    · obtain ⟨t, ht, -⟩ := State.frames_cons hr
      show T.setVm s.vm = { ((T.setVm s.vm).setFrames (.invoking m args :: below)).setFrames (T.setVm s.vm).frames with heap := T.heap, slotsUsed := T.slotsUsed }
      rw [State.setFrames_setFrames, State.setFrames_self ht]
      rfl
    · show T.slotsUsed = T.slotsUsed + ((T.heap.toList.drop T.heap.size).map (·.slots.size)).sum
      rw [List.drop_eq_nil_of_le (Nat.le_of_eq Array.length_toList)]
      rfl
    · show ((T.heap.toList.drop T.heap.size).map (·.slots.size)).sum ≤ 0
      rw [List.drop_eq_nil_of_le (Nat.le_of_eq Array.length_toList)]
      exact Nat.le_refl _
/-- 'throw new E()': new; dup; invokespecial; athrow -/
theorem vx_throw0 {cc : ByteArray} {pc : Nat} (hexec : p.tables.exec = Jvm.exec) (hb : c.code = cc) (hl : l.stackTraces = false) {own cls : String} {names : List String} {ik ic mc ms : Nat} {A : Nat → Prop}
    (hown : s.vm.findClass own = some m.cls) (hcls : Bundle.fit cls = true) (hnames : ∀ n ∈ names, Bundle.fit n = true)
    (hk : (Cond.classLink own ik cls).before args s = true) (hini : (Cond.initialized cls).before args s = true) (hat : ∀ w ∈ vx_at0 own ic cls names, w.before args s = true)
    (hgood : ∀ w ∈ Cond.classLink own ik cls :: Cond.initialized cls :: vx_at0 own ic cls names, vx_ot w = true)
    (hU : vx_Zq Bundle.tN "UNASSIGNED_STACK" Bundle.steD A s s.heap) (hN : vx_Zq Bundle.tN "SUPPRESSED_SENTINEL" Bundle.listD A s s.heap) (hS : va_S A s.heap H locs) (hsize : ls.size = c.maxLocals)
    (d0 : decode cc pc = .ok (.new ik, 3)) (d3 : decode cc (pc + 3) = .ok (.dup, 1)) (d4 : decode cc (pc + 4) = .ok (.invokespecial ic, 3)) (d7 : decode cc (pc + 7) = .ok (.athrow, 1))
    (hout : ∀ x ∈ c.exceptionTable.toList, covers x (pc + 7) = false)
    (hRframes : names.length + 3 < R.frames) (hRlocals : (rest.map fun v => v.category).sum + (13 * (names.length + 1) + 42) ≤ R.locals) (hRcells : cells + 1 ≤ R.cells) (hRslots : slots + 6 ≤ R.slots) (hlocks : meth.locks = false)
    (hx : ∀ t : State, s.vm.Alike t.vm → H.size ≤ t.heap.size → (∀ q : Nat, q < H.size → t.heap[q]? = H[q]?) → XC cls s t)
    (hf : ∀ z ∈ locs, free z.base) (hc : cells + 1 ≤ mc) (hs : slots + 6 ≤ ms) :
    W p l e R s m args below meth c H locs cells slots (vx_MQ below Qc XC args s mc ms free) (F0 m pc ls rest) := by
  intro T hT X
  have htr : e.platform.stackTraces = false := (show e.platform.stackTraces = l.stackTraces by rw [X.admits.platform]).trans hl
  have Y := vx_rebase X (R' := { frames := R.frames, locals := R.locals, cells := 1, slots := 6 }) (Nat.le_refl _) (Nat.le_refl _) hRcells hRslots
  obtain ⟨s', hA⟩ : ∃ z, z = (T.setVm s.vm).setFrames (.invoking m args :: below) := ⟨_, rfl⟩
  rw [← hA] at Y
  have hvm : s'.vm = s.vm := by rw [hA]; rfl
  have hhp : s'.heap = H := by rw [hA]; exact hT
  have hW0 : s.WarmedH s'.vm := by rw [hvm]; exact State.WarmedH.refl s
  have hat' : ∀ w ∈ vx_at0 own ic cls names, w.before args s' = true := fun w hw => vx_ot_at hW0 hvm.symm (hgood w (List.mem_cons_of_mem _ (List.mem_cons_of_mem _ hw))) (hat w hw)
  have hk' : (Cond.classLink own ik cls).before args s' = true := vx_ot_at hW0 hvm.symm (hgood _ List.mem_cons_self) hk
  have hini' : (Cond.initialized cls).before args s' = true := vx_ot_at hW0 hvm.symm (hgood _ (List.mem_cons_of_mem _ List.mem_cons_self)) hini
  have hU' : vx_Zq Bundle.tN "UNASSIGNED_STACK" Bundle.steD A s' s'.heap := by rw [hhp]; exact vx_Zq.moved hW0.alike (hU.kept hS.2.1)
  have hN' : vx_Zq Bundle.tN "SUPPRESSED_SENTINEL" Bundle.listD A s' s'.heap := by rw [hhp]; exact vx_Zq.moved hW0.alike (hN.kept hS.2.1)
  have h : ∀ w ∈ Bundle.ownAtoms0 own ic cls names, w.before args s' = true := vx_own hat' (vx_isRefq hU'.1) (vx_isRefq hN'.1) hU'.2.word hN'.2.word
  have hown' : s'.vm.findClass own = some m.cls := by rw [hvm]; exact hown
  have hins : (Cond.instantiable cls 6).before args s' = true := h _ (by simp [Bundle.ownAtoms0])
  obtain ⟨vm₁, cX, kX, hfX, hkX, -, -, X₁, st1⟩ := Y.newCold hexec (own := own) (C := cls) (index := ik) (n := 6) hown' hk' hins hini'
    (g := F0 m pc ls rest) rfl (by rw [hb]; exact d0) (Nat.le_refl _) (Nat.le_refl _)
  generalize hT1 : (T.setVm vm₁).pushCell { cls := cX, slots := kX.instanceTypes.map defaultValue, vm := .none } = T1 at X₁ st1
  have hcat : (Value.ref T.heap.size).category = 1 := rfl
  have hcellA : T1.heap[T.heap.size]? = some (freshCell cX kX) := by rw [← hT1]; exact State.heap_pushCell_size _ _
  have d3' : decode c.code (pc + 3) = .ok (.dup, 1) := by rw [hb]; exact d3
  obtain ⟨U, hsteps, hrun, hend, hW, hsame, ce, hce, hO⟩ := X₁.ctorThrow0 hexec htr (own := own) (cls := cls) (names := names) (ic := ic) hown' hcls hnames h (fun x hx => nomatch hx) hfX hkX hcellA (by rw [hhp, hT]; exact Nat.le_refl _)
    (g := { method := m, pc := pc + 4, locals := ls, stack := .ref T.heap.size :: .ref T.heap.size :: rest, locked := none }) rfl hsize rfl rfl (rest := rest) rfl
    (by rw [hb]; exact d4) (by rw [hb]; exact d7) hout hRframes (by simp only [List.map_cons, List.sum_cons, hcat]; omega) hlocks
  obtain ⟨f1, f2⟩ := vx_frame hsame
  rw [hhp] at f1 f2
  have hWs : s.WarmedH U.vm := State.WarmedH.trans hW0 hW
  have hcl : s.vm.findClass cls = some ce.cls := by
    have h9 := hO.cls
    rw [hvm] at h9
    exact h9
  have hall : s.sameButNew ({ U with vm := s.vm } : State) locs mc ms := by
    subst hA
    obtain ⟨e1, e2⟩ := hsame
    rw [State.setFrames_setFrames] at e1
    have h2 : (T.setVm s.vm).sameButNew ({ U with vm := s.vm } : State) [] (0 + 1) (0 + 6) := ⟨e1, e2⟩
    have h3 := X.same.trans h2
    rw [List.append_nil] at h3
    exact h3.mono hc hs
  refine ⟨U, ?_, .threw T.heap.size, hrun, hend, Or.inr ⟨T.heap.size, rfl, cls, ce, locs, hx U hWs.alike f1 (fun q hq => f2 q hq (fun z hz => nomatch hz)), hce, hO.vm, hcl, hWs, hall, hf⟩⟩
  refine st1 _ ?_
  show Steps p.tables e below (T1.setTop { method := m, pc := pc + 3, locals := ls, stack := .ref T.heap.size :: rest, locked := none }) _
  jvm_step X₁.here [X₁.here.top, hexec, d3', Value.category]
  exact hsteps
/-- 'throw new E("text")': new; dup; ldc; invokespecial; athrow -/
theorem vx_throwS {cc : ByteArray} {pc : Nat} (hexec : p.tables.exec = Jvm.exec) (hb : c.code = cc) (hl : l.stackTraces = false) {own cls text : String} {names : List String} {ik is ic mc ms sa : Nat} {A : Nat → Prop}
    (hown : s.vm.findClass own = some m.cls) (hcls : Bundle.fit cls = true) (hnames : ∀ n ∈ names, Bundle.fit n = true)
    (hk : (Cond.classLink own ik cls).before args s = true) (hini : (Cond.initialized cls).before args s = true) (hstr : vk_R own is text sa s) (hat : ∀ w ∈ vx_atS own ic cls names, w.before args s = true)
    (hgood : ∀ w ∈ Cond.classLink own ik cls :: Cond.initialized cls :: vx_atS own ic cls names, vx_ot w = true)
    (hU : vx_Zq Bundle.tN "UNASSIGNED_STACK" Bundle.steD A s s.heap) (hN : vx_Zq Bundle.tN "SUPPRESSED_SENTINEL" Bundle.listD A s s.heap) (hS : va_S A s.heap H locs) (hsize : ls.size = c.maxLocals)
    (d0 : decode cc pc = .ok (.new ik, 3)) (d3 : decode cc (pc + 3) = .ok (.dup, 1)) (d4 : decode cc (pc + 4) = .ok (.ldc is, 2)) (d6 : decode cc (pc + 6) = .ok (.invokespecial ic, 3)) (d9 : decode cc (pc + 9) = .ok (.athrow, 1))
    (hout : ∀ x ∈ c.exceptionTable.toList, covers x (pc + 9) = false)
    (hRframes : names.length + 3 < R.frames) (hRlocals : (rest.map fun v => v.category).sum + (13 * (names.length + 1) + 43) ≤ R.locals) (hRcells : cells + 1 ≤ R.cells) (hRslots : slots + 6 ≤ R.slots) (hlocks : meth.locks = false)
    (hx : ∀ t : State, s.vm.Alike t.vm → H.size ≤ t.heap.size → (∀ q : Nat, q < H.size → t.heap[q]? = H[q]?) → XC cls s t)
    (hf : ∀ z ∈ locs, free z.base) (hc : cells + 1 ≤ mc) (hs : slots + 6 ≤ ms) :
    W p l e R s m args below meth c H locs cells slots (vx_MQ below Qc XC args s mc ms free) (F0 m pc ls rest) := by
  intro T hT X
  have htr : e.platform.stackTraces = false := (show e.platform.stackTraces = l.stackTraces by rw [X.admits.platform]).trans hl
  have Y := vx_rebase X (R' := { frames := R.frames, locals := R.locals, cells := 1, slots := 6 }) (Nat.le_refl _) (Nat.le_refl _) hRcells hRslots
  obtain ⟨s', hA⟩ : ∃ z, z = (T.setVm s.vm).setFrames (.invoking m args :: below) := ⟨_, rfl⟩
  rw [← hA] at Y
  have hvm : s'.vm = s.vm := by rw [hA]; rfl
  have hhp : s'.heap = H := by rw [hA]; exact hT
  have hW0 : s.WarmedH s'.vm := by rw [hvm]; exact State.WarmedH.refl s
  have hat' : ∀ w ∈ vx_atS own ic cls names, w.before args s' = true := fun w hw => vx_ot_at hW0 hvm.symm (hgood w (List.mem_cons_of_mem _ (List.mem_cons_of_mem _ hw))) (hat w hw)
  have hk' : (Cond.classLink own ik cls).before args s' = true := vx_ot_at hW0 hvm.symm (hgood _ List.mem_cons_self) hk
  have hini' : (Cond.initialized cls).before args s' = true := vx_ot_at hW0 hvm.symm (hgood _ (List.mem_cons_of_mem _ List.mem_cons_self)) hini
  have hU' : vx_Zq Bundle.tN "UNASSIGNED_STACK" Bundle.steD A s' s'.heap := by rw [hhp]; exact vx_Zq.moved hW0.alike (hU.kept hS.2.1)
  have hN' : vx_Zq Bundle.tN "SUPPRESSED_SENTINEL" Bundle.listD A s' s'.heap := by rw [hhp]; exact vx_Zq.moved hW0.alike (hN.kept hS.2.1)
  have h : ∀ w ∈ Bundle.ownAtoms own ic cls names, w.before args s' = true := vx_own hat' (vx_isRefq hU'.1) (vx_isRefq hN'.1) hU'.2.word hN'.2.word
  have hown' : s'.vm.findClass own = some m.cls := by rw [hvm]; exact hown
  have hins : (Cond.instantiable cls 6).before args s' = true := h _ (by simp [Bundle.ownAtoms])
  obtain ⟨vm₁, cX, kX, hfX, hkX, -, -, X₁, st1⟩ := Y.newCold hexec (own := own) (C := cls) (index := ik) (n := 6) hown' hk' hins hini'
    (g := F0 m pc ls rest) rfl (by rw [hb]; exact d0) (Nat.le_refl _) (Nat.le_refl _)
  generalize hT1 : (T.setVm vm₁).pushCell { cls := cX, slots := kX.instanceTypes.map defaultValue, vm := .none } = T1 at X₁ st1
  have hcat : (Value.ref T.heap.size).category = 1 := rfl
  have hcellA : T1.heap[T.heap.size]? = some (freshCell cX kX) := by rw [← hT1]; exact State.heap_pushCell_size _ _
  have d3' : decode c.code (pc + 3) = .ok (.dup, 1) := by rw [hb]; exact d3
  have d4' : decode c.code (pc + 4) = .ok (.ldc is, 2) := by rw [hb]; exact d4
  have hstr' : vk_R own is text sa s' := vk_R.warm hW0 hstr
  obtain ⟨U, hsteps, hrun, hend, hW, hsame, ce, hce, hO⟩ := X₁.ctorThrowS hexec htr (own := own) (cls := cls) (names := names) (ic := ic) hown' hcls hnames h (fun x hx => nomatch hx) hfX hkX hcellA (by rw [hhp, hT]; exact Nat.le_refl _) (msg := .ref sa) rfl
    (g := { method := m, pc := pc + 6, locals := ls, stack := .ref sa :: .ref T.heap.size :: .ref T.heap.size :: rest, locked := none }) rfl hsize rfl rfl (rest := rest) rfl
    (by rw [hb]; exact d6) (by rw [hb]; exact d9) hout hRframes (by simp only [List.map_cons, List.sum_cons, hcat]; omega) hlocks
  obtain ⟨f1, f2⟩ := vx_frame hsame
  rw [hhp] at f1 f2
  have hWs : s.WarmedH U.vm := State.WarmedH.trans hW0 hW
  have hcl : s.vm.findClass cls = some ce.cls := by
    have h9 := hO.cls
    rw [hvm] at h9
    exact h9
  have hall : s.sameButNew ({ U with vm := s.vm } : State) locs mc ms := by
    subst hA
    obtain ⟨e1, e2⟩ := hsame
    rw [State.setFrames_setFrames] at e1
    have h2 : (T.setVm s.vm).sameButNew ({ U with vm := s.vm } : State) [] (0 + 1) (0 + 6) := ⟨e1, e2⟩
    have h3 := X.same.trans h2
    rw [List.append_nil] at h3
    exact h3.mono hc hs
  refine ⟨U, ?_, .threw T.heap.size, hrun, hend, Or.inr ⟨T.heap.size, rfl, cls, ce, locs, hx U hWs.alike f1 (fun q hq => f2 q hq (fun z hz => nomatch hz)), hce, hO.vm, hcl, hWs, hall, hf⟩⟩
  refine st1 _ ?_
  show Steps p.tables e below (T1.setTop { method := m, pc := pc + 3, locals := ls, stack := .ref T.heap.size :: rest, locked := none }) _
  jvm_step X₁.here [X₁.here.top, hexec, d3', Value.category]
  exact X₁.ldcString hexec (own := own) (text := text) (index := is) (a := sa) hown' hstr'.1 hstr'.2
    (g := { method := m, pc := pc + 4, locals := ls, stack := .ref T.heap.size :: .ref T.heap.size :: rest, locked := none }) rfl d4' _ hsteps
/-- 'throw new E("text")', the text by a wide index -/
theorem vx_throwSW {cc : ByteArray} {pc : Nat} (hexec : p.tables.exec = Jvm.exec) (hb : c.code = cc) (hl : l.stackTraces = false) {own cls text : String} {names : List String} {ik is ic mc ms sa : Nat} {A : Nat → Prop}
    (hown : s.vm.findClass own = some m.cls) (hcls : Bundle.fit cls = true) (hnames : ∀ n ∈ names, Bundle.fit n = true)
    (hk : (Cond.classLink own ik cls).before args s = true) (hini : (Cond.initialized cls).before args s = true) (hstr : vk_R own is text sa s) (hat : ∀ w ∈ vx_atS own ic cls names, w.before args s = true)
    (hgood : ∀ w ∈ Cond.classLink own ik cls :: Cond.initialized cls :: vx_atS own ic cls names, vx_ot w = true)
    (hU : vx_Zq Bundle.tN "UNASSIGNED_STACK" Bundle.steD A s s.heap) (hN : vx_Zq Bundle.tN "SUPPRESSED_SENTINEL" Bundle.listD A s s.heap) (hS : va_S A s.heap H locs) (hsize : ls.size = c.maxLocals)
    (d0 : decode cc pc = .ok (.new ik, 3)) (d3 : decode cc (pc + 3) = .ok (.dup, 1)) (d4 : decode cc (pc + 4) = .ok (.ldc_w is, 3)) (d7 : decode cc (pc + 7) = .ok (.invokespecial ic, 3)) (d10 : decode cc (pc + 10) = .ok (.athrow, 1))
    (hout : ∀ x ∈ c.exceptionTable.toList, covers x (pc + 10) = false)
    (hRframes : names.length + 3 < R.frames) (hRlocals : (rest.map fun v => v.category).sum + (13 * (names.length + 1) + 43) ≤ R.locals) (hRcells : cells + 1 ≤ R.cells) (hRslots : slots + 6 ≤ R.slots) (hlocks : meth.locks = false)
    (hx : ∀ t : State, s.vm.Alike t.vm → H.size ≤ t.heap.size → (∀ q : Nat, q < H.size → t.heap[q]? = H[q]?) → XC cls s t)
    (hf : ∀ z ∈ locs, free z.base) (hc : cells + 1 ≤ mc) (hs : slots + 6 ≤ ms) :
    W p l e R s m args below meth c H locs cells slots (vx_MQ below Qc XC args s mc ms free) (F0 m pc ls rest) := by
  intro T hT X
  have htr : e.platform.stackTraces = false := (show e.platform.stackTraces = l.stackTraces by rw [X.admits.platform]).trans hl
  have Y := vx_rebase X (R' := { frames := R.frames, locals := R.locals, cells := 1, slots := 6 }) (Nat.le_refl _) (Nat.le_refl _) hRcells hRslots
  obtain ⟨s', hA⟩ : ∃ z, z = (T.setVm s.vm).setFrames (.invoking m args :: below) := ⟨_, rfl⟩
  rw [← hA] at Y
  have hvm : s'.vm = s.vm := by rw [hA]; rfl
  have hhp : s'.heap = H := by rw [hA]; exact hT
  have hW0 : s.WarmedH s'.vm := by rw [hvm]; exact State.WarmedH.refl s
  have hat' : ∀ w ∈ vx_atS own ic cls names, w.before args s' = true := fun w hw => vx_ot_at hW0 hvm.symm (hgood w (List.mem_cons_of_mem _ (List.mem_cons_of_mem _ hw))) (hat w hw)
  have hk' : (Cond.classLink own ik cls).before args s' = true := vx_ot_at hW0 hvm.symm (hgood _ List.mem_cons_self) hk
  have hini' : (Cond.initialized cls).before args s' = true := vx_ot_at hW0 hvm.symm (hgood _ (List.mem_cons_of_mem _ List.mem_cons_self)) hini
  have hU' : vx_Zq Bundle.tN "UNASSIGNED_STACK" Bundle.steD A s' s'.heap := by rw [hhp]; exact vx_Zq.moved hW0.alike (hU.kept hS.2.1)
  have hN' : vx_Zq Bundle.tN "SUPPRESSED_SENTINEL" Bundle.listD A s' s'.heap := by rw [hhp]; exact vx_Zq.moved hW0.alike (hN.kept hS.2.1)
  have h : ∀ w ∈ Bundle.ownAtoms own ic cls names, w.before args s' = true := vx_own hat' (vx_isRefq hU'.1) (vx_isRefq hN'.1) hU'.2.word hN'.2.word
  have hown' : s'.vm.findClass own = some m.cls := by rw [hvm]; exact hown
  have hins : (Cond.instantiable cls 6).before args s' = true := h _ (by simp [Bundle.ownAtoms])
  obtain ⟨vm₁, cX, kX, hfX, hkX, -, -, X₁, st1⟩ := Y.newCold hexec (own := own) (C := cls) (index := ik) (n := 6) hown' hk' hins hini'
    (g := F0 m pc ls rest) rfl (by rw [hb]; exact d0) (Nat.le_refl _) (Nat.le_refl _)
  generalize hT1 : (T.setVm vm₁).pushCell { cls := cX, slots := kX.instanceTypes.map defaultValue, vm := .none } = T1 at X₁ st1
  have hcat : (Value.ref T.heap.size).category = 1 := rfl
  have hcellA : T1.heap[T.heap.size]? = some (freshCell cX kX) := by rw [← hT1]; exact State.heap_pushCell_size _ _
  have d3' : decode c.code (pc + 3) = .ok (.dup, 1) := by rw [hb]; exact d3
  have d4' : decode c.code (pc + 4) = .ok (.ldc_w is, 3) := by rw [hb]; exact d4
  have hstr' : vk_R own is text sa s' := vk_R.warm hW0 hstr
  obtain ⟨U, hsteps, hrun, hend, hW, hsame, ce, hce, hO⟩ := X₁.ctorThrowS hexec htr (own := own) (cls := cls) (names := names) (ic := ic) hown' hcls hnames h (fun x hx => nomatch hx) hfX hkX hcellA (by rw [hhp, hT]; exact Nat.le_refl _) (msg := .ref sa) rfl
    (g := { method := m, pc := pc + 7, locals := ls, stack := .ref sa :: .ref T.heap.size :: .ref T.heap.size :: rest, locked := none }) rfl hsize rfl rfl (rest := rest) rfl
    (by rw [hb]; exact d7) (by rw [hb]; exact d10) hout hRframes (by simp only [List.map_cons, List.sum_cons, hcat]; omega) hlocks
  obtain ⟨f1, f2⟩ := vx_frame hsame
  rw [hhp] at f1 f2
  have hWs : s.WarmedH U.vm := State.WarmedH.trans hW0 hW
  have hcl : s.vm.findClass cls = some ce.cls := by
    have h9 := hO.cls
    rw [hvm] at h9
    exact h9
  have hall : s.sameButNew ({ U with vm := s.vm } : State) locs mc ms := by
    subst hA
    obtain ⟨e1, e2⟩ := hsame
    rw [State.setFrames_setFrames] at e1
    have h2 : (T.setVm s.vm).sameButNew ({ U with vm := s.vm } : State) [] (0 + 1) (0 + 6) := ⟨e1, e2⟩
    have h3 := X.same.trans h2
    rw [List.append_nil] at h3
    exact h3.mono hc hs
  refine ⟨U, ?_, .threw T.heap.size, hrun, hend, Or.inr ⟨T.heap.size, rfl, cls, ce, locs, hx U hWs.alike f1 (fun q hq => f2 q hq (fun z hz => nomatch hz)), hce, hO.vm, hcl, hWs, hall, hf⟩⟩
  refine st1 _ ?_
  show Steps p.tables e below (T1.setTop { method := m, pc := pc + 3, locals := ls, stack := .ref T.heap.size :: rest, locked := none }) _
  jvm_step X₁.here [X₁.here.top, hexec, d3', Value.category]
  exact X₁.ldcStringW hexec (own := own) (text := text) (index := is) (a := sa) hown' hstr'.1 hstr'.2
    (g := { method := m, pc := pc + 4, locals := ls, stack := .ref T.heap.size :: .ref T.heap.size :: rest, locked := none }) rfl d4' _ hsteps
end Ends
section Bodies
variable {l : Launch}
theorem vx_ofW {y : MethodName} {ws ws' : List Cond} {rm : Room} {Pc : Array Value → State → Prop} {Qc : Array Value → State → Outcome → State → Prop} {XC : String → State → State → Prop} {mc ms : Nat} {free : Addr → Prop} {cc : ByteArray} {maxL : Nat} {ret : Option FieldType}
    (hy : plainName y.cls = true) (hw : ws = Cond.code y cc maxL ret :: ws')
    (body : ∀ p e s m args below meth c s₁, BodyLoose p l y (headSpec ws rm) cc maxL ret e s m args below meth c s₁ → c.maxLocals = maxL → (∀ x ∈ c.exceptionTable.toList, False) → Pc args s →
      W p l e (headSpec ws rm).room s m args below meth c s.heap [] 0 0 (vx_MQ below Qc XC args s mc ms free) (entryFrame m args maxL)) : vx_Met l y ws rm Pc Qc XC mc ms free := by
  refine MetFree.of_bodyS (code := cc) (maxLocals := maxL) (ret := ret) hy ?_ ?_
  · intro args s m h hn
    obtain ⟨meth, c, h1, h2, h3, h4, h5, h6, -, -⟩ := Cond.code_spec hn (atoms_spec (ws := ws) h _ (by rw [hw]; exact List.mem_cons_self))
    exact ⟨meth, c, h1, h2, h3, h4, h5, h6⟩
  · intro p e s m args below meth c s₁ B hml hP _
    have hh0 : s₁.heap = s.heap := by rw [B.state]; rfl
    have ht : ∀ x ∈ c.exceptionTable.toList, False := by
      obtain ⟨meth9, c9, h1, h2, -, -, -, -, h7, -⟩ := Cond.code_spec B.named (atoms_spec (ws := ws) B.pre _ (by rw [hw]; exact List.mem_cons_self))
      cases Option.some.inj (h1.symm.trans B.method)
      cases Option.some.inj (h2.symm.trans (Stand.of_body B).code)
      intro x hx
      rw [Array.isEmpty_iff.mp h7] at hx
      cases hx
    obtain ⟨t, a1, o, b1, b2, b3⟩ := body p e s m args below meth c s₁ B hml ht hP s₁ hh0 (Stand.of_body B)
    exact ⟨t, o, a1, b1, b2, b3⟩
/-- the table of a body with handlers -/
theorem vx_table {p : Program} {x y : MethodName} {S : Spec} {cc bytes : ByteArray} {maxL maxL' : Nat} {ret ret' : Option FieldType} {e : Env} {s s₁ : State} {m : MethodId} {args : Array Value} {below : List Frame} {meth : Method} {c : Code} {hh : List (Nat × Nat × Nat × Nat)}
    (B : BodyLoose p l y S cc maxL ret e s m args below meth c s₁) (h : (Cond.codeWith y bytes maxL' ret' hh).before args s = true) : c.exceptionTable.toList = tableOf hh := by
  obtain ⟨m9, meth9, c9, hn9, h1, h2, -, -, h6, -⟩ := Cond.codeWith_spec h
  cases Option.some.inj (hn9.symm.trans B.named)
  cases Option.some.inj (h1.symm.trans B.method)
  cases Option.some.inj (h2.symm.trans (Stand.of_body B).code)
  rw [← h6, table_eq]
end Bodies
end VXA
/-! ===== END ===== -/
/-! ===== BEGIN a static call of a method with an exception table ===== -/
section VXS
variable {p : Program} {l : Launch} {e : Env} {R : Room} {s : State} {m : MethodId} {args : Array Value} {below : List Frame} {meth : Method} {c : Code} {T : State} {H : Heap} {locs : List Loc} {cells slots : Nat}
abbrev vx_CSW (R : Room) (s : State) (args : Array Value) (own : String) (index : Nat) (y : MethodName) (bytes : ByteArray) (maxL : Nat) (ret : Option FieldType) (hh : List (Nat × Nat × Nat × Nat)) (ws : List Cond) (rm : Room) (mc ms n : Nat) : Prop :=
  (rm.cells = mc ∧ rm.slots = ms ∧ rm.frames + 1 ≤ R.frames ∧ 8 + (maxL + 11) + rm.locals ≤ R.locals ∧ (∀ w ∈ ws, ∀ (a' : Array Value) (U : State), s.WarmedH U.vm → w.before a' U = true) ∧ Cond.codeWith y bytes maxL ret hh ∈ ws) ∧
  (Cond.codeWith y bytes maxL ret hh).before args s = true ∧ (Cond.initialized y.cls).before args s = true ∧ (y.cls ≠ "java/lang/invoke/MethodHandle" ∧ y.cls ≠ "java/lang/invoke/VarHandle") ∧
  (∀ sig, parseMethodDescriptor y.desc = some sig → n = sig.parameters.length) ∧ (Cond.methodLink own index y).before args s = true ∧ (Cond.static y).before args s = true
theorem vx_cwSW {own : String} {index maxL mc ms : Nat} {y : MethodName} {bytes : ByteArray} {ret : Option FieldType} {hh : List (Nat × Nat × Nat × Nat)} {Ts ws ws' : List Cond} {rm : Room} (n : Nat) (ht : ∀ w ∈ Ts, w.before args s = true) (hT : GoodIn Ts (va_wsS own index y ws)) (hw : ws = Cond.codeWith y bytes maxL ret hh :: ws') (hrc : rm.cells = mc) (hrs : rm.slots = ms)
    (hd : y.cls ≠ "java/lang/invoke/MethodHandle" ∧ y.cls ≠ "java/lang/invoke/VarHandle" ∧ (parseMethodDescriptor y.desc).map (fun d => d.parameters.length) = some n) (hR : rm.frames + 1 ≤ R.frames ∧ 8 + (maxL + 11) + rm.locals ≤ R.locals) :
    vx_CSW R s args own index y bytes maxL ret hh ws rm mc ms n := by
  have ok : ∀ w ∈ va_wsS own index y ws, w.before args s = true := fun w h => ht w (hT w h).1
  have hG : GoodIn Ts ws := fun w h => hT w (by unfold va_wsS; exact List.mem_append_right _ h)
  have hc : Cond.codeWith y bytes maxL ret hh ∈ ws := by rw [hw]; exact List.mem_cons_self
  refine ⟨⟨hrc, hrs, hR.1, hR.2, pay_in ht hG, hc⟩, ht _ (hG _ hc).1, ok _ (by simp [va_wsS]), ⟨hd.1, hd.2.1⟩, fun sig h => ?_, ok _ (by simp [va_wsS]), ok _ (by simp [va_wsS])⟩
  have h2 := hd.2.2
  rw [h] at h2
  exact (Option.some.inj h2).symm
theorem vx_callSW (X : Stand p l e R s m args below meth c T locs cells slots) (hexec : p.tables.exec = Jvm.exec) {own : String} {index : Nat} {y : MethodName} {bytes : ByteArray} {maxL : Nat} {ret : Option FieldType} {hh : List (Nat × Nat × Nat × Nat)}
    (hown : s.vm.findClass own = some m.cls) (hlink : (Cond.methodLink own index y).before args s = true) (hstat : (Cond.static y).before args s = true) (hinit : (Cond.initialized y.cls).before args s = true)
    (hcode : (Cond.codeWith y bytes maxL ret hh).before args s = true) (hy : y.cls ≠ "java/lang/invoke/MethodHandle" ∧ y.cls ≠ "java/lang/invoke/VarHandle")
    {W9 : Nat} {Pre : Pt → Array Value → Prop} {Post : Pt → Array Value → Option Value → Pt → Prop} (hK : Back l R p e below s args y 3 W9 Pre Post)
    {g : JFrame} (hg : g.method = m) (hsize : g.locals.size = c.maxLocals) {argsL rest : List Value} (hlen : ∀ sig, parseMethodDescriptor y.desc = some sig → argsL.length = sig.parameters.length)
    (hstack : g.stack = argsL.reverse ++ rest) (hW : 2 * g.monitorRoom + (rest.map fun v => v.category).sum ≤ W9) (hdg : decode c.code g.pc = .ok (.invokestatic index, 3))
    (hpre : ∀ vm₁, s.WarmedH vm₁ → Pre ⟨T.setVm vm₁, locs, cells, slots⟩ argsL.toArray) :
    ∃ (v : Option Value) (vm₁ : Vm) (B : Pt), s.WarmedH vm₁ ∧ Stand p l e R s m args below meth c B.U B.locs B.cells B.slots ∧ Post ⟨T.setVm vm₁, locs, cells, slots⟩ argsL.toArray v B ∧
      ∀ target, Steps p.tables e below (B.U.setTop { g with pc := g.pc + 3, stack := v.toList ++ rest }) target → Steps p.tables e below (T.setTop g) target := by
  obtain ⟨mk, methM, cM, hnamed, hmethM, -, -, -, -, -, -, hsigM⟩ := Cond.codeWith_spec hcode
  have hstatic : methM.isStatic = true := Cond.static_spec hnamed hmethM hstat
  obtain ⟨kP, hkP, -⟩ := className_of_methodNamed hnamed
  have hinitP : kP.init = .initialized := Cond.initialized_spec (findClass_of_methodNamed hnamed) hkP hinit
  obtain ⟨vm₁, X₁, hstep₁⟩ := X.invokestatic hexec hown hlink hnamed hmethM hstatic hkP hinitP hy (g := g) hg (argsL := argsL) (rest := rest) (hlen _ hsigM) hstack hdg
  obtain ⟨v, B, X', hpost, hsteps⟩ := hK m meth c ⟨T.setVm vm₁, locs, cells, slots⟩ { g with stack := rest } (.invokestatic index) mk argsL.toArray X₁ hg hsize hdg hW (X₁.named hnamed) (hpre vm₁ X₁.warmed)
  exact ⟨v, vm₁, B, X₁.warmed, X', hpost, fun target h => hstep₁ _ fun acts => by rw [doInvoke_state]; exact hsteps.trans h⟩
theorem vx_runSW {y : MethodName} {bytes cc : ByteArray} {maxL nL mc ms n index : Nat} {ret : Option FieldType} {hh : List (Nat × Nat × Nat × Nat)} {ws : List Cond} {rm : Room} {Pc : Array Value → State → Prop} {Qc : Array Value → State → Outcome → State → Prop} {free : Addr → Prop} {Ts : List Cond} {own : String} {As rest : List Value} {g : JFrame}
    (S : CallFix p m c cc nL s args Ts own) (hM : Met l y ws rm Pc Qc mc ms free) (cw : vx_CSW R s args own index y bytes maxL ret hh ws rm mc ms n) (hp : PreS s H Pc As)
    (hg : g.method = m) (hn : As.length = n) (hsize : g.locals.size = nL) (hstack : g.stack = As.reverse ++ rest) (hW : 2 * g.monitorRoom + (rest.map fun v => v.category).sum ≤ 8) (hdg : decode cc g.pc = .ok (.invokestatic index, 3)) (hf : cells + mc ≤ R.cells ∧ slots + ms ≤ R.slots) :
    va_Run p l e R s m args below meth c H locs cells slots mc ms g rest (Qc As.toArray) (free) := by
  obtain ⟨⟨hrc, hrs, hfr, hlo, hws, hcw⟩, hcode, hini, hy, hlen, hl, hstt⟩ := cw
  have hK : Back l R p e below s args y 3 8 (PreOf R mc ms Pc) (PostOf Qc mc ms free) := va_backW (hh := hh) (bytes := bytes) (maxL := maxL) (ret := ret) hM hp.1 hrc hrs hfr hlo hws hcw (fun a' U hW => word_at hW (Or.inl (by first | rfl | simp [Cond.onTables, Cond.keeps, Cond.steady])) hini)
  obtain ⟨hx, hb, hml, ho, -⟩ := S
  intro T hT X
  obtain ⟨v, vm₁, ⟨U', l2, c2, s2⟩, hW₁, X', ⟨g', mk, t, L, e1, e2, hq, h1, hL, h2, h3⟩, st⟩ := vx_callSW X hx (hh := hh) (bytes := bytes) (maxL := maxL) (ret := ret) ho hl hstt hini hcode hy hK hg (hsize.trans hml.symm) (argsL := As) (rest := rest) (fun sig h => hn.trans (hlen sig h)) hstack hW (by rw [hb]; exact hdg)
    (fun vm₁ hW₁ => ⟨hf.1, hf.2, hp.2 (T.setVm vm₁) hT hW₁⟩)
  dsimp only [Pt.U, Pt.locs, Pt.cells, Pt.slots] at X' e1 e2 h1 h2 h3 st
  subst h1; subst h2; subst h3
  exact ⟨v, (T.setVm vm₁).calling g' mk As.toArray, t, U', L, hT, X', hL, e1, e2, hq, st⟩
/-- not caught here, past rows that name other classes: it goes on to the caller -/
theorem vx_outP {p : Program} {l : Launch} {e : Env} {R : Room} {s : State} {m : MethodId} {args : Array Value} {below : List Frame} {meth : Method} {c : Code} {H : Heap} {locs : List Loc} {cells slots : Nat} {free : Addr → Prop} {ls : Array Slot} {rest : List Value} {Qc : Array Value → State → Outcome → State → Prop} {XC : String → State → State → Prop}
    {pc : Nat} {own E : String} {ce : Cell} {q : Addr} {mc ms : Nat} (hown : s.vm.findClass own = some m.cls) (hlocks : meth.locks = false)
    (hpass : ∀ z ∈ c.exceptionTable.toList, covers z pc = false ∨ (z.catchType ≠ 0 ∧ ∃ nm : String, (Cond.classLink own z.catchType nm).before args s = true ∧ va_Nc E nm s)) (hcell : H[q]? = some ce) (hv : ce.vm = .none) (hcl : s.vm.findClass E = some ce.cls)
    (hx : ∀ t : State, t.heap = H → s.vm.Alike t.vm → XC E s t) (hf : ∀ z ∈ locs, free z.base) (hc : cells ≤ mc) (hs : slots ≤ ms) :
    vx_W p l e R s m args below meth c H locs cells slots (vx_MQ below Qc XC args s mc ms free) (F0 m pc ls rest) q := by
  intro T hT X
  have hpl : e.platform.magicAccessors = ({} : Platform).magicAccessors := by rw [X.admits.platform]
  obtain ⟨vm', hW', X', st⟩ := X.outThrough hlocks q (g := F0 m pc ls rest) rfl rfl rfl (cell := ce) (by rw [hT]; exact hcell) (by rw [hv]; rfl)
    (by obtain ⟨k9, h9, -⟩ := Vm.findClass_spec hcl; exact ⟨k9, h9⟩) (fun z hz => by
      rcases hpass z hz with h | ⟨hz0, nm, hl1, hn1⟩
      · exact Or.inl h
      · obtain ⟨c6, hc6, hcl6⟩ := Cond.classLink_spec hown hl1 e.platform hpl
        obtain ⟨a8, b8, h1, h2, h3⟩ := hn1
        cases Option.some.inj (h1.symm.trans hcl)
        cases Option.some.inj (h2.symm.trans hc6)
        exact Or.inr ⟨hz0, _, hcl6, h3⟩)
  obtain ⟨g₀, hfr⟩ := X'.frames_eq
  have hcell9 : ((T.setVm vm').setFrames (.throwing q :: below)).heap[q]? = some ce := by
    show T.heap[q]? = some ce
    rw [hT]; exact hcell
  have hend : Ended ((T.setVm vm').setFrames (.throwing q :: below)) below (.threw q) := State.frames_setFrames _ (State.cur_lt_of_frames hfr)
  refine ⟨(T.setVm vm').setFrames (.throwing q :: below), ?_, .threw q, X'.here.running, hend, Or.inr ⟨q, rfl, E, ce, locs, hx _ hT (X'.ends _).1.alike, hcell9, hv, hcl, (X'.ends _).1, (X'.ends _).2.mono hc hs, hf⟩⟩
  rw [X.pushThrowing_eq]
  exact st
/-- a thing of a world lies in the heap -/
theorem vx_lt {D : va_G} {cl : List vw_C} {ws : va_W} {H1 : Heap} (h : va_P D cl ws H1) {k : Nat} {q : Nat × va_E} (hk : ws[k]? = some q) : q.1 < H1.size := (h k q hk).lt
end VXS
/-! ===== END ===== -/
/-! ===== BEGIN methods with a table of their own: called by a name, returning or throwing ===== -/
section VXH
/-! vx_backW, vx_callVX, vx_callSX, vx_callVW, vx_runVW, vx_runVX, vx_runSX, vx_ofWH follow the same proofs as their sisters above (Free/Laws.lean, Shelf42/LK1.lean); vx_outP calls Shelf42/NT130.lean (outThrough). -/
section
variable {l : Launch} {R : Room} {p : Program} {e : Env} {below : List Frame} {s : State} {sargs : Array Value} {y : MethodName} {len W9 : Nat}
theorem vx_backW {ws : List Cond} {rm : Room} {Pc : Array Value → State → Prop} {Qc : Array Value → State → Outcome → State → Prop} {XC : String → State → State → Prop} {mc ms : Nat} {free : Addr → Prop} {bytes : ByteArray} {maxL : Nat} {ret : Option FieldType} {hh : List (Nat × Nat × Nat × Nat)}
    (hM : vx_Met l y ws rm Pc Qc XC mc ms free) (hblind : FrameBlind Pc) (hrc : rm.cells = mc) (hrs : rm.slots = ms)
    (hframes : rm.frames + 1 ≤ R.frames) (hlocals : W9 + (maxL + 11) + rm.locals ≤ R.locals)
    (hws : ∀ w ∈ ws, ∀ a' U, s.WarmedH U.vm → w.before a' U = true) (hcode : Cond.codeWith y bytes maxL ret hh ∈ ws) (hinit : ∀ a' U, s.WarmedH U.vm → (Cond.initialized y.cls).before a' U = true) :
    vx_Back l R p e below s sargs y len W9 (PreOf R mc ms Pc) (PostOf Qc mc ms free) (vx_Post XC mc ms free) := by
  intro m meth c A g ig mk a X hg hsize hdg hW hn hp
  have h1 : (headSpec ws rm).pre.before a A.U = true := atoms_intro fun w hw => hws w hw _ _ X.warmed
  have h2 : (Cond.codeWith y bytes maxL ret hh).before a A.U = true := hws _ hcode _ _ X.warmed
  have h3 : (Cond.initialized y.cls).before a A.U = true := hinit _ _ X.warmed
  have h4 : A.cells + (headSpec ws rm).room.cells ≤ R.cells := by rw [show (headSpec ws rm).room.cells = mc from hrc]; exact hp.1
  have h5 : A.slots + (headSpec ws rm).room.slots ≤ R.slots := by rw [show (headSpec ws rm).room.slots = ms from hrs]; exact hp.2.1
  have hPc : Pc a (A.U.calling g mk a) := hblind _ _ _ _ hp.2.2
  obtain ⟨U, Ls, c0, s0⟩ := A
  dsimp only [Pt.U, Pt.locs, Pt.cells, Pt.slots] at h1 h2 h3 h4 h5 X hn hPc ⊢
  obtain ⟨m9, methY, cY, hn9, hmY, hcY, -, hlY, -⟩ := Cond.codeWith_spec h2
  cases Option.some.inj (hn9.symm.trans hn)
  obtain ⟨kY, hkY, -⟩ := className_of_methodNamed hn
  have hinitY : kY.init = .initialized := Cond.initialized_spec (findClass_of_methodNamed hn) hkY h3
  have h : At U g.method c below := by rw [hg]; exact X.here
  have hlocals9 : W9 + (maxL + 11) + (headSpec ws rm).room.locals ≤ R.locals := hlocals
  have happ : (headSpec ws rm).appliesLoose y e.platform (U.calling g mk a) = true :=
    Spec.appliesLoose_calling (g := g) h hdg hn hkY hinitY
      (X.room_calling (g := g) (R' := (headSpec ws rm).room) hsize hmY hcY hframes (by rw [hlY]; omega) h4 h5) h1
  obtain ⟨mid, hmid⟩ := h.above
  have hfr : (U.setTop g).frames = (.java g :: mid) ++ below := by rw [State.frames_setTop' g h.top, hmid]; rfl
  obtain ⟨o, s₂, hsteps, -, hend, hq⟩ := Steps.callFree hM p X.admits X.cas X.clock (acts := []) hfr happ hPc trivial
  have hq' : vx_Q Qc XC mc ms free a (U.calling g mk a) o s₂ := hq
  rw [State.frames_setTop' g h.top] at hend
  obtain ⟨g₀, hg0⟩ := Option.isSome_iff_exists.mp h.top
  obtain ⟨r, hr⟩ := State.topJava?_eq_some.mp hg0
  have hr' : (({ U with heap := s₂.heap, slotsUsed := s₂.slotsUsed } : State).setVm s₂.vm).frames = .java g₀ :: r := hr
  rcases hq' with ⟨hqc, L, hfe, hL⟩ | ⟨q, rfl, E, ce, L, hx, hce, hcv, hcl, hW₂, hsm, hL⟩
  · obtain ⟨⟨v, rfl⟩, hW₂, e2, q2, q3, q4, q5, q6⟩ := id hfe
    have e3 : s₂ = ({ (U.calling g mk a).setFrames s₂.frames with heap := s₂.heap, slotsUsed := s₂.slotsUsed } : State).setVm s₂.vm := by
      have : s₂ = ({ s₂ with vm := (U.calling g mk a).vm } : State).setVm s₂.vm := rfl
      rw [e2] at this
      exact this
    obtain ⟨c₂, i₂, len₂, hc₂, hd₂, hf₂⟩ := hend
    have hW' : U.WarmedH s₂.vm := hW₂
    have hcc : c₂ = c := by
      have h1 : s₂.code? g.method = U.code? g.method := by
        rw [State.code?_eq, State.code?_eq, hW'.alike.method?]
      exact Option.some.inj (hc₂.symm.trans (h1.trans h.code))
    subst hcc
    have hlen : len₂ = len := by rw [hdg] at hd₂; cases hd₂; rfl
    subst hlen
    have hs₂ : s₂ = (({ U with heap := s₂.heap, slotsUsed := s₂.slotsUsed } : State).setVm s₂.vm).setTop { g with pc := g.pc + len₂, stack := v.toList ++ g.stack } := by
      refine e3.trans ?_
      rw [hf₂, State.calling_eq h.top, State.setFrames_setFrames, State.setTop_of_frames _ hr', hr]
      rfl
    have hsame : U.sameButNew ({ U with heap := s₂.heap, slotsUsed := s₂.slotsUsed } : State) L mc ms := by
      refine ⟨?_, q2, q3, q4, q5, q6⟩
      obtain ⟨t, ht, -⟩ := State.frames_cons hr
      show ({ U with heap := s₂.heap, slotsUsed := s₂.slotsUsed } : State) = { U.setFrames U.frames with heap := s₂.heap, slotsUsed := s₂.slotsUsed }
      rw [State.setFrames_self ht]
    subst hg
    refine Or.inl ⟨v, ⟨(({ U with heap := s₂.heap, slotsUsed := s₂.slotsUsed } : State).setVm s₂.vm), Ls ++ L, c0 + mc, s0 + ms⟩,
      ⟨X.admits, X.cas, X.clock, X.frames, X.room, X.hears, X.method, X.code, (X.here.setHeapUsed s₂.heap s₂.slotsUsed).setVm hW'.alike, X.tail, State.WarmedH.trans X.warmed hW', X.limits, X.bytes, X.same.trans (hsame.setVm s.vm)⟩,
      ⟨g, mk, s₂, L, rfl, rfl, hqc, rfl, hL, rfl, rfl⟩, ?_⟩
    show Steps p.tables e below _ ((({ U with heap := s₂.heap, slotsUsed := s₂.slotsUsed } : State).setVm s₂.vm).setTop { g with pc := g.pc + len₂, stack := v.toList ++ g.stack })
    rw [← hs₂]
    exact hsteps
  · obtain ⟨e2, q2, q3, q4, q5, q6⟩ := id hsm
    have e3 : s₂ = ({ (U.calling g mk a).setFrames s₂.frames with heap := s₂.heap, slotsUsed := s₂.slotsUsed } : State).setVm s₂.vm := by
      have : s₂ = ({ s₂ with vm := (U.calling g mk a).vm } : State).setVm s₂.vm := rfl
      rw [e2] at this
      exact this
    have hf₂ : s₂.frames = .throwing q :: .java g :: U.frames.tail := hend
    have hW' : U.WarmedH s₂.vm := hW₂
    have hs₂ : s₂ = ((({ U with heap := s₂.heap, slotsUsed := s₂.slotsUsed } : State).setVm s₂.vm).setTop g).pushFrame (.throwing q) := by
      refine e3.trans ?_
      rw [hf₂, State.calling_eq h.top, State.setFrames_setFrames, State.pushFrame, State.frames_setTop _ hr', State.setTop_of_frames _ hr', State.setFrames_setFrames, hr]
      rfl
    have hsame : U.sameButNew ({ U with heap := s₂.heap, slotsUsed := s₂.slotsUsed } : State) L mc ms := by
      refine ⟨?_, q2, q3, q4, q5, q6⟩
      obtain ⟨t, ht, -⟩ := State.frames_cons hr
      show ({ U with heap := s₂.heap, slotsUsed := s₂.slotsUsed } : State) = { U.setFrames U.frames with heap := s₂.heap, slotsUsed := s₂.slotsUsed }
      rw [State.setFrames_self ht]
    subst hg
    refine Or.inr ⟨q, ⟨(({ U with heap := s₂.heap, slotsUsed := s₂.slotsUsed } : State).setVm s₂.vm), Ls ++ L, c0 + mc, s0 + ms⟩,
      ⟨X.admits, X.cas, X.clock, X.frames, X.room, X.hears, X.method, X.code, (X.here.setHeapUsed s₂.heap s₂.slotsUsed).setVm hW'.alike, X.tail, State.WarmedH.trans X.warmed hW', X.limits, X.bytes, X.same.trans (hsame.setVm s.vm)⟩,
      ⟨g, mk, s₂, L, E, ce, rfl, rfl, hx, hce, hcv, hcl, rfl, hL, rfl, rfl⟩, ?_⟩
    show Steps p.tables e below _ (((({ U with heap := s₂.heap, slotsUsed := s₂.slotsUsed } : State).setVm s₂.vm).setTop g).pushFrame (.throwing q))
    rw [← hs₂]
    exact hsteps
end
variable {p : Program} {l : Launch} {e : Env} {R : Room} {s : State} {m : MethodId} {args : Array Value} {below : List Frame} {meth : Method} {c : Code} {T : State} {H : Heap} {locs : List Loc} {cells slots : Nat}
theorem vx_callVX (X : Stand p l e R s m args below meth c T locs cells slots) (hexec : p.tables.exec = Jvm.exec) {own C : String} {index : Nat} {y : MethodName} {bytes : ByteArray} {maxL : Nat} {ret : Option FieldType} {hh : List (Nat × Nat × Nat × Nat)}
    (hown : s.vm.findClass own = some m.cls) (hlink : (Cond.methodLink own index y).before args s = true) (hinst : (Cond.instanceMethod y).before args s = true) (hsel : (Cond.selects C y y).before args s = true)
    (hcode : (Cond.codeWith y bytes maxL ret hh).before args s = true) (hy : y.cls ≠ "java/lang/invoke/MethodHandle" ∧ y.cls ≠ "java/lang/invoke/VarHandle")
    {W9 : Nat} {Pre : Pt → Array Value → Prop} {Post : Pt → Array Value → Option Value → Pt → Prop} {PostX : Pt → Array Value → Addr → Pt → Prop} (hK : vx_Back l R p e below s args y 3 W9 Pre Post PostX)
    {b : Addr} {cellB : Cell} (hcell : T.heap[b]? = some cellB) (hobj : cellB.vm.isStatics = false) (hcls : s.vm.findClass C = some cellB.cls)
    {g : JFrame} (hg : g.method = m) (hsize : g.locals.size = c.maxLocals) {argsL rest : List Value} (hlen : ∀ sig, parseMethodDescriptor y.desc = some sig → argsL.length = sig.parameters.length)
    (hstack : g.stack = argsL.reverse ++ .ref b :: rest) (hW : 2 * g.monitorRoom + (rest.map fun v => v.category).sum ≤ W9) (hdg : decode c.code g.pc = .ok (.invokevirtual index, 3))
    (hpre : ∀ vm₁, s.WarmedH vm₁ → Pre ⟨T.setVm vm₁, locs, cells, slots⟩ (Value.ref b :: argsL).toArray) :
    (∃ (v : Option Value) (vm₁ : Vm) (B : Pt), s.WarmedH vm₁ ∧ Stand p l e R s m args below meth c B.U B.locs B.cells B.slots ∧ Post ⟨T.setVm vm₁, locs, cells, slots⟩ (Value.ref b :: argsL).toArray v B ∧
      ∀ target, Steps p.tables e below (B.U.setTop { g with pc := g.pc + 3, stack := v.toList ++ rest }) target → Steps p.tables e below (T.setTop g) target) ∨
    (∃ (q : Addr) (vm₁ : Vm) (B : Pt), s.WarmedH vm₁ ∧ Stand p l e R s m args below meth c B.U B.locs B.cells B.slots ∧ PostX ⟨T.setVm vm₁, locs, cells, slots⟩ (Value.ref b :: argsL).toArray q B ∧
      Steps p.tables e below (T.setTop g) ((B.U.setTop { g with stack := rest }).pushFrame (.throwing q))) := by
  obtain ⟨mk, methM, hnamed, hmethM, hstM, habM⟩ := Cond.instanceMethod_spec hinst
  obtain ⟨m8, methM', cM, hn8, hmethM', -, -, -, -, -, -, hsigM⟩ := Cond.codeWith_spec hcode
  cases Option.some.inj (hn8.symm.trans hnamed)
  cases hmethM.symm.trans hmethM'
  obtain ⟨c2, r2, m2, q1, q2, q3, q4, kP, hkP, hkPi⟩ := Cond.selects_spec hsel
  cases hcls.symm.trans q1
  cases (State.methodFound?_of_named hnamed hy).symm.trans q2
  cases hnamed.symm.trans q3
  have hselP : selectMethod e.platform s.vm cellB.cls mk = .method mk := by rw [Launch.admits_selectMethod X.admits]; exact q4
  obtain ⟨vm₁, X₁, hstep₁⟩ := X.invokevirtual hexec hown hlink hnamed hmethM hstM hkP hkPi hy (a := b) (cell := cellB) hcell
    (fun z h => by rw [h] at hobj; cases hobj) hselP hmethM habM hkP hkPi (g := g) hg (argsL := argsL) (rest := rest) (hlen _ hsigM) hstack hdg
  rcases hK m meth c ⟨T.setVm vm₁, locs, cells, slots⟩ { g with stack := rest } (.invokevirtual index) mk (Value.ref b :: argsL).toArray X₁ hg hsize hdg hW (X₁.named hnamed) (hpre vm₁ X₁.warmed) with ⟨v, B, X', hpost, hsteps⟩ | ⟨q, B, X', hpost, hsteps⟩
  · exact Or.inl ⟨v, vm₁, B, X₁.warmed, X', hpost, fun target h => hstep₁ _ fun acts => by rw [doInvoke_state]; exact hsteps.trans h⟩
  · exact Or.inr ⟨q, vm₁, B, X₁.warmed, X', hpost, hstep₁ _ fun acts => by rw [doInvoke_state]; exact hsteps⟩
theorem vx_callSX (X : Stand p l e R s m args below meth c T locs cells slots) (hexec : p.tables.exec = Jvm.exec) {own : String} {index : Nat} {y : MethodName} {bytes : ByteArray} {maxL : Nat} {ret : Option FieldType} {hh : List (Nat × Nat × Nat × Nat)}
    (hown : s.vm.findClass own = some m.cls) (hlink : (Cond.methodLink own index y).before args s = true) (hstat : (Cond.static y).before args s = true) (hinit : (Cond.initialized y.cls).before args s = true)
    (hcode : (Cond.codeWith y bytes maxL ret hh).before args s = true) (hy : y.cls ≠ "java/lang/invoke/MethodHandle" ∧ y.cls ≠ "java/lang/invoke/VarHandle")
    {W9 : Nat} {Pre : Pt → Array Value → Prop} {Post : Pt → Array Value → Option Value → Pt → Prop} {PostX : Pt → Array Value → Addr → Pt → Prop} (hK : vx_Back l R p e below s args y 3 W9 Pre Post PostX)
    {g : JFrame} (hg : g.method = m) (hsize : g.locals.size = c.maxLocals) {argsL rest : List Value} (hlen : ∀ sig, parseMethodDescriptor y.desc = some sig → argsL.length = sig.parameters.length)
    (hstack : g.stack = argsL.reverse ++ rest) (hW : 2 * g.monitorRoom + (rest.map fun v => v.category).sum ≤ W9) (hdg : decode c.code g.pc = .ok (.invokestatic index, 3))
    (hpre : ∀ vm₁, s.WarmedH vm₁ → Pre ⟨T.setVm vm₁, locs, cells, slots⟩ argsL.toArray) :
    (∃ (v : Option Value) (vm₁ : Vm) (B : Pt), s.WarmedH vm₁ ∧ Stand p l e R s m args below meth c B.U B.locs B.cells B.slots ∧ Post ⟨T.setVm vm₁, locs, cells, slots⟩ argsL.toArray v B ∧
      ∀ target, Steps p.tables e below (B.U.setTop { g with pc := g.pc + 3, stack := v.toList ++ rest }) target → Steps p.tables e below (T.setTop g) target) ∨
    (∃ (q : Addr) (vm₁ : Vm) (B : Pt), s.WarmedH vm₁ ∧ Stand p l e R s m args below meth c B.U B.locs B.cells B.slots ∧ PostX ⟨T.setVm vm₁, locs, cells, slots⟩ argsL.toArray q B ∧
      Steps p.tables e below (T.setTop g) ((B.U.setTop { g with stack := rest }).pushFrame (.throwing q))) := by
  obtain ⟨mk, methM, cM, hnamed, hmethM, -, -, -, -, -, -, hsigM⟩ := Cond.codeWith_spec hcode
  have hstatic : methM.isStatic = true := Cond.static_spec hnamed hmethM hstat
  obtain ⟨kP, hkP, -⟩ := className_of_methodNamed hnamed
  have hinitP : kP.init = .initialized := Cond.initialized_spec (findClass_of_methodNamed hnamed) hkP hinit
  obtain ⟨vm₁, X₁, hstep₁⟩ := X.invokestatic hexec hown hlink hnamed hmethM hstatic hkP hinitP hy (g := g) hg (argsL := argsL) (rest := rest) (hlen _ hsigM) hstack hdg
  rcases hK m meth c ⟨T.setVm vm₁, locs, cells, slots⟩ { g with stack := rest } (.invokestatic index) mk argsL.toArray X₁ hg hsize hdg hW (X₁.named hnamed) (hpre vm₁ X₁.warmed) with ⟨v, B, X', hpost, hsteps⟩ | ⟨q, B, X', hpost, hsteps⟩
  · exact Or.inl ⟨v, vm₁, B, X₁.warmed, X', hpost, fun target h => hstep₁ _ fun acts => by rw [doInvoke_state]; exact hsteps.trans h⟩
  · exact Or.inr ⟨q, vm₁, B, X₁.warmed, X', hpost, hstep₁ _ fun acts => by rw [doInvoke_state]; exact hsteps⟩
theorem vx_callVW (X : Stand p l e R s m args below meth c T locs cells slots) (hexec : p.tables.exec = Jvm.exec) {own C : String} {index : Nat} {y : MethodName} {bytes : ByteArray} {maxL : Nat} {ret : Option FieldType} {hh : List (Nat × Nat × Nat × Nat)}
    (hown : s.vm.findClass own = some m.cls) (hlink : (Cond.methodLink own index y).before args s = true) (hinst : (Cond.instanceMethod y).before args s = true) (hsel : (Cond.selects C y y).before args s = true)
    (hcode : (Cond.codeWith y bytes maxL ret hh).before args s = true) (hy : y.cls ≠ "java/lang/invoke/MethodHandle" ∧ y.cls ≠ "java/lang/invoke/VarHandle")
    {W9 : Nat} {Pre : Pt → Array Value → Prop} {Post : Pt → Array Value → Option Value → Pt → Prop} (hK : Back l R p e below s args y 3 W9 Pre Post)
    {b : Addr} {cellB : Cell} (hcell : T.heap[b]? = some cellB) (hobj : cellB.vm.isStatics = false) (hcls : s.vm.findClass C = some cellB.cls)
    {g : JFrame} (hg : g.method = m) (hsize : g.locals.size = c.maxLocals) {argsL rest : List Value} (hlen : ∀ sig, parseMethodDescriptor y.desc = some sig → argsL.length = sig.parameters.length)
    (hstack : g.stack = argsL.reverse ++ .ref b :: rest) (hW : 2 * g.monitorRoom + (rest.map fun v => v.category).sum ≤ W9) (hdg : decode c.code g.pc = .ok (.invokevirtual index, 3))
    (hpre : ∀ vm₁, s.WarmedH vm₁ → Pre ⟨T.setVm vm₁, locs, cells, slots⟩ (Value.ref b :: argsL).toArray) :
    ∃ (v : Option Value) (vm₁ : Vm) (B : Pt), s.WarmedH vm₁ ∧ Stand p l e R s m args below meth c B.U B.locs B.cells B.slots ∧ Post ⟨T.setVm vm₁, locs, cells, slots⟩ (Value.ref b :: argsL).toArray v B ∧
      ∀ target, Steps p.tables e below (B.U.setTop { g with pc := g.pc + 3, stack := v.toList ++ rest }) target → Steps p.tables e below (T.setTop g) target := by
  obtain ⟨mk, methM, hnamed, hmethM, hstM, habM⟩ := Cond.instanceMethod_spec hinst
  obtain ⟨m8, methM', cM, hn8, hmethM', -, -, -, -, -, -, hsigM⟩ := Cond.codeWith_spec hcode
  cases Option.some.inj (hn8.symm.trans hnamed)
  cases hmethM.symm.trans hmethM'
  obtain ⟨c2, r2, m2, q1, q2, q3, q4, kP, hkP, hkPi⟩ := Cond.selects_spec hsel
  cases hcls.symm.trans q1
  cases (State.methodFound?_of_named hnamed hy).symm.trans q2
  cases hnamed.symm.trans q3
  have hselP : selectMethod e.platform s.vm cellB.cls mk = .method mk := by rw [Launch.admits_selectMethod X.admits]; exact q4
  obtain ⟨vm₁, X₁, hstep₁⟩ := X.invokevirtual hexec hown hlink hnamed hmethM hstM hkP hkPi hy (a := b) (cell := cellB) hcell
    (fun z h => by rw [h] at hobj; cases hobj) hselP hmethM habM hkP hkPi (g := g) hg (argsL := argsL) (rest := rest) (hlen _ hsigM) hstack hdg
  obtain ⟨v, B, X', hpost, hsteps⟩ := hK m meth c ⟨T.setVm vm₁, locs, cells, slots⟩ { g with stack := rest } (.invokevirtual index) mk (Value.ref b :: argsL).toArray X₁ hg hsize hdg hW (X₁.named hnamed) (hpre vm₁ X₁.warmed)
  exact ⟨v, vm₁, B, X₁.warmed, X', hpost, fun target h => hstep₁ _ fun acts => by rw [doInvoke_state]; exact hsteps.trans h⟩
abbrev vx_CVW (R : Room) (s : State) (args : Array Value) (own C : String) (index : Nat) (y : MethodName) (bytes : ByteArray) (maxL : Nat) (ret : Option FieldType) (hh : List (Nat × Nat × Nat × Nat)) (ws : List Cond) (rm : Room) (mc ms n : Nat) : Prop :=
  (rm.cells = mc ∧ rm.slots = ms ∧ rm.frames + 1 ≤ R.frames ∧ 8 + (maxL + 11) + rm.locals ≤ R.locals ∧ (∀ w ∈ ws, ∀ (a' : Array Value) (U : State), s.WarmedH U.vm → w.before a' U = true) ∧ Cond.codeWith y bytes maxL ret hh ∈ ws) ∧
  (Cond.codeWith y bytes maxL ret hh).before args s = true ∧ (Cond.initialized y.cls).before args s = true ∧ (y.cls ≠ "java/lang/invoke/MethodHandle" ∧ y.cls ≠ "java/lang/invoke/VarHandle") ∧
  (∀ sig, parseMethodDescriptor y.desc = some sig → n = sig.parameters.length) ∧ (Cond.methodLink own index y).before args s = true ∧ (Cond.instanceMethod y).before args s = true ∧ (Cond.selects C y y).before args s = true
theorem vx_cwVW {own C : String} {index maxL mc ms : Nat} {y : MethodName} {bytes : ByteArray} {ret : Option FieldType} {hh : List (Nat × Nat × Nat × Nat)} {Ts ws ws' : List Cond} {rm : Room} (n : Nat) (ht : ∀ w ∈ Ts, w.before args s = true) (hT : GoodIn Ts (wsV own index C y ws)) (hw : ws = Cond.codeWith y bytes maxL ret hh :: ws') (hrc : rm.cells = mc) (hrs : rm.slots = ms)
    (hd : y.cls = C ∧ y.cls ≠ "java/lang/invoke/MethodHandle" ∧ y.cls ≠ "java/lang/invoke/VarHandle" ∧ (parseMethodDescriptor y.desc).map (fun d => d.parameters.length) = some n) (hR : rm.frames + 1 ≤ R.frames ∧ 8 + (maxL + 11) + rm.locals ≤ R.locals) :
    vx_CVW R s args own C index y bytes maxL ret hh ws rm mc ms n := by
  obtain ⟨hC, hd⟩ := hd
  subst hC
  have ok : ∀ w ∈ wsV own index y.cls y ws, w.before args s = true := fun w h => ht w (hT w h).1
  have hG : GoodIn Ts ws := fun w h => hT w (by unfold wsV; exact List.mem_append_right _ h)
  have hc : Cond.codeWith y bytes maxL ret hh ∈ ws := by rw [hw]; exact List.mem_cons_self
  refine ⟨⟨hrc, hrs, hR.1, hR.2, pay_in ht hG, hc⟩, ht _ (hG _ hc).1, ok _ (by simp [wsV]), ⟨hd.1, hd.2.1⟩, fun sig h => ?_, ok _ (by simp [wsV]), ok _ (by simp [wsV]), ok _ (by simp [wsV])⟩
  have h2 := hd.2.2
  rw [h] at h2
  exact (Option.some.inj h2).symm
theorem vx_runVW {y : MethodName} {bytes cc : ByteArray} {maxL nL mc ms n index : Nat} {ret : Option FieldType} {hh : List (Nat × Nat × Nat × Nat)} {ws : List Cond} {rm : Room} {Pc : Array Value → State → Prop} {Qc : Array Value → State → Outcome → State → Prop} {free : Addr → Prop} {Ts : List Cond} {own C : String} {b : Addr} {As rest : List Value} {g : JFrame}
    (S : CallFix p m c cc nL s args Ts own) (hM : Met l y ws rm Pc Qc mc ms free) (cw : vx_CVW R s args own C index y bytes maxL ret hh ws rm mc ms n) (hp : PreV s H C b Pc As)
    (hg : g.method = m) (hn : As.length = n) (hsize : g.locals.size = nL) (hstack : g.stack = As.reverse ++ .ref b :: rest) (hW : 2 * g.monitorRoom + (rest.map fun v => v.category).sum ≤ 8) (hdg : decode cc g.pc = .ok (.invokevirtual index, 3)) (hf : cells + mc ≤ R.cells ∧ slots + ms ≤ R.slots) :
    va_Run p l e R s m args below meth c H locs cells slots mc ms g rest (Qc (Value.ref b :: As).toArray) free := by
  obtain ⟨⟨hrc, hrs, hfr, hlo, hws, hcw⟩, hcode, hini, hy, hlen, hl, hin, hse⟩ := cw
  have hK : Back l R p e below s args y 3 8 (PreOf R mc ms Pc) (PostOf Qc mc ms free) := va_backW (hh := hh) (bytes := bytes) (maxL := maxL) (ret := ret) hM hp.1 hrc hrs hfr hlo hws hcw (fun a' U hW => word_at hW (Or.inl (by first | rfl | simp [Cond.onTables, Cond.keeps, Cond.steady])) hini)
  obtain ⟨hx, hb, hml, ho, -⟩ := S
  obtain ⟨-, ⟨cellB, hcB, hoB, hclB⟩, hPc⟩ := hp
  intro T hT X
  obtain ⟨v, vm₁, ⟨U', l2, c2, s2⟩, hW₁, X', ⟨g', mk, t, L, e1, e2, hq, h1, hL, h2, h3⟩, st⟩ := vx_callVW X hx (C := C) (hh := hh) (bytes := bytes) (maxL := maxL) (ret := ret) ho hl hin hse hcode hy hK (by rw [hT]; exact hcB) hoB hclB hg (hsize.trans hml.symm) (argsL := As) (rest := rest) (fun sig h => hn.trans (hlen sig h)) hstack hW (by rw [hb]; exact hdg)
    (fun vm₁ hW₁ => ⟨hf.1, hf.2, hPc (T.setVm vm₁) hT hW₁⟩)
  dsimp only [Pt.U, Pt.locs, Pt.cells, Pt.slots] at X' e1 e2 h1 h2 h3 st
  subst h1; subst h2; subst h3
  exact ⟨v, (T.setVm vm₁).calling g' mk (Value.ref b :: As).toArray, t, U', L, hT, X', hL, e1, e2, hq, st⟩
section
variable {y : MethodName} {bytes cc : ByteArray} {maxL nL mc ms n index : Nat} {ret : Option FieldType} {ws : List Cond} {rm : Room} {Pc : Array Value → State → Prop} {Qc : Array Value → State → Outcome → State → Prop} {XC : String → State → State → Prop} {free : Addr → Prop} {Ts : List Cond} {own C : String} {b : Addr} {As rest : List Value} {g : JFrame}
theorem vx_runVX {hh : List (Nat × Nat × Nat × Nat)} (S : CallFix p m c cc nL s args Ts own) (hM : vx_Met l y ws rm Pc Qc XC mc ms free) (cw : vx_CVW R s args own C index y bytes maxL ret hh ws rm mc ms n) (hp : PreV s H C b Pc As)
    (hg : g.method = m) (hn : As.length = n) (hsize : g.locals.size = nL) (hstack : g.stack = As.reverse ++ .ref b :: rest) (hW : 2 * g.monitorRoom + (rest.map fun v => v.category).sum ≤ 8) (hdg : decode cc g.pc = .ok (.invokevirtual index, 3)) (hf : cells + mc ≤ R.cells ∧ slots + ms ≤ R.slots) :
    vx_Run p l e R s m args below meth c H locs cells slots mc ms g rest (Qc (Value.ref b :: As).toArray) XC free := by
  obtain ⟨⟨hrc, hrs, hfr, hlo, hws, hcw⟩, hcode, hini, hy, hlen, hl, hin, hse⟩ := cw
  have hK : vx_Back l R p e below s args y 3 8 (PreOf R mc ms Pc) (PostOf Qc mc ms free) (vx_Post XC mc ms free) := vx_backW (hh := hh) (bytes := bytes) (maxL := maxL) (ret := ret) hM hp.1 hrc hrs hfr hlo hws hcw (fun a' U hW => word_at hW (Or.inl (by first | rfl | simp [Cond.onTables, Cond.keeps, Cond.steady])) hini)
  obtain ⟨hx, hb, hml, ho, -⟩ := S
  obtain ⟨-, ⟨cellB, hcB, hoB, hclB⟩, hPc⟩ := hp
  intro T hT X
  rcases vx_callVX X hx (C := C) (hh := hh) (bytes := bytes) (maxL := maxL) (ret := ret) ho hl hin hse hcode hy hK (by rw [hT]; exact hcB) hoB hclB hg (hsize.trans hml.symm) (argsL := As) (rest := rest) (fun sig h => hn.trans (hlen sig h)) hstack hW (by rw [hb]; exact hdg)
    (fun vm₁ hW₁ => ⟨hf.1, hf.2, hPc (T.setVm vm₁) hT hW₁⟩) with ⟨v, vm₁, ⟨U', l2, c2, s2⟩, hW₁, X', ⟨g', mk, t, L, e1, e2, hq, h1, hL, h2, h3⟩, st⟩ | ⟨q, vm₁, ⟨U', l2, c2, s2⟩, hW₁, X', ⟨g', mk, t, L, E, ce, e1, e2, hq, hce, hcv, hcl, h1, hL, h2, h3⟩, st⟩
  · dsimp only [Pt.U, Pt.locs, Pt.cells, Pt.slots] at X' e1 e2 h1 h2 h3 st
    subst h1; subst h2; subst h3
    exact Or.inl ⟨v, (T.setVm vm₁).calling g' mk (Value.ref b :: As).toArray, t, U', L, hT, X', hL, e1, e2, hq, st⟩
  · dsimp only [Pt.U, Pt.locs, Pt.cells, Pt.slots] at X' e1 e2 h1 h2 h3 st hcl
    subst h1; subst h2; subst h3
    exact Or.inr ⟨q, (T.setVm vm₁).calling g' mk (Value.ref b :: As).toArray, t, U', L, E, ce, hT, X', hL, e1, e2, hq, hce, hcv, vx_cls hW₁ hcl, st⟩
theorem vx_runSX {hh : List (Nat × Nat × Nat × Nat)} (S : CallFix p m c cc nL s args Ts own) (hM : vx_Met l y ws rm Pc Qc XC mc ms free) (cw : vx_CSW R s args own index y bytes maxL ret hh ws rm mc ms n) (hp : PreS s H Pc As)
    (hg : g.method = m) (hn : As.length = n) (hsize : g.locals.size = nL) (hstack : g.stack = As.reverse ++ rest) (hW : 2 * g.monitorRoom + (rest.map fun v => v.category).sum ≤ 8) (hdg : decode cc g.pc = .ok (.invokestatic index, 3)) (hf : cells + mc ≤ R.cells ∧ slots + ms ≤ R.slots) :
    vx_Run p l e R s m args below meth c H locs cells slots mc ms g rest (Qc As.toArray) XC free := by
  obtain ⟨⟨hrc, hrs, hfr, hlo, hws, hcw⟩, hcode, hini, hy, hlen, hl, hstt⟩ := cw
  have hK : vx_Back l R p e below s args y 3 8 (PreOf R mc ms Pc) (PostOf Qc mc ms free) (vx_Post XC mc ms free) := vx_backW (hh := hh) (bytes := bytes) (maxL := maxL) (ret := ret) hM hp.1 hrc hrs hfr hlo hws hcw (fun a' U hW => word_at hW (Or.inl (by first | rfl | simp [Cond.onTables, Cond.keeps, Cond.steady])) hini)
  obtain ⟨hx, hb, hml, ho, -⟩ := S
  intro T hT X
  rcases vx_callSX X hx (hh := hh) (bytes := bytes) (maxL := maxL) (ret := ret) ho hl hstt hini hcode hy hK hg (hsize.trans hml.symm) (argsL := As) (rest := rest) (fun sig h => hn.trans (hlen sig h)) hstack hW (by rw [hb]; exact hdg)
    (fun vm₁ hW₁ => ⟨hf.1, hf.2, hp.2 (T.setVm vm₁) hT hW₁⟩) with ⟨v, vm₁, ⟨U', l2, c2, s2⟩, hW₁, X', ⟨g', mk, t, L, e1, e2, hq, h1, hL, h2, h3⟩, st⟩ | ⟨q, vm₁, ⟨U', l2, c2, s2⟩, hW₁, X', ⟨g', mk, t, L, E, ce, e1, e2, hq, hce, hcv, hcl, h1, hL, h2, h3⟩, st⟩
  · dsimp only [Pt.U, Pt.locs, Pt.cells, Pt.slots] at X' e1 e2 h1 h2 h3 st
    subst h1; subst h2; subst h3
    exact Or.inl ⟨v, (T.setVm vm₁).calling g' mk As.toArray, t, U', L, hT, X', hL, e1, e2, hq, st⟩
  · dsimp only [Pt.U, Pt.locs, Pt.cells, Pt.slots] at X' e1 e2 h1 h2 h3 st hcl
    subst h1; subst h2; subst h3
    exact Or.inr ⟨q, (T.setVm vm₁).calling g' mk As.toArray, t, U', L, E, ce, hT, X', hL, e1, e2, hq, hce, hcv, vx_cls hW₁ hcl, st⟩
end
end VXH
theorem vx_ofWH {l : Launch} {y : MethodName} {ws ws' : List Cond} {rm : Room} {Pc : Array Value → State → Prop} {Qc : Array Value → State → Outcome → State → Prop} {XC : String → State → State → Prop} {mc ms : Nat} {free : Addr → Prop} {cc : ByteArray} {maxL : Nat} {ret : Option FieldType} {hh : List (Nat × Nat × Nat × Nat)}
    (hy : plainName y.cls = true) (hw : ws = Cond.codeWith y cc maxL ret hh :: ws')
    (body : ∀ p e s m args below meth c s₁, BodyLoose p l y (headSpec ws rm) cc maxL ret e s m args below meth c s₁ → c.maxLocals = maxL → Pc args s →
      W p l e (headSpec ws rm).room s m args below meth c s.heap [] 0 0 (vx_MQ below Qc XC args s mc ms free) (entryFrame m args maxL)) : vx_Met l y ws rm Pc Qc XC mc ms free := by
  refine MetFree.of_bodyS (code := cc) (maxLocals := maxL) (ret := ret) hy ?_ ?_
  · intro args s m h hn
    obtain ⟨m9, meth, c, hn9, h1, h2, h3, h4, -, h5, h6, -⟩ := Cond.codeWith_spec (atoms_spec (ws := ws) h _ (by rw [hw]; exact List.mem_cons_self))
    cases hn.symm.trans hn9
    exact ⟨meth, c, h1, h2, h3, h4, h5, h6⟩
  · intro p e s m args below meth c s₁ B hml hP _
    have hh0 : s₁.heap = s.heap := by rw [B.state]; rfl
    obtain ⟨t, a1, o, b1, b2, b3⟩ := body p e s m args below meth c s₁ B hml hP s₁ hh0 (Stand.of_body B)
    exact ⟨t, o, a1, b1, b2, b3⟩
/-! ===== END ===== -/
end
section
def RX0 : String := "MarkovTree$Course"
def TX0 : u_T := fun k => match k with
  | 0 => ("MarkovTree$Course", "act", "[I", true)
  | 1 => ("MarkovTree$Course", "times", "[I", true)
  | 2 => ("MarkovTree$Course", "begin", "[I", true)
  | 3 => ("MarkovTree$Course", "gone", "[I", true)
  | 4 => ("MarkovTree$Course", "open", "[I", true)
  | 5 => ("MarkovTree$Course", "size", "I", false)
  | 6 => ("MarkovTree$Course", "openCount", "I", false)
  | 7 => ("MarkovTree$Course", "numberMayCome", "Z", false)
  | 8 => ("MarkovTree$Course", "numberIsFor", "I", false)
  | 9 => ("MarkovTree$Course", "faultKind", "I", false)
  | _ => ("MarkovTree$Course", "faultPlace", "I", false)
def tyX0 : Nat → FieldType := fun k => match k with
  | 0 => .array .int
  | 1 => .array .int
  | 2 => .array .int
  | 3 => .array .int
  | 4 => .array .int
  | 5 => .int
  | 6 => .int
  | 7 => .boolean
  | 8 => .int
  | 9 => .int
  | _ => .int
abbrev wsX00 : List Cond := u_ws RX0 TX0 11
theorem nmX0 : ∀ a, a < 11 → ∀ b, b < 11 → a ≠ b → (TX0 a).2.1 ≠ (TX0 b).2.1 := by decide +kernel
theorem tyX0_ok : ∀ k, k < 11 → parseFieldDescriptor (TX0 k).2.2.1 = some (tyX0 k) := by decide +kernel
abbrev cX0_init : ByteArray := prog_2_method_1_code
def yX0_init : MethodName := ⟨RX0, "<init>", "()V"⟩
abbrev cX0_faultKind : ByteArray := prog_2_method_2_code
def yX0_faultKind : MethodName := ⟨RX0, "faultKind", "()I"⟩
abbrev cX0_faultPlace : ByteArray := prog_2_method_3_code
def yX0_faultPlace : MethodName := ⟨RX0, "faultPlace", "()I"⟩
abbrev cX0_read : ByteArray := prog_2_method_4_code
def yX0_read : MethodName := ⟨RX0, "read", "(LMarkovTree$Tape;)V"⟩
abbrev cX0_fail : ByteArray := prog_2_method_5_code
def yX0_fail : MethodName := ⟨RX0, "fail", "(II)V"⟩
abbrev cX0_isDigit : ByteArray := prog_2_method_6_code
def yX0_isDigit : MethodName := ⟨RX0, "isDigit", "(I)Z"⟩
abbrev cX0_readNumber : ByteArray := prog_2_method_7_code
def yX0_readNumber : MethodName := ⟨RX0, "readNumber", "(LMarkovTree$Tape;I)I"⟩
abbrev cX0_readSign : ByteArray := prog_2_method_8_code
def yX0_readSign : MethodName := ⟨RX0, "readSign", "(II)I"⟩
abbrev cX0_openBracket : ByteArray := prog_2_method_9_code
def yX0_openBracket : MethodName := ⟨RX0, "openBracket", "(I)V"⟩
abbrev cX0_closeBracket : ByteArray := prog_2_method_10_code
def yX0_closeBracket : MethodName := ⟨RX0, "closeBracket", "(I)V"⟩
abbrev cX0_putAct : ByteArray := prog_2_method_11_code
def yX0_putAct : MethodName := ⟨RX0, "putAct", "(II)V"⟩
abbrev cX0_run : ByteArray := prog_2_method_12_code
def yX0_run : MethodName := ⟨RX0, "run", "(LMarkovTree$Place;)I"⟩
abbrev cX0_afterBracket : ByteArray := prog_2_method_13_code
def yX0_afterBracket : MethodName := ⟨RX0, "afterBracket", "(I)I"⟩
abbrev cX0_doOften : ByteArray := prog_2_method_14_code
def yX0_doOften : MethodName := ⟨RX0, "doOften", "(LMarkovTree$Place;II)I"⟩
abbrev cX0_doOnce : ByteArray := prog_2_method_15_code
def yX0_doOnce : MethodName := ⟨RX0, "doOnce", "(LMarkovTree$Place;I)Z"⟩
def RX1 : String := "MarkovTree$Form"
def TX1 : u_T := fun k => match k with
  | 0 => ("MarkovTree$Form", "a", "J", false)
  | 1 => ("MarkovTree$Form", "b", "J", false)
  | 2 => ("MarkovTree$Form", "c", "J", false)
  | 3 => ("MarkovTree$Form", "discriminant", "J", false)
  | 4 => ("MarkovTree$Form", "root", "J", false)
  | 5 => ("MarkovTree$Form", "roundSize", "I", false)
  | _ => ("MarkovTree$Form", "roundLeast", "J", false)
def tyX1 : Nat → FieldType := fun k => match k with
  | 0 => .long
  | 1 => .long
  | 2 => .long
  | 3 => .long
  | 4 => .long
  | 5 => .int
  | _ => .long
abbrev wsX10 : List Cond := u_ws RX1 TX1 7
theorem nmX1 : ∀ a, a < 7 → ∀ b, b < 7 → a ≠ b → (TX1 a).2.1 ≠ (TX1 b).2.1 := by decide +kernel
theorem tyX1_ok : ∀ k, k < 7 → parseFieldDescriptor (TX1 k).2.2.1 = some (tyX1 k) := by decide +kernel
abbrev cX1_init : ByteArray := prog_3_method_1_code
def yX1_init : MethodName := ⟨RX1, "<init>", "()V"⟩
abbrev cX1_set : ByteArray := prog_3_method_2_code
def yX1_set : MethodName := ⟨RX1, "set", "(JJ)V"⟩
abbrev cX1_coefficient : ByteArray := prog_3_method_3_code
def yX1_coefficient : MethodName := ⟨RX1, "coefficient", "(I)J"⟩
abbrev cX1_valueAt : ByteArray := prog_3_method_4_code
def yX1_valueAt : MethodName := ⟨RX1, "valueAt", "(JJ)J"⟩
abbrev cX1_roundSize : ByteArray := prog_3_method_5_code
def yX1_roundSize : MethodName := ⟨RX1, "roundSize", "()I"⟩
abbrev cX1_roundLeast : ByteArray := prog_3_method_6_code
def yX1_roundLeast : MethodName := ⟨RX1, "roundLeast", "()J"⟩
abbrev cX1_goRound : ByteArray := prog_3_method_7_code
def yX1_goRound : MethodName := ⟨RX1, "goRound", "()V"⟩
abbrev cX1_goToNext : ByteArray := prog_3_method_8_code
def yX1_goToNext : MethodName := ⟨RX1, "goToNext", "()V"⟩
def RX2 : String := "MarkovTree$History"
def TX2 : u_T := fun k => match k with
  | 0 => ("MarkovTree$History", "rows", "[LMarkovTree$State;", true)
  | 1 => ("MarkovTree$History", "next", "I", false)
  | _ => ("MarkovTree$History", "size", "I", false)
def tyX2 : Nat → FieldType := fun k => match k with
  | 0 => .array (.object "MarkovTree$State")
  | 1 => .int
  | _ => .int
abbrev wsX20 : List Cond := u_ws RX2 TX2 3
theorem nmX2 : ∀ a, a < 3 → ∀ b, b < 3 → a ≠ b → (TX2 a).2.1 ≠ (TX2 b).2.1 := by decide +kernel
theorem tyX2_ok : ∀ k, k < 3 → parseFieldDescriptor (TX2 k).2.2.1 = some (tyX2 k) := by decide +kernel
abbrev cX2_init : ByteArray := prog_4_method_1_code
def yX2_init : MethodName := ⟨RX2, "<init>", "()V"⟩
abbrev cX2_size : ByteArray := prog_4_method_2_code
def yX2_size : MethodName := ⟨RX2, "size", "()I"⟩
abbrev cX2_note : ByteArray := prog_4_method_3_code
def yX2_note : MethodName := ⟨RX2, "note", "(LMarkovTree$State;)V"⟩
abbrev cX2_keep : ByteArray := prog_4_method_4_code
def yX2_keep : MethodName := ⟨RX2, "keep", "()V"⟩
abbrev cX2_takeBack : ByteArray := prog_4_method_5_code
def yX2_takeBack : MethodName := ⟨RX2, "takeBack", "(LMarkovTree$State;)Z"⟩
abbrev cX2_forget : ByteArray := prog_4_method_6_code
def yX2_forget : MethodName := ⟨RX2, "forget", "()V"⟩
def RX3 : String := "MarkovTree$Marks"
def TX3 : u_T := fun k => match k with
  | 0 => ("MarkovTree$Marks", "number", "[J", true)
  | 1 => ("MarkovTree$Marks", "p", "[I", true)
  | 2 => ("MarkovTree$Marks", "q", "[I", true)
  | _ => ("MarkovTree$Marks", "size", "I", false)
def tyX3 : Nat → FieldType := fun k => match k with
  | 0 => .array .long
  | 1 => .array .int
  | 2 => .array .int
  | _ => .int
abbrev wsX30 : List Cond := u_ws RX3 TX3 4
theorem nmX3 : ∀ a, a < 4 → ∀ b, b < 4 → a ≠ b → (TX3 a).2.1 ≠ (TX3 b).2.1 := by decide +kernel
theorem tyX3_ok : ∀ k, k < 4 → parseFieldDescriptor (TX3 k).2.2.1 = some (tyX3 k) := by decide +kernel
abbrev cX3_init : ByteArray := prog_5_method_1_code
def yX3_init : MethodName := ⟨RX3, "<init>", "()V"⟩
abbrev cX3_copyFrom : ByteArray := prog_5_method_2_code
def yX3_copyFrom : MethodName := ⟨RX3, "copyFrom", "(LMarkovTree$Marks;)V"⟩
abbrev cX3_copyRow : ByteArray := prog_5_method_3_code
def yX3_copyRow : MethodName := ⟨RX3, "copyRow", "(LMarkovTree$Marks;II)V"⟩
abbrev cX3_size : ByteArray := prog_5_method_4_code
def yX3_size : MethodName := ⟨RX3, "size", "()I"⟩
abbrev cX3_isFull : ByteArray := prog_5_method_5_code
def yX3_isFull : MethodName := ⟨RX3, "isFull", "()Z"⟩
abbrev cX3_has : ByteArray := prog_5_method_6_code
def yX3_has : MethodName := ⟨RX3, "has", "(I)Z"⟩
abbrev cX3_numberAt : ByteArray := prog_5_method_7_code
def yX3_numberAt : MethodName := ⟨RX3, "numberAt", "(I)J"⟩
abbrev cX3_pAt : ByteArray := prog_5_method_8_code
def yX3_pAt : MethodName := ⟨RX3, "pAt", "(I)I"⟩
abbrev cX3_qAt : ByteArray := prog_5_method_9_code
def yX3_qAt : MethodName := ⟨RX3, "qAt", "(I)I"⟩
abbrev cX3_indexOf : ByteArray := prog_5_method_10_code
def yX3_indexOf : MethodName := ⟨RX3, "indexOf", "(II)I"⟩
abbrev cX3_put : ByteArray := prog_5_method_11_code
def yX3_put : MethodName := ⟨RX3, "put", "(JII)V"⟩
abbrev cX3_drop : ByteArray := prog_5_method_12_code
def yX3_drop : MethodName := ⟨RX3, "drop", "(I)V"⟩
abbrev cX3_lastTo : ByteArray := prog_5_method_13_code
def yX3_lastTo : MethodName := ⟨RX3, "lastTo", "(J)J"⟩
abbrev cX3_nextFrom : ByteArray := prog_5_method_14_code
def yX3_nextFrom : MethodName := ⟨RX3, "nextFrom", "(J)J"⟩
def RX4 : String := "MarkovTree$Place"
def TX4 : u_T := fun k => match k with
  | 0 => ("MarkovTree$Place", "lowP", "I", false)
  | 1 => ("MarkovTree$Place", "lowQ", "I", false)
  | 2 => ("MarkovTree$Place", "highP", "I", false)
  | 3 => ("MarkovTree$Place", "highQ", "I", false)
  | _ => ("MarkovTree$Place", "steps", "I", false)
def tyX4 : Nat → FieldType := fun k => match k with
  | 0 => .int
  | 1 => .int
  | 2 => .int
  | 3 => .int
  | _ => .int
abbrev wsX40 : List Cond := u_ws RX4 TX4 5
theorem nmX4 : ∀ a, a < 5 → ∀ b, b < 5 → a ≠ b → (TX4 a).2.1 ≠ (TX4 b).2.1 := by decide +kernel
theorem tyX4_ok : ∀ k, k < 5 → parseFieldDescriptor (TX4 k).2.2.1 = some (tyX4 k) := by decide +kernel
abbrev cX4_init : ByteArray := prog_6_method_1_code
def yX4_init : MethodName := ⟨RX4, "<init>", "()V"⟩
abbrev cX4_goHome : ByteArray := prog_6_method_2_code
def yX4_goHome : MethodName := ⟨RX4, "goHome", "()V"⟩
abbrev cX4_copyFrom : ByteArray := prog_6_method_3_code
def yX4_copyFrom : MethodName := ⟨RX4, "copyFrom", "(LMarkovTree$Place;)V"⟩
abbrev cX4_lowP : ByteArray := prog_6_method_4_code
def yX4_lowP : MethodName := ⟨RX4, "lowP", "()I"⟩
abbrev cX4_lowQ : ByteArray := prog_6_method_5_code
def yX4_lowQ : MethodName := ⟨RX4, "lowQ", "()I"⟩
abbrev cX4_highP : ByteArray := prog_6_method_6_code
def yX4_highP : MethodName := ⟨RX4, "highP", "()I"⟩
abbrev cX4_highQ : ByteArray := prog_6_method_7_code
def yX4_highQ : MethodName := ⟨RX4, "highQ", "()I"⟩
abbrev cX4_steps : ByteArray := prog_6_method_8_code
def yX4_steps : MethodName := ⟨RX4, "steps", "()I"⟩
abbrev cX4_p : ByteArray := prog_6_method_9_code
def yX4_p : MethodName := ⟨RX4, "p", "()I"⟩
abbrev cX4_q : ByteArray := prog_6_method_10_code
def yX4_q : MethodName := ⟨RX4, "q", "()I"⟩
abbrev cX4_together : ByteArray := prog_6_method_11_code
def yX4_together : MethodName := ⟨RX4, "together", "()I"⟩
abbrev cX4_isAt : ByteArray := prog_6_method_12_code
def yX4_isAt : MethodName := ⟨RX4, "isAt", "(II)Z"⟩
abbrev cX4_stepLeft : ByteArray := prog_6_method_13_code
def yX4_stepLeft : MethodName := ⟨RX4, "stepLeft", "()Z"⟩
abbrev cX4_stepRight : ByteArray := prog_6_method_14_code
def yX4_stepRight : MethodName := ⟨RX4, "stepRight", "()Z"⟩
abbrev cX4_stepUp : ByteArray := prog_6_method_15_code
def yX4_stepUp : MethodName := ⟨RX4, "stepUp", "()Z"⟩
abbrev cX4_sideOf : ByteArray := prog_6_method_16_code
def yX4_sideOf : MethodName := ⟨RX4, "sideOf", "(II)I"⟩
abbrev cX4_stepToSide : ByteArray := prog_6_method_17_code
def yX4_stepToSide : MethodName := ⟨RX4, "stepToSide", "(I)Z"⟩
abbrev cX4_walkTo : ByteArray := prog_6_method_18_code
def yX4_walkTo : MethodName := ⟨RX4, "walkTo", "(II)V"⟩
def RX5 : String := "MarkovTree$State"
def TX5 : u_T := fun k => match k with
  | 0 => ("MarkovTree$State", "place", "LMarkovTree$Place;", true)
  | _ => ("MarkovTree$State", "marks", "LMarkovTree$Marks;", true)
def tyX5 : Nat → FieldType := fun k => match k with
  | 0 => .object "MarkovTree$Place"
  | _ => .object "MarkovTree$Marks"
abbrev wsX50 : List Cond := u_ws RX5 TX5 2
theorem nmX5 : ∀ a, a < 2 → ∀ b, b < 2 → a ≠ b → (TX5 a).2.1 ≠ (TX5 b).2.1 := by decide +kernel
theorem tyX5_ok : ∀ k, k < 2 → parseFieldDescriptor (TX5 k).2.2.1 = some (tyX5 k) := by decide +kernel
abbrev cX5_init : ByteArray := prog_7_method_1_code
def yX5_init : MethodName := ⟨RX5, "<init>", "()V"⟩
abbrev cX5_place : ByteArray := prog_7_method_2_code
def yX5_place : MethodName := ⟨RX5, "place", "()LMarkovTree$Place;"⟩
abbrev cX5_marks : ByteArray := prog_7_method_3_code
def yX5_marks : MethodName := ⟨RX5, "marks", "()LMarkovTree$Marks;"⟩
abbrev cX5_isMarked : ByteArray := prog_7_method_4_code
def yX5_isMarked : MethodName := ⟨RX5, "isMarked", "()Z"⟩
abbrev cX5_copyFrom : ByteArray := prog_7_method_5_code
def yX5_copyFrom : MethodName := ⟨RX5, "copyFrom", "(LMarkovTree$State;)V"⟩
def RX6 : String := "MarkovTree$Table"
def TX6 : u_T := fun k => match k with
  | 0 => ("MarkovTree$Table", "least", "[J", true)
  | 1 => ("MarkovTree$Table", "middle", "[J", true)
  | 2 => ("MarkovTree$Table", "greatest", "[J", true)
  | 3 => ("MarkovTree$Table", "stepsDown", "[I", true)
  | 4 => ("MarkovTree$Table", "numbers", "[J", true)
  | 5 => ("MarkovTree$Table", "rows", "I", false)
  | _ => ("MarkovTree$Table", "size", "I", false)
def tyX6 : Nat → FieldType := fun k => match k with
  | 0 => .array .long
  | 1 => .array .long
  | 2 => .array .long
  | 3 => .array .int
  | 4 => .array .long
  | 5 => .int
  | _ => .int
abbrev wsX60 : List Cond := u_ws RX6 TX6 7
theorem nmX6 : ∀ a, a < 7 → ∀ b, b < 7 → a ≠ b → (TX6 a).2.1 ≠ (TX6 b).2.1 := by decide +kernel
theorem tyX6_ok : ∀ k, k < 7 → parseFieldDescriptor (TX6 k).2.2.1 = some (tyX6 k) := by decide +kernel
abbrev cX6_init : ByteArray := prog_8_method_1_code
def yX6_init : MethodName := ⟨RX6, "<init>", "()V"⟩
abbrev cX6_countUpTo : ByteArray := prog_8_method_2_code
def yX6_countUpTo : MethodName := ⟨RX6, "countUpTo", "(J)I"⟩
abbrev cX6_numberAt : ByteArray := prog_8_method_3_code
def yX6_numberAt : MethodName := ⟨RX6, "numberAt", "(I)J"⟩
abbrev cX6_rankOf : ByteArray := prog_8_method_4_code
def yX6_rankOf : MethodName := ⟨RX6, "rankOf", "(J)I"⟩
abbrev cX6_rowOf : ByteArray := prog_8_method_5_code
def yX6_rowOf : MethodName := ⟨RX6, "rowOf", "(J)I"⟩
abbrev cX6_countGreatest : ByteArray := prog_8_method_6_code
def yX6_countGreatest : MethodName := ⟨RX6, "countGreatest", "(J)I"⟩
abbrev cX6_has : ByteArray := prog_8_method_7_code
def yX6_has : MethodName := ⟨RX6, "has", "(I)Z"⟩
abbrev cX6_leastAt : ByteArray := prog_8_method_8_code
def yX6_leastAt : MethodName := ⟨RX6, "leastAt", "(I)J"⟩
abbrev cX6_middleAt : ByteArray := prog_8_method_9_code
def yX6_middleAt : MethodName := ⟨RX6, "middleAt", "(I)J"⟩
abbrev cX6_stepsDownAt : ByteArray := prog_8_method_10_code
def yX6_stepsDownAt : MethodName := ⟨RX6, "stepsDownAt", "(I)I"⟩
abbrev cX6_fill : ByteArray := prog_8_method_11_code
def yX6_fill : MethodName := ⟨RX6, "fill", "()V"⟩
abbrev cX6_putNext : ByteArray := prog_8_method_12_code
def yX6_putNext : MethodName := ⟨RX6, "putNext", "(JJJI)V"⟩
abbrev cX6_putRow : ByteArray := prog_8_method_13_code
def yX6_putRow : MethodName := ⟨RX6, "putRow", "(JJJI)V"⟩
abbrev cX6_fillNumbers : ByteArray := prog_8_method_14_code
def yX6_fillNumbers : MethodName := ⟨RX6, "fillNumbers", "()V"⟩
def RX7 : String := "MarkovTree$Tape"
def TX7 : u_T := fun k => match k with
  | 0 => ("MarkovTree$Tape", "bytes", "[B", true)
  | _ => ("MarkovTree$Tape", "length", "I", false)
def tyX7 : Nat → FieldType := fun k => match k with
  | 0 => .array .byte
  | _ => .int
abbrev wsX70 : List Cond := u_ws RX7 TX7 2
theorem nmX7 : ∀ a, a < 2 → ∀ b, b < 2 → a ≠ b → (TX7 a).2.1 ≠ (TX7 b).2.1 := by decide +kernel
theorem tyX7_ok : ∀ k, k < 2 → parseFieldDescriptor (TX7 k).2.2.1 = some (tyX7 k) := by decide +kernel
abbrev cX7_init : ByteArray := prog_9_method_1_code
def yX7_init : MethodName := ⟨RX7, "<init>", "()V"⟩
abbrev cX7_length : ByteArray := prog_9_method_2_code
def yX7_length : MethodName := ⟨RX7, "length", "()I"⟩
abbrev cX7_hasRoom : ByteArray := prog_9_method_3_code
def yX7_hasRoom : MethodName := ⟨RX7, "hasRoom", "()Z"⟩
abbrev cX7_putNumber : ByteArray := prog_9_method_4_code
def yX7_putNumber : MethodName := ⟨RX7, "putNumber", "(I)V"⟩
abbrev cX7_cutTo : ByteArray := prog_9_method_5_code
def yX7_cutTo : MethodName := ⟨RX7, "cutTo", "(I)Z"⟩
abbrev cX7_at : ByteArray := prog_9_method_6_code
def yX7_at : MethodName := ⟨RX7, "at", "(I)I"⟩
def RX8 : String := "MarkovTree$Telling"
def TX8 : u_T := fun k => match k with
  | 0 => ("MarkovTree$Telling", "bytes", "[B", true)
  | 1 => ("MarkovTree$Telling", "walker", "LMarkovTree$Place;", true)
  | _ => ("MarkovTree$Telling", "length", "I", false)
def tyX8 : Nat → FieldType := fun k => match k with
  | 0 => .array .byte
  | 1 => .object "MarkovTree$Place"
  | _ => .int
abbrev wsX80 : List Cond := u_ws RX8 TX8 3
theorem nmX8 : ∀ a, a < 3 → ∀ b, b < 3 → a ≠ b → (TX8 a).2.1 ≠ (TX8 b).2.1 := by decide +kernel
theorem tyX8_ok : ∀ k, k < 3 → parseFieldDescriptor (TX8 k).2.2.1 = some (tyX8 k) := by decide +kernel
abbrev cX8_init : ByteArray := prog_10_method_1_code
def yX8_init : MethodName := ⟨RX8, "<init>", "()V"⟩
abbrev cX8_at : ByteArray := prog_10_method_2_code
def yX8_at : MethodName := ⟨RX8, "at", "(I)I"⟩
abbrev cX8_tell : ByteArray := prog_10_method_3_code
def yX8_tell : MethodName := ⟨RX8, "tell", "(II)I"⟩
abbrev cX8_goOn : ByteArray := prog_10_method_4_code
def yX8_goOn : MethodName := ⟨RX8, "goOn", "(III)I"⟩
abbrev cX8_putNumber : ByteArray := prog_10_method_5_code
def yX8_putNumber : MethodName := ⟨RX8, "putNumber", "(I)V"⟩
abbrev cX8_put : ByteArray := prog_10_method_6_code
def yX8_put : MethodName := ⟨RX8, "put", "(I)V"⟩
def RX9 : String := "MarkovTree$Word"
def TX9 : u_T := fun k => match k with
  | 0 => ("MarkovTree$Word", "a", "J", false)
  | 1 => ("MarkovTree$Word", "b", "J", false)
  | 2 => ("MarkovTree$Word", "c", "J", false)
  | _ => ("MarkovTree$Word", "d", "J", false)
def tyX9 : Nat → FieldType := fun k => match k with
  | 0 => .long
  | 1 => .long
  | 2 => .long
  | _ => .long
abbrev wsX90 : List Cond := u_ws RX9 TX9 4
theorem nmX9 : ∀ a, a < 4 → ∀ b, b < 4 → a ≠ b → (TX9 a).2.1 ≠ (TX9 b).2.1 := by decide +kernel
theorem tyX9_ok : ∀ k, k < 4 → parseFieldDescriptor (TX9 k).2.2.1 = some (tyX9 k) := by decide +kernel
abbrev cX9_init : ByteArray := prog_11_method_1_code
def yX9_init : MethodName := ⟨RX9, "<init>", "()V"⟩
abbrev cX9_letterIsA : ByteArray := prog_11_method_2_code
def yX9_letterIsA : MethodName := ⟨RX9, "letterIsA", "(III)Z"⟩
abbrev cX9_setTo : ByteArray := prog_11_method_3_code
def yX9_setTo : MethodName := ⟨RX9, "setTo", "(II)V"⟩
abbrev cX9_multiply : ByteArray := prog_11_method_4_code
def yX9_multiply : MethodName := ⟨RX9, "multiply", "(JJJ)V"⟩
abbrev cX9_entry : ByteArray := prog_11_method_5_code
def yX9_entry : MethodName := ⟨RX9, "entry", "(II)J"⟩
def RX10 : String := "MarkovTree"
def TX10 : u_T := fun k => match k with
  | 0 => ("MarkovTree", "tape", "LMarkovTree$Tape;", true)
  | 1 => ("MarkovTree", "course", "LMarkovTree$Course;", true)
  | 2 => ("MarkovTree", "state", "LMarkovTree$State;", true)
  | 3 => ("MarkovTree", "history", "LMarkovTree$History;", true)
  | 4 => ("MarkovTree", "images", "[LMarkovTree$State;", true)
  | 5 => ("MarkovTree", "imageKept", "[Z", true)
  | 6 => ("MarkovTree", "telling", "LMarkovTree$Telling;", true)
  | 7 => ("MarkovTree", "word", "LMarkovTree$Word;", true)
  | 8 => ("MarkovTree", "quadratic", "LMarkovTree$Form;", true)
  | _ => ("MarkovTree", "table", "LMarkovTree$Table;", true)
def tyX10 : Nat → FieldType := fun k => match k with
  | 0 => .object "MarkovTree$Tape"
  | 1 => .object "MarkovTree$Course"
  | 2 => .object "MarkovTree$State"
  | 3 => .object "MarkovTree$History"
  | 4 => .array (.object "MarkovTree$State")
  | 5 => .array .boolean
  | 6 => .object "MarkovTree$Telling"
  | 7 => .object "MarkovTree$Word"
  | 8 => .object "MarkovTree$Form"
  | _ => .object "MarkovTree$Table"
abbrev wsX100 : List Cond := u_ws RX10 TX10 10
theorem nmX10 : ∀ a, a < 10 → ∀ b, b < 10 → a ≠ b → (TX10 a).2.1 ≠ (TX10 b).2.1 := by decide +kernel
theorem tyX10_ok : ∀ k, k < 10 → parseFieldDescriptor (TX10 k).2.2.1 = some (tyX10 k) := by decide +kernel
abbrev cX10_init : ByteArray := prog_1_method_1_code
def yX10_init : MethodName := ⟨RX10, "<init>", "()V"⟩
abbrev cX10_feed : ByteArray := prog_1_method_2_code
def yX10_feed : MethodName := ⟨RX10, "feed", "(IIIII)I"⟩
abbrev cX10_end : ByteArray := prog_1_method_3_code
def yX10_end : MethodName := ⟨RX10, "end", "(I)Z"⟩
abbrev cX10_path : ByteArray := prog_1_method_4_code
def yX10_path : MethodName := ⟨RX10, "path", "()I"⟩
abbrev cX10_fault : ByteArray := prog_1_method_5_code
def yX10_fault : MethodName := ⟨RX10, "fault", "()I"⟩
abbrev cX10_now : ByteArray := prog_1_method_6_code
def yX10_now : MethodName := ⟨RX10, "now", "(I)I"⟩
abbrev cX10_left : ByteArray := prog_1_method_7_code
def yX10_left : MethodName := ⟨RX10, "left", "()I"⟩
abbrev cX10_right : ByteArray := prog_1_method_8_code
def yX10_right : MethodName := ⟨RX10, "right", "()I"⟩
abbrev cX10_up : ByteArray := prog_1_method_9_code
def yX10_up : MethodName := ⟨RX10, "up", "()I"⟩
abbrev cX10_go : ByteArray := prog_1_method_10_code
def yX10_go : MethodName := ⟨RX10, "go", "(II)I"⟩
abbrev cX10_stepped : ByteArray := prog_1_method_11_code
def yX10_stepped : MethodName := ⟨RX10, "stepped", "(Z)I"⟩
abbrev cX10_moveTo : ByteArray := prog_1_method_12_code
def yX10_moveTo : MethodName := ⟨RX10, "moveTo", "(II)I"⟩
abbrev cX10_isPlace : ByteArray := prog_1_method_13_code
def yX10_isPlace : MethodName := ⟨RX10, "isPlace", "(II)Z"⟩
abbrev cX10_commonPart : ByteArray := prog_1_method_14_code
def yX10_commonPart : MethodName := ⟨RX10, "commonPart", "(II)I"⟩
abbrev cX10_triple : ByteArray := prog_1_method_15_code
def yX10_triple : MethodName := ⟨RX10, "triple", "(I)J"⟩
abbrev cX10_letter : ByteArray := prog_1_method_16_code
def yX10_letter : MethodName := ⟨RX10, "letter", "(I)I"⟩
abbrev cX10_cut : ByteArray := prog_1_method_17_code
def yX10_cut : MethodName := ⟨RX10, "cut", "()I"⟩
abbrev cX10_matrix : ByteArray := prog_1_method_18_code
def yX10_matrix : MethodName := ⟨RX10, "matrix", "(II)J"⟩
abbrev cX10_numberOf : ByteArray := prog_1_method_19_code
def yX10_numberOf : MethodName := ⟨RX10, "numberOf", "(II)J"⟩
abbrev cX10_numberHere : ByteArray := prog_1_method_20_code
def yX10_numberHere : MethodName := ⟨RX10, "numberHere", "()J"⟩
abbrev cX10_form : ByteArray := prog_1_method_21_code
def yX10_form : MethodName := ⟨RX10, "form", "(I)J"⟩
abbrev cX10_value : ByteArray := prog_1_method_22_code
def yX10_value : MethodName := ⟨RX10, "value", "(II)J"⟩
abbrev cX10_round : ByteArray := prog_1_method_23_code
def yX10_round : MethodName := ⟨RX10, "round", "()I"⟩
abbrev cX10_least : ByteArray := prog_1_method_24_code
def yX10_least : MethodName := ⟨RX10, "least", "()J"⟩
abbrev cX10_setForm : ByteArray := prog_1_method_25_code
def yX10_setForm : MethodName := ⟨RX10, "setForm", "()Z"⟩
abbrev cX10_fitsValue : ByteArray := prog_1_method_26_code
def yX10_fitsValue : MethodName := ⟨RX10, "fitsValue", "(I)Z"⟩
abbrev cX10_upTo : ByteArray := prog_1_method_27_code
def yX10_upTo : MethodName := ⟨RX10, "upTo", "(J)I"⟩
abbrev cX10_markov : ByteArray := prog_1_method_28_code
def yX10_markov : MethodName := ⟨RX10, "markov", "(I)J"⟩
abbrev cX10_rank : ByteArray := prog_1_method_29_code
def yX10_rank : MethodName := ⟨RX10, "rank", "(J)I"⟩
abbrev cX10_triples : ByteArray := prog_1_method_30_code
def yX10_triples : MethodName := ⟨RX10, "triples", "(J)I"⟩
abbrev cX10_with : ByteArray := prog_1_method_31_code
def yX10_with : MethodName := ⟨RX10, "with", "(JI)J"⟩
abbrev cX10_spread : ByteArray := prog_1_method_32_code
def yX10_spread : MethodName := ⟨RX10, "spread", "()I"⟩
abbrev cX10_bitsFromEight : ByteArray := prog_1_method_33_code
def yX10_bitsFromEight : MethodName := ⟨RX10, "bitsFromEight", "(F)I"⟩
abbrev cX10_mark : ByteArray := prog_1_method_34_code
def yX10_mark : MethodName := ⟨RX10, "mark", "()I"⟩
abbrev cX10_unmark : ByteArray := prog_1_method_35_code
def yX10_unmark : MethodName := ⟨RX10, "unmark", "()I"⟩
abbrev cX10_marked : ByteArray := prog_1_method_36_code
def yX10_marked : MethodName := ⟨RX10, "marked", "(II)J"⟩
abbrev cX10_near : ByteArray := prog_1_method_37_code
def yX10_near : MethodName := ⟨RX10, "near", "(JZ)J"⟩
abbrev cX10_jump : ByteArray := prog_1_method_38_code
def yX10_jump : MethodName := ⟨RX10, "jump", "(I)I"⟩
abbrev cX10_markHere : ByteArray := prog_1_method_39_code
def yX10_markHere : MethodName := ⟨RX10, "markHere", "()Z"⟩
abbrev cX10_told : ByteArray := prog_1_method_40_code
def yX10_told : MethodName := ⟨RX10, "told", "()I"⟩
abbrev cX10_byteAt : ByteArray := prog_1_method_41_code
def yX10_byteAt : MethodName := ⟨RX10, "byteAt", "(I)I"⟩
abbrev cX10_drawn : ByteArray := prog_1_method_42_code
def yX10_drawn : MethodName := ⟨RX10, "drawn", "(II)I"⟩
abbrev cX10_doDrawn : ByteArray := prog_1_method_43_code
def yX10_doDrawn : MethodName := ⟨RX10, "doDrawn", "(I)Z"⟩
abbrev cX10_undo : ByteArray := prog_1_method_44_code
def yX10_undo : MethodName := ⟨RX10, "undo", "()I"⟩
abbrev cX10_image : ByteArray := prog_1_method_45_code
def yX10_image : MethodName := ⟨RX10, "image", "(I)Z"⟩
abbrev cX10_restore : ByteArray := prog_1_method_46_code
def yX10_restore : MethodName := ⟨RX10, "restore", "(I)Z"⟩
abbrev cX10_imageAt : ByteArray := prog_1_method_47_code
def yX10_imageAt : MethodName := ⟨RX10, "imageAt", "(I)LMarkovTree$State;"⟩
def RX11 : String := "MarkovTreeModel"
def TX11 : u_T := fun k => match k with
  | 0 => ("MarkovTreeModel", "thrown", "I", false)
  | 1 => ("MarkovTreeModel", "tape", "[I", true)
  | 2 => ("MarkovTreeModel", "taped", "I", false)
  | 3 => ("MarkovTreeModel", "now", "[I", true)
  | 4 => ("MarkovTreeModel", "kept", "[I", true)
  | 5 => ("MarkovTreeModel", "snaps", "[I", true)
  | 6 => ("MarkovTreeModel", "before", "[I", true)
  | 7 => ("MarkovTreeModel", "live", "[I", true)
  | 8 => ("MarkovTreeModel", "isKept", "[Z", true)
  | 9 => ("MarkovTreeModel", "snapMany", "I", false)
  | 10 => ("MarkovTreeModel", "leftP", "I", false)
  | 11 => ("MarkovTreeModel", "leftQ", "I", false)
  | 12 => ("MarkovTreeModel", "rightP", "I", false)
  | 13 => ("MarkovTreeModel", "rightQ", "I", false)
  | 14 => ("MarkovTreeModel", "wayMany", "I", false)
  | 15 => ("MarkovTreeModel", "way", "[I", true)
  | 16 => ("MarkovTreeModel", "product", "[J", true)
  | 17 => ("MarkovTreeModel", "fa", "J", false)
  | 18 => ("MarkovTreeModel", "fb", "J", false)
  | 19 => ("MarkovTreeModel", "fc", "J", false)
  | 20 => ("MarkovTreeModel", "big", "J", false)
  | 21 => ("MarkovTreeModel", "root", "J", false)
  | 22 => ("MarkovTreeModel", "leastNow", "J", false)
  | 23 => ("MarkovTreeModel", "numbers", "[J", true)
  | 24 => ("MarkovTreeModel", "numberMany", "I", false)
  | 25 => ("MarkovTreeModel", "tripleMany", "I", false)
  | 26 => ("MarkovTreeModel", "askedNumber", "J", false)
  | 27 => ("MarkovTreeModel", "leastIn", "J", false)
  | 28 => ("MarkovTreeModel", "middleIn", "J", false)
  | 29 => ("MarkovTreeModel", "text", "[I", true)
  | 30 => ("MarkovTreeModel", "textMany", "I", false)
  | 31 => ("MarkovTreeModel", "size", "I", false)
  | 32 => ("MarkovTreeModel", "at", "I", false)
  | 33 => ("MarkovTreeModel", "fault", "I", false)
  | 34 => ("MarkovTreeModel", "place", "I", false)
  | 35 => ("MarkovTreeModel", "open", "I", false)
  | 36 => ("MarkovTreeModel", "done", "I", false)
  | 37 => ("MarkovTreeModel", "isHeld", "Z", false)
  | _ => ("MarkovTreeModel", "seed", "I", false)
def tyX11 : Nat → FieldType := fun k => match k with
  | 0 => .int
  | 1 => .array .int
  | 2 => .int
  | 3 => .array .int
  | 4 => .array .int
  | 5 => .array .int
  | 6 => .array .int
  | 7 => .array .int
  | 8 => .array .boolean
  | 9 => .int
  | 10 => .int
  | 11 => .int
  | 12 => .int
  | 13 => .int
  | 14 => .int
  | 15 => .array .int
  | 16 => .array .long
  | 17 => .long
  | 18 => .long
  | 19 => .long
  | 20 => .long
  | 21 => .long
  | 22 => .long
  | 23 => .array .long
  | 24 => .int
  | 25 => .int
  | 26 => .long
  | 27 => .long
  | 28 => .long
  | 29 => .array .int
  | 30 => .int
  | 31 => .int
  | 32 => .int
  | 33 => .int
  | 34 => .int
  | 35 => .int
  | 36 => .int
  | 37 => .boolean
  | _ => .int
abbrev wsX110 : List Cond := u_ws RX11 TX11 39
theorem nmX11 : ∀ a, a < 39 → ∀ b, b < 39 → a ≠ b → (TX11 a).2.1 ≠ (TX11 b).2.1 := by decide +kernel
theorem tyX11_ok : ∀ k, k < 39 → parseFieldDescriptor (TX11 k).2.2.1 = some (tyX11 k) := by decide +kernel
abbrev cX11_thrown : ByteArray := prog_13_method_1_code
def yX11_thrown : MethodName := ⟨RX11, "thrown", "()I"⟩
abbrev cX11_refuse : ByteArray := prog_13_method_2_code
def yX11_refuse : MethodName := ⟨RX11, "refuse", "()I"⟩
abbrev cX11_isIn : ByteArray := prog_13_method_3_code
def yX11_isIn : MethodName := ⟨RX11, "isIn", "(JJJ)Z"⟩
abbrev cX11_lay : ByteArray := prog_13_method_4_code
def yX11_lay : MethodName := ⟨RX11, "lay", "(I)V"⟩
abbrev cX11_feed : ByteArray := prog_13_method_5_code
def yX11_feed : MethodName := ⟨RX11, "feed", "(IIIII)I"⟩
abbrev cX11_end : ByteArray := prog_13_method_6_code
def yX11_end : MethodName := ⟨RX11, "end", "(I)Z"⟩
abbrev cX11_init : ByteArray := prog_13_method_7_code
def yX11_init : MethodName := ⟨RX11, "<init>", "()V"⟩
abbrev cX11_copy : ByteArray := prog_13_method_8_code
def yX11_copy : MethodName := ⟨RX11, "copy", "([II[II)V"⟩
abbrev cX11_snap : ByteArray := prog_13_method_9_code
def yX11_snap : MethodName := ⟨RX11, "snap", "()V"⟩
abbrev cX11_stay : ByteArray := prog_13_method_10_code
def yX11_stay : MethodName := ⟨RX11, "stay", "()V"⟩
abbrev cX11_goesTo : ByteArray := prog_13_method_11_code
def yX11_goesTo : MethodName := ⟨RX11, "goesTo", "(II)V"⟩
abbrev cX11_lays : ByteArray := prog_13_method_12_code
def yX11_lays : MethodName := ⟨RX11, "lays", "()V"⟩
abbrev cX11_divisor : ByteArray := prog_13_method_13_code
def yX11_divisor : MethodName := ⟨RX11, "divisor", "(II)I"⟩
abbrev cX11_isPlace : ByteArray := prog_13_method_14_code
def yX11_isPlace : MethodName := ⟨RX11, "isPlace", "(II)Z"⟩
abbrev cX11_becomes : ByteArray := prog_13_method_15_code
def yX11_becomes : MethodName := ⟨RX11, "becomes", "(II)V"⟩
abbrev cX11_steps : ByteArray := prog_13_method_16_code
def yX11_steps : MethodName := ⟨RX11, "steps", "(I)Z"⟩
abbrev cX11_stepsOnce : ByteArray := prog_13_method_17_code
def yX11_stepsOnce : MethodName := ⟨RX11, "stepsOnce", "(I)I"⟩
abbrev cX11_left : ByteArray := prog_13_method_18_code
def yX11_left : MethodName := ⟨RX11, "left", "()I"⟩
abbrev cX11_right : ByteArray := prog_13_method_19_code
def yX11_right : MethodName := ⟨RX11, "right", "()I"⟩
abbrev cX11_up : ByteArray := prog_13_method_20_code
def yX11_up : MethodName := ⟨RX11, "up", "()I"⟩
abbrev cX11_depth : ByteArray := prog_13_method_21_code
def yX11_depth : MethodName := ⟨RX11, "depth", "()I"⟩
abbrev cX11_goesThere : ByteArray := prog_13_method_22_code
def yX11_goesThere : MethodName := ⟨RX11, "goesThere", "(II)I"⟩
abbrev cX11_go : ByteArray := prog_13_method_23_code
def yX11_go : MethodName := ⟨RX11, "go", "(II)I"⟩
abbrev cX11_isA : ByteArray := prog_13_method_24_code
def yX11_isA : MethodName := ⟨RX11, "isA", "(III)Z"⟩
abbrev cX11_laysMatrix : ByteArray := prog_13_method_25_code
def yX11_laysMatrix : MethodName := ⟨RX11, "laysMatrix", "(II)V"⟩
abbrev cX11_numberOf : ByteArray := prog_13_method_26_code
def yX11_numberOf : MethodName := ⟨RX11, "numberOf", "(II)J"⟩
abbrev cX11_number : ByteArray := prog_13_method_27_code
def yX11_number : MethodName := ⟨RX11, "number", "()J"⟩
abbrev cX11_triple : ByteArray := prog_13_method_28_code
def yX11_triple : MethodName := ⟨RX11, "triple", "(I)J"⟩
abbrev cX11_letter : ByteArray := prog_13_method_29_code
def yX11_letter : MethodName := ⟨RX11, "letter", "(I)I"⟩
abbrev cX11_cut : ByteArray := prog_13_method_30_code
def yX11_cut : MethodName := ⟨RX11, "cut", "()I"⟩
abbrev cX11_matrix : ByteArray := prog_13_method_31_code
def yX11_matrix : MethodName := ⟨RX11, "matrix", "(II)J"⟩
abbrev cX11_laysForm : ByteArray := prog_13_method_32_code
def yX11_laysForm : MethodName := ⟨RX11, "laysForm", "()Z"⟩
abbrev cX11_form : ByteArray := prog_13_method_33_code
def yX11_form : MethodName := ⟨RX11, "form", "(I)J"⟩
abbrev cX11_value : ByteArray := prog_13_method_34_code
def yX11_value : MethodName := ⟨RX11, "value", "(II)J"⟩
abbrev cX11_formOn : ByteArray := prog_13_method_35_code
def yX11_formOn : MethodName := ⟨RX11, "formOn", "()V"⟩
abbrev cX11_laysRound : ByteArray := prog_13_method_36_code
def yX11_laysRound : MethodName := ⟨RX11, "laysRound", "()I"⟩
abbrev cX11_round : ByteArray := prog_13_method_37_code
def yX11_round : MethodName := ⟨RX11, "round", "()I"⟩
abbrev cX11_least : ByteArray := prog_13_method_38_code
def yX11_least : MethodName := ⟨RX11, "least", "()J"⟩
abbrev cX11_comes : ByteArray := prog_13_method_39_code
def yX11_comes : MethodName := ⟨RX11, "comes", "(J)V"⟩
abbrev cX11_grows : ByteArray := prog_13_method_40_code
def yX11_grows : MethodName := ⟨RX11, "grows", "(JJJ)V"⟩
abbrev cX11_laysNumbers : ByteArray := prog_13_method_41_code
def yX11_laysNumbers : MethodName := ⟨RX11, "laysNumbers", "(J)V"⟩
abbrev cX11_upTo : ByteArray := prog_13_method_42_code
def yX11_upTo : MethodName := ⟨RX11, "upTo", "(J)I"⟩
abbrev cX11_markov : ByteArray := prog_13_method_43_code
def yX11_markov : MethodName := ⟨RX11, "markov", "(I)J"⟩
abbrev cX11_rank : ByteArray := prog_13_method_44_code
def yX11_rank : MethodName := ⟨RX11, "rank", "(J)I"⟩
abbrev cX11_triples : ByteArray := prog_13_method_45_code
def yX11_triples : MethodName := ⟨RX11, "triples", "(J)I"⟩
abbrev cX11_down : ByteArray := prog_13_method_46_code
def yX11_down : MethodName := ⟨RX11, "down", "(JJJ)I"⟩
abbrev cX11_with : ByteArray := prog_13_method_47_code
def yX11_with : MethodName := ⟨RX11, "with", "(JI)J"⟩
abbrev cX11_spread : ByteArray := prog_13_method_48_code
def yX11_spread : MethodName := ⟨RX11, "spread", "()I"⟩
abbrev cX11_markP : ByteArray := prog_13_method_49_code
def yX11_markP : MethodName := ⟨RX11, "markP", "(I)I"⟩
abbrev cX11_markQ : ByteArray := prog_13_method_50_code
def yX11_markQ : MethodName := ⟨RX11, "markQ", "(I)I"⟩
abbrev cX11_markNumber : ByteArray := prog_13_method_51_code
def yX11_markNumber : MethodName := ⟨RX11, "markNumber", "(I)J"⟩
abbrev cX11_markHere : ByteArray := prog_13_method_52_code
def yX11_markHere : MethodName := ⟨RX11, "markHere", "()I"⟩
abbrev cX11_marks : ByteArray := prog_13_method_53_code
def yX11_marks : MethodName := ⟨RX11, "marks", "()V"⟩
abbrev cX11_mark : ByteArray := prog_13_method_54_code
def yX11_mark : MethodName := ⟨RX11, "mark", "()I"⟩
abbrev cX11_unmark : ByteArray := prog_13_method_55_code
def yX11_unmark : MethodName := ⟨RX11, "unmark", "()I"⟩
abbrev cX11_marked : ByteArray := prog_13_method_56_code
def yX11_marked : MethodName := ⟨RX11, "marked", "(II)J"⟩
abbrev cX11_near : ByteArray := prog_13_method_57_code
def yX11_near : MethodName := ⟨RX11, "near", "(JZ)J"⟩
abbrev cX11_jump : ByteArray := prog_13_method_58_code
def yX11_jump : MethodName := ⟨RX11, "jump", "(I)I"⟩
abbrev cX11_told : ByteArray := prog_13_method_59_code
def yX11_told : MethodName := ⟨RX11, "told", "()I"⟩
abbrev cX11_byteAt : ByteArray := prog_13_method_60_code
def yX11_byteAt : MethodName := ⟨RX11, "byteAt", "(I)I"⟩
abbrev cX11_here : ByteArray := prog_13_method_61_code
def yX11_here : MethodName := ⟨RX11, "here", "()I"⟩
abbrev cX11_bad : ByteArray := prog_13_method_62_code
def yX11_bad : MethodName := ⟨RX11, "bad", "(II)V"⟩
abbrev cX11_isDigit : ByteArray := prog_13_method_63_code
def yX11_isDigit : MethodName := ⟨RX11, "isDigit", "(I)Z"⟩
abbrev cX11_often : ByteArray := prog_13_method_64_code
def yX11_often : MethodName := ⟨RX11, "often", "()I"⟩
abbrev cX11_reads : ByteArray := prog_13_method_65_code
def yX11_reads : MethodName := ⟨RX11, "reads", "(Z)V"⟩
abbrev cX11_readsBracket : ByteArray := prog_13_method_66_code
def yX11_readsBracket : MethodName := ⟨RX11, "readsBracket", "(I)V"⟩
abbrev cX11_skips : ByteArray := prog_13_method_67_code
def yX11_skips : MethodName := ⟨RX11, "skips", "()V"⟩
abbrev cX11_does : ByteArray := prog_13_method_68_code
def yX11_does : MethodName := ⟨RX11, "does", "(II)V"⟩
abbrev cX11_goes : ByteArray := prog_13_method_69_code
def yX11_goes : MethodName := ⟨RX11, "goes", "(Z)V"⟩
abbrev cX11_path : ByteArray := prog_13_method_70_code
def yX11_path : MethodName := ⟨RX11, "path", "()I"⟩
abbrev cX11_fault : ByteArray := prog_13_method_71_code
def yX11_fault : MethodName := ⟨RX11, "fault", "()I"⟩
abbrev cX11_draw : ByteArray := prog_13_method_72_code
def yX11_draw : MethodName := ⟨RX11, "draw", "(I)I"⟩
abbrev cX11_draws : ByteArray := prog_13_method_73_code
def yX11_draws : MethodName := ⟨RX11, "draws", "()Z"⟩
abbrev cX11_drawn : ByteArray := prog_13_method_74_code
def yX11_drawn : MethodName := ⟨RX11, "drawn", "(II)I"⟩
abbrev cX11_now : ByteArray := prog_13_method_75_code
def yX11_now : MethodName := ⟨RX11, "now", "(I)I"⟩
abbrev cX11_undo : ByteArray := prog_13_method_76_code
def yX11_undo : MethodName := ⟨RX11, "undo", "()I"⟩
abbrev cX11_image : ByteArray := prog_13_method_77_code
def yX11_image : MethodName := ⟨RX11, "image", "(I)Z"⟩
abbrev cX11_restore : ByteArray := prog_13_method_78_code
def yX11_restore : MethodName := ⟨RX11, "restore", "(I)Z"⟩
def RJx145de : String := "java/io/Serializable"
def TJx145de : u_T := fun k => match k with
  | _ => ("", "", "", false)
def tyJx145de : Nat → FieldType := fun k => match k with
  | _ => .int
abbrev wsJx145de0 : List Cond := u_ws RJx145de TJx145de 0
theorem nmJx145de : ∀ a, a < 0 → ∀ b, b < 0 → a ≠ b → (TJx145de a).2.1 ≠ (TJx145de b).2.1 := by decide +kernel
theorem tyJx145de_ok : ∀ k, k < 0 → parseFieldDescriptor (TJx145de k).2.2.1 = some (tyJx145de k) := by decide +kernel
def RJxb160c : String := "java/lang/Comparable"
def TJxb160c : u_T := fun k => match k with
  | _ => ("", "", "", false)
def tyJxb160c : Nat → FieldType := fun k => match k with
  | _ => .int
abbrev wsJxb160c0 : List Cond := u_ws RJxb160c TJxb160c 0
theorem nmJxb160c : ∀ a, a < 0 → ∀ b, b < 0 → a ≠ b → (TJxb160c a).2.1 ≠ (TJxb160c b).2.1 := by decide +kernel
theorem tyJxb160c_ok : ∀ k, k < 0 → parseFieldDescriptor (TJxb160c k).2.2.1 = some (tyJxb160c k) := by decide +kernel
def RJxf58ca : String := "java/lang/Float"
def TJxf58ca : u_T := fun k => match k with
  | _ => ("", "", "", false)
def tyJxf58ca : Nat → FieldType := fun k => match k with
  | _ => .int
abbrev wsJxf58ca0 : List Cond := u_ws RJxf58ca TJxf58ca 0
theorem nmJxf58ca : ∀ a, a < 0 → ∀ b, b < 0 → a ≠ b → (TJxf58ca a).2.1 ≠ (TJxf58ca b).2.1 := by decide +kernel
theorem tyJxf58ca_ok : ∀ k, k < 0 → parseFieldDescriptor (TJxf58ca k).2.2.1 = some (tyJxf58ca k) := by decide +kernel
abbrev cJxf58ca_isNaN_12338 : ByteArray := prog_16_method_6_code
def yJxf58ca_isNaN_12338 : MethodName := ⟨RJxf58ca, "isNaN", "(F)Z"⟩
abbrev cJxf58ca_floatToIntBits_5c35a : ByteArray := prog_16_method_24_code
def yJxf58ca_floatToIntBits_5c35a : MethodName := ⟨RJxf58ca, "floatToIntBits", "(F)I"⟩
def RJ6 : String := "java/lang/Integer"
def TJ6 : u_T := fun k => match k with
  | _ => ("", "", "", false)
def tyJ6 : Nat → FieldType := fun k => match k with
  | _ => .int
abbrev wsJ60 : List Cond := u_ws RJ6 TJ6 0
theorem nmJ6 : ∀ a, a < 0 → ∀ b, b < 0 → a ≠ b → (TJ6 a).2.1 ≠ (TJ6 b).2.1 := by decide +kernel
theorem tyJ6_ok : ∀ k, k < 0 → parseFieldDescriptor (TJ6 k).2.2.1 = some (tyJ6 k) := by decide +kernel
abbrev cJ6_compare_7cf53 : ByteArray := prog_17_method_40_code
def yJ6_compare_7cf53 : MethodName := ⟨RJ6, "compare", "(II)I"⟩
def RJ9 : String := "java/lang/Math"
def TJ9 : u_T := fun k => match k with
  | _ => ("", "", "", false)
def tyJ9 : Nat → FieldType := fun k => match k with
  | _ => .int
abbrev wsJ90 : List Cond := u_ws RJ9 TJ9 0
theorem nmJ9 : ∀ a, a < 0 → ∀ b, b < 0 → a ≠ b → (TJ9 a).2.1 ≠ (TJ9 b).2.1 := by decide +kernel
theorem tyJ9_ok : ∀ k, k < 0 → parseFieldDescriptor (TJ9 k).2.2.1 = some (tyJ9 k) := by decide +kernel
abbrev cJ9_floorMod_f86c9 : ByteArray := prog_18_method_52_code
def yJ9_floorMod_f86c9 : MethodName := ⟨RJ9, "floorMod", "(JJ)J"⟩
abbrev cJ9_abs_067f4 : ByteArray := prog_18_method_61_code
def yJ9_abs_067f4 : MethodName := ⟨RJ9, "abs", "(J)J"⟩
abbrev cJ9_min_7cf53 : ByteArray := prog_18_method_69_code
def yJ9_min_7cf53 : MethodName := ⟨RJ9, "min", "(II)I"⟩
abbrev cJ9_min_f86c9 : ByteArray := prog_18_method_70_code
def yJ9_min_f86c9 : MethodName := ⟨RJ9, "min", "(JJ)J"⟩
def RJxd2413 : String := "java/lang/Number"
def TJxd2413 : u_T := fun k => match k with
  | _ => ("", "", "", false)
def tyJxd2413 : Nat → FieldType := fun k => match k with
  | _ => .int
abbrev wsJxd24130 : List Cond := u_ws RJxd2413 TJxd2413 0
theorem nmJxd2413 : ∀ a, a < 0 → ∀ b, b < 0 → a ≠ b → (TJxd2413 a).2.1 ≠ (TJxd2413 b).2.1 := by decide +kernel
theorem tyJxd2413_ok : ∀ k, k < 0 → parseFieldDescriptor (TJxd2413 k).2.2.1 = some (tyJxd2413 k) := by decide +kernel
def RJxfd54e : String := "java/lang/constant/Constable"
def TJxfd54e : u_T := fun k => match k with
  | _ => ("", "", "", false)
def tyJxfd54e : Nat → FieldType := fun k => match k with
  | _ => .int
abbrev wsJxfd54e0 : List Cond := u_ws RJxfd54e TJxfd54e 0
theorem nmJxfd54e : ∀ a, a < 0 → ∀ b, b < 0 → a ≠ b → (TJxfd54e a).2.1 ≠ (TJxfd54e b).2.1 := by decide +kernel
theorem tyJxfd54e_ok : ∀ k, k < 0 → parseFieldDescriptor (TJxfd54e k).2.2.1 = some (tyJxfd54e k) := by decide +kernel
def RJx3cf43 : String := "java/lang/constant/ConstantDesc"
def TJx3cf43 : u_T := fun k => match k with
  | _ => ("", "", "", false)
def tyJx3cf43 : Nat → FieldType := fun k => match k with
  | _ => .int
abbrev wsJx3cf430 : List Cond := u_ws RJx3cf43 TJx3cf43 0
theorem nmJx3cf43 : ∀ a, a < 0 → ∀ b, b < 0 → a ≠ b → (TJx3cf43 a).2.1 ≠ (TJx3cf43 b).2.1 := by decide +kernel
theorem tyJx3cf43_ok : ∀ k, k < 0 → parseFieldDescriptor (TJx3cf43 k).2.2.1 = some (tyJx3cf43 k) := by decide +kernel
def RL : String := "MarkovTreeLaw"
abbrev cL_triple : ByteArray := method_3_code
def yL_triple : MethodName := ⟨RL, "triple", "(LMarkovTree;I[J)I"⟩
abbrev cL_matrix : ByteArray := method_4_code
def yL_matrix : MethodName := ⟨RL, "matrix", "(LMarkovTree;II[J)I"⟩
abbrev cL_form : ByteArray := method_5_code
def yL_form : MethodName := ⟨RL, "form", "(LMarkovTree;I[J)I"⟩
abbrev cL_law : ByteArray := code
def yL_law : MethodName := ⟨RL, "law", "([I)Z"⟩
abbrev vwCl : List vw_C := [(RX0, TX0, 11), (RX1, TX1, 7), (RX2, TX2, 3), (RX3, TX3, 4), (RX4, TX4, 5), (RX5, TX5, 2), (RX6, TX6, 7), (RX7, TX7, 2), (RX8, TX8, 3), (RX9, TX9, 4), (RX10, TX10, 10), (RX11, TX11, 39)]
end
section
theorem dX0_init_0 : decode cX0_init 0 = .ok (.aload_n 0, 1) := by decide +kernel
theorem dX0_init_1 : decode cX0_init 1 = .ok (.invokespecial 1, 3) := by decide +kernel
theorem dX0_init_4 : decode cX0_init 4 = .ok (.aload_n 0, 1) := by decide +kernel
theorem dX0_init_5 : decode cX0_init 5 = .ok (.sipush 200, 3) := by decide +kernel
theorem dX0_init_8 : decode cX0_init 8 = .ok (.newarray .int, 2) := by decide +kernel
theorem dX0_init_10 : decode cX0_init 10 = .ok (.putfield 9, 3) := by decide +kernel
theorem dX0_init_13 : decode cX0_init 13 = .ok (.aload_n 0, 1) := by decide +kernel
theorem dX0_init_14 : decode cX0_init 14 = .ok (.sipush 200, 3) := by decide +kernel
theorem dX0_init_17 : decode cX0_init 17 = .ok (.newarray .int, 2) := by decide +kernel
theorem dX0_init_19 : decode cX0_init 19 = .ok (.putfield 13, 3) := by decide +kernel
theorem dX0_init_22 : decode cX0_init 22 = .ok (.aload_n 0, 1) := by decide +kernel
theorem dX0_init_23 : decode cX0_init 23 = .ok (.sipush 200, 3) := by decide +kernel
theorem dX0_init_26 : decode cX0_init 26 = .ok (.newarray .int, 2) := by decide +kernel
theorem dX0_init_28 : decode cX0_init 28 = .ok (.putfield 16, 3) := by decide +kernel
theorem dX0_init_31 : decode cX0_init 31 = .ok (.aload_n 0, 1) := by decide +kernel
theorem dX0_init_32 : decode cX0_init 32 = .ok (.sipush 200, 3) := by decide +kernel
theorem dX0_init_35 : decode cX0_init 35 = .ok (.newarray .int, 2) := by decide +kernel
theorem dX0_init_37 : decode cX0_init 37 = .ok (.putfield 19, 3) := by decide +kernel
theorem dX0_init_40 : decode cX0_init 40 = .ok (.aload_n 0, 1) := by decide +kernel
theorem dX0_init_41 : decode cX0_init 41 = .ok (.iconst 3, 1) := by decide +kernel
theorem dX0_init_42 : decode cX0_init 42 = .ok (.newarray .int, 2) := by decide +kernel
theorem dX0_init_44 : decode cX0_init 44 = .ok (.putfield 22, 3) := by decide +kernel
theorem dX0_init_47 : decode cX0_init 47 = .ok (.return_, 1) := by decide +kernel
theorem dX0_faultKind_0 : decode cX0_faultKind 0 = .ok (.aload_n 0, 1) := by decide +kernel
theorem dX0_faultKind_1 : decode cX0_faultKind 1 = .ok (.getfield 25, 3) := by decide +kernel
theorem dX0_faultKind_4 : decode cX0_faultKind 4 = .ok (.ireturn, 1) := by decide +kernel
theorem dX0_faultPlace_0 : decode cX0_faultPlace 0 = .ok (.aload_n 0, 1) := by decide +kernel
theorem dX0_faultPlace_1 : decode cX0_faultPlace 1 = .ok (.getfield 29, 3) := by decide +kernel
theorem dX0_faultPlace_4 : decode cX0_faultPlace 4 = .ok (.ireturn, 1) := by decide +kernel
theorem dX0_read_0 : decode cX0_read 0 = .ok (.aload_n 0, 1) := by decide +kernel
theorem dX0_read_1 : decode cX0_read 1 = .ok (.iconst 0, 1) := by decide +kernel
theorem dX0_read_2 : decode cX0_read 2 = .ok (.putfield 32, 3) := by decide +kernel
theorem dX0_read_5 : decode cX0_read 5 = .ok (.aload_n 0, 1) := by decide +kernel
theorem dX0_read_6 : decode cX0_read 6 = .ok (.iconst 0, 1) := by decide +kernel
theorem dX0_read_7 : decode cX0_read 7 = .ok (.putfield 35, 3) := by decide +kernel
theorem dX0_read_10 : decode cX0_read 10 = .ok (.aload_n 0, 1) := by decide +kernel
theorem dX0_read_11 : decode cX0_read 11 = .ok (.iconst 0, 1) := by decide +kernel
theorem dX0_read_12 : decode cX0_read 12 = .ok (.putfield 38, 3) := by decide +kernel
theorem dX0_read_15 : decode cX0_read 15 = .ok (.aload_n 0, 1) := by decide +kernel
theorem dX0_read_16 : decode cX0_read 16 = .ok (.iconst (-1), 1) := by decide +kernel
theorem dX0_read_17 : decode cX0_read 17 = .ok (.putfield 42, 3) := by decide +kernel
theorem dX0_read_20 : decode cX0_read 20 = .ok (.aload_n 0, 1) := by decide +kernel
theorem dX0_read_21 : decode cX0_read 21 = .ok (.iconst 0, 1) := by decide +kernel
theorem dX0_read_22 : decode cX0_read 22 = .ok (.putfield 25, 3) := by decide +kernel
theorem dX0_read_25 : decode cX0_read 25 = .ok (.aload_n 0, 1) := by decide +kernel
theorem dX0_read_26 : decode cX0_read 26 = .ok (.iconst 0, 1) := by decide +kernel
theorem dX0_read_27 : decode cX0_read 27 = .ok (.putfield 29, 3) := by decide +kernel
theorem dX0_read_30 : decode cX0_read 30 = .ok (.aload_n 1, 1) := by decide +kernel
theorem dX0_read_31 : decode cX0_read 31 = .ok (.invokevirtual 45, 3) := by decide +kernel
theorem dX0_read_34 : decode cX0_read 34 = .ok (.istore_n 2, 1) := by decide +kernel
theorem dX0_read_35 : decode cX0_read 35 = .ok (.iload_n 2, 1) := by decide +kernel
theorem dX0_read_36 : decode cX0_read 36 = .ok (.sipush 200, 3) := by decide +kernel
theorem dX0_read_39 : decode cX0_read 39 = .ok (.if_icmp .le 12, 3) := by decide +kernel
theorem dX0_read_42 : decode cX0_read 42 = .ok (.aload_n 0, 1) := by decide +kernel
theorem dX0_read_43 : decode cX0_read 43 = .ok (.iconst 1, 1) := by decide +kernel
theorem dX0_read_44 : decode cX0_read 44 = .ok (.sipush 200, 3) := by decide +kernel
theorem dX0_read_47 : decode cX0_read 47 = .ok (.invokevirtual 51, 3) := by decide +kernel
theorem dX0_read_50 : decode cX0_read 50 = .ok (.return_, 1) := by decide +kernel
theorem dX0_read_51 : decode cX0_read 51 = .ok (.iconst 0, 1) := by decide +kernel
theorem dX0_read_52 : decode cX0_read 52 = .ok (.istore_n 3, 1) := by decide +kernel
theorem dX0_read_53 : decode cX0_read 53 = .ok (.iconst 0, 1) := by decide +kernel
theorem dX0_read_54 : decode cX0_read 54 = .ok (.istore 4, 2) := by decide +kernel
theorem dX0_read_56 : decode cX0_read 56 = .ok (.iload 4, 2) := by decide +kernel
theorem dX0_read_58 : decode cX0_read 58 = .ok (.sipush 200, 3) := by decide +kernel
theorem dX0_read_61 : decode cX0_read 61 = .ok (.if_icmp .ge 54, 3) := by decide +kernel
theorem dX0_read_64 : decode cX0_read 64 = .ok (.iload_n 3, 1) := by decide +kernel
theorem dX0_read_65 : decode cX0_read 65 = .ok (.iload_n 2, 1) := by decide +kernel
theorem dX0_read_66 : decode cX0_read 66 = .ok (.if_icmp .ge 49, 3) := by decide +kernel
theorem dX0_read_69 : decode cX0_read 69 = .ok (.aload_n 0, 1) := by decide +kernel
theorem dX0_read_70 : decode cX0_read 70 = .ok (.getfield 25, 3) := by decide +kernel
theorem dX0_read_73 : decode cX0_read 73 = .ok (.ifCond .ne 42, 3) := by decide +kernel
theorem dX0_read_76 : decode cX0_read 76 = .ok (.iload_n 3, 1) := by decide +kernel
theorem dX0_read_77 : decode cX0_read 77 = .ok (.aload_n 1, 1) := by decide +kernel
theorem dX0_read_78 : decode cX0_read 78 = .ok (.iload_n 3, 1) := by decide +kernel
theorem dX0_read_79 : decode cX0_read 79 = .ok (.invokevirtual 55, 3) := by decide +kernel
theorem dX0_read_82 : decode cX0_read 82 = .ok (.invokestatic 59, 3) := by decide +kernel
theorem dX0_read_85 : decode cX0_read 85 = .ok (.ifCond .eq 12, 3) := by decide +kernel
theorem dX0_read_88 : decode cX0_read 88 = .ok (.aload_n 0, 1) := by decide +kernel
theorem dX0_read_89 : decode cX0_read 89 = .ok (.aload_n 1, 1) := by decide +kernel
theorem dX0_read_90 : decode cX0_read 90 = .ok (.iload_n 3, 1) := by decide +kernel
theorem dX0_read_91 : decode cX0_read 91 = .ok (.invokevirtual 63, 3) := by decide +kernel
theorem dX0_read_94 : decode cX0_read 94 = .ok (.goto 13, 3) := by decide +kernel
theorem dX0_read_97 : decode cX0_read 97 = .ok (.aload_n 0, 1) := by decide +kernel
theorem dX0_read_98 : decode cX0_read 98 = .ok (.aload_n 1, 1) := by decide +kernel
theorem dX0_read_99 : decode cX0_read 99 = .ok (.iload_n 3, 1) := by decide +kernel
theorem dX0_read_100 : decode cX0_read 100 = .ok (.invokevirtual 55, 3) := by decide +kernel
theorem dX0_read_103 : decode cX0_read 103 = .ok (.iload_n 3, 1) := by decide +kernel
theorem dX0_read_104 : decode cX0_read 104 = .ok (.invokevirtual 67, 3) := by decide +kernel
theorem dX0_read_107 : decode cX0_read 107 = .ok (.iadd, 1) := by decide +kernel
theorem dX0_read_108 : decode cX0_read 108 = .ok (.istore_n 3, 1) := by decide +kernel
theorem dX0_read_109 : decode cX0_read 109 = .ok (.iinc 4 1, 3) := by decide +kernel
theorem dX0_read_112 : decode cX0_read 112 = .ok (.goto (-56), 3) := by decide +kernel
theorem dX0_read_115 : decode cX0_read 115 = .ok (.aload_n 0, 1) := by decide +kernel
theorem dX0_read_116 : decode cX0_read 116 = .ok (.getfield 25, 3) := by decide +kernel
theorem dX0_read_119 : decode cX0_read 119 = .ok (.ifCond .ne 16, 3) := by decide +kernel
theorem dX0_read_122 : decode cX0_read 122 = .ok (.aload_n 0, 1) := by decide +kernel
theorem dX0_read_123 : decode cX0_read 123 = .ok (.getfield 35, 3) := by decide +kernel
theorem dX0_read_126 : decode cX0_read 126 = .ok (.ifCond .le 9, 3) := by decide +kernel
theorem dX0_read_129 : decode cX0_read 129 = .ok (.aload_n 0, 1) := by decide +kernel
theorem dX0_read_130 : decode cX0_read 130 = .ok (.iconst 1, 1) := by decide +kernel
theorem dX0_read_131 : decode cX0_read 131 = .ok (.iload_n 2, 1) := by decide +kernel
theorem dX0_read_132 : decode cX0_read 132 = .ok (.invokevirtual 51, 3) := by decide +kernel
theorem dX0_read_135 : decode cX0_read 135 = .ok (.return_, 1) := by decide +kernel
theorem dX0_fail_0 : decode cX0_fail 0 = .ok (.aload_n 0, 1) := by decide +kernel
theorem dX0_fail_1 : decode cX0_fail 1 = .ok (.iload_n 1, 1) := by decide +kernel
theorem dX0_fail_2 : decode cX0_fail 2 = .ok (.putfield 25, 3) := by decide +kernel
theorem dX0_fail_5 : decode cX0_fail 5 = .ok (.aload_n 0, 1) := by decide +kernel
theorem dX0_fail_6 : decode cX0_fail 6 = .ok (.iload_n 2, 1) := by decide +kernel
theorem dX0_fail_7 : decode cX0_fail 7 = .ok (.putfield 29, 3) := by decide +kernel
theorem dX0_fail_10 : decode cX0_fail 10 = .ok (.return_, 1) := by decide +kernel
theorem dX0_isDigit_0 : decode cX0_isDigit 0 = .ok (.iload_n 0, 1) := by decide +kernel
theorem dX0_isDigit_1 : decode cX0_isDigit 1 = .ok (.bipush 48, 2) := by decide +kernel
theorem dX0_isDigit_3 : decode cX0_isDigit 3 = .ok (.if_icmp .lt 13, 3) := by decide +kernel
theorem dX0_isDigit_6 : decode cX0_isDigit 6 = .ok (.iload_n 0, 1) := by decide +kernel
theorem dX0_isDigit_7 : decode cX0_isDigit 7 = .ok (.bipush 57, 2) := by decide +kernel
theorem dX0_isDigit_9 : decode cX0_isDigit 9 = .ok (.if_icmp .gt 7, 3) := by decide +kernel
theorem dX0_isDigit_12 : decode cX0_isDigit 12 = .ok (.iconst 1, 1) := by decide +kernel
theorem dX0_isDigit_13 : decode cX0_isDigit 13 = .ok (.goto 4, 3) := by decide +kernel
theorem dX0_isDigit_16 : decode cX0_isDigit 16 = .ok (.iconst 0, 1) := by decide +kernel
theorem dX0_isDigit_17 : decode cX0_isDigit 17 = .ok (.ireturn, 1) := by decide +kernel
theorem dX0_readNumber_0 : decode cX0_readNumber 0 = .ok (.iconst 0, 1) := by decide +kernel
theorem dX0_readNumber_1 : decode cX0_readNumber 1 = .ok (.istore_n 3, 1) := by decide +kernel
theorem dX0_readNumber_2 : decode cX0_readNumber 2 = .ok (.iconst 0, 1) := by decide +kernel
theorem dX0_readNumber_3 : decode cX0_readNumber 3 = .ok (.istore 4, 2) := by decide +kernel
theorem dX0_readNumber_5 : decode cX0_readNumber 5 = .ok (.iload 4, 2) := by decide +kernel
theorem dX0_readNumber_7 : decode cX0_readNumber 7 = .ok (.sipush 200, 3) := by decide +kernel
theorem dX0_readNumber_10 : decode cX0_readNumber 10 = .ok (.if_icmp .ge 45, 3) := by decide +kernel
theorem dX0_readNumber_13 : decode cX0_readNumber 13 = .ok (.aload_n 1, 1) := by decide +kernel
theorem dX0_readNumber_14 : decode cX0_readNumber 14 = .ok (.iload_n 2, 1) := by decide +kernel
theorem dX0_readNumber_15 : decode cX0_readNumber 15 = .ok (.iload 4, 2) := by decide +kernel
theorem dX0_readNumber_17 : decode cX0_readNumber 17 = .ok (.iadd, 1) := by decide +kernel
theorem dX0_readNumber_18 : decode cX0_readNumber 18 = .ok (.invokevirtual 55, 3) := by decide +kernel
theorem dX0_readNumber_21 : decode cX0_readNumber 21 = .ok (.invokestatic 59, 3) := by decide +kernel
theorem dX0_readNumber_24 : decode cX0_readNumber 24 = .ok (.ifCond .eq 31, 3) := by decide +kernel
theorem dX0_readNumber_27 : decode cX0_readNumber 27 = .ok (.iload_n 3, 1) := by decide +kernel
theorem dX0_readNumber_28 : decode cX0_readNumber 28 = .ok (.bipush 10, 2) := by decide +kernel
theorem dX0_readNumber_30 : decode cX0_readNumber 30 = .ok (.imul, 1) := by decide +kernel
theorem dX0_readNumber_31 : decode cX0_readNumber 31 = .ok (.aload_n 1, 1) := by decide +kernel
theorem dX0_readNumber_32 : decode cX0_readNumber 32 = .ok (.iload_n 2, 1) := by decide +kernel
theorem dX0_readNumber_33 : decode cX0_readNumber 33 = .ok (.iload 4, 2) := by decide +kernel
theorem dX0_readNumber_35 : decode cX0_readNumber 35 = .ok (.iadd, 1) := by decide +kernel
theorem dX0_readNumber_36 : decode cX0_readNumber 36 = .ok (.invokevirtual 55, 3) := by decide +kernel
theorem dX0_readNumber_39 : decode cX0_readNumber 39 = .ok (.iadd, 1) := by decide +kernel
theorem dX0_readNumber_40 : decode cX0_readNumber 40 = .ok (.bipush 48, 2) := by decide +kernel
theorem dX0_readNumber_42 : decode cX0_readNumber 42 = .ok (.isub, 1) := by decide +kernel
theorem dX0_readNumber_43 : decode cX0_readNumber 43 = .ok (.bipush 100, 2) := by decide +kernel
theorem dX0_readNumber_45 : decode cX0_readNumber 45 = .ok (.invokestatic 71, 3) := by decide +kernel
theorem dX0_readNumber_48 : decode cX0_readNumber 48 = .ok (.istore_n 3, 1) := by decide +kernel
theorem dX0_readNumber_49 : decode cX0_readNumber 49 = .ok (.iinc 4 1, 3) := by decide +kernel
theorem dX0_readNumber_52 : decode cX0_readNumber 52 = .ok (.goto (-47), 3) := by decide +kernel
theorem dX0_readNumber_55 : decode cX0_readNumber 55 = .ok (.aload_n 0, 1) := by decide +kernel
theorem dX0_readNumber_56 : decode cX0_readNumber 56 = .ok (.getfield 38, 3) := by decide +kernel
theorem dX0_readNumber_59 : decode cX0_readNumber 59 = .ok (.ifCond .ne 12, 3) := by decide +kernel
theorem dX0_readNumber_62 : decode cX0_readNumber 62 = .ok (.aload_n 0, 1) := by decide +kernel
theorem dX0_readNumber_63 : decode cX0_readNumber 63 = .ok (.iconst 1, 1) := by decide +kernel
theorem dX0_readNumber_64 : decode cX0_readNumber 64 = .ok (.iload_n 2, 1) := by decide +kernel
theorem dX0_readNumber_65 : decode cX0_readNumber 65 = .ok (.invokevirtual 51, 3) := by decide +kernel
theorem dX0_readNumber_68 : decode cX0_readNumber 68 = .ok (.goto 57, 3) := by decide +kernel
theorem dX0_readNumber_71 : decode cX0_readNumber 71 = .ok (.iload 4, 2) := by decide +kernel
theorem dX0_readNumber_73 : decode cX0_readNumber 73 = .ok (.iconst 2, 1) := by decide +kernel
theorem dX0_readNumber_74 : decode cX0_readNumber 74 = .ok (.if_icmp .gt 14, 3) := by decide +kernel
theorem dX0_readNumber_77 : decode cX0_readNumber 77 = .ok (.iload_n 3, 1) := by decide +kernel
theorem dX0_readNumber_78 : decode cX0_readNumber 78 = .ok (.iconst 1, 1) := by decide +kernel
theorem dX0_readNumber_79 : decode cX0_readNumber 79 = .ok (.if_icmp .lt 9, 3) := by decide +kernel
theorem dX0_readNumber_82 : decode cX0_readNumber 82 = .ok (.iload_n 3, 1) := by decide +kernel
theorem dX0_readNumber_83 : decode cX0_readNumber 83 = .ok (.bipush 99, 2) := by decide +kernel
theorem dX0_readNumber_85 : decode cX0_readNumber 85 = .ok (.if_icmp .le 12, 3) := by decide +kernel
theorem dX0_readNumber_88 : decode cX0_readNumber 88 = .ok (.aload_n 0, 1) := by decide +kernel
theorem dX0_readNumber_89 : decode cX0_readNumber 89 = .ok (.iconst 2, 1) := by decide +kernel
theorem dX0_readNumber_90 : decode cX0_readNumber 90 = .ok (.iload_n 2, 1) := by decide +kernel
theorem dX0_readNumber_91 : decode cX0_readNumber 91 = .ok (.invokevirtual 51, 3) := by decide +kernel
theorem dX0_readNumber_94 : decode cX0_readNumber 94 = .ok (.goto 31, 3) := by decide +kernel
theorem dX0_readNumber_97 : decode cX0_readNumber 97 = .ok (.aload_n 0, 1) := by decide +kernel
theorem dX0_readNumber_98 : decode cX0_readNumber 98 = .ok (.getfield 42, 3) := by decide +kernel
theorem dX0_readNumber_101 : decode cX0_readNumber 101 = .ok (.ifCond .lt 24, 3) := by decide +kernel
theorem dX0_readNumber_104 : decode cX0_readNumber 104 = .ok (.aload_n 0, 1) := by decide +kernel
theorem dX0_readNumber_105 : decode cX0_readNumber 105 = .ok (.getfield 42, 3) := by decide +kernel
theorem dX0_readNumber_108 : decode cX0_readNumber 108 = .ok (.aload_n 0, 1) := by decide +kernel
theorem dX0_readNumber_109 : decode cX0_readNumber 109 = .ok (.getfield 32, 3) := by decide +kernel
theorem dX0_readNumber_112 : decode cX0_readNumber 112 = .ok (.if_icmp .ge 13, 3) := by decide +kernel
theorem dX0_readNumber_115 : decode cX0_readNumber 115 = .ok (.aload_n 0, 1) := by decide +kernel
theorem dX0_readNumber_116 : decode cX0_readNumber 116 = .ok (.getfield 13, 3) := by decide +kernel
theorem dX0_readNumber_119 : decode cX0_readNumber 119 = .ok (.aload_n 0, 1) := by decide +kernel
theorem dX0_readNumber_120 : decode cX0_readNumber 120 = .ok (.getfield 42, 3) := by decide +kernel
theorem dX0_readNumber_123 : decode cX0_readNumber 123 = .ok (.iload_n 3, 1) := by decide +kernel
theorem dX0_readNumber_124 : decode cX0_readNumber 124 = .ok (.iastore, 1) := by decide +kernel
theorem dX0_readNumber_125 : decode cX0_readNumber 125 = .ok (.aload_n 0, 1) := by decide +kernel
theorem dX0_readNumber_126 : decode cX0_readNumber 126 = .ok (.iconst 0, 1) := by decide +kernel
theorem dX0_readNumber_127 : decode cX0_readNumber 127 = .ok (.putfield 38, 3) := by decide +kernel
theorem dX0_readNumber_130 : decode cX0_readNumber 130 = .ok (.iload 4, 2) := by decide +kernel
theorem dX0_readNumber_132 : decode cX0_readNumber 132 = .ok (.ireturn, 1) := by decide +kernel
theorem dX0_readSign_0 : decode cX0_readSign 0 = .ok (.iload_n 1, 1) := by decide +kernel
theorem dX0_readSign_1 : decode cX0_readSign 1 = .ok (.lookupswitch 114 #[(32, 67), (91, 98), (93, 106), (104, 84), (108, 70), (114, 70), (117, 70)], 67) := by decide +kernel
theorem dX0_readSign_68 : decode cX0_readSign 68 = .ok (.goto 53, 3) := by decide +kernel
theorem dX0_readSign_71 : decode cX0_readSign 71 = .ok (.aload_n 0, 1) := by decide +kernel
theorem dX0_readSign_72 : decode cX0_readSign 72 = .ok (.iload_n 1, 1) := by decide +kernel
theorem dX0_readSign_73 : decode cX0_readSign 73 = .ok (.iconst 0, 1) := by decide +kernel
theorem dX0_readSign_74 : decode cX0_readSign 74 = .ok (.invokevirtual 76, 3) := by decide +kernel
theorem dX0_readSign_77 : decode cX0_readSign 77 = .ok (.aload_n 0, 1) := by decide +kernel
theorem dX0_readSign_78 : decode cX0_readSign 78 = .ok (.iconst 1, 1) := by decide +kernel
theorem dX0_readSign_79 : decode cX0_readSign 79 = .ok (.putfield 38, 3) := by decide +kernel
theorem dX0_readSign_82 : decode cX0_readSign 82 = .ok (.goto 39, 3) := by decide +kernel
theorem dX0_readSign_85 : decode cX0_readSign 85 = .ok (.aload_n 0, 1) := by decide +kernel
theorem dX0_readSign_86 : decode cX0_readSign 86 = .ok (.iload_n 1, 1) := by decide +kernel
theorem dX0_readSign_87 : decode cX0_readSign 87 = .ok (.iconst 0, 1) := by decide +kernel
theorem dX0_readSign_88 : decode cX0_readSign 88 = .ok (.invokevirtual 76, 3) := by decide +kernel
theorem dX0_readSign_91 : decode cX0_readSign 91 = .ok (.aload_n 0, 1) := by decide +kernel
theorem dX0_readSign_92 : decode cX0_readSign 92 = .ok (.iconst 0, 1) := by decide +kernel
theorem dX0_readSign_93 : decode cX0_readSign 93 = .ok (.putfield 38, 3) := by decide +kernel
theorem dX0_readSign_96 : decode cX0_readSign 96 = .ok (.goto 25, 3) := by decide +kernel
theorem dX0_readSign_99 : decode cX0_readSign 99 = .ok (.aload_n 0, 1) := by decide +kernel
theorem dX0_readSign_100 : decode cX0_readSign 100 = .ok (.iload_n 2, 1) := by decide +kernel
theorem dX0_readSign_101 : decode cX0_readSign 101 = .ok (.invokevirtual 79, 3) := by decide +kernel
theorem dX0_readSign_104 : decode cX0_readSign 104 = .ok (.goto 17, 3) := by decide +kernel
theorem dX0_readSign_107 : decode cX0_readSign 107 = .ok (.aload_n 0, 1) := by decide +kernel
theorem dX0_readSign_108 : decode cX0_readSign 108 = .ok (.iload_n 2, 1) := by decide +kernel
theorem dX0_readSign_109 : decode cX0_readSign 109 = .ok (.invokevirtual 83, 3) := by decide +kernel
theorem dX0_readSign_112 : decode cX0_readSign 112 = .ok (.goto 9, 3) := by decide +kernel
theorem dX0_readSign_115 : decode cX0_readSign 115 = .ok (.aload_n 0, 1) := by decide +kernel
theorem dX0_readSign_116 : decode cX0_readSign 116 = .ok (.iconst 1, 1) := by decide +kernel
theorem dX0_readSign_117 : decode cX0_readSign 117 = .ok (.iload_n 2, 1) := by decide +kernel
theorem dX0_readSign_118 : decode cX0_readSign 118 = .ok (.invokevirtual 51, 3) := by decide +kernel
theorem dX0_readSign_121 : decode cX0_readSign 121 = .ok (.iconst 1, 1) := by decide +kernel
theorem dX0_readSign_122 : decode cX0_readSign 122 = .ok (.ireturn, 1) := by decide +kernel
theorem dX0_openBracket_0 : decode cX0_openBracket 0 = .ok (.aload_n 0, 1) := by decide +kernel
theorem dX0_openBracket_1 : decode cX0_openBracket 1 = .ok (.getfield 35, 3) := by decide +kernel
theorem dX0_openBracket_4 : decode cX0_openBracket 4 = .ok (.iconst 3, 1) := by decide +kernel
theorem dX0_openBracket_5 : decode cX0_openBracket 5 = .ok (.if_icmp .lt 10, 3) := by decide +kernel
theorem dX0_openBracket_8 : decode cX0_openBracket 8 = .ok (.aload_n 0, 1) := by decide +kernel
theorem dX0_openBracket_9 : decode cX0_openBracket 9 = .ok (.iconst 3, 1) := by decide +kernel
theorem dX0_openBracket_10 : decode cX0_openBracket 10 = .ok (.iload_n 1, 1) := by decide +kernel
theorem dX0_openBracket_11 : decode cX0_openBracket 11 = .ok (.invokevirtual 51, 3) := by decide +kernel
theorem dX0_openBracket_14 : decode cX0_openBracket 14 = .ok (.return_, 1) := by decide +kernel
theorem dX0_openBracket_15 : decode cX0_openBracket 15 = .ok (.aload_n 0, 1) := by decide +kernel
theorem dX0_openBracket_16 : decode cX0_openBracket 16 = .ok (.getfield 22, 3) := by decide +kernel
theorem dX0_openBracket_19 : decode cX0_openBracket 19 = .ok (.aload_n 0, 1) := by decide +kernel
theorem dX0_openBracket_20 : decode cX0_openBracket 20 = .ok (.getfield 35, 3) := by decide +kernel
theorem dX0_openBracket_23 : decode cX0_openBracket 23 = .ok (.aload_n 0, 1) := by decide +kernel
theorem dX0_openBracket_24 : decode cX0_openBracket 24 = .ok (.getfield 32, 3) := by decide +kernel
theorem dX0_openBracket_27 : decode cX0_openBracket 27 = .ok (.iastore, 1) := by decide +kernel
theorem dX0_openBracket_28 : decode cX0_openBracket 28 = .ok (.aload_n 0, 1) := by decide +kernel
theorem dX0_openBracket_29 : decode cX0_openBracket 29 = .ok (.dup, 1) := by decide +kernel
theorem dX0_openBracket_30 : decode cX0_openBracket 30 = .ok (.getfield 35, 3) := by decide +kernel
theorem dX0_openBracket_33 : decode cX0_openBracket 33 = .ok (.iconst 1, 1) := by decide +kernel
theorem dX0_openBracket_34 : decode cX0_openBracket 34 = .ok (.iadd, 1) := by decide +kernel
theorem dX0_openBracket_35 : decode cX0_openBracket 35 = .ok (.putfield 35, 3) := by decide +kernel
theorem dX0_openBracket_38 : decode cX0_openBracket 38 = .ok (.aload_n 0, 1) := by decide +kernel
theorem dX0_openBracket_39 : decode cX0_openBracket 39 = .ok (.iconst 0, 1) := by decide +kernel
theorem dX0_openBracket_40 : decode cX0_openBracket 40 = .ok (.putfield 38, 3) := by decide +kernel
theorem dX0_openBracket_43 : decode cX0_openBracket 43 = .ok (.return_, 1) := by decide +kernel
theorem dX0_closeBracket_0 : decode cX0_closeBracket 0 = .ok (.aload_n 0, 1) := by decide +kernel
theorem dX0_closeBracket_1 : decode cX0_closeBracket 1 = .ok (.getfield 35, 3) := by decide +kernel
theorem dX0_closeBracket_4 : decode cX0_closeBracket 4 = .ok (.iconst 1, 1) := by decide +kernel
theorem dX0_closeBracket_5 : decode cX0_closeBracket 5 = .ok (.if_icmp .ge 10, 3) := by decide +kernel
theorem dX0_closeBracket_8 : decode cX0_closeBracket 8 = .ok (.aload_n 0, 1) := by decide +kernel
theorem dX0_closeBracket_9 : decode cX0_closeBracket 9 = .ok (.iconst 1, 1) := by decide +kernel
theorem dX0_closeBracket_10 : decode cX0_closeBracket 10 = .ok (.iload_n 1, 1) := by decide +kernel
theorem dX0_closeBracket_11 : decode cX0_closeBracket 11 = .ok (.invokevirtual 51, 3) := by decide +kernel
theorem dX0_closeBracket_14 : decode cX0_closeBracket 14 = .ok (.return_, 1) := by decide +kernel
theorem dX0_closeBracket_15 : decode cX0_closeBracket 15 = .ok (.aload_n 0, 1) := by decide +kernel
theorem dX0_closeBracket_16 : decode cX0_closeBracket 16 = .ok (.dup, 1) := by decide +kernel
theorem dX0_closeBracket_17 : decode cX0_closeBracket 17 = .ok (.getfield 35, 3) := by decide +kernel
theorem dX0_closeBracket_20 : decode cX0_closeBracket 20 = .ok (.iconst 1, 1) := by decide +kernel
theorem dX0_closeBracket_21 : decode cX0_closeBracket 21 = .ok (.isub, 1) := by decide +kernel
theorem dX0_closeBracket_22 : decode cX0_closeBracket 22 = .ok (.putfield 35, 3) := by decide +kernel
theorem dX0_closeBracket_25 : decode cX0_closeBracket 25 = .ok (.aload_n 0, 1) := by decide +kernel
theorem dX0_closeBracket_26 : decode cX0_closeBracket 26 = .ok (.getfield 22, 3) := by decide +kernel
theorem dX0_closeBracket_29 : decode cX0_closeBracket 29 = .ok (.aload_n 0, 1) := by decide +kernel
theorem dX0_closeBracket_30 : decode cX0_closeBracket 30 = .ok (.getfield 35, 3) := by decide +kernel
theorem dX0_closeBracket_33 : decode cX0_closeBracket 33 = .ok (.iaload, 1) := by decide +kernel
theorem dX0_closeBracket_34 : decode cX0_closeBracket 34 = .ok (.istore_n 2, 1) := by decide +kernel
theorem dX0_closeBracket_35 : decode cX0_closeBracket 35 = .ok (.aload_n 0, 1) := by decide +kernel
theorem dX0_closeBracket_36 : decode cX0_closeBracket 36 = .ok (.iconst (-1), 1) := by decide +kernel
theorem dX0_closeBracket_37 : decode cX0_closeBracket 37 = .ok (.putfield 42, 3) := by decide +kernel
theorem dX0_closeBracket_40 : decode cX0_closeBracket 40 = .ok (.iload_n 2, 1) := by decide +kernel
theorem dX0_closeBracket_41 : decode cX0_closeBracket 41 = .ok (.aload_n 0, 1) := by decide +kernel
theorem dX0_closeBracket_42 : decode cX0_closeBracket 42 = .ok (.getfield 32, 3) := by decide +kernel
theorem dX0_closeBracket_45 : decode cX0_closeBracket 45 = .ok (.if_icmp .ge 10, 3) := by decide +kernel
theorem dX0_closeBracket_48 : decode cX0_closeBracket 48 = .ok (.aload_n 0, 1) := by decide +kernel
theorem dX0_closeBracket_49 : decode cX0_closeBracket 49 = .ok (.bipush 93, 2) := by decide +kernel
theorem dX0_closeBracket_51 : decode cX0_closeBracket 51 = .ok (.iload_n 2, 1) := by decide +kernel
theorem dX0_closeBracket_52 : decode cX0_closeBracket 52 = .ok (.invokevirtual 76, 3) := by decide +kernel
theorem dX0_closeBracket_55 : decode cX0_closeBracket 55 = .ok (.aload_n 0, 1) := by decide +kernel
theorem dX0_closeBracket_56 : decode cX0_closeBracket 56 = .ok (.iconst 1, 1) := by decide +kernel
theorem dX0_closeBracket_57 : decode cX0_closeBracket 57 = .ok (.putfield 38, 3) := by decide +kernel
theorem dX0_closeBracket_60 : decode cX0_closeBracket 60 = .ok (.return_, 1) := by decide +kernel
theorem dX0_putAct_0 : decode cX0_putAct 0 = .ok (.aload_n 0, 1) := by decide +kernel
theorem dX0_putAct_1 : decode cX0_putAct 1 = .ok (.getfield 32, 3) := by decide +kernel
theorem dX0_putAct_4 : decode cX0_putAct 4 = .ok (.sipush 200, 3) := by decide +kernel
theorem dX0_putAct_7 : decode cX0_putAct 7 = .ok (.if_icmp .lt 4, 3) := by decide +kernel
theorem dX0_putAct_10 : decode cX0_putAct 10 = .ok (.return_, 1) := by decide +kernel
theorem dX0_putAct_11 : decode cX0_putAct 11 = .ok (.aload_n 0, 1) := by decide +kernel
theorem dX0_putAct_12 : decode cX0_putAct 12 = .ok (.getfield 9, 3) := by decide +kernel
theorem dX0_putAct_15 : decode cX0_putAct 15 = .ok (.aload_n 0, 1) := by decide +kernel
theorem dX0_putAct_16 : decode cX0_putAct 16 = .ok (.getfield 32, 3) := by decide +kernel
theorem dX0_putAct_19 : decode cX0_putAct 19 = .ok (.iload_n 1, 1) := by decide +kernel
theorem dX0_putAct_20 : decode cX0_putAct 20 = .ok (.iastore, 1) := by decide +kernel
theorem dX0_putAct_21 : decode cX0_putAct 21 = .ok (.aload_n 0, 1) := by decide +kernel
theorem dX0_putAct_22 : decode cX0_putAct 22 = .ok (.getfield 13, 3) := by decide +kernel
theorem dX0_putAct_25 : decode cX0_putAct 25 = .ok (.aload_n 0, 1) := by decide +kernel
theorem dX0_putAct_26 : decode cX0_putAct 26 = .ok (.getfield 32, 3) := by decide +kernel
theorem dX0_putAct_29 : decode cX0_putAct 29 = .ok (.iconst 1, 1) := by decide +kernel
theorem dX0_putAct_30 : decode cX0_putAct 30 = .ok (.iastore, 1) := by decide +kernel
theorem dX0_putAct_31 : decode cX0_putAct 31 = .ok (.aload_n 0, 1) := by decide +kernel
theorem dX0_putAct_32 : decode cX0_putAct 32 = .ok (.getfield 16, 3) := by decide +kernel
theorem dX0_putAct_35 : decode cX0_putAct 35 = .ok (.aload_n 0, 1) := by decide +kernel
theorem dX0_putAct_36 : decode cX0_putAct 36 = .ok (.getfield 32, 3) := by decide +kernel
theorem dX0_putAct_39 : decode cX0_putAct 39 = .ok (.iload_n 2, 1) := by decide +kernel
theorem dX0_putAct_40 : decode cX0_putAct 40 = .ok (.iastore, 1) := by decide +kernel
theorem dX0_putAct_41 : decode cX0_putAct 41 = .ok (.aload_n 0, 1) := by decide +kernel
theorem dX0_putAct_42 : decode cX0_putAct 42 = .ok (.getfield 19, 3) := by decide +kernel
theorem dX0_putAct_45 : decode cX0_putAct 45 = .ok (.aload_n 0, 1) := by decide +kernel
theorem dX0_putAct_46 : decode cX0_putAct 46 = .ok (.getfield 32, 3) := by decide +kernel
theorem dX0_putAct_49 : decode cX0_putAct 49 = .ok (.iconst 0, 1) := by decide +kernel
theorem dX0_putAct_50 : decode cX0_putAct 50 = .ok (.iastore, 1) := by decide +kernel
theorem dX0_putAct_51 : decode cX0_putAct 51 = .ok (.aload_n 0, 1) := by decide +kernel
theorem dX0_putAct_52 : decode cX0_putAct 52 = .ok (.aload_n 0, 1) := by decide +kernel
theorem dX0_putAct_53 : decode cX0_putAct 53 = .ok (.getfield 32, 3) := by decide +kernel
theorem dX0_putAct_56 : decode cX0_putAct 56 = .ok (.putfield 42, 3) := by decide +kernel
theorem dX0_putAct_59 : decode cX0_putAct 59 = .ok (.aload_n 0, 1) := by decide +kernel
theorem dX0_putAct_60 : decode cX0_putAct 60 = .ok (.dup, 1) := by decide +kernel
theorem dX0_putAct_61 : decode cX0_putAct 61 = .ok (.getfield 32, 3) := by decide +kernel
theorem dX0_putAct_64 : decode cX0_putAct 64 = .ok (.iconst 1, 1) := by decide +kernel
theorem dX0_putAct_65 : decode cX0_putAct 65 = .ok (.iadd, 1) := by decide +kernel
theorem dX0_putAct_66 : decode cX0_putAct 66 = .ok (.putfield 32, 3) := by decide +kernel
theorem dX0_putAct_69 : decode cX0_putAct 69 = .ok (.return_, 1) := by decide +kernel
theorem dX0_run_0 : decode cX0_run 0 = .ok (.iconst 0, 1) := by decide +kernel
theorem dX0_run_1 : decode cX0_run 1 = .ok (.istore_n 2, 1) := by decide +kernel
theorem dX0_run_2 : decode cX0_run 2 = .ok (.iconst 0, 1) := by decide +kernel
theorem dX0_run_3 : decode cX0_run 3 = .ok (.istore_n 3, 1) := by decide +kernel
theorem dX0_run_4 : decode cX0_run 4 = .ok (.iconst 0, 1) := by decide +kernel
theorem dX0_run_5 : decode cX0_run 5 = .ok (.istore 4, 2) := by decide +kernel
theorem dX0_run_7 : decode cX0_run 7 = .ok (.iload 4, 2) := by decide +kernel
theorem dX0_run_9 : decode cX0_run 9 = .ok (.ldc 86, 2) := by decide +kernel
theorem dX0_run_11 : decode cX0_run 11 = .ok (.if_icmp .ge 92, 3) := by decide +kernel
theorem dX0_run_14 : decode cX0_run 14 = .ok (.iload_n 3, 1) := by decide +kernel
theorem dX0_run_15 : decode cX0_run 15 = .ok (.ifCond .lt 88, 3) := by decide +kernel
theorem dX0_run_18 : decode cX0_run 18 = .ok (.iload_n 3, 1) := by decide +kernel
theorem dX0_run_19 : decode cX0_run 19 = .ok (.aload_n 0, 1) := by decide +kernel
theorem dX0_run_20 : decode cX0_run 20 = .ok (.getfield 32, 3) := by decide +kernel
theorem dX0_run_23 : decode cX0_run 23 = .ok (.if_icmp .ge 80, 3) := by decide +kernel
theorem dX0_run_26 : decode cX0_run 26 = .ok (.aload_n 0, 1) := by decide +kernel
theorem dX0_run_27 : decode cX0_run 27 = .ok (.getfield 9, 3) := by decide +kernel
theorem dX0_run_30 : decode cX0_run 30 = .ok (.iload_n 3, 1) := by decide +kernel
theorem dX0_run_31 : decode cX0_run 31 = .ok (.iaload, 1) := by decide +kernel
theorem dX0_run_32 : decode cX0_run 32 = .ok (.bipush 93, 2) := by decide +kernel
theorem dX0_run_34 : decode cX0_run 34 = .ok (.if_icmp .ne 12, 3) := by decide +kernel
theorem dX0_run_37 : decode cX0_run 37 = .ok (.aload_n 0, 1) := by decide +kernel
theorem dX0_run_38 : decode cX0_run 38 = .ok (.iload_n 3, 1) := by decide +kernel
theorem dX0_run_39 : decode cX0_run 39 = .ok (.invokevirtual 87, 3) := by decide +kernel
theorem dX0_run_42 : decode cX0_run 42 = .ok (.istore_n 3, 1) := by decide +kernel
theorem dX0_run_43 : decode cX0_run 43 = .ok (.goto 54, 3) := by decide +kernel
theorem dX0_run_46 : decode cX0_run 46 = .ok (.aload_n 0, 1) := by decide +kernel
theorem dX0_run_47 : decode cX0_run 47 = .ok (.getfield 13, 3) := by decide +kernel
theorem dX0_run_50 : decode cX0_run 50 = .ok (.iload_n 3, 1) := by decide +kernel
theorem dX0_run_51 : decode cX0_run 51 = .ok (.iaload, 1) := by decide +kernel
theorem dX0_run_52 : decode cX0_run 52 = .ok (.sipush 500, 3) := by decide +kernel
theorem dX0_run_55 : decode cX0_run 55 = .ok (.iload_n 2, 1) := by decide +kernel
theorem dX0_run_56 : decode cX0_run 56 = .ok (.isub, 1) := by decide +kernel
theorem dX0_run_57 : decode cX0_run 57 = .ok (.invokestatic 71, 3) := by decide +kernel
theorem dX0_run_60 : decode cX0_run 60 = .ok (.istore 5, 2) := by decide +kernel
theorem dX0_run_62 : decode cX0_run 62 = .ok (.aload_n 1, 1) := by decide +kernel
theorem dX0_run_63 : decode cX0_run 63 = .ok (.aload_n 0, 1) := by decide +kernel
theorem dX0_run_64 : decode cX0_run 64 = .ok (.getfield 9, 3) := by decide +kernel
theorem dX0_run_67 : decode cX0_run 67 = .ok (.iload_n 3, 1) := by decide +kernel
theorem dX0_run_68 : decode cX0_run 68 = .ok (.iaload, 1) := by decide +kernel
theorem dX0_run_69 : decode cX0_run 69 = .ok (.iload 5, 2) := by decide +kernel
theorem dX0_run_71 : decode cX0_run 71 = .ok (.invokestatic 90, 3) := by decide +kernel
theorem dX0_run_74 : decode cX0_run 74 = .ok (.istore 6, 2) := by decide +kernel
theorem dX0_run_76 : decode cX0_run 76 = .ok (.iload_n 2, 1) := by decide +kernel
theorem dX0_run_77 : decode cX0_run 77 = .ok (.iload 6, 2) := by decide +kernel
theorem dX0_run_79 : decode cX0_run 79 = .ok (.iadd, 1) := by decide +kernel
theorem dX0_run_80 : decode cX0_run 80 = .ok (.istore_n 2, 1) := by decide +kernel
theorem dX0_run_81 : decode cX0_run 81 = .ok (.iload 6, 2) := by decide +kernel
theorem dX0_run_83 : decode cX0_run 83 = .ok (.aload_n 0, 1) := by decide +kernel
theorem dX0_run_84 : decode cX0_run 84 = .ok (.getfield 13, 3) := by decide +kernel
theorem dX0_run_87 : decode cX0_run 87 = .ok (.iload_n 3, 1) := by decide +kernel
theorem dX0_run_88 : decode cX0_run 88 = .ok (.iaload, 1) := by decide +kernel
theorem dX0_run_89 : decode cX0_run 89 = .ok (.if_icmp .ge 5, 3) := by decide +kernel
theorem dX0_run_92 : decode cX0_run 92 = .ok (.iload_n 2, 1) := by decide +kernel
theorem dX0_run_93 : decode cX0_run 93 = .ok (.ireturn, 1) := by decide +kernel
theorem dX0_run_94 : decode cX0_run 94 = .ok (.iinc 3 1, 3) := by decide +kernel
theorem dX0_run_97 : decode cX0_run 97 = .ok (.iinc 4 1, 3) := by decide +kernel
theorem dX0_run_100 : decode cX0_run 100 = .ok (.goto (-93), 3) := by decide +kernel
theorem dX0_run_103 : decode cX0_run 103 = .ok (.iload_n 2, 1) := by decide +kernel
theorem dX0_run_104 : decode cX0_run 104 = .ok (.ireturn, 1) := by decide +kernel
theorem dX0_afterBracket_0 : decode cX0_afterBracket 0 = .ok (.aload_n 0, 1) := by decide +kernel
theorem dX0_afterBracket_1 : decode cX0_afterBracket 1 = .ok (.getfield 19, 3) := by decide +kernel
theorem dX0_afterBracket_4 : decode cX0_afterBracket 4 = .ok (.iload_n 1, 1) := by decide +kernel
theorem dX0_afterBracket_5 : decode cX0_afterBracket 5 = .ok (.dup2, 1) := by decide +kernel
theorem dX0_afterBracket_6 : decode cX0_afterBracket 6 = .ok (.iaload, 1) := by decide +kernel
theorem dX0_afterBracket_7 : decode cX0_afterBracket 7 = .ok (.iconst 1, 1) := by decide +kernel
theorem dX0_afterBracket_8 : decode cX0_afterBracket 8 = .ok (.iadd, 1) := by decide +kernel
theorem dX0_afterBracket_9 : decode cX0_afterBracket 9 = .ok (.iastore, 1) := by decide +kernel
theorem dX0_afterBracket_10 : decode cX0_afterBracket 10 = .ok (.aload_n 0, 1) := by decide +kernel
theorem dX0_afterBracket_11 : decode cX0_afterBracket 11 = .ok (.getfield 19, 3) := by decide +kernel
theorem dX0_afterBracket_14 : decode cX0_afterBracket 14 = .ok (.iload_n 1, 1) := by decide +kernel
theorem dX0_afterBracket_15 : decode cX0_afterBracket 15 = .ok (.iaload, 1) := by decide +kernel
theorem dX0_afterBracket_16 : decode cX0_afterBracket 16 = .ok (.aload_n 0, 1) := by decide +kernel
theorem dX0_afterBracket_17 : decode cX0_afterBracket 17 = .ok (.getfield 13, 3) := by decide +kernel
theorem dX0_afterBracket_20 : decode cX0_afterBracket 20 = .ok (.iload_n 1, 1) := by decide +kernel
theorem dX0_afterBracket_21 : decode cX0_afterBracket 21 = .ok (.iaload, 1) := by decide +kernel
theorem dX0_afterBracket_22 : decode cX0_afterBracket 22 = .ok (.if_icmp .ge 10, 3) := by decide +kernel
theorem dX0_afterBracket_25 : decode cX0_afterBracket 25 = .ok (.aload_n 0, 1) := by decide +kernel
theorem dX0_afterBracket_26 : decode cX0_afterBracket 26 = .ok (.getfield 16, 3) := by decide +kernel
theorem dX0_afterBracket_29 : decode cX0_afterBracket 29 = .ok (.iload_n 1, 1) := by decide +kernel
theorem dX0_afterBracket_30 : decode cX0_afterBracket 30 = .ok (.iaload, 1) := by decide +kernel
theorem dX0_afterBracket_31 : decode cX0_afterBracket 31 = .ok (.ireturn, 1) := by decide +kernel
theorem dX0_afterBracket_32 : decode cX0_afterBracket 32 = .ok (.aload_n 0, 1) := by decide +kernel
theorem dX0_afterBracket_33 : decode cX0_afterBracket 33 = .ok (.getfield 19, 3) := by decide +kernel
theorem dX0_afterBracket_36 : decode cX0_afterBracket 36 = .ok (.iload_n 1, 1) := by decide +kernel
theorem dX0_afterBracket_37 : decode cX0_afterBracket 37 = .ok (.iconst 0, 1) := by decide +kernel
theorem dX0_afterBracket_38 : decode cX0_afterBracket 38 = .ok (.iastore, 1) := by decide +kernel
theorem dX0_afterBracket_39 : decode cX0_afterBracket 39 = .ok (.iload_n 1, 1) := by decide +kernel
theorem dX0_afterBracket_40 : decode cX0_afterBracket 40 = .ok (.iconst 1, 1) := by decide +kernel
theorem dX0_afterBracket_41 : decode cX0_afterBracket 41 = .ok (.iadd, 1) := by decide +kernel
theorem dX0_afterBracket_42 : decode cX0_afterBracket 42 = .ok (.ireturn, 1) := by decide +kernel
theorem dX0_doOften_0 : decode cX0_doOften 0 = .ok (.iconst 0, 1) := by decide +kernel
theorem dX0_doOften_1 : decode cX0_doOften 1 = .ok (.istore_n 3, 1) := by decide +kernel
theorem dX0_doOften_2 : decode cX0_doOften 2 = .ok (.iload_n 3, 1) := by decide +kernel
theorem dX0_doOften_3 : decode cX0_doOften 3 = .ok (.iload_n 2, 1) := by decide +kernel
theorem dX0_doOften_4 : decode cX0_doOften 4 = .ok (.if_icmp .ge 17, 3) := by decide +kernel
theorem dX0_doOften_7 : decode cX0_doOften 7 = .ok (.aload_n 0, 1) := by decide +kernel
theorem dX0_doOften_8 : decode cX0_doOften 8 = .ok (.iload_n 1, 1) := by decide +kernel
theorem dX0_doOften_9 : decode cX0_doOften 9 = .ok (.invokestatic 94, 3) := by decide +kernel
theorem dX0_doOften_12 : decode cX0_doOften 12 = .ok (.ifCond .eq 9, 3) := by decide +kernel
theorem dX0_doOften_15 : decode cX0_doOften 15 = .ok (.iinc 3 1, 3) := by decide +kernel
theorem dX0_doOften_18 : decode cX0_doOften 18 = .ok (.goto (-16), 3) := by decide +kernel
theorem dX0_doOften_21 : decode cX0_doOften 21 = .ok (.iload_n 3, 1) := by decide +kernel
theorem dX0_doOften_22 : decode cX0_doOften 22 = .ok (.ireturn, 1) := by decide +kernel
theorem dX0_doOnce_0 : decode cX0_doOnce 0 = .ok (.iload_n 1, 1) := by decide +kernel
theorem dX0_doOnce_1 : decode cX0_doOnce 1 = .ok (.lookupswitch 50 #[(108, 35), (114, 40), (117, 45)], 35) := by decide +kernel
theorem dX0_doOnce_36 : decode cX0_doOnce 36 = .ok (.aload_n 0, 1) := by decide +kernel
theorem dX0_doOnce_37 : decode cX0_doOnce 37 = .ok (.invokevirtual 98, 3) := by decide +kernel
theorem dX0_doOnce_40 : decode cX0_doOnce 40 = .ok (.ireturn, 1) := by decide +kernel
theorem dX0_doOnce_41 : decode cX0_doOnce 41 = .ok (.aload_n 0, 1) := by decide +kernel
theorem dX0_doOnce_42 : decode cX0_doOnce 42 = .ok (.invokevirtual 104, 3) := by decide +kernel
theorem dX0_doOnce_45 : decode cX0_doOnce 45 = .ok (.ireturn, 1) := by decide +kernel
theorem dX0_doOnce_46 : decode cX0_doOnce 46 = .ok (.aload_n 0, 1) := by decide +kernel
theorem dX0_doOnce_47 : decode cX0_doOnce 47 = .ok (.invokevirtual 107, 3) := by decide +kernel
theorem dX0_doOnce_50 : decode cX0_doOnce 50 = .ok (.ireturn, 1) := by decide +kernel
theorem dX0_doOnce_51 : decode cX0_doOnce 51 = .ok (.aload_n 0, 1) := by decide +kernel
theorem dX0_doOnce_52 : decode cX0_doOnce 52 = .ok (.invokevirtual 110, 3) := by decide +kernel
theorem dX0_doOnce_55 : decode cX0_doOnce 55 = .ok (.iconst 1, 1) := by decide +kernel
theorem dX0_doOnce_56 : decode cX0_doOnce 56 = .ok (.ireturn, 1) := by decide +kernel
theorem dX1_init_0 : decode cX1_init 0 = .ok (.aload_n 0, 1) := by decide +kernel
theorem dX1_init_1 : decode cX1_init 1 = .ok (.invokespecial 1, 3) := by decide +kernel
theorem dX1_init_4 : decode cX1_init 4 = .ok (.aload_n 0, 1) := by decide +kernel
theorem dX1_init_5 : decode cX1_init 5 = .ok (.ldc2_w 7, 3) := by decide +kernel
theorem dX1_init_8 : decode cX1_init 8 = .ok (.ldc2_w 9, 3) := by decide +kernel
theorem dX1_init_11 : decode cX1_init 11 = .ok (.invokevirtual 11, 3) := by decide +kernel
theorem dX1_init_14 : decode cX1_init 14 = .ok (.return_, 1) := by decide +kernel
theorem dX1_set_0 : decode cX1_set 0 = .ok (.lload_n 1, 1) := by decide +kernel
theorem dX1_set_1 : decode cX1_set 1 = .ok (.lconst 1, 1) := by decide +kernel
theorem dX1_set_2 : decode cX1_set 2 = .ok (.lcmp, 1) := by decide +kernel
theorem dX1_set_3 : decode cX1_set 3 = .ok (.ifCond .ge 4, 3) := by decide +kernel
theorem dX1_set_6 : decode cX1_set 6 = .ok (.return_, 1) := by decide +kernel
theorem dX1_set_7 : decode cX1_set 7 = .ok (.lload_n 3, 1) := by decide +kernel
theorem dX1_set_8 : decode cX1_set 8 = .ok (.lload_n 3, 1) := by decide +kernel
theorem dX1_set_9 : decode cX1_set 9 = .ok (.lmul, 1) := by decide +kernel
theorem dX1_set_10 : decode cX1_set 10 = .ok (.lconst 1, 1) := by decide +kernel
theorem dX1_set_11 : decode cX1_set 11 = .ok (.ladd, 1) := by decide +kernel
theorem dX1_set_12 : decode cX1_set 12 = .ok (.lload_n 1, 1) := by decide +kernel
theorem dX1_set_13 : decode cX1_set 13 = .ok (.ldiv, 1) := by decide +kernel
theorem dX1_set_14 : decode cX1_set 14 = .ok (.lstore 5, 2) := by decide +kernel
theorem dX1_set_16 : decode cX1_set 16 = .ok (.aload_n 0, 1) := by decide +kernel
theorem dX1_set_17 : decode cX1_set 17 = .ok (.lload_n 1, 1) := by decide +kernel
theorem dX1_set_18 : decode cX1_set 18 = .ok (.putfield 17, 3) := by decide +kernel
theorem dX1_set_21 : decode cX1_set 21 = .ok (.aload_n 0, 1) := by decide +kernel
theorem dX1_set_22 : decode cX1_set 22 = .ok (.ldc2_w 9, 3) := by decide +kernel
theorem dX1_set_25 : decode cX1_set 25 = .ok (.lload_n 1, 1) := by decide +kernel
theorem dX1_set_26 : decode cX1_set 26 = .ok (.lmul, 1) := by decide +kernel
theorem dX1_set_27 : decode cX1_set 27 = .ok (.ldc2_w 21, 3) := by decide +kernel
theorem dX1_set_30 : decode cX1_set 30 = .ok (.lload_n 3, 1) := by decide +kernel
theorem dX1_set_31 : decode cX1_set 31 = .ok (.lmul, 1) := by decide +kernel
theorem dX1_set_32 : decode cX1_set 32 = .ok (.lsub, 1) := by decide +kernel
theorem dX1_set_33 : decode cX1_set 33 = .ok (.putfield 23, 3) := by decide +kernel
theorem dX1_set_36 : decode cX1_set 36 = .ok (.aload_n 0, 1) := by decide +kernel
theorem dX1_set_37 : decode cX1_set 37 = .ok (.lload 5, 2) := by decide +kernel
theorem dX1_set_39 : decode cX1_set 39 = .ok (.ldc2_w 9, 3) := by decide +kernel
theorem dX1_set_42 : decode cX1_set 42 = .ok (.lload_n 3, 1) := by decide +kernel
theorem dX1_set_43 : decode cX1_set 43 = .ok (.lmul, 1) := by decide +kernel
theorem dX1_set_44 : decode cX1_set 44 = .ok (.lsub, 1) := by decide +kernel
theorem dX1_set_45 : decode cX1_set 45 = .ok (.putfield 26, 3) := by decide +kernel
theorem dX1_set_48 : decode cX1_set 48 = .ok (.aload_n 0, 1) := by decide +kernel
theorem dX1_set_49 : decode cX1_set 49 = .ok (.ldc2_w 29, 3) := by decide +kernel
theorem dX1_set_52 : decode cX1_set 52 = .ok (.lload_n 1, 1) := by decide +kernel
theorem dX1_set_53 : decode cX1_set 53 = .ok (.lmul, 1) := by decide +kernel
theorem dX1_set_54 : decode cX1_set 54 = .ok (.lload_n 1, 1) := by decide +kernel
theorem dX1_set_55 : decode cX1_set 55 = .ok (.lmul, 1) := by decide +kernel
theorem dX1_set_56 : decode cX1_set 56 = .ok (.ldc2_w 31, 3) := by decide +kernel
theorem dX1_set_59 : decode cX1_set 59 = .ok (.lsub, 1) := by decide +kernel
theorem dX1_set_60 : decode cX1_set 60 = .ok (.putfield 33, 3) := by decide +kernel
theorem dX1_set_63 : decode cX1_set 63 = .ok (.aload_n 0, 1) := by decide +kernel
theorem dX1_set_64 : decode cX1_set 64 = .ok (.ldc2_w 9, 3) := by decide +kernel
theorem dX1_set_67 : decode cX1_set 67 = .ok (.lload_n 1, 1) := by decide +kernel
theorem dX1_set_68 : decode cX1_set 68 = .ok (.lmul, 1) := by decide +kernel
theorem dX1_set_69 : decode cX1_set 69 = .ok (.lconst 1, 1) := by decide +kernel
theorem dX1_set_70 : decode cX1_set 70 = .ok (.lsub, 1) := by decide +kernel
theorem dX1_set_71 : decode cX1_set 71 = .ok (.putfield 36, 3) := by decide +kernel
theorem dX1_set_74 : decode cX1_set 74 = .ok (.return_, 1) := by decide +kernel
theorem dX1_coefficient_0 : decode cX1_coefficient 0 = .ok (.iload_n 1, 1) := by decide +kernel
theorem dX1_coefficient_1 : decode cX1_coefficient 1 = .ok (.ifCond .ne 8, 3) := by decide +kernel
theorem dX1_coefficient_4 : decode cX1_coefficient 4 = .ok (.aload_n 0, 1) := by decide +kernel
theorem dX1_coefficient_5 : decode cX1_coefficient 5 = .ok (.getfield 17, 3) := by decide +kernel
theorem dX1_coefficient_8 : decode cX1_coefficient 8 = .ok (.lreturn, 1) := by decide +kernel
theorem dX1_coefficient_9 : decode cX1_coefficient 9 = .ok (.iload_n 1, 1) := by decide +kernel
theorem dX1_coefficient_10 : decode cX1_coefficient 10 = .ok (.iconst 1, 1) := by decide +kernel
theorem dX1_coefficient_11 : decode cX1_coefficient 11 = .ok (.if_icmp .ne 10, 3) := by decide +kernel
theorem dX1_coefficient_14 : decode cX1_coefficient 14 = .ok (.aload_n 0, 1) := by decide +kernel
theorem dX1_coefficient_15 : decode cX1_coefficient 15 = .ok (.getfield 23, 3) := by decide +kernel
theorem dX1_coefficient_18 : decode cX1_coefficient 18 = .ok (.goto 7, 3) := by decide +kernel
theorem dX1_coefficient_21 : decode cX1_coefficient 21 = .ok (.aload_n 0, 1) := by decide +kernel
theorem dX1_coefficient_22 : decode cX1_coefficient 22 = .ok (.getfield 26, 3) := by decide +kernel
theorem dX1_coefficient_25 : decode cX1_coefficient 25 = .ok (.lreturn, 1) := by decide +kernel
theorem dX1_valueAt_0 : decode cX1_valueAt 0 = .ok (.aload_n 0, 1) := by decide +kernel
theorem dX1_valueAt_1 : decode cX1_valueAt 1 = .ok (.getfield 17, 3) := by decide +kernel
theorem dX1_valueAt_4 : decode cX1_valueAt 4 = .ok (.lload_n 1, 1) := by decide +kernel
theorem dX1_valueAt_5 : decode cX1_valueAt 5 = .ok (.lmul, 1) := by decide +kernel
theorem dX1_valueAt_6 : decode cX1_valueAt 6 = .ok (.lload_n 1, 1) := by decide +kernel
theorem dX1_valueAt_7 : decode cX1_valueAt 7 = .ok (.lmul, 1) := by decide +kernel
theorem dX1_valueAt_8 : decode cX1_valueAt 8 = .ok (.aload_n 0, 1) := by decide +kernel
theorem dX1_valueAt_9 : decode cX1_valueAt 9 = .ok (.getfield 23, 3) := by decide +kernel
theorem dX1_valueAt_12 : decode cX1_valueAt 12 = .ok (.lload_n 1, 1) := by decide +kernel
theorem dX1_valueAt_13 : decode cX1_valueAt 13 = .ok (.lmul, 1) := by decide +kernel
theorem dX1_valueAt_14 : decode cX1_valueAt 14 = .ok (.lload_n 3, 1) := by decide +kernel
theorem dX1_valueAt_15 : decode cX1_valueAt 15 = .ok (.lmul, 1) := by decide +kernel
theorem dX1_valueAt_16 : decode cX1_valueAt 16 = .ok (.ladd, 1) := by decide +kernel
theorem dX1_valueAt_17 : decode cX1_valueAt 17 = .ok (.aload_n 0, 1) := by decide +kernel
theorem dX1_valueAt_18 : decode cX1_valueAt 18 = .ok (.getfield 26, 3) := by decide +kernel
theorem dX1_valueAt_21 : decode cX1_valueAt 21 = .ok (.lload_n 3, 1) := by decide +kernel
theorem dX1_valueAt_22 : decode cX1_valueAt 22 = .ok (.lmul, 1) := by decide +kernel
theorem dX1_valueAt_23 : decode cX1_valueAt 23 = .ok (.lload_n 3, 1) := by decide +kernel
theorem dX1_valueAt_24 : decode cX1_valueAt 24 = .ok (.lmul, 1) := by decide +kernel
theorem dX1_valueAt_25 : decode cX1_valueAt 25 = .ok (.ladd, 1) := by decide +kernel
theorem dX1_valueAt_26 : decode cX1_valueAt 26 = .ok (.lreturn, 1) := by decide +kernel
theorem dX1_roundSize_0 : decode cX1_roundSize 0 = .ok (.aload_n 0, 1) := by decide +kernel
theorem dX1_roundSize_1 : decode cX1_roundSize 1 = .ok (.getfield 39, 3) := by decide +kernel
theorem dX1_roundSize_4 : decode cX1_roundSize 4 = .ok (.ireturn, 1) := by decide +kernel
theorem dX1_roundLeast_0 : decode cX1_roundLeast 0 = .ok (.aload_n 0, 1) := by decide +kernel
theorem dX1_roundLeast_1 : decode cX1_roundLeast 1 = .ok (.getfield 43, 3) := by decide +kernel
theorem dX1_roundLeast_4 : decode cX1_roundLeast 4 = .ok (.lreturn, 1) := by decide +kernel
theorem dX1_goRound_0 : decode cX1_goRound 0 = .ok (.aload_n 0, 1) := by decide +kernel
theorem dX1_goRound_1 : decode cX1_goRound 1 = .ok (.getfield 17, 3) := by decide +kernel
theorem dX1_goRound_4 : decode cX1_goRound 4 = .ok (.lstore_n 1, 1) := by decide +kernel
theorem dX1_goRound_5 : decode cX1_goRound 5 = .ok (.aload_n 0, 1) := by decide +kernel
theorem dX1_goRound_6 : decode cX1_goRound 6 = .ok (.getfield 23, 3) := by decide +kernel
theorem dX1_goRound_9 : decode cX1_goRound 9 = .ok (.lstore_n 3, 1) := by decide +kernel
theorem dX1_goRound_10 : decode cX1_goRound 10 = .ok (.aload_n 0, 1) := by decide +kernel
theorem dX1_goRound_11 : decode cX1_goRound 11 = .ok (.iconst 0, 1) := by decide +kernel
theorem dX1_goRound_12 : decode cX1_goRound 12 = .ok (.putfield 39, 3) := by decide +kernel
theorem dX1_goRound_15 : decode cX1_goRound 15 = .ok (.aload_n 0, 1) := by decide +kernel
theorem dX1_goRound_16 : decode cX1_goRound 16 = .ok (.aload_n 0, 1) := by decide +kernel
theorem dX1_goRound_17 : decode cX1_goRound 17 = .ok (.getfield 17, 3) := by decide +kernel
theorem dX1_goRound_20 : decode cX1_goRound 20 = .ok (.invokestatic 46, 3) := by decide +kernel
theorem dX1_goRound_23 : decode cX1_goRound 23 = .ok (.putfield 43, 3) := by decide +kernel
theorem dX1_goRound_26 : decode cX1_goRound 26 = .ok (.iconst 0, 1) := by decide +kernel
theorem dX1_goRound_27 : decode cX1_goRound 27 = .ok (.istore 5, 2) := by decide +kernel
theorem dX1_goRound_29 : decode cX1_goRound 29 = .ok (.iload 5, 2) := by decide +kernel
theorem dX1_goRound_31 : decode cX1_goRound 31 = .ok (.ldc 52, 2) := by decide +kernel
theorem dX1_goRound_33 : decode cX1_goRound 33 = .ok (.if_icmp .ge 60, 3) := by decide +kernel
theorem dX1_goRound_36 : decode cX1_goRound 36 = .ok (.aload_n 0, 1) := by decide +kernel
theorem dX1_goRound_37 : decode cX1_goRound 37 = .ok (.aload_n 0, 1) := by decide +kernel
theorem dX1_goRound_38 : decode cX1_goRound 38 = .ok (.getfield 43, 3) := by decide +kernel
theorem dX1_goRound_41 : decode cX1_goRound 41 = .ok (.aload_n 0, 1) := by decide +kernel
theorem dX1_goRound_42 : decode cX1_goRound 42 = .ok (.getfield 17, 3) := by decide +kernel
theorem dX1_goRound_45 : decode cX1_goRound 45 = .ok (.invokestatic 46, 3) := by decide +kernel
theorem dX1_goRound_48 : decode cX1_goRound 48 = .ok (.invokestatic 53, 3) := by decide +kernel
theorem dX1_goRound_51 : decode cX1_goRound 51 = .ok (.putfield 43, 3) := by decide +kernel
theorem dX1_goRound_54 : decode cX1_goRound 54 = .ok (.aload_n 0, 1) := by decide +kernel
theorem dX1_goRound_55 : decode cX1_goRound 55 = .ok (.invokevirtual 57, 3) := by decide +kernel
theorem dX1_goRound_58 : decode cX1_goRound 58 = .ok (.aload_n 0, 1) := by decide +kernel
theorem dX1_goRound_59 : decode cX1_goRound 59 = .ok (.dup, 1) := by decide +kernel
theorem dX1_goRound_60 : decode cX1_goRound 60 = .ok (.getfield 39, 3) := by decide +kernel
theorem dX1_goRound_63 : decode cX1_goRound 63 = .ok (.iconst 1, 1) := by decide +kernel
theorem dX1_goRound_64 : decode cX1_goRound 64 = .ok (.iadd, 1) := by decide +kernel
theorem dX1_goRound_65 : decode cX1_goRound 65 = .ok (.putfield 39, 3) := by decide +kernel
theorem dX1_goRound_68 : decode cX1_goRound 68 = .ok (.aload_n 0, 1) := by decide +kernel
theorem dX1_goRound_69 : decode cX1_goRound 69 = .ok (.getfield 17, 3) := by decide +kernel
theorem dX1_goRound_72 : decode cX1_goRound 72 = .ok (.lload_n 1, 1) := by decide +kernel
theorem dX1_goRound_73 : decode cX1_goRound 73 = .ok (.lcmp, 1) := by decide +kernel
theorem dX1_goRound_74 : decode cX1_goRound 74 = .ok (.ifCond .ne 13, 3) := by decide +kernel
theorem dX1_goRound_77 : decode cX1_goRound 77 = .ok (.aload_n 0, 1) := by decide +kernel
theorem dX1_goRound_78 : decode cX1_goRound 78 = .ok (.getfield 23, 3) := by decide +kernel
theorem dX1_goRound_81 : decode cX1_goRound 81 = .ok (.lload_n 3, 1) := by decide +kernel
theorem dX1_goRound_82 : decode cX1_goRound 82 = .ok (.lcmp, 1) := by decide +kernel
theorem dX1_goRound_83 : decode cX1_goRound 83 = .ok (.ifCond .ne 4, 3) := by decide +kernel
theorem dX1_goRound_86 : decode cX1_goRound 86 = .ok (.return_, 1) := by decide +kernel
theorem dX1_goRound_87 : decode cX1_goRound 87 = .ok (.iinc 5 1, 3) := by decide +kernel
theorem dX1_goRound_90 : decode cX1_goRound 90 = .ok (.goto (-61), 3) := by decide +kernel
theorem dX1_goRound_93 : decode cX1_goRound 93 = .ok (.return_, 1) := by decide +kernel
theorem dX1_goToNext_0 : decode cX1_goToNext 0 = .ok (.ldc2_w 21, 3) := by decide +kernel
theorem dX1_goToNext_3 : decode cX1_goToNext 3 = .ok (.aload_n 0, 1) := by decide +kernel
theorem dX1_goToNext_4 : decode cX1_goToNext 4 = .ok (.getfield 26, 3) := by decide +kernel
theorem dX1_goToNext_7 : decode cX1_goToNext 7 = .ok (.invokestatic 46, 3) := by decide +kernel
theorem dX1_goToNext_10 : decode cX1_goToNext 10 = .ok (.lmul, 1) := by decide +kernel
theorem dX1_goToNext_11 : decode cX1_goToNext 11 = .ok (.lstore_n 1, 1) := by decide +kernel
theorem dX1_goToNext_12 : decode cX1_goToNext 12 = .ok (.lload_n 1, 1) := by decide +kernel
theorem dX1_goToNext_13 : decode cX1_goToNext 13 = .ok (.lconst 0, 1) := by decide +kernel
theorem dX1_goToNext_14 : decode cX1_goToNext 14 = .ok (.lcmp, 1) := by decide +kernel
theorem dX1_goToNext_15 : decode cX1_goToNext 15 = .ok (.ifCond .ne 4, 3) := by decide +kernel
theorem dX1_goToNext_18 : decode cX1_goToNext 18 = .ok (.return_, 1) := by decide +kernel
theorem dX1_goToNext_19 : decode cX1_goToNext 19 = .ok (.aload_n 0, 1) := by decide +kernel
theorem dX1_goToNext_20 : decode cX1_goToNext 20 = .ok (.getfield 36, 3) := by decide +kernel
theorem dX1_goToNext_23 : decode cX1_goToNext 23 = .ok (.aload_n 0, 1) := by decide +kernel
theorem dX1_goToNext_24 : decode cX1_goToNext 24 = .ok (.getfield 36, 3) := by decide +kernel
theorem dX1_goToNext_27 : decode cX1_goToNext 27 = .ok (.aload_n 0, 1) := by decide +kernel
theorem dX1_goToNext_28 : decode cX1_goToNext 28 = .ok (.getfield 23, 3) := by decide +kernel
theorem dX1_goToNext_31 : decode cX1_goToNext 31 = .ok (.ladd, 1) := by decide +kernel
theorem dX1_goToNext_32 : decode cX1_goToNext 32 = .ok (.lload_n 1, 1) := by decide +kernel
theorem dX1_goToNext_33 : decode cX1_goToNext 33 = .ok (.invokestatic 60, 3) := by decide +kernel
theorem dX1_goToNext_36 : decode cX1_goToNext 36 = .ok (.lsub, 1) := by decide +kernel
theorem dX1_goToNext_37 : decode cX1_goToNext 37 = .ok (.lstore_n 3, 1) := by decide +kernel
theorem dX1_goToNext_38 : decode cX1_goToNext 38 = .ok (.lload_n 3, 1) := by decide +kernel
theorem dX1_goToNext_39 : decode cX1_goToNext 39 = .ok (.lload_n 3, 1) := by decide +kernel
theorem dX1_goToNext_40 : decode cX1_goToNext 40 = .ok (.lmul, 1) := by decide +kernel
theorem dX1_goToNext_41 : decode cX1_goToNext 41 = .ok (.aload_n 0, 1) := by decide +kernel
theorem dX1_goToNext_42 : decode cX1_goToNext 42 = .ok (.getfield 33, 3) := by decide +kernel
theorem dX1_goToNext_45 : decode cX1_goToNext 45 = .ok (.lsub, 1) := by decide +kernel
theorem dX1_goToNext_46 : decode cX1_goToNext 46 = .ok (.ldc2_w 31, 3) := by decide +kernel
theorem dX1_goToNext_49 : decode cX1_goToNext 49 = .ok (.aload_n 0, 1) := by decide +kernel
theorem dX1_goToNext_50 : decode cX1_goToNext 50 = .ok (.getfield 26, 3) := by decide +kernel
theorem dX1_goToNext_53 : decode cX1_goToNext 53 = .ok (.lmul, 1) := by decide +kernel
theorem dX1_goToNext_54 : decode cX1_goToNext 54 = .ok (.ldiv, 1) := by decide +kernel
theorem dX1_goToNext_55 : decode cX1_goToNext 55 = .ok (.lstore 5, 2) := by decide +kernel
theorem dX1_goToNext_57 : decode cX1_goToNext 57 = .ok (.aload_n 0, 1) := by decide +kernel
theorem dX1_goToNext_58 : decode cX1_goToNext 58 = .ok (.aload_n 0, 1) := by decide +kernel
theorem dX1_goToNext_59 : decode cX1_goToNext 59 = .ok (.getfield 26, 3) := by decide +kernel
theorem dX1_goToNext_62 : decode cX1_goToNext 62 = .ok (.putfield 17, 3) := by decide +kernel
theorem dX1_goToNext_65 : decode cX1_goToNext 65 = .ok (.aload_n 0, 1) := by decide +kernel
theorem dX1_goToNext_66 : decode cX1_goToNext 66 = .ok (.lload_n 3, 1) := by decide +kernel
theorem dX1_goToNext_67 : decode cX1_goToNext 67 = .ok (.putfield 23, 3) := by decide +kernel
theorem dX1_goToNext_70 : decode cX1_goToNext 70 = .ok (.aload_n 0, 1) := by decide +kernel
theorem dX1_goToNext_71 : decode cX1_goToNext 71 = .ok (.lload 5, 2) := by decide +kernel
theorem dX1_goToNext_73 : decode cX1_goToNext 73 = .ok (.putfield 26, 3) := by decide +kernel
theorem dX1_goToNext_76 : decode cX1_goToNext 76 = .ok (.return_, 1) := by decide +kernel
theorem dX2_init_0 : decode cX2_init 0 = .ok (.aload_n 0, 1) := by decide +kernel
theorem dX2_init_1 : decode cX2_init 1 = .ok (.invokespecial 3, 3) := by decide +kernel
theorem dX2_init_4 : decode cX2_init 4 = .ok (.aload_n 0, 1) := by decide +kernel
theorem dX2_init_5 : decode cX2_init 5 = .ok (.bipush 9, 2) := by decide +kernel
theorem dX2_init_7 : decode cX2_init 7 = .ok (.anewarray 11, 3) := by decide +kernel
theorem dX2_init_10 : decode cX2_init 10 = .ok (.putfield 13, 3) := by decide +kernel
theorem dX2_init_13 : decode cX2_init 13 = .ok (.iconst 0, 1) := by decide +kernel
theorem dX2_init_14 : decode cX2_init 14 = .ok (.istore_n 1, 1) := by decide +kernel
theorem dX2_init_15 : decode cX2_init 15 = .ok (.iload_n 1, 1) := by decide +kernel
theorem dX2_init_16 : decode cX2_init 16 = .ok (.bipush 9, 2) := by decide +kernel
theorem dX2_init_18 : decode cX2_init 18 = .ok (.if_icmp .ge 22, 3) := by decide +kernel
theorem dX2_init_21 : decode cX2_init 21 = .ok (.aload_n 0, 1) := by decide +kernel
theorem dX2_init_22 : decode cX2_init 22 = .ok (.getfield 13, 3) := by decide +kernel
theorem dX2_init_25 : decode cX2_init 25 = .ok (.iload_n 1, 1) := by decide +kernel
theorem dX2_init_26 : decode cX2_init 26 = .ok (.new 11, 3) := by decide +kernel
theorem dX2_init_29 : decode cX2_init 29 = .ok (.dup, 1) := by decide +kernel
theorem dX2_init_30 : decode cX2_init 30 = .ok (.invokespecial 17, 3) := by decide +kernel
theorem dX2_init_33 : decode cX2_init 33 = .ok (.aastore, 1) := by decide +kernel
theorem dX2_init_34 : decode cX2_init 34 = .ok (.iinc 1 1, 3) := by decide +kernel
theorem dX2_init_37 : decode cX2_init 37 = .ok (.goto (-22), 3) := by decide +kernel
theorem dX2_init_40 : decode cX2_init 40 = .ok (.aload_n 0, 1) := by decide +kernel
theorem dX2_init_41 : decode cX2_init 41 = .ok (.iconst 0, 1) := by decide +kernel
theorem dX2_init_42 : decode cX2_init 42 = .ok (.putfield 18, 3) := by decide +kernel
theorem dX2_init_45 : decode cX2_init 45 = .ok (.aload_n 0, 1) := by decide +kernel
theorem dX2_init_46 : decode cX2_init 46 = .ok (.iconst 0, 1) := by decide +kernel
theorem dX2_init_47 : decode cX2_init 47 = .ok (.putfield 22, 3) := by decide +kernel
theorem dX2_init_50 : decode cX2_init 50 = .ok (.return_, 1) := by decide +kernel
theorem dX2_size_0 : decode cX2_size 0 = .ok (.aload_n 0, 1) := by decide +kernel
theorem dX2_size_1 : decode cX2_size 1 = .ok (.getfield 22, 3) := by decide +kernel
theorem dX2_size_4 : decode cX2_size 4 = .ok (.ireturn, 1) := by decide +kernel
theorem dX2_note_0 : decode cX2_note 0 = .ok (.aload_n 0, 1) := by decide +kernel
theorem dX2_note_1 : decode cX2_note 1 = .ok (.getfield 13, 3) := by decide +kernel
theorem dX2_note_4 : decode cX2_note 4 = .ok (.aload_n 0, 1) := by decide +kernel
theorem dX2_note_5 : decode cX2_note 5 = .ok (.getfield 18, 3) := by decide +kernel
theorem dX2_note_8 : decode cX2_note 8 = .ok (.aaload, 1) := by decide +kernel
theorem dX2_note_9 : decode cX2_note 9 = .ok (.aload_n 1, 1) := by decide +kernel
theorem dX2_note_10 : decode cX2_note 10 = .ok (.invokevirtual 25, 3) := by decide +kernel
theorem dX2_note_13 : decode cX2_note 13 = .ok (.return_, 1) := by decide +kernel
theorem dX2_keep_0 : decode cX2_keep 0 = .ok (.aload_n 0, 1) := by decide +kernel
theorem dX2_keep_1 : decode cX2_keep 1 = .ok (.aload_n 0, 1) := by decide +kernel
theorem dX2_keep_2 : decode cX2_keep 2 = .ok (.getfield 18, 3) := by decide +kernel
theorem dX2_keep_5 : decode cX2_keep 5 = .ok (.iconst 1, 1) := by decide +kernel
theorem dX2_keep_6 : decode cX2_keep 6 = .ok (.iadd, 1) := by decide +kernel
theorem dX2_keep_7 : decode cX2_keep 7 = .ok (.bipush 9, 2) := by decide +kernel
theorem dX2_keep_9 : decode cX2_keep 9 = .ok (.irem, 1) := by decide +kernel
theorem dX2_keep_10 : decode cX2_keep 10 = .ok (.putfield 18, 3) := by decide +kernel
theorem dX2_keep_13 : decode cX2_keep 13 = .ok (.aload_n 0, 1) := by decide +kernel
theorem dX2_keep_14 : decode cX2_keep 14 = .ok (.aload_n 0, 1) := by decide +kernel
theorem dX2_keep_15 : decode cX2_keep 15 = .ok (.getfield 22, 3) := by decide +kernel
theorem dX2_keep_18 : decode cX2_keep 18 = .ok (.iconst 1, 1) := by decide +kernel
theorem dX2_keep_19 : decode cX2_keep 19 = .ok (.iadd, 1) := by decide +kernel
theorem dX2_keep_20 : decode cX2_keep 20 = .ok (.bipush 8, 2) := by decide +kernel
theorem dX2_keep_22 : decode cX2_keep 22 = .ok (.invokestatic 29, 3) := by decide +kernel
theorem dX2_keep_25 : decode cX2_keep 25 = .ok (.putfield 22, 3) := by decide +kernel
theorem dX2_keep_28 : decode cX2_keep 28 = .ok (.return_, 1) := by decide +kernel
theorem dX2_takeBack_0 : decode cX2_takeBack 0 = .ok (.aload_n 0, 1) := by decide +kernel
theorem dX2_takeBack_1 : decode cX2_takeBack 1 = .ok (.getfield 22, 3) := by decide +kernel
theorem dX2_takeBack_4 : decode cX2_takeBack 4 = .ok (.ifCond .ne 5, 3) := by decide +kernel
theorem dX2_takeBack_7 : decode cX2_takeBack 7 = .ok (.iconst 0, 1) := by decide +kernel
theorem dX2_takeBack_8 : decode cX2_takeBack 8 = .ok (.ireturn, 1) := by decide +kernel
theorem dX2_takeBack_9 : decode cX2_takeBack 9 = .ok (.aload_n 0, 1) := by decide +kernel
theorem dX2_takeBack_10 : decode cX2_takeBack 10 = .ok (.aload_n 0, 1) := by decide +kernel
theorem dX2_takeBack_11 : decode cX2_takeBack 11 = .ok (.getfield 18, 3) := by decide +kernel
theorem dX2_takeBack_14 : decode cX2_takeBack 14 = .ok (.bipush 9, 2) := by decide +kernel
theorem dX2_takeBack_16 : decode cX2_takeBack 16 = .ok (.iadd, 1) := by decide +kernel
theorem dX2_takeBack_17 : decode cX2_takeBack 17 = .ok (.iconst 1, 1) := by decide +kernel
theorem dX2_takeBack_18 : decode cX2_takeBack 18 = .ok (.isub, 1) := by decide +kernel
theorem dX2_takeBack_19 : decode cX2_takeBack 19 = .ok (.bipush 9, 2) := by decide +kernel
theorem dX2_takeBack_21 : decode cX2_takeBack 21 = .ok (.irem, 1) := by decide +kernel
theorem dX2_takeBack_22 : decode cX2_takeBack 22 = .ok (.putfield 18, 3) := by decide +kernel
theorem dX2_takeBack_25 : decode cX2_takeBack 25 = .ok (.aload_n 0, 1) := by decide +kernel
theorem dX2_takeBack_26 : decode cX2_takeBack 26 = .ok (.dup, 1) := by decide +kernel
theorem dX2_takeBack_27 : decode cX2_takeBack 27 = .ok (.getfield 22, 3) := by decide +kernel
theorem dX2_takeBack_30 : decode cX2_takeBack 30 = .ok (.iconst 1, 1) := by decide +kernel
theorem dX2_takeBack_31 : decode cX2_takeBack 31 = .ok (.isub, 1) := by decide +kernel
theorem dX2_takeBack_32 : decode cX2_takeBack 32 = .ok (.putfield 22, 3) := by decide +kernel
theorem dX2_takeBack_35 : decode cX2_takeBack 35 = .ok (.aload_n 1, 1) := by decide +kernel
theorem dX2_takeBack_36 : decode cX2_takeBack 36 = .ok (.aload_n 0, 1) := by decide +kernel
theorem dX2_takeBack_37 : decode cX2_takeBack 37 = .ok (.getfield 13, 3) := by decide +kernel
theorem dX2_takeBack_40 : decode cX2_takeBack 40 = .ok (.aload_n 0, 1) := by decide +kernel
theorem dX2_takeBack_41 : decode cX2_takeBack 41 = .ok (.getfield 18, 3) := by decide +kernel
theorem dX2_takeBack_44 : decode cX2_takeBack 44 = .ok (.aaload, 1) := by decide +kernel
theorem dX2_takeBack_45 : decode cX2_takeBack 45 = .ok (.invokevirtual 25, 3) := by decide +kernel
theorem dX2_takeBack_48 : decode cX2_takeBack 48 = .ok (.iconst 1, 1) := by decide +kernel
theorem dX2_takeBack_49 : decode cX2_takeBack 49 = .ok (.ireturn, 1) := by decide +kernel
theorem dX2_forget_0 : decode cX2_forget 0 = .ok (.aload_n 0, 1) := by decide +kernel
theorem dX2_forget_1 : decode cX2_forget 1 = .ok (.iconst 0, 1) := by decide +kernel
theorem dX2_forget_2 : decode cX2_forget 2 = .ok (.putfield 22, 3) := by decide +kernel
theorem dX2_forget_5 : decode cX2_forget 5 = .ok (.return_, 1) := by decide +kernel
theorem dX3_init_0 : decode cX3_init 0 = .ok (.aload_n 0, 1) := by decide +kernel
theorem dX3_init_1 : decode cX3_init 1 = .ok (.invokespecial 3, 3) := by decide +kernel
theorem dX3_init_4 : decode cX3_init 4 = .ok (.aload_n 0, 1) := by decide +kernel
theorem dX3_init_5 : decode cX3_init 5 = .ok (.bipush 16, 2) := by decide +kernel
theorem dX3_init_7 : decode cX3_init 7 = .ok (.newarray .long, 2) := by decide +kernel
theorem dX3_init_9 : decode cX3_init 9 = .ok (.putfield 9, 3) := by decide +kernel
theorem dX3_init_12 : decode cX3_init 12 = .ok (.aload_n 0, 1) := by decide +kernel
theorem dX3_init_13 : decode cX3_init 13 = .ok (.bipush 16, 2) := by decide +kernel
theorem dX3_init_15 : decode cX3_init 15 = .ok (.newarray .int, 2) := by decide +kernel
theorem dX3_init_17 : decode cX3_init 17 = .ok (.putfield 15, 3) := by decide +kernel
theorem dX3_init_20 : decode cX3_init 20 = .ok (.aload_n 0, 1) := by decide +kernel
theorem dX3_init_21 : decode cX3_init 21 = .ok (.bipush 16, 2) := by decide +kernel
theorem dX3_init_23 : decode cX3_init 23 = .ok (.newarray .int, 2) := by decide +kernel
theorem dX3_init_25 : decode cX3_init 25 = .ok (.putfield 19, 3) := by decide +kernel
theorem dX3_init_28 : decode cX3_init 28 = .ok (.aload_n 0, 1) := by decide +kernel
theorem dX3_init_29 : decode cX3_init 29 = .ok (.iconst 0, 1) := by decide +kernel
theorem dX3_init_30 : decode cX3_init 30 = .ok (.putfield 22, 3) := by decide +kernel
theorem dX3_init_33 : decode cX3_init 33 = .ok (.return_, 1) := by decide +kernel
theorem dX3_copyFrom_0 : decode cX3_copyFrom 0 = .ok (.aload_n 0, 1) := by decide +kernel
theorem dX3_copyFrom_1 : decode cX3_copyFrom 1 = .ok (.aload_n 1, 1) := by decide +kernel
theorem dX3_copyFrom_2 : decode cX3_copyFrom 2 = .ok (.getfield 22, 3) := by decide +kernel
theorem dX3_copyFrom_5 : decode cX3_copyFrom 5 = .ok (.putfield 22, 3) := by decide +kernel
theorem dX3_copyFrom_8 : decode cX3_copyFrom 8 = .ok (.iconst 0, 1) := by decide +kernel
theorem dX3_copyFrom_9 : decode cX3_copyFrom 9 = .ok (.istore_n 2, 1) := by decide +kernel
theorem dX3_copyFrom_10 : decode cX3_copyFrom 10 = .ok (.iload_n 2, 1) := by decide +kernel
theorem dX3_copyFrom_11 : decode cX3_copyFrom 11 = .ok (.aload_n 0, 1) := by decide +kernel
theorem dX3_copyFrom_12 : decode cX3_copyFrom 12 = .ok (.getfield 22, 3) := by decide +kernel
theorem dX3_copyFrom_15 : decode cX3_copyFrom 15 = .ok (.if_icmp .ge 16, 3) := by decide +kernel
theorem dX3_copyFrom_18 : decode cX3_copyFrom 18 = .ok (.aload_n 0, 1) := by decide +kernel
theorem dX3_copyFrom_19 : decode cX3_copyFrom 19 = .ok (.aload_n 1, 1) := by decide +kernel
theorem dX3_copyFrom_20 : decode cX3_copyFrom 20 = .ok (.iload_n 2, 1) := by decide +kernel
theorem dX3_copyFrom_21 : decode cX3_copyFrom 21 = .ok (.iload_n 2, 1) := by decide +kernel
theorem dX3_copyFrom_22 : decode cX3_copyFrom 22 = .ok (.invokevirtual 26, 3) := by decide +kernel
theorem dX3_copyFrom_25 : decode cX3_copyFrom 25 = .ok (.iinc 2 1, 3) := by decide +kernel
theorem dX3_copyFrom_28 : decode cX3_copyFrom 28 = .ok (.goto (-18), 3) := by decide +kernel
theorem dX3_copyFrom_31 : decode cX3_copyFrom 31 = .ok (.return_, 1) := by decide +kernel
theorem dX3_copyRow_0 : decode cX3_copyRow 0 = .ok (.aload_n 0, 1) := by decide +kernel
theorem dX3_copyRow_1 : decode cX3_copyRow 1 = .ok (.getfield 9, 3) := by decide +kernel
theorem dX3_copyRow_4 : decode cX3_copyRow 4 = .ok (.iload_n 3, 1) := by decide +kernel
theorem dX3_copyRow_5 : decode cX3_copyRow 5 = .ok (.aload_n 1, 1) := by decide +kernel
theorem dX3_copyRow_6 : decode cX3_copyRow 6 = .ok (.getfield 9, 3) := by decide +kernel
theorem dX3_copyRow_9 : decode cX3_copyRow 9 = .ok (.iload_n 2, 1) := by decide +kernel
theorem dX3_copyRow_10 : decode cX3_copyRow 10 = .ok (.laload, 1) := by decide +kernel
theorem dX3_copyRow_11 : decode cX3_copyRow 11 = .ok (.lastore, 1) := by decide +kernel
theorem dX3_copyRow_12 : decode cX3_copyRow 12 = .ok (.aload_n 0, 1) := by decide +kernel
theorem dX3_copyRow_13 : decode cX3_copyRow 13 = .ok (.getfield 15, 3) := by decide +kernel
theorem dX3_copyRow_16 : decode cX3_copyRow 16 = .ok (.iload_n 3, 1) := by decide +kernel
theorem dX3_copyRow_17 : decode cX3_copyRow 17 = .ok (.aload_n 1, 1) := by decide +kernel
theorem dX3_copyRow_18 : decode cX3_copyRow 18 = .ok (.getfield 15, 3) := by decide +kernel
theorem dX3_copyRow_21 : decode cX3_copyRow 21 = .ok (.iload_n 2, 1) := by decide +kernel
theorem dX3_copyRow_22 : decode cX3_copyRow 22 = .ok (.iaload, 1) := by decide +kernel
theorem dX3_copyRow_23 : decode cX3_copyRow 23 = .ok (.iastore, 1) := by decide +kernel
theorem dX3_copyRow_24 : decode cX3_copyRow 24 = .ok (.aload_n 0, 1) := by decide +kernel
theorem dX3_copyRow_25 : decode cX3_copyRow 25 = .ok (.getfield 19, 3) := by decide +kernel
theorem dX3_copyRow_28 : decode cX3_copyRow 28 = .ok (.iload_n 3, 1) := by decide +kernel
theorem dX3_copyRow_29 : decode cX3_copyRow 29 = .ok (.aload_n 1, 1) := by decide +kernel
theorem dX3_copyRow_30 : decode cX3_copyRow 30 = .ok (.getfield 19, 3) := by decide +kernel
theorem dX3_copyRow_33 : decode cX3_copyRow 33 = .ok (.iload_n 2, 1) := by decide +kernel
theorem dX3_copyRow_34 : decode cX3_copyRow 34 = .ok (.iaload, 1) := by decide +kernel
theorem dX3_copyRow_35 : decode cX3_copyRow 35 = .ok (.iastore, 1) := by decide +kernel
theorem dX3_copyRow_36 : decode cX3_copyRow 36 = .ok (.return_, 1) := by decide +kernel
theorem dX3_size_0 : decode cX3_size 0 = .ok (.aload_n 0, 1) := by decide +kernel
theorem dX3_size_1 : decode cX3_size 1 = .ok (.getfield 22, 3) := by decide +kernel
theorem dX3_size_4 : decode cX3_size 4 = .ok (.ireturn, 1) := by decide +kernel
theorem dX3_isFull_0 : decode cX3_isFull 0 = .ok (.aload_n 0, 1) := by decide +kernel
theorem dX3_isFull_1 : decode cX3_isFull 1 = .ok (.getfield 22, 3) := by decide +kernel
theorem dX3_isFull_4 : decode cX3_isFull 4 = .ok (.bipush 16, 2) := by decide +kernel
theorem dX3_isFull_6 : decode cX3_isFull 6 = .ok (.if_icmp .lt 7, 3) := by decide +kernel
theorem dX3_isFull_9 : decode cX3_isFull 9 = .ok (.iconst 1, 1) := by decide +kernel
theorem dX3_isFull_10 : decode cX3_isFull 10 = .ok (.goto 4, 3) := by decide +kernel
theorem dX3_isFull_13 : decode cX3_isFull 13 = .ok (.iconst 0, 1) := by decide +kernel
theorem dX3_isFull_14 : decode cX3_isFull 14 = .ok (.ireturn, 1) := by decide +kernel
theorem dX3_has_0 : decode cX3_has 0 = .ok (.iload_n 1, 1) := by decide +kernel
theorem dX3_has_1 : decode cX3_has 1 = .ok (.ifCond .lt 15, 3) := by decide +kernel
theorem dX3_has_4 : decode cX3_has 4 = .ok (.iload_n 1, 1) := by decide +kernel
theorem dX3_has_5 : decode cX3_has 5 = .ok (.aload_n 0, 1) := by decide +kernel
theorem dX3_has_6 : decode cX3_has 6 = .ok (.getfield 22, 3) := by decide +kernel
theorem dX3_has_9 : decode cX3_has 9 = .ok (.if_icmp .ge 7, 3) := by decide +kernel
theorem dX3_has_12 : decode cX3_has 12 = .ok (.iconst 1, 1) := by decide +kernel
theorem dX3_has_13 : decode cX3_has 13 = .ok (.goto 4, 3) := by decide +kernel
theorem dX3_has_16 : decode cX3_has 16 = .ok (.iconst 0, 1) := by decide +kernel
theorem dX3_has_17 : decode cX3_has 17 = .ok (.ireturn, 1) := by decide +kernel
theorem dX3_numberAt_0 : decode cX3_numberAt 0 = .ok (.aload_n 0, 1) := by decide +kernel
theorem dX3_numberAt_1 : decode cX3_numberAt 1 = .ok (.iload_n 1, 1) := by decide +kernel
theorem dX3_numberAt_2 : decode cX3_numberAt 2 = .ok (.invokevirtual 30, 3) := by decide +kernel
theorem dX3_numberAt_5 : decode cX3_numberAt 5 = .ok (.ifCond .eq 12, 3) := by decide +kernel
theorem dX3_numberAt_8 : decode cX3_numberAt 8 = .ok (.aload_n 0, 1) := by decide +kernel
theorem dX3_numberAt_9 : decode cX3_numberAt 9 = .ok (.getfield 9, 3) := by decide +kernel
theorem dX3_numberAt_12 : decode cX3_numberAt 12 = .ok (.iload_n 1, 1) := by decide +kernel
theorem dX3_numberAt_13 : decode cX3_numberAt 13 = .ok (.laload, 1) := by decide +kernel
theorem dX3_numberAt_14 : decode cX3_numberAt 14 = .ok (.goto 6, 3) := by decide +kernel
theorem dX3_numberAt_17 : decode cX3_numberAt 17 = .ok (.ldc2_w 34, 3) := by decide +kernel
theorem dX3_numberAt_20 : decode cX3_numberAt 20 = .ok (.lreturn, 1) := by decide +kernel
theorem dX3_pAt_0 : decode cX3_pAt 0 = .ok (.aload_n 0, 1) := by decide +kernel
theorem dX3_pAt_1 : decode cX3_pAt 1 = .ok (.iload_n 1, 1) := by decide +kernel
theorem dX3_pAt_2 : decode cX3_pAt 2 = .ok (.invokevirtual 30, 3) := by decide +kernel
theorem dX3_pAt_5 : decode cX3_pAt 5 = .ok (.ifCond .eq 12, 3) := by decide +kernel
theorem dX3_pAt_8 : decode cX3_pAt 8 = .ok (.aload_n 0, 1) := by decide +kernel
theorem dX3_pAt_9 : decode cX3_pAt 9 = .ok (.getfield 15, 3) := by decide +kernel
theorem dX3_pAt_12 : decode cX3_pAt 12 = .ok (.iload_n 1, 1) := by decide +kernel
theorem dX3_pAt_13 : decode cX3_pAt 13 = .ok (.iaload, 1) := by decide +kernel
theorem dX3_pAt_14 : decode cX3_pAt 14 = .ok (.goto 4, 3) := by decide +kernel
theorem dX3_pAt_17 : decode cX3_pAt 17 = .ok (.iconst (-1), 1) := by decide +kernel
theorem dX3_pAt_18 : decode cX3_pAt 18 = .ok (.ireturn, 1) := by decide +kernel
theorem dX3_qAt_0 : decode cX3_qAt 0 = .ok (.aload_n 0, 1) := by decide +kernel
theorem dX3_qAt_1 : decode cX3_qAt 1 = .ok (.iload_n 1, 1) := by decide +kernel
theorem dX3_qAt_2 : decode cX3_qAt 2 = .ok (.invokevirtual 30, 3) := by decide +kernel
theorem dX3_qAt_5 : decode cX3_qAt 5 = .ok (.ifCond .eq 12, 3) := by decide +kernel
theorem dX3_qAt_8 : decode cX3_qAt 8 = .ok (.aload_n 0, 1) := by decide +kernel
theorem dX3_qAt_9 : decode cX3_qAt 9 = .ok (.getfield 19, 3) := by decide +kernel
theorem dX3_qAt_12 : decode cX3_qAt 12 = .ok (.iload_n 1, 1) := by decide +kernel
theorem dX3_qAt_13 : decode cX3_qAt 13 = .ok (.iaload, 1) := by decide +kernel
theorem dX3_qAt_14 : decode cX3_qAt 14 = .ok (.goto 4, 3) := by decide +kernel
theorem dX3_qAt_17 : decode cX3_qAt 17 = .ok (.iconst (-1), 1) := by decide +kernel
theorem dX3_qAt_18 : decode cX3_qAt 18 = .ok (.ireturn, 1) := by decide +kernel
theorem dX3_indexOf_0 : decode cX3_indexOf 0 = .ok (.iconst 0, 1) := by decide +kernel
theorem dX3_indexOf_1 : decode cX3_indexOf 1 = .ok (.istore_n 3, 1) := by decide +kernel
theorem dX3_indexOf_2 : decode cX3_indexOf 2 = .ok (.iload_n 3, 1) := by decide +kernel
theorem dX3_indexOf_3 : decode cX3_indexOf 3 = .ok (.aload_n 0, 1) := by decide +kernel
theorem dX3_indexOf_4 : decode cX3_indexOf 4 = .ok (.getfield 22, 3) := by decide +kernel
theorem dX3_indexOf_7 : decode cX3_indexOf 7 = .ok (.if_icmp .ge 31, 3) := by decide +kernel
theorem dX3_indexOf_10 : decode cX3_indexOf 10 = .ok (.aload_n 0, 1) := by decide +kernel
theorem dX3_indexOf_11 : decode cX3_indexOf 11 = .ok (.getfield 15, 3) := by decide +kernel
theorem dX3_indexOf_14 : decode cX3_indexOf 14 = .ok (.iload_n 3, 1) := by decide +kernel
theorem dX3_indexOf_15 : decode cX3_indexOf 15 = .ok (.iaload, 1) := by decide +kernel
theorem dX3_indexOf_16 : decode cX3_indexOf 16 = .ok (.iload_n 1, 1) := by decide +kernel
theorem dX3_indexOf_17 : decode cX3_indexOf 17 = .ok (.if_icmp .ne 15, 3) := by decide +kernel
theorem dX3_indexOf_20 : decode cX3_indexOf 20 = .ok (.aload_n 0, 1) := by decide +kernel
theorem dX3_indexOf_21 : decode cX3_indexOf 21 = .ok (.getfield 19, 3) := by decide +kernel
theorem dX3_indexOf_24 : decode cX3_indexOf 24 = .ok (.iload_n 3, 1) := by decide +kernel
theorem dX3_indexOf_25 : decode cX3_indexOf 25 = .ok (.iaload, 1) := by decide +kernel
theorem dX3_indexOf_26 : decode cX3_indexOf 26 = .ok (.iload_n 2, 1) := by decide +kernel
theorem dX3_indexOf_27 : decode cX3_indexOf 27 = .ok (.if_icmp .ne 5, 3) := by decide +kernel
theorem dX3_indexOf_30 : decode cX3_indexOf 30 = .ok (.iload_n 3, 1) := by decide +kernel
theorem dX3_indexOf_31 : decode cX3_indexOf 31 = .ok (.ireturn, 1) := by decide +kernel
theorem dX3_indexOf_32 : decode cX3_indexOf 32 = .ok (.iinc 3 1, 3) := by decide +kernel
theorem dX3_indexOf_35 : decode cX3_indexOf 35 = .ok (.goto (-33), 3) := by decide +kernel
theorem dX3_indexOf_38 : decode cX3_indexOf 38 = .ok (.iconst (-1), 1) := by decide +kernel
theorem dX3_indexOf_39 : decode cX3_indexOf 39 = .ok (.ireturn, 1) := by decide +kernel
theorem dX3_put_0 : decode cX3_put 0 = .ok (.aload_n 0, 1) := by decide +kernel
theorem dX3_put_1 : decode cX3_put 1 = .ok (.invokevirtual 36, 3) := by decide +kernel
theorem dX3_put_4 : decode cX3_put 4 = .ok (.ifCond .eq 4, 3) := by decide +kernel
theorem dX3_put_7 : decode cX3_put 7 = .ok (.return_, 1) := by decide +kernel
theorem dX3_put_8 : decode cX3_put 8 = .ok (.aload_n 0, 1) := by decide +kernel
theorem dX3_put_9 : decode cX3_put 9 = .ok (.getfield 22, 3) := by decide +kernel
theorem dX3_put_12 : decode cX3_put 12 = .ok (.istore 5, 2) := by decide +kernel
theorem dX3_put_14 : decode cX3_put 14 = .ok (.iload 5, 2) := by decide +kernel
theorem dX3_put_16 : decode cX3_put 16 = .ok (.ifCond .le 34, 3) := by decide +kernel
theorem dX3_put_19 : decode cX3_put 19 = .ok (.aload_n 0, 1) := by decide +kernel
theorem dX3_put_20 : decode cX3_put 20 = .ok (.getfield 9, 3) := by decide +kernel
theorem dX3_put_23 : decode cX3_put 23 = .ok (.iload 5, 2) := by decide +kernel
theorem dX3_put_25 : decode cX3_put 25 = .ok (.iconst 1, 1) := by decide +kernel
theorem dX3_put_26 : decode cX3_put 26 = .ok (.isub, 1) := by decide +kernel
theorem dX3_put_27 : decode cX3_put 27 = .ok (.laload, 1) := by decide +kernel
theorem dX3_put_28 : decode cX3_put 28 = .ok (.lload_n 1, 1) := by decide +kernel
theorem dX3_put_29 : decode cX3_put 29 = .ok (.lcmp, 1) := by decide +kernel
theorem dX3_put_30 : decode cX3_put 30 = .ok (.ifCond .le 20, 3) := by decide +kernel
theorem dX3_put_33 : decode cX3_put 33 = .ok (.aload_n 0, 1) := by decide +kernel
theorem dX3_put_34 : decode cX3_put 34 = .ok (.aload_n 0, 1) := by decide +kernel
theorem dX3_put_35 : decode cX3_put 35 = .ok (.iload 5, 2) := by decide +kernel
theorem dX3_put_37 : decode cX3_put 37 = .ok (.iconst 1, 1) := by decide +kernel
theorem dX3_put_38 : decode cX3_put 38 = .ok (.isub, 1) := by decide +kernel
theorem dX3_put_39 : decode cX3_put 39 = .ok (.iload 5, 2) := by decide +kernel
theorem dX3_put_41 : decode cX3_put 41 = .ok (.invokevirtual 26, 3) := by decide +kernel
theorem dX3_put_44 : decode cX3_put 44 = .ok (.iinc 5 (-1), 3) := by decide +kernel
theorem dX3_put_47 : decode cX3_put 47 = .ok (.goto (-33), 3) := by decide +kernel
theorem dX3_put_50 : decode cX3_put 50 = .ok (.aload_n 0, 1) := by decide +kernel
theorem dX3_put_51 : decode cX3_put 51 = .ok (.getfield 9, 3) := by decide +kernel
theorem dX3_put_54 : decode cX3_put 54 = .ok (.iload 5, 2) := by decide +kernel
theorem dX3_put_56 : decode cX3_put 56 = .ok (.lload_n 1, 1) := by decide +kernel
theorem dX3_put_57 : decode cX3_put 57 = .ok (.lastore, 1) := by decide +kernel
theorem dX3_put_58 : decode cX3_put 58 = .ok (.aload_n 0, 1) := by decide +kernel
theorem dX3_put_59 : decode cX3_put 59 = .ok (.getfield 15, 3) := by decide +kernel
theorem dX3_put_62 : decode cX3_put 62 = .ok (.iload 5, 2) := by decide +kernel
theorem dX3_put_64 : decode cX3_put 64 = .ok (.iload_n 3, 1) := by decide +kernel
theorem dX3_put_65 : decode cX3_put 65 = .ok (.iastore, 1) := by decide +kernel
theorem dX3_put_66 : decode cX3_put 66 = .ok (.aload_n 0, 1) := by decide +kernel
theorem dX3_put_67 : decode cX3_put 67 = .ok (.getfield 19, 3) := by decide +kernel
theorem dX3_put_70 : decode cX3_put 70 = .ok (.iload 5, 2) := by decide +kernel
theorem dX3_put_72 : decode cX3_put 72 = .ok (.iload 4, 2) := by decide +kernel
theorem dX3_put_74 : decode cX3_put 74 = .ok (.iastore, 1) := by decide +kernel
theorem dX3_put_75 : decode cX3_put 75 = .ok (.aload_n 0, 1) := by decide +kernel
theorem dX3_put_76 : decode cX3_put 76 = .ok (.dup, 1) := by decide +kernel
theorem dX3_put_77 : decode cX3_put 77 = .ok (.getfield 22, 3) := by decide +kernel
theorem dX3_put_80 : decode cX3_put 80 = .ok (.iconst 1, 1) := by decide +kernel
theorem dX3_put_81 : decode cX3_put 81 = .ok (.iadd, 1) := by decide +kernel
theorem dX3_put_82 : decode cX3_put 82 = .ok (.putfield 22, 3) := by decide +kernel
theorem dX3_put_85 : decode cX3_put 85 = .ok (.return_, 1) := by decide +kernel
theorem dX3_drop_0 : decode cX3_drop 0 = .ok (.aload_n 0, 1) := by decide +kernel
theorem dX3_drop_1 : decode cX3_drop 1 = .ok (.iload_n 1, 1) := by decide +kernel
theorem dX3_drop_2 : decode cX3_drop 2 = .ok (.invokevirtual 30, 3) := by decide +kernel
theorem dX3_drop_5 : decode cX3_drop 5 = .ok (.ifCond .ne 4, 3) := by decide +kernel
theorem dX3_drop_8 : decode cX3_drop 8 = .ok (.return_, 1) := by decide +kernel
theorem dX3_drop_9 : decode cX3_drop 9 = .ok (.iload_n 1, 1) := by decide +kernel
theorem dX3_drop_10 : decode cX3_drop 10 = .ok (.iconst 1, 1) := by decide +kernel
theorem dX3_drop_11 : decode cX3_drop 11 = .ok (.iadd, 1) := by decide +kernel
theorem dX3_drop_12 : decode cX3_drop 12 = .ok (.istore_n 2, 1) := by decide +kernel
theorem dX3_drop_13 : decode cX3_drop 13 = .ok (.iload_n 2, 1) := by decide +kernel
theorem dX3_drop_14 : decode cX3_drop 14 = .ok (.aload_n 0, 1) := by decide +kernel
theorem dX3_drop_15 : decode cX3_drop 15 = .ok (.getfield 22, 3) := by decide +kernel
theorem dX3_drop_18 : decode cX3_drop 18 = .ok (.if_icmp .ge 18, 3) := by decide +kernel
theorem dX3_drop_21 : decode cX3_drop 21 = .ok (.aload_n 0, 1) := by decide +kernel
theorem dX3_drop_22 : decode cX3_drop 22 = .ok (.aload_n 0, 1) := by decide +kernel
theorem dX3_drop_23 : decode cX3_drop 23 = .ok (.iload_n 2, 1) := by decide +kernel
theorem dX3_drop_24 : decode cX3_drop 24 = .ok (.iload_n 2, 1) := by decide +kernel
theorem dX3_drop_25 : decode cX3_drop 25 = .ok (.iconst 1, 1) := by decide +kernel
theorem dX3_drop_26 : decode cX3_drop 26 = .ok (.isub, 1) := by decide +kernel
theorem dX3_drop_27 : decode cX3_drop 27 = .ok (.invokevirtual 26, 3) := by decide +kernel
theorem dX3_drop_30 : decode cX3_drop 30 = .ok (.iinc 2 1, 3) := by decide +kernel
theorem dX3_drop_33 : decode cX3_drop 33 = .ok (.goto (-20), 3) := by decide +kernel
theorem dX3_drop_36 : decode cX3_drop 36 = .ok (.aload_n 0, 1) := by decide +kernel
theorem dX3_drop_37 : decode cX3_drop 37 = .ok (.dup, 1) := by decide +kernel
theorem dX3_drop_38 : decode cX3_drop 38 = .ok (.getfield 22, 3) := by decide +kernel
theorem dX3_drop_41 : decode cX3_drop 41 = .ok (.iconst 1, 1) := by decide +kernel
theorem dX3_drop_42 : decode cX3_drop 42 = .ok (.isub, 1) := by decide +kernel
theorem dX3_drop_43 : decode cX3_drop 43 = .ok (.putfield 22, 3) := by decide +kernel
theorem dX3_drop_46 : decode cX3_drop 46 = .ok (.return_, 1) := by decide +kernel
theorem dX3_lastTo_0 : decode cX3_lastTo 0 = .ok (.ldc2_w 34, 3) := by decide +kernel
theorem dX3_lastTo_3 : decode cX3_lastTo 3 = .ok (.lstore_n 3, 1) := by decide +kernel
theorem dX3_lastTo_4 : decode cX3_lastTo 4 = .ok (.iconst 0, 1) := by decide +kernel
theorem dX3_lastTo_5 : decode cX3_lastTo 5 = .ok (.istore 5, 2) := by decide +kernel
theorem dX3_lastTo_7 : decode cX3_lastTo 7 = .ok (.iload 5, 2) := by decide +kernel
theorem dX3_lastTo_9 : decode cX3_lastTo 9 = .ok (.aload_n 0, 1) := by decide +kernel
theorem dX3_lastTo_10 : decode cX3_lastTo 10 = .ok (.getfield 22, 3) := by decide +kernel
theorem dX3_lastTo_13 : decode cX3_lastTo 13 = .ok (.if_icmp .ge 29, 3) := by decide +kernel
theorem dX3_lastTo_16 : decode cX3_lastTo 16 = .ok (.aload_n 0, 1) := by decide +kernel
theorem dX3_lastTo_17 : decode cX3_lastTo 17 = .ok (.getfield 9, 3) := by decide +kernel
theorem dX3_lastTo_20 : decode cX3_lastTo 20 = .ok (.iload 5, 2) := by decide +kernel
theorem dX3_lastTo_22 : decode cX3_lastTo 22 = .ok (.laload, 1) := by decide +kernel
theorem dX3_lastTo_23 : decode cX3_lastTo 23 = .ok (.lload_n 1, 1) := by decide +kernel
theorem dX3_lastTo_24 : decode cX3_lastTo 24 = .ok (.lcmp, 1) := by decide +kernel
theorem dX3_lastTo_25 : decode cX3_lastTo 25 = .ok (.ifCond .gt 17, 3) := by decide +kernel
theorem dX3_lastTo_28 : decode cX3_lastTo 28 = .ok (.aload_n 0, 1) := by decide +kernel
theorem dX3_lastTo_29 : decode cX3_lastTo 29 = .ok (.getfield 9, 3) := by decide +kernel
theorem dX3_lastTo_32 : decode cX3_lastTo 32 = .ok (.iload 5, 2) := by decide +kernel
theorem dX3_lastTo_34 : decode cX3_lastTo 34 = .ok (.laload, 1) := by decide +kernel
theorem dX3_lastTo_35 : decode cX3_lastTo 35 = .ok (.lstore_n 3, 1) := by decide +kernel
theorem dX3_lastTo_36 : decode cX3_lastTo 36 = .ok (.iinc 5 1, 3) := by decide +kernel
theorem dX3_lastTo_39 : decode cX3_lastTo 39 = .ok (.goto (-32), 3) := by decide +kernel
theorem dX3_lastTo_42 : decode cX3_lastTo 42 = .ok (.lload_n 3, 1) := by decide +kernel
theorem dX3_lastTo_43 : decode cX3_lastTo 43 = .ok (.lreturn, 1) := by decide +kernel
theorem dX3_nextFrom_0 : decode cX3_nextFrom 0 = .ok (.iconst 0, 1) := by decide +kernel
theorem dX3_nextFrom_1 : decode cX3_nextFrom 1 = .ok (.istore_n 3, 1) := by decide +kernel
theorem dX3_nextFrom_2 : decode cX3_nextFrom 2 = .ok (.iload_n 3, 1) := by decide +kernel
theorem dX3_nextFrom_3 : decode cX3_nextFrom 3 = .ok (.aload_n 0, 1) := by decide +kernel
theorem dX3_nextFrom_4 : decode cX3_nextFrom 4 = .ok (.getfield 22, 3) := by decide +kernel
theorem dX3_nextFrom_7 : decode cX3_nextFrom 7 = .ok (.if_icmp .ge 27, 3) := by decide +kernel
theorem dX3_nextFrom_10 : decode cX3_nextFrom 10 = .ok (.aload_n 0, 1) := by decide +kernel
theorem dX3_nextFrom_11 : decode cX3_nextFrom 11 = .ok (.getfield 9, 3) := by decide +kernel
theorem dX3_nextFrom_14 : decode cX3_nextFrom 14 = .ok (.iload_n 3, 1) := by decide +kernel
theorem dX3_nextFrom_15 : decode cX3_nextFrom 15 = .ok (.laload, 1) := by decide +kernel
theorem dX3_nextFrom_16 : decode cX3_nextFrom 16 = .ok (.lload_n 1, 1) := by decide +kernel
theorem dX3_nextFrom_17 : decode cX3_nextFrom 17 = .ok (.lcmp, 1) := by decide +kernel
theorem dX3_nextFrom_18 : decode cX3_nextFrom 18 = .ok (.ifCond .lt 10, 3) := by decide +kernel
theorem dX3_nextFrom_21 : decode cX3_nextFrom 21 = .ok (.aload_n 0, 1) := by decide +kernel
theorem dX3_nextFrom_22 : decode cX3_nextFrom 22 = .ok (.getfield 9, 3) := by decide +kernel
theorem dX3_nextFrom_25 : decode cX3_nextFrom 25 = .ok (.iload_n 3, 1) := by decide +kernel
theorem dX3_nextFrom_26 : decode cX3_nextFrom 26 = .ok (.laload, 1) := by decide +kernel
theorem dX3_nextFrom_27 : decode cX3_nextFrom 27 = .ok (.lreturn, 1) := by decide +kernel
theorem dX3_nextFrom_28 : decode cX3_nextFrom 28 = .ok (.iinc 3 1, 3) := by decide +kernel
theorem dX3_nextFrom_31 : decode cX3_nextFrom 31 = .ok (.goto (-29), 3) := by decide +kernel
theorem dX3_nextFrom_34 : decode cX3_nextFrom 34 = .ok (.ldc2_w 34, 3) := by decide +kernel
theorem dX3_nextFrom_37 : decode cX3_nextFrom 37 = .ok (.lreturn, 1) := by decide +kernel
theorem dX4_init_0 : decode cX4_init 0 = .ok (.aload_n 0, 1) := by decide +kernel
theorem dX4_init_1 : decode cX4_init 1 = .ok (.invokespecial 3, 3) := by decide +kernel
theorem dX4_init_4 : decode cX4_init 4 = .ok (.aload_n 0, 1) := by decide +kernel
theorem dX4_init_5 : decode cX4_init 5 = .ok (.invokevirtual 9, 3) := by decide +kernel
theorem dX4_init_8 : decode cX4_init 8 = .ok (.return_, 1) := by decide +kernel
theorem dX4_goHome_0 : decode cX4_goHome 0 = .ok (.aload_n 0, 1) := by decide +kernel
theorem dX4_goHome_1 : decode cX4_goHome 1 = .ok (.iconst 0, 1) := by decide +kernel
theorem dX4_goHome_2 : decode cX4_goHome 2 = .ok (.putfield 14, 3) := by decide +kernel
theorem dX4_goHome_5 : decode cX4_goHome 5 = .ok (.aload_n 0, 1) := by decide +kernel
theorem dX4_goHome_6 : decode cX4_goHome 6 = .ok (.iconst 1, 1) := by decide +kernel
theorem dX4_goHome_7 : decode cX4_goHome 7 = .ok (.putfield 18, 3) := by decide +kernel
theorem dX4_goHome_10 : decode cX4_goHome 10 = .ok (.aload_n 0, 1) := by decide +kernel
theorem dX4_goHome_11 : decode cX4_goHome 11 = .ok (.iconst 1, 1) := by decide +kernel
theorem dX4_goHome_12 : decode cX4_goHome 12 = .ok (.putfield 21, 3) := by decide +kernel
theorem dX4_goHome_15 : decode cX4_goHome 15 = .ok (.aload_n 0, 1) := by decide +kernel
theorem dX4_goHome_16 : decode cX4_goHome 16 = .ok (.iconst 0, 1) := by decide +kernel
theorem dX4_goHome_17 : decode cX4_goHome 17 = .ok (.putfield 24, 3) := by decide +kernel
theorem dX4_goHome_20 : decode cX4_goHome 20 = .ok (.aload_n 0, 1) := by decide +kernel
theorem dX4_goHome_21 : decode cX4_goHome 21 = .ok (.iconst 0, 1) := by decide +kernel
theorem dX4_goHome_22 : decode cX4_goHome 22 = .ok (.putfield 27, 3) := by decide +kernel
theorem dX4_goHome_25 : decode cX4_goHome 25 = .ok (.return_, 1) := by decide +kernel
theorem dX4_copyFrom_0 : decode cX4_copyFrom 0 = .ok (.aload_n 0, 1) := by decide +kernel
theorem dX4_copyFrom_1 : decode cX4_copyFrom 1 = .ok (.aload_n 1, 1) := by decide +kernel
theorem dX4_copyFrom_2 : decode cX4_copyFrom 2 = .ok (.getfield 14, 3) := by decide +kernel
theorem dX4_copyFrom_5 : decode cX4_copyFrom 5 = .ok (.putfield 14, 3) := by decide +kernel
theorem dX4_copyFrom_8 : decode cX4_copyFrom 8 = .ok (.aload_n 0, 1) := by decide +kernel
theorem dX4_copyFrom_9 : decode cX4_copyFrom 9 = .ok (.aload_n 1, 1) := by decide +kernel
theorem dX4_copyFrom_10 : decode cX4_copyFrom 10 = .ok (.getfield 18, 3) := by decide +kernel
theorem dX4_copyFrom_13 : decode cX4_copyFrom 13 = .ok (.putfield 18, 3) := by decide +kernel
theorem dX4_copyFrom_16 : decode cX4_copyFrom 16 = .ok (.aload_n 0, 1) := by decide +kernel
theorem dX4_copyFrom_17 : decode cX4_copyFrom 17 = .ok (.aload_n 1, 1) := by decide +kernel
theorem dX4_copyFrom_18 : decode cX4_copyFrom 18 = .ok (.getfield 21, 3) := by decide +kernel
theorem dX4_copyFrom_21 : decode cX4_copyFrom 21 = .ok (.putfield 21, 3) := by decide +kernel
theorem dX4_copyFrom_24 : decode cX4_copyFrom 24 = .ok (.aload_n 0, 1) := by decide +kernel
theorem dX4_copyFrom_25 : decode cX4_copyFrom 25 = .ok (.aload_n 1, 1) := by decide +kernel
theorem dX4_copyFrom_26 : decode cX4_copyFrom 26 = .ok (.getfield 24, 3) := by decide +kernel
theorem dX4_copyFrom_29 : decode cX4_copyFrom 29 = .ok (.putfield 24, 3) := by decide +kernel
theorem dX4_copyFrom_32 : decode cX4_copyFrom 32 = .ok (.aload_n 0, 1) := by decide +kernel
theorem dX4_copyFrom_33 : decode cX4_copyFrom 33 = .ok (.aload_n 1, 1) := by decide +kernel
theorem dX4_copyFrom_34 : decode cX4_copyFrom 34 = .ok (.getfield 27, 3) := by decide +kernel
theorem dX4_copyFrom_37 : decode cX4_copyFrom 37 = .ok (.putfield 27, 3) := by decide +kernel
theorem dX4_copyFrom_40 : decode cX4_copyFrom 40 = .ok (.return_, 1) := by decide +kernel
theorem dX4_lowP_0 : decode cX4_lowP 0 = .ok (.aload_n 0, 1) := by decide +kernel
theorem dX4_lowP_1 : decode cX4_lowP 1 = .ok (.getfield 14, 3) := by decide +kernel
theorem dX4_lowP_4 : decode cX4_lowP 4 = .ok (.ireturn, 1) := by decide +kernel
theorem dX4_lowQ_0 : decode cX4_lowQ 0 = .ok (.aload_n 0, 1) := by decide +kernel
theorem dX4_lowQ_1 : decode cX4_lowQ 1 = .ok (.getfield 18, 3) := by decide +kernel
theorem dX4_lowQ_4 : decode cX4_lowQ 4 = .ok (.ireturn, 1) := by decide +kernel
theorem dX4_highP_0 : decode cX4_highP 0 = .ok (.aload_n 0, 1) := by decide +kernel
theorem dX4_highP_1 : decode cX4_highP 1 = .ok (.getfield 21, 3) := by decide +kernel
theorem dX4_highP_4 : decode cX4_highP 4 = .ok (.ireturn, 1) := by decide +kernel
theorem dX4_highQ_0 : decode cX4_highQ 0 = .ok (.aload_n 0, 1) := by decide +kernel
theorem dX4_highQ_1 : decode cX4_highQ 1 = .ok (.getfield 24, 3) := by decide +kernel
theorem dX4_highQ_4 : decode cX4_highQ 4 = .ok (.ireturn, 1) := by decide +kernel
theorem dX4_steps_0 : decode cX4_steps 0 = .ok (.aload_n 0, 1) := by decide +kernel
theorem dX4_steps_1 : decode cX4_steps 1 = .ok (.getfield 27, 3) := by decide +kernel
theorem dX4_steps_4 : decode cX4_steps 4 = .ok (.ireturn, 1) := by decide +kernel
theorem dX4_p_0 : decode cX4_p 0 = .ok (.aload_n 0, 1) := by decide +kernel
theorem dX4_p_1 : decode cX4_p 1 = .ok (.getfield 14, 3) := by decide +kernel
theorem dX4_p_4 : decode cX4_p 4 = .ok (.aload_n 0, 1) := by decide +kernel
theorem dX4_p_5 : decode cX4_p 5 = .ok (.getfield 21, 3) := by decide +kernel
theorem dX4_p_8 : decode cX4_p 8 = .ok (.iadd, 1) := by decide +kernel
theorem dX4_p_9 : decode cX4_p 9 = .ok (.ireturn, 1) := by decide +kernel
theorem dX4_q_0 : decode cX4_q 0 = .ok (.aload_n 0, 1) := by decide +kernel
theorem dX4_q_1 : decode cX4_q 1 = .ok (.getfield 18, 3) := by decide +kernel
theorem dX4_q_4 : decode cX4_q 4 = .ok (.aload_n 0, 1) := by decide +kernel
theorem dX4_q_5 : decode cX4_q 5 = .ok (.getfield 24, 3) := by decide +kernel
theorem dX4_q_8 : decode cX4_q 8 = .ok (.iadd, 1) := by decide +kernel
theorem dX4_q_9 : decode cX4_q 9 = .ok (.ireturn, 1) := by decide +kernel
theorem dX4_together_0 : decode cX4_together 0 = .ok (.aload_n 0, 1) := by decide +kernel
theorem dX4_together_1 : decode cX4_together 1 = .ok (.invokevirtual 30, 3) := by decide +kernel
theorem dX4_together_4 : decode cX4_together 4 = .ok (.aload_n 0, 1) := by decide +kernel
theorem dX4_together_5 : decode cX4_together 5 = .ok (.invokevirtual 34, 3) := by decide +kernel
theorem dX4_together_8 : decode cX4_together 8 = .ok (.iadd, 1) := by decide +kernel
theorem dX4_together_9 : decode cX4_together 9 = .ok (.ireturn, 1) := by decide +kernel
theorem dX4_isAt_0 : decode cX4_isAt 0 = .ok (.iload_n 1, 1) := by decide +kernel
theorem dX4_isAt_1 : decode cX4_isAt 1 = .ok (.aload_n 0, 1) := by decide +kernel
theorem dX4_isAt_2 : decode cX4_isAt 2 = .ok (.invokevirtual 30, 3) := by decide +kernel
theorem dX4_isAt_5 : decode cX4_isAt 5 = .ok (.if_icmp .ne 15, 3) := by decide +kernel
theorem dX4_isAt_8 : decode cX4_isAt 8 = .ok (.iload_n 2, 1) := by decide +kernel
theorem dX4_isAt_9 : decode cX4_isAt 9 = .ok (.aload_n 0, 1) := by decide +kernel
theorem dX4_isAt_10 : decode cX4_isAt 10 = .ok (.invokevirtual 34, 3) := by decide +kernel
theorem dX4_isAt_13 : decode cX4_isAt 13 = .ok (.if_icmp .ne 7, 3) := by decide +kernel
theorem dX4_isAt_16 : decode cX4_isAt 16 = .ok (.iconst 1, 1) := by decide +kernel
theorem dX4_isAt_17 : decode cX4_isAt 17 = .ok (.goto 4, 3) := by decide +kernel
theorem dX4_isAt_20 : decode cX4_isAt 20 = .ok (.iconst 0, 1) := by decide +kernel
theorem dX4_isAt_21 : decode cX4_isAt 21 = .ok (.ireturn, 1) := by decide +kernel
theorem dX4_stepLeft_0 : decode cX4_stepLeft 0 = .ok (.aload_n 0, 1) := by decide +kernel
theorem dX4_stepLeft_1 : decode cX4_stepLeft 1 = .ok (.invokevirtual 37, 3) := by decide +kernel
theorem dX4_stepLeft_4 : decode cX4_stepLeft 4 = .ok (.aload_n 0, 1) := by decide +kernel
theorem dX4_stepLeft_5 : decode cX4_stepLeft 5 = .ok (.getfield 14, 3) := by decide +kernel
theorem dX4_stepLeft_8 : decode cX4_stepLeft 8 = .ok (.iadd, 1) := by decide +kernel
theorem dX4_stepLeft_9 : decode cX4_stepLeft 9 = .ok (.aload_n 0, 1) := by decide +kernel
theorem dX4_stepLeft_10 : decode cX4_stepLeft 10 = .ok (.getfield 18, 3) := by decide +kernel
theorem dX4_stepLeft_13 : decode cX4_stepLeft 13 = .ok (.iadd, 1) := by decide +kernel
theorem dX4_stepLeft_14 : decode cX4_stepLeft 14 = .ok (.bipush 22, 2) := by decide +kernel
theorem dX4_stepLeft_16 : decode cX4_stepLeft 16 = .ok (.if_icmp .le 5, 3) := by decide +kernel
theorem dX4_stepLeft_19 : decode cX4_stepLeft 19 = .ok (.iconst 0, 1) := by decide +kernel
theorem dX4_stepLeft_20 : decode cX4_stepLeft 20 = .ok (.ireturn, 1) := by decide +kernel
theorem dX4_stepLeft_21 : decode cX4_stepLeft 21 = .ok (.aload_n 0, 1) := by decide +kernel
theorem dX4_stepLeft_22 : decode cX4_stepLeft 22 = .ok (.dup, 1) := by decide +kernel
theorem dX4_stepLeft_23 : decode cX4_stepLeft 23 = .ok (.getfield 21, 3) := by decide +kernel
theorem dX4_stepLeft_26 : decode cX4_stepLeft 26 = .ok (.aload_n 0, 1) := by decide +kernel
theorem dX4_stepLeft_27 : decode cX4_stepLeft 27 = .ok (.getfield 14, 3) := by decide +kernel
theorem dX4_stepLeft_30 : decode cX4_stepLeft 30 = .ok (.iadd, 1) := by decide +kernel
theorem dX4_stepLeft_31 : decode cX4_stepLeft 31 = .ok (.putfield 21, 3) := by decide +kernel
theorem dX4_stepLeft_34 : decode cX4_stepLeft 34 = .ok (.aload_n 0, 1) := by decide +kernel
theorem dX4_stepLeft_35 : decode cX4_stepLeft 35 = .ok (.dup, 1) := by decide +kernel
theorem dX4_stepLeft_36 : decode cX4_stepLeft 36 = .ok (.getfield 24, 3) := by decide +kernel
theorem dX4_stepLeft_39 : decode cX4_stepLeft 39 = .ok (.aload_n 0, 1) := by decide +kernel
theorem dX4_stepLeft_40 : decode cX4_stepLeft 40 = .ok (.getfield 18, 3) := by decide +kernel
theorem dX4_stepLeft_43 : decode cX4_stepLeft 43 = .ok (.iadd, 1) := by decide +kernel
theorem dX4_stepLeft_44 : decode cX4_stepLeft 44 = .ok (.putfield 24, 3) := by decide +kernel
theorem dX4_stepLeft_47 : decode cX4_stepLeft 47 = .ok (.aload_n 0, 1) := by decide +kernel
theorem dX4_stepLeft_48 : decode cX4_stepLeft 48 = .ok (.dup, 1) := by decide +kernel
theorem dX4_stepLeft_49 : decode cX4_stepLeft 49 = .ok (.getfield 27, 3) := by decide +kernel
theorem dX4_stepLeft_52 : decode cX4_stepLeft 52 = .ok (.iconst 1, 1) := by decide +kernel
theorem dX4_stepLeft_53 : decode cX4_stepLeft 53 = .ok (.iadd, 1) := by decide +kernel
theorem dX4_stepLeft_54 : decode cX4_stepLeft 54 = .ok (.putfield 27, 3) := by decide +kernel
theorem dX4_stepLeft_57 : decode cX4_stepLeft 57 = .ok (.iconst 1, 1) := by decide +kernel
theorem dX4_stepLeft_58 : decode cX4_stepLeft 58 = .ok (.ireturn, 1) := by decide +kernel
theorem dX4_stepRight_0 : decode cX4_stepRight 0 = .ok (.aload_n 0, 1) := by decide +kernel
theorem dX4_stepRight_1 : decode cX4_stepRight 1 = .ok (.invokevirtual 37, 3) := by decide +kernel
theorem dX4_stepRight_4 : decode cX4_stepRight 4 = .ok (.aload_n 0, 1) := by decide +kernel
theorem dX4_stepRight_5 : decode cX4_stepRight 5 = .ok (.getfield 21, 3) := by decide +kernel
theorem dX4_stepRight_8 : decode cX4_stepRight 8 = .ok (.iadd, 1) := by decide +kernel
theorem dX4_stepRight_9 : decode cX4_stepRight 9 = .ok (.aload_n 0, 1) := by decide +kernel
theorem dX4_stepRight_10 : decode cX4_stepRight 10 = .ok (.getfield 24, 3) := by decide +kernel
theorem dX4_stepRight_13 : decode cX4_stepRight 13 = .ok (.iadd, 1) := by decide +kernel
theorem dX4_stepRight_14 : decode cX4_stepRight 14 = .ok (.bipush 22, 2) := by decide +kernel
theorem dX4_stepRight_16 : decode cX4_stepRight 16 = .ok (.if_icmp .le 5, 3) := by decide +kernel
theorem dX4_stepRight_19 : decode cX4_stepRight 19 = .ok (.iconst 0, 1) := by decide +kernel
theorem dX4_stepRight_20 : decode cX4_stepRight 20 = .ok (.ireturn, 1) := by decide +kernel
theorem dX4_stepRight_21 : decode cX4_stepRight 21 = .ok (.aload_n 0, 1) := by decide +kernel
theorem dX4_stepRight_22 : decode cX4_stepRight 22 = .ok (.dup, 1) := by decide +kernel
theorem dX4_stepRight_23 : decode cX4_stepRight 23 = .ok (.getfield 14, 3) := by decide +kernel
theorem dX4_stepRight_26 : decode cX4_stepRight 26 = .ok (.aload_n 0, 1) := by decide +kernel
theorem dX4_stepRight_27 : decode cX4_stepRight 27 = .ok (.getfield 21, 3) := by decide +kernel
theorem dX4_stepRight_30 : decode cX4_stepRight 30 = .ok (.iadd, 1) := by decide +kernel
theorem dX4_stepRight_31 : decode cX4_stepRight 31 = .ok (.putfield 14, 3) := by decide +kernel
theorem dX4_stepRight_34 : decode cX4_stepRight 34 = .ok (.aload_n 0, 1) := by decide +kernel
theorem dX4_stepRight_35 : decode cX4_stepRight 35 = .ok (.dup, 1) := by decide +kernel
theorem dX4_stepRight_36 : decode cX4_stepRight 36 = .ok (.getfield 18, 3) := by decide +kernel
theorem dX4_stepRight_39 : decode cX4_stepRight 39 = .ok (.aload_n 0, 1) := by decide +kernel
theorem dX4_stepRight_40 : decode cX4_stepRight 40 = .ok (.getfield 24, 3) := by decide +kernel
theorem dX4_stepRight_43 : decode cX4_stepRight 43 = .ok (.iadd, 1) := by decide +kernel
theorem dX4_stepRight_44 : decode cX4_stepRight 44 = .ok (.putfield 18, 3) := by decide +kernel
theorem dX4_stepRight_47 : decode cX4_stepRight 47 = .ok (.aload_n 0, 1) := by decide +kernel
theorem dX4_stepRight_48 : decode cX4_stepRight 48 = .ok (.dup, 1) := by decide +kernel
theorem dX4_stepRight_49 : decode cX4_stepRight 49 = .ok (.getfield 27, 3) := by decide +kernel
theorem dX4_stepRight_52 : decode cX4_stepRight 52 = .ok (.iconst 1, 1) := by decide +kernel
theorem dX4_stepRight_53 : decode cX4_stepRight 53 = .ok (.iadd, 1) := by decide +kernel
theorem dX4_stepRight_54 : decode cX4_stepRight 54 = .ok (.putfield 27, 3) := by decide +kernel
theorem dX4_stepRight_57 : decode cX4_stepRight 57 = .ok (.iconst 1, 1) := by decide +kernel
theorem dX4_stepRight_58 : decode cX4_stepRight 58 = .ok (.ireturn, 1) := by decide +kernel
theorem dX4_stepUp_0 : decode cX4_stepUp 0 = .ok (.aload_n 0, 1) := by decide +kernel
theorem dX4_stepUp_1 : decode cX4_stepUp 1 = .ok (.getfield 27, 3) := by decide +kernel
theorem dX4_stepUp_4 : decode cX4_stepUp 4 = .ok (.ifCond .ne 5, 3) := by decide +kernel
theorem dX4_stepUp_7 : decode cX4_stepUp 7 = .ok (.iconst 0, 1) := by decide +kernel
theorem dX4_stepUp_8 : decode cX4_stepUp 8 = .ok (.ireturn, 1) := by decide +kernel
theorem dX4_stepUp_9 : decode cX4_stepUp 9 = .ok (.aload_n 0, 1) := by decide +kernel
theorem dX4_stepUp_10 : decode cX4_stepUp 10 = .ok (.getfield 14, 3) := by decide +kernel
theorem dX4_stepUp_13 : decode cX4_stepUp 13 = .ok (.aload_n 0, 1) := by decide +kernel
theorem dX4_stepUp_14 : decode cX4_stepUp 14 = .ok (.getfield 18, 3) := by decide +kernel
theorem dX4_stepUp_17 : decode cX4_stepUp 17 = .ok (.iadd, 1) := by decide +kernel
theorem dX4_stepUp_18 : decode cX4_stepUp 18 = .ok (.aload_n 0, 1) := by decide +kernel
theorem dX4_stepUp_19 : decode cX4_stepUp 19 = .ok (.getfield 21, 3) := by decide +kernel
theorem dX4_stepUp_22 : decode cX4_stepUp 22 = .ok (.aload_n 0, 1) := by decide +kernel
theorem dX4_stepUp_23 : decode cX4_stepUp 23 = .ok (.getfield 24, 3) := by decide +kernel
theorem dX4_stepUp_26 : decode cX4_stepUp 26 = .ok (.iadd, 1) := by decide +kernel
theorem dX4_stepUp_27 : decode cX4_stepUp 27 = .ok (.if_icmp .le 32, 3) := by decide +kernel
theorem dX4_stepUp_30 : decode cX4_stepUp 30 = .ok (.aload_n 0, 1) := by decide +kernel
theorem dX4_stepUp_31 : decode cX4_stepUp 31 = .ok (.dup, 1) := by decide +kernel
theorem dX4_stepUp_32 : decode cX4_stepUp 32 = .ok (.getfield 14, 3) := by decide +kernel
theorem dX4_stepUp_35 : decode cX4_stepUp 35 = .ok (.aload_n 0, 1) := by decide +kernel
theorem dX4_stepUp_36 : decode cX4_stepUp 36 = .ok (.getfield 21, 3) := by decide +kernel
theorem dX4_stepUp_39 : decode cX4_stepUp 39 = .ok (.isub, 1) := by decide +kernel
theorem dX4_stepUp_40 : decode cX4_stepUp 40 = .ok (.putfield 14, 3) := by decide +kernel
theorem dX4_stepUp_43 : decode cX4_stepUp 43 = .ok (.aload_n 0, 1) := by decide +kernel
theorem dX4_stepUp_44 : decode cX4_stepUp 44 = .ok (.dup, 1) := by decide +kernel
theorem dX4_stepUp_45 : decode cX4_stepUp 45 = .ok (.getfield 18, 3) := by decide +kernel
theorem dX4_stepUp_48 : decode cX4_stepUp 48 = .ok (.aload_n 0, 1) := by decide +kernel
theorem dX4_stepUp_49 : decode cX4_stepUp 49 = .ok (.getfield 24, 3) := by decide +kernel
theorem dX4_stepUp_52 : decode cX4_stepUp 52 = .ok (.isub, 1) := by decide +kernel
theorem dX4_stepUp_53 : decode cX4_stepUp 53 = .ok (.putfield 18, 3) := by decide +kernel
theorem dX4_stepUp_56 : decode cX4_stepUp 56 = .ok (.goto 29, 3) := by decide +kernel
theorem dX4_stepUp_59 : decode cX4_stepUp 59 = .ok (.aload_n 0, 1) := by decide +kernel
theorem dX4_stepUp_60 : decode cX4_stepUp 60 = .ok (.dup, 1) := by decide +kernel
theorem dX4_stepUp_61 : decode cX4_stepUp 61 = .ok (.getfield 21, 3) := by decide +kernel
theorem dX4_stepUp_64 : decode cX4_stepUp 64 = .ok (.aload_n 0, 1) := by decide +kernel
theorem dX4_stepUp_65 : decode cX4_stepUp 65 = .ok (.getfield 14, 3) := by decide +kernel
theorem dX4_stepUp_68 : decode cX4_stepUp 68 = .ok (.isub, 1) := by decide +kernel
theorem dX4_stepUp_69 : decode cX4_stepUp 69 = .ok (.putfield 21, 3) := by decide +kernel
theorem dX4_stepUp_72 : decode cX4_stepUp 72 = .ok (.aload_n 0, 1) := by decide +kernel
theorem dX4_stepUp_73 : decode cX4_stepUp 73 = .ok (.dup, 1) := by decide +kernel
theorem dX4_stepUp_74 : decode cX4_stepUp 74 = .ok (.getfield 24, 3) := by decide +kernel
theorem dX4_stepUp_77 : decode cX4_stepUp 77 = .ok (.aload_n 0, 1) := by decide +kernel
theorem dX4_stepUp_78 : decode cX4_stepUp 78 = .ok (.getfield 18, 3) := by decide +kernel
theorem dX4_stepUp_81 : decode cX4_stepUp 81 = .ok (.isub, 1) := by decide +kernel
theorem dX4_stepUp_82 : decode cX4_stepUp 82 = .ok (.putfield 24, 3) := by decide +kernel
theorem dX4_stepUp_85 : decode cX4_stepUp 85 = .ok (.aload_n 0, 1) := by decide +kernel
theorem dX4_stepUp_86 : decode cX4_stepUp 86 = .ok (.dup, 1) := by decide +kernel
theorem dX4_stepUp_87 : decode cX4_stepUp 87 = .ok (.getfield 27, 3) := by decide +kernel
theorem dX4_stepUp_90 : decode cX4_stepUp 90 = .ok (.iconst 1, 1) := by decide +kernel
theorem dX4_stepUp_91 : decode cX4_stepUp 91 = .ok (.isub, 1) := by decide +kernel
theorem dX4_stepUp_92 : decode cX4_stepUp 92 = .ok (.putfield 27, 3) := by decide +kernel
theorem dX4_stepUp_95 : decode cX4_stepUp 95 = .ok (.iconst 1, 1) := by decide +kernel
theorem dX4_stepUp_96 : decode cX4_stepUp 96 = .ok (.ireturn, 1) := by decide +kernel
theorem dX4_sideOf_0 : decode cX4_sideOf 0 = .ok (.iload_n 1, 1) := by decide +kernel
theorem dX4_sideOf_1 : decode cX4_sideOf 1 = .ok (.aload_n 0, 1) := by decide +kernel
theorem dX4_sideOf_2 : decode cX4_sideOf 2 = .ok (.invokevirtual 34, 3) := by decide +kernel
theorem dX4_sideOf_5 : decode cX4_sideOf 5 = .ok (.imul, 1) := by decide +kernel
theorem dX4_sideOf_6 : decode cX4_sideOf 6 = .ok (.iload_n 2, 1) := by decide +kernel
theorem dX4_sideOf_7 : decode cX4_sideOf 7 = .ok (.aload_n 0, 1) := by decide +kernel
theorem dX4_sideOf_8 : decode cX4_sideOf 8 = .ok (.invokevirtual 30, 3) := by decide +kernel
theorem dX4_sideOf_11 : decode cX4_sideOf 11 = .ok (.imul, 1) := by decide +kernel
theorem dX4_sideOf_12 : decode cX4_sideOf 12 = .ok (.invokestatic 40, 3) := by decide +kernel
theorem dX4_sideOf_15 : decode cX4_sideOf 15 = .ok (.ireturn, 1) := by decide +kernel
theorem dX4_stepToSide_0 : decode cX4_stepToSide 0 = .ok (.iload_n 1, 1) := by decide +kernel
theorem dX4_stepToSide_1 : decode cX4_stepToSide 1 = .ok (.ifCond .ge 10, 3) := by decide +kernel
theorem dX4_stepToSide_4 : decode cX4_stepToSide 4 = .ok (.aload_n 0, 1) := by decide +kernel
theorem dX4_stepToSide_5 : decode cX4_stepToSide 5 = .ok (.invokevirtual 46, 3) := by decide +kernel
theorem dX4_stepToSide_8 : decode cX4_stepToSide 8 = .ok (.goto 7, 3) := by decide +kernel
theorem dX4_stepToSide_11 : decode cX4_stepToSide 11 = .ok (.aload_n 0, 1) := by decide +kernel
theorem dX4_stepToSide_12 : decode cX4_stepToSide 12 = .ok (.invokevirtual 50, 3) := by decide +kernel
theorem dX4_stepToSide_15 : decode cX4_stepToSide 15 = .ok (.ireturn, 1) := by decide +kernel
theorem dX4_walkTo_0 : decode cX4_walkTo 0 = .ok (.aload_n 0, 1) := by decide +kernel
theorem dX4_walkTo_1 : decode cX4_walkTo 1 = .ok (.invokevirtual 9, 3) := by decide +kernel
theorem dX4_walkTo_4 : decode cX4_walkTo 4 = .ok (.iconst 0, 1) := by decide +kernel
theorem dX4_walkTo_5 : decode cX4_walkTo 5 = .ok (.istore_n 3, 1) := by decide +kernel
theorem dX4_walkTo_6 : decode cX4_walkTo 6 = .ok (.iload_n 3, 1) := by decide +kernel
theorem dX4_walkTo_7 : decode cX4_walkTo 7 = .ok (.bipush 22, 2) := by decide +kernel
theorem dX4_walkTo_9 : decode cX4_walkTo 9 = .ok (.if_icmp .ge 29, 3) := by decide +kernel
theorem dX4_walkTo_12 : decode cX4_walkTo 12 = .ok (.aload_n 0, 1) := by decide +kernel
theorem dX4_walkTo_13 : decode cX4_walkTo 13 = .ok (.iload_n 1, 1) := by decide +kernel
theorem dX4_walkTo_14 : decode cX4_walkTo 14 = .ok (.iload_n 2, 1) := by decide +kernel
theorem dX4_walkTo_15 : decode cX4_walkTo 15 = .ok (.invokevirtual 53, 3) := by decide +kernel
theorem dX4_walkTo_18 : decode cX4_walkTo 18 = .ok (.ifCond .ne 20, 3) := by decide +kernel
theorem dX4_walkTo_21 : decode cX4_walkTo 21 = .ok (.aload_n 0, 1) := by decide +kernel
theorem dX4_walkTo_22 : decode cX4_walkTo 22 = .ok (.aload_n 0, 1) := by decide +kernel
theorem dX4_walkTo_23 : decode cX4_walkTo 23 = .ok (.iload_n 1, 1) := by decide +kernel
theorem dX4_walkTo_24 : decode cX4_walkTo 24 = .ok (.iload_n 2, 1) := by decide +kernel
theorem dX4_walkTo_25 : decode cX4_walkTo 25 = .ok (.invokevirtual 57, 3) := by decide +kernel
theorem dX4_walkTo_28 : decode cX4_walkTo 28 = .ok (.invokevirtual 60, 3) := by decide +kernel
theorem dX4_walkTo_31 : decode cX4_walkTo 31 = .ok (.pop, 1) := by decide +kernel
theorem dX4_walkTo_32 : decode cX4_walkTo 32 = .ok (.iinc 3 1, 3) := by decide +kernel
theorem dX4_walkTo_35 : decode cX4_walkTo 35 = .ok (.goto (-29), 3) := by decide +kernel
theorem dX4_walkTo_38 : decode cX4_walkTo 38 = .ok (.return_, 1) := by decide +kernel
theorem dX5_init_0 : decode cX5_init 0 = .ok (.aload_n 0, 1) := by decide +kernel
theorem dX5_init_1 : decode cX5_init 1 = .ok (.invokespecial 3, 3) := by decide +kernel
theorem dX5_init_4 : decode cX5_init 4 = .ok (.aload_n 0, 1) := by decide +kernel
theorem dX5_init_5 : decode cX5_init 5 = .ok (.new 9, 3) := by decide +kernel
theorem dX5_init_8 : decode cX5_init 8 = .ok (.dup, 1) := by decide +kernel
theorem dX5_init_9 : decode cX5_init 9 = .ok (.invokespecial 11, 3) := by decide +kernel
theorem dX5_init_12 : decode cX5_init 12 = .ok (.putfield 12, 3) := by decide +kernel
theorem dX5_init_15 : decode cX5_init 15 = .ok (.aload_n 0, 1) := by decide +kernel
theorem dX5_init_16 : decode cX5_init 16 = .ok (.new 18, 3) := by decide +kernel
theorem dX5_init_19 : decode cX5_init 19 = .ok (.dup, 1) := by decide +kernel
theorem dX5_init_20 : decode cX5_init 20 = .ok (.invokespecial 20, 3) := by decide +kernel
theorem dX5_init_23 : decode cX5_init 23 = .ok (.putfield 21, 3) := by decide +kernel
theorem dX5_init_26 : decode cX5_init 26 = .ok (.return_, 1) := by decide +kernel
theorem dX5_place_0 : decode cX5_place 0 = .ok (.aload_n 0, 1) := by decide +kernel
theorem dX5_place_1 : decode cX5_place 1 = .ok (.getfield 12, 3) := by decide +kernel
theorem dX5_place_4 : decode cX5_place 4 = .ok (.areturn, 1) := by decide +kernel
theorem dX5_marks_0 : decode cX5_marks 0 = .ok (.aload_n 0, 1) := by decide +kernel
theorem dX5_marks_1 : decode cX5_marks 1 = .ok (.getfield 21, 3) := by decide +kernel
theorem dX5_marks_4 : decode cX5_marks 4 = .ok (.areturn, 1) := by decide +kernel
theorem dX5_isMarked_0 : decode cX5_isMarked 0 = .ok (.aload_n 0, 1) := by decide +kernel
theorem dX5_isMarked_1 : decode cX5_isMarked 1 = .ok (.getfield 21, 3) := by decide +kernel
theorem dX5_isMarked_4 : decode cX5_isMarked 4 = .ok (.aload_n 0, 1) := by decide +kernel
theorem dX5_isMarked_5 : decode cX5_isMarked 5 = .ok (.getfield 12, 3) := by decide +kernel
theorem dX5_isMarked_8 : decode cX5_isMarked 8 = .ok (.invokevirtual 25, 3) := by decide +kernel
theorem dX5_isMarked_11 : decode cX5_isMarked 11 = .ok (.aload_n 0, 1) := by decide +kernel
theorem dX5_isMarked_12 : decode cX5_isMarked 12 = .ok (.getfield 12, 3) := by decide +kernel
theorem dX5_isMarked_15 : decode cX5_isMarked 15 = .ok (.invokevirtual 29, 3) := by decide +kernel
theorem dX5_isMarked_18 : decode cX5_isMarked 18 = .ok (.invokevirtual 32, 3) := by decide +kernel
theorem dX5_isMarked_21 : decode cX5_isMarked 21 = .ok (.iconst (-1), 1) := by decide +kernel
theorem dX5_isMarked_22 : decode cX5_isMarked 22 = .ok (.if_icmp .eq 7, 3) := by decide +kernel
theorem dX5_isMarked_25 : decode cX5_isMarked 25 = .ok (.iconst 1, 1) := by decide +kernel
theorem dX5_isMarked_26 : decode cX5_isMarked 26 = .ok (.goto 4, 3) := by decide +kernel
theorem dX5_isMarked_29 : decode cX5_isMarked 29 = .ok (.iconst 0, 1) := by decide +kernel
theorem dX5_isMarked_30 : decode cX5_isMarked 30 = .ok (.ireturn, 1) := by decide +kernel
theorem dX5_copyFrom_0 : decode cX5_copyFrom 0 = .ok (.aload_n 0, 1) := by decide +kernel
theorem dX5_copyFrom_1 : decode cX5_copyFrom 1 = .ok (.getfield 12, 3) := by decide +kernel
theorem dX5_copyFrom_4 : decode cX5_copyFrom 4 = .ok (.aload_n 1, 1) := by decide +kernel
theorem dX5_copyFrom_5 : decode cX5_copyFrom 5 = .ok (.getfield 12, 3) := by decide +kernel
theorem dX5_copyFrom_8 : decode cX5_copyFrom 8 = .ok (.invokevirtual 36, 3) := by decide +kernel
theorem dX5_copyFrom_11 : decode cX5_copyFrom 11 = .ok (.aload_n 0, 1) := by decide +kernel
theorem dX5_copyFrom_12 : decode cX5_copyFrom 12 = .ok (.getfield 21, 3) := by decide +kernel
theorem dX5_copyFrom_15 : decode cX5_copyFrom 15 = .ok (.aload_n 1, 1) := by decide +kernel
theorem dX5_copyFrom_16 : decode cX5_copyFrom 16 = .ok (.getfield 21, 3) := by decide +kernel
theorem dX5_copyFrom_19 : decode cX5_copyFrom 19 = .ok (.invokevirtual 40, 3) := by decide +kernel
theorem dX5_copyFrom_22 : decode cX5_copyFrom 22 = .ok (.return_, 1) := by decide +kernel
theorem dX6_init_0 : decode cX6_init 0 = .ok (.aload_n 0, 1) := by decide +kernel
theorem dX6_init_1 : decode cX6_init 1 = .ok (.invokespecial 3, 3) := by decide +kernel
theorem dX6_init_4 : decode cX6_init 4 = .ok (.aload_n 0, 1) := by decide +kernel
theorem dX6_init_5 : decode cX6_init 5 = .ok (.sipush 160, 3) := by decide +kernel
theorem dX6_init_8 : decode cX6_init 8 = .ok (.newarray .long, 2) := by decide +kernel
theorem dX6_init_10 : decode cX6_init 10 = .ok (.putfield 11, 3) := by decide +kernel
theorem dX6_init_13 : decode cX6_init 13 = .ok (.aload_n 0, 1) := by decide +kernel
theorem dX6_init_14 : decode cX6_init 14 = .ok (.sipush 160, 3) := by decide +kernel
theorem dX6_init_17 : decode cX6_init 17 = .ok (.newarray .long, 2) := by decide +kernel
theorem dX6_init_19 : decode cX6_init 19 = .ok (.putfield 15, 3) := by decide +kernel
theorem dX6_init_22 : decode cX6_init 22 = .ok (.aload_n 0, 1) := by decide +kernel
theorem dX6_init_23 : decode cX6_init 23 = .ok (.sipush 160, 3) := by decide +kernel
theorem dX6_init_26 : decode cX6_init 26 = .ok (.newarray .long, 2) := by decide +kernel
theorem dX6_init_28 : decode cX6_init 28 = .ok (.putfield 18, 3) := by decide +kernel
theorem dX6_init_31 : decode cX6_init 31 = .ok (.aload_n 0, 1) := by decide +kernel
theorem dX6_init_32 : decode cX6_init 32 = .ok (.sipush 160, 3) := by decide +kernel
theorem dX6_init_35 : decode cX6_init 35 = .ok (.newarray .int, 2) := by decide +kernel
theorem dX6_init_37 : decode cX6_init 37 = .ok (.putfield 21, 3) := by decide +kernel
theorem dX6_init_40 : decode cX6_init 40 = .ok (.aload_n 0, 1) := by decide +kernel
theorem dX6_init_41 : decode cX6_init 41 = .ok (.sipush 160, 3) := by decide +kernel
theorem dX6_init_44 : decode cX6_init 44 = .ok (.newarray .long, 2) := by decide +kernel
theorem dX6_init_46 : decode cX6_init 46 = .ok (.putfield 25, 3) := by decide +kernel
theorem dX6_init_49 : decode cX6_init 49 = .ok (.aload_n 0, 1) := by decide +kernel
theorem dX6_init_50 : decode cX6_init 50 = .ok (.iconst 0, 1) := by decide +kernel
theorem dX6_init_51 : decode cX6_init 51 = .ok (.putfield 28, 3) := by decide +kernel
theorem dX6_init_54 : decode cX6_init 54 = .ok (.aload_n 0, 1) := by decide +kernel
theorem dX6_init_55 : decode cX6_init 55 = .ok (.iconst 0, 1) := by decide +kernel
theorem dX6_init_56 : decode cX6_init 56 = .ok (.putfield 32, 3) := by decide +kernel
theorem dX6_init_59 : decode cX6_init 59 = .ok (.return_, 1) := by decide +kernel
theorem dX6_countUpTo_0 : decode cX6_countUpTo 0 = .ok (.aload_n 0, 1) := by decide +kernel
theorem dX6_countUpTo_1 : decode cX6_countUpTo 1 = .ok (.invokevirtual 35, 3) := by decide +kernel
theorem dX6_countUpTo_4 : decode cX6_countUpTo 4 = .ok (.iconst 0, 1) := by decide +kernel
theorem dX6_countUpTo_5 : decode cX6_countUpTo 5 = .ok (.istore_n 3, 1) := by decide +kernel
theorem dX6_countUpTo_6 : decode cX6_countUpTo 6 = .ok (.iload_n 3, 1) := by decide +kernel
theorem dX6_countUpTo_7 : decode cX6_countUpTo 7 = .ok (.aload_n 0, 1) := by decide +kernel
theorem dX6_countUpTo_8 : decode cX6_countUpTo 8 = .ok (.getfield 32, 3) := by decide +kernel
theorem dX6_countUpTo_11 : decode cX6_countUpTo 11 = .ok (.if_icmp .ge 20, 3) := by decide +kernel
theorem dX6_countUpTo_14 : decode cX6_countUpTo 14 = .ok (.aload_n 0, 1) := by decide +kernel
theorem dX6_countUpTo_15 : decode cX6_countUpTo 15 = .ok (.getfield 25, 3) := by decide +kernel
theorem dX6_countUpTo_18 : decode cX6_countUpTo 18 = .ok (.iload_n 3, 1) := by decide +kernel
theorem dX6_countUpTo_19 : decode cX6_countUpTo 19 = .ok (.laload, 1) := by decide +kernel
theorem dX6_countUpTo_20 : decode cX6_countUpTo 20 = .ok (.lload_n 1, 1) := by decide +kernel
theorem dX6_countUpTo_21 : decode cX6_countUpTo 21 = .ok (.lcmp, 1) := by decide +kernel
theorem dX6_countUpTo_22 : decode cX6_countUpTo 22 = .ok (.ifCond .gt 9, 3) := by decide +kernel
theorem dX6_countUpTo_25 : decode cX6_countUpTo 25 = .ok (.iinc 3 1, 3) := by decide +kernel
theorem dX6_countUpTo_28 : decode cX6_countUpTo 28 = .ok (.goto (-22), 3) := by decide +kernel
theorem dX6_countUpTo_31 : decode cX6_countUpTo 31 = .ok (.iload_n 3, 1) := by decide +kernel
theorem dX6_countUpTo_32 : decode cX6_countUpTo 32 = .ok (.ireturn, 1) := by decide +kernel
theorem dX6_numberAt_0 : decode cX6_numberAt 0 = .ok (.aload_n 0, 1) := by decide +kernel
theorem dX6_numberAt_1 : decode cX6_numberAt 1 = .ok (.invokevirtual 35, 3) := by decide +kernel
theorem dX6_numberAt_4 : decode cX6_numberAt 4 = .ok (.iload_n 1, 1) := by decide +kernel
theorem dX6_numberAt_5 : decode cX6_numberAt 5 = .ok (.ifCond .lt 20, 3) := by decide +kernel
theorem dX6_numberAt_8 : decode cX6_numberAt 8 = .ok (.iload_n 1, 1) := by decide +kernel
theorem dX6_numberAt_9 : decode cX6_numberAt 9 = .ok (.aload_n 0, 1) := by decide +kernel
theorem dX6_numberAt_10 : decode cX6_numberAt 10 = .ok (.getfield 32, 3) := by decide +kernel
theorem dX6_numberAt_13 : decode cX6_numberAt 13 = .ok (.if_icmp .ge 12, 3) := by decide +kernel
theorem dX6_numberAt_16 : decode cX6_numberAt 16 = .ok (.aload_n 0, 1) := by decide +kernel
theorem dX6_numberAt_17 : decode cX6_numberAt 17 = .ok (.getfield 25, 3) := by decide +kernel
theorem dX6_numberAt_20 : decode cX6_numberAt 20 = .ok (.iload_n 1, 1) := by decide +kernel
theorem dX6_numberAt_21 : decode cX6_numberAt 21 = .ok (.laload, 1) := by decide +kernel
theorem dX6_numberAt_22 : decode cX6_numberAt 22 = .ok (.goto 6, 3) := by decide +kernel
theorem dX6_numberAt_25 : decode cX6_numberAt 25 = .ok (.ldc2_w 38, 3) := by decide +kernel
theorem dX6_numberAt_28 : decode cX6_numberAt 28 = .ok (.lreturn, 1) := by decide +kernel
theorem dX6_rankOf_0 : decode cX6_rankOf 0 = .ok (.aload_n 0, 1) := by decide +kernel
theorem dX6_rankOf_1 : decode cX6_rankOf 1 = .ok (.lload_n 1, 1) := by decide +kernel
theorem dX6_rankOf_2 : decode cX6_rankOf 2 = .ok (.invokevirtual 40, 3) := by decide +kernel
theorem dX6_rankOf_5 : decode cX6_rankOf 5 = .ok (.iconst 1, 1) := by decide +kernel
theorem dX6_rankOf_6 : decode cX6_rankOf 6 = .ok (.isub, 1) := by decide +kernel
theorem dX6_rankOf_7 : decode cX6_rankOf 7 = .ok (.istore_n 3, 1) := by decide +kernel
theorem dX6_rankOf_8 : decode cX6_rankOf 8 = .ok (.aload_n 0, 1) := by decide +kernel
theorem dX6_rankOf_9 : decode cX6_rankOf 9 = .ok (.iload_n 3, 1) := by decide +kernel
theorem dX6_rankOf_10 : decode cX6_rankOf 10 = .ok (.invokevirtual 44, 3) := by decide +kernel
theorem dX6_rankOf_13 : decode cX6_rankOf 13 = .ok (.lload_n 1, 1) := by decide +kernel
theorem dX6_rankOf_14 : decode cX6_rankOf 14 = .ok (.lcmp, 1) := by decide +kernel
theorem dX6_rankOf_15 : decode cX6_rankOf 15 = .ok (.ifCond .ne 11, 3) := by decide +kernel
theorem dX6_rankOf_18 : decode cX6_rankOf 18 = .ok (.iload_n 3, 1) := by decide +kernel
theorem dX6_rankOf_19 : decode cX6_rankOf 19 = .ok (.ifCond .lt 7, 3) := by decide +kernel
theorem dX6_rankOf_22 : decode cX6_rankOf 22 = .ok (.iload_n 3, 1) := by decide +kernel
theorem dX6_rankOf_23 : decode cX6_rankOf 23 = .ok (.goto 4, 3) := by decide +kernel
theorem dX6_rankOf_26 : decode cX6_rankOf 26 = .ok (.iconst (-1), 1) := by decide +kernel
theorem dX6_rankOf_27 : decode cX6_rankOf 27 = .ok (.ireturn, 1) := by decide +kernel
theorem dX6_rowOf_0 : decode cX6_rowOf 0 = .ok (.aload_n 0, 1) := by decide +kernel
theorem dX6_rowOf_1 : decode cX6_rowOf 1 = .ok (.invokevirtual 35, 3) := by decide +kernel
theorem dX6_rowOf_4 : decode cX6_rowOf 4 = .ok (.iconst 0, 1) := by decide +kernel
theorem dX6_rowOf_5 : decode cX6_rowOf 5 = .ok (.istore_n 3, 1) := by decide +kernel
theorem dX6_rowOf_6 : decode cX6_rowOf 6 = .ok (.iload_n 3, 1) := by decide +kernel
theorem dX6_rowOf_7 : decode cX6_rowOf 7 = .ok (.aload_n 0, 1) := by decide +kernel
theorem dX6_rowOf_8 : decode cX6_rowOf 8 = .ok (.getfield 28, 3) := by decide +kernel
theorem dX6_rowOf_11 : decode cX6_rowOf 11 = .ok (.if_icmp .ge 22, 3) := by decide +kernel
theorem dX6_rowOf_14 : decode cX6_rowOf 14 = .ok (.aload_n 0, 1) := by decide +kernel
theorem dX6_rowOf_15 : decode cX6_rowOf 15 = .ok (.getfield 18, 3) := by decide +kernel
theorem dX6_rowOf_18 : decode cX6_rowOf 18 = .ok (.iload_n 3, 1) := by decide +kernel
theorem dX6_rowOf_19 : decode cX6_rowOf 19 = .ok (.laload, 1) := by decide +kernel
theorem dX6_rowOf_20 : decode cX6_rowOf 20 = .ok (.lload_n 1, 1) := by decide +kernel
theorem dX6_rowOf_21 : decode cX6_rowOf 21 = .ok (.lcmp, 1) := by decide +kernel
theorem dX6_rowOf_22 : decode cX6_rowOf 22 = .ok (.ifCond .ne 5, 3) := by decide +kernel
theorem dX6_rowOf_25 : decode cX6_rowOf 25 = .ok (.iload_n 3, 1) := by decide +kernel
theorem dX6_rowOf_26 : decode cX6_rowOf 26 = .ok (.ireturn, 1) := by decide +kernel
theorem dX6_rowOf_27 : decode cX6_rowOf 27 = .ok (.iinc 3 1, 3) := by decide +kernel
theorem dX6_rowOf_30 : decode cX6_rowOf 30 = .ok (.goto (-24), 3) := by decide +kernel
theorem dX6_rowOf_33 : decode cX6_rowOf 33 = .ok (.iconst (-1), 1) := by decide +kernel
theorem dX6_rowOf_34 : decode cX6_rowOf 34 = .ok (.ireturn, 1) := by decide +kernel
theorem dX6_countGreatest_0 : decode cX6_countGreatest 0 = .ok (.aload_n 0, 1) := by decide +kernel
theorem dX6_countGreatest_1 : decode cX6_countGreatest 1 = .ok (.invokevirtual 35, 3) := by decide +kernel
theorem dX6_countGreatest_4 : decode cX6_countGreatest 4 = .ok (.iconst 0, 1) := by decide +kernel
theorem dX6_countGreatest_5 : decode cX6_countGreatest 5 = .ok (.istore_n 3, 1) := by decide +kernel
theorem dX6_countGreatest_6 : decode cX6_countGreatest 6 = .ok (.iconst 0, 1) := by decide +kernel
theorem dX6_countGreatest_7 : decode cX6_countGreatest 7 = .ok (.istore 4, 2) := by decide +kernel
theorem dX6_countGreatest_9 : decode cX6_countGreatest 9 = .ok (.iload 4, 2) := by decide +kernel
theorem dX6_countGreatest_11 : decode cX6_countGreatest 11 = .ok (.aload_n 0, 1) := by decide +kernel
theorem dX6_countGreatest_12 : decode cX6_countGreatest 12 = .ok (.getfield 28, 3) := by decide +kernel
theorem dX6_countGreatest_15 : decode cX6_countGreatest 15 = .ok (.if_icmp .ge 24, 3) := by decide +kernel
theorem dX6_countGreatest_18 : decode cX6_countGreatest 18 = .ok (.aload_n 0, 1) := by decide +kernel
theorem dX6_countGreatest_19 : decode cX6_countGreatest 19 = .ok (.getfield 18, 3) := by decide +kernel
theorem dX6_countGreatest_22 : decode cX6_countGreatest 22 = .ok (.iload 4, 2) := by decide +kernel
theorem dX6_countGreatest_24 : decode cX6_countGreatest 24 = .ok (.laload, 1) := by decide +kernel
theorem dX6_countGreatest_25 : decode cX6_countGreatest 25 = .ok (.lload_n 1, 1) := by decide +kernel
theorem dX6_countGreatest_26 : decode cX6_countGreatest 26 = .ok (.lcmp, 1) := by decide +kernel
theorem dX6_countGreatest_27 : decode cX6_countGreatest 27 = .ok (.ifCond .ne 6, 3) := by decide +kernel
theorem dX6_countGreatest_30 : decode cX6_countGreatest 30 = .ok (.iinc 3 1, 3) := by decide +kernel
theorem dX6_countGreatest_33 : decode cX6_countGreatest 33 = .ok (.iinc 4 1, 3) := by decide +kernel
theorem dX6_countGreatest_36 : decode cX6_countGreatest 36 = .ok (.goto (-27), 3) := by decide +kernel
theorem dX6_countGreatest_39 : decode cX6_countGreatest 39 = .ok (.iload_n 3, 1) := by decide +kernel
theorem dX6_countGreatest_40 : decode cX6_countGreatest 40 = .ok (.ireturn, 1) := by decide +kernel
theorem dX6_has_0 : decode cX6_has 0 = .ok (.iload_n 1, 1) := by decide +kernel
theorem dX6_has_1 : decode cX6_has 1 = .ok (.ifCond .lt 15, 3) := by decide +kernel
theorem dX6_has_4 : decode cX6_has 4 = .ok (.iload_n 1, 1) := by decide +kernel
theorem dX6_has_5 : decode cX6_has 5 = .ok (.aload_n 0, 1) := by decide +kernel
theorem dX6_has_6 : decode cX6_has 6 = .ok (.getfield 28, 3) := by decide +kernel
theorem dX6_has_9 : decode cX6_has 9 = .ok (.if_icmp .ge 7, 3) := by decide +kernel
theorem dX6_has_12 : decode cX6_has 12 = .ok (.iconst 1, 1) := by decide +kernel
theorem dX6_has_13 : decode cX6_has 13 = .ok (.goto 4, 3) := by decide +kernel
theorem dX6_has_16 : decode cX6_has 16 = .ok (.iconst 0, 1) := by decide +kernel
theorem dX6_has_17 : decode cX6_has 17 = .ok (.ireturn, 1) := by decide +kernel
theorem dX6_leastAt_0 : decode cX6_leastAt 0 = .ok (.aload_n 0, 1) := by decide +kernel
theorem dX6_leastAt_1 : decode cX6_leastAt 1 = .ok (.iload_n 1, 1) := by decide +kernel
theorem dX6_leastAt_2 : decode cX6_leastAt 2 = .ok (.invokevirtual 48, 3) := by decide +kernel
theorem dX6_leastAt_5 : decode cX6_leastAt 5 = .ok (.ifCond .eq 12, 3) := by decide +kernel
theorem dX6_leastAt_8 : decode cX6_leastAt 8 = .ok (.aload_n 0, 1) := by decide +kernel
theorem dX6_leastAt_9 : decode cX6_leastAt 9 = .ok (.getfield 11, 3) := by decide +kernel
theorem dX6_leastAt_12 : decode cX6_leastAt 12 = .ok (.iload_n 1, 1) := by decide +kernel
theorem dX6_leastAt_13 : decode cX6_leastAt 13 = .ok (.laload, 1) := by decide +kernel
theorem dX6_leastAt_14 : decode cX6_leastAt 14 = .ok (.goto 6, 3) := by decide +kernel
theorem dX6_leastAt_17 : decode cX6_leastAt 17 = .ok (.ldc2_w 38, 3) := by decide +kernel
theorem dX6_leastAt_20 : decode cX6_leastAt 20 = .ok (.lreturn, 1) := by decide +kernel
theorem dX6_middleAt_0 : decode cX6_middleAt 0 = .ok (.aload_n 0, 1) := by decide +kernel
theorem dX6_middleAt_1 : decode cX6_middleAt 1 = .ok (.iload_n 1, 1) := by decide +kernel
theorem dX6_middleAt_2 : decode cX6_middleAt 2 = .ok (.invokevirtual 48, 3) := by decide +kernel
theorem dX6_middleAt_5 : decode cX6_middleAt 5 = .ok (.ifCond .eq 12, 3) := by decide +kernel
theorem dX6_middleAt_8 : decode cX6_middleAt 8 = .ok (.aload_n 0, 1) := by decide +kernel
theorem dX6_middleAt_9 : decode cX6_middleAt 9 = .ok (.getfield 15, 3) := by decide +kernel
theorem dX6_middleAt_12 : decode cX6_middleAt 12 = .ok (.iload_n 1, 1) := by decide +kernel
theorem dX6_middleAt_13 : decode cX6_middleAt 13 = .ok (.laload, 1) := by decide +kernel
theorem dX6_middleAt_14 : decode cX6_middleAt 14 = .ok (.goto 6, 3) := by decide +kernel
theorem dX6_middleAt_17 : decode cX6_middleAt 17 = .ok (.ldc2_w 38, 3) := by decide +kernel
theorem dX6_middleAt_20 : decode cX6_middleAt 20 = .ok (.lreturn, 1) := by decide +kernel
theorem dX6_stepsDownAt_0 : decode cX6_stepsDownAt 0 = .ok (.aload_n 0, 1) := by decide +kernel
theorem dX6_stepsDownAt_1 : decode cX6_stepsDownAt 1 = .ok (.iload_n 1, 1) := by decide +kernel
theorem dX6_stepsDownAt_2 : decode cX6_stepsDownAt 2 = .ok (.invokevirtual 48, 3) := by decide +kernel
theorem dX6_stepsDownAt_5 : decode cX6_stepsDownAt 5 = .ok (.ifCond .eq 12, 3) := by decide +kernel
theorem dX6_stepsDownAt_8 : decode cX6_stepsDownAt 8 = .ok (.aload_n 0, 1) := by decide +kernel
theorem dX6_stepsDownAt_9 : decode cX6_stepsDownAt 9 = .ok (.getfield 21, 3) := by decide +kernel
theorem dX6_stepsDownAt_12 : decode cX6_stepsDownAt 12 = .ok (.iload_n 1, 1) := by decide +kernel
theorem dX6_stepsDownAt_13 : decode cX6_stepsDownAt 13 = .ok (.iaload, 1) := by decide +kernel
theorem dX6_stepsDownAt_14 : decode cX6_stepsDownAt 14 = .ok (.goto 4, 3) := by decide +kernel
theorem dX6_stepsDownAt_17 : decode cX6_stepsDownAt 17 = .ok (.iconst (-1), 1) := by decide +kernel
theorem dX6_stepsDownAt_18 : decode cX6_stepsDownAt 18 = .ok (.ireturn, 1) := by decide +kernel
theorem dX6_fill_0 : decode cX6_fill 0 = .ok (.aload_n 0, 1) := by decide +kernel
theorem dX6_fill_1 : decode cX6_fill 1 = .ok (.getfield 28, 3) := by decide +kernel
theorem dX6_fill_4 : decode cX6_fill 4 = .ok (.ifCond .le 4, 3) := by decide +kernel
theorem dX6_fill_7 : decode cX6_fill 7 = .ok (.return_, 1) := by decide +kernel
theorem dX6_fill_8 : decode cX6_fill 8 = .ok (.aload_n 0, 1) := by decide +kernel
theorem dX6_fill_9 : decode cX6_fill 9 = .ok (.lconst 1, 1) := by decide +kernel
theorem dX6_fill_10 : decode cX6_fill 10 = .ok (.ldc2_w 52, 3) := by decide +kernel
theorem dX6_fill_13 : decode cX6_fill 13 = .ok (.ldc2_w 54, 3) := by decide +kernel
theorem dX6_fill_16 : decode cX6_fill 16 = .ok (.iconst 2, 1) := by decide +kernel
theorem dX6_fill_17 : decode cX6_fill 17 = .ok (.invokevirtual 56, 3) := by decide +kernel
theorem dX6_fill_20 : decode cX6_fill 20 = .ok (.iconst 0, 1) := by decide +kernel
theorem dX6_fill_21 : decode cX6_fill 21 = .ok (.istore_n 1, 1) := by decide +kernel
theorem dX6_fill_22 : decode cX6_fill 22 = .ok (.iload_n 1, 1) := by decide +kernel
theorem dX6_fill_23 : decode cX6_fill 23 = .ok (.aload_n 0, 1) := by decide +kernel
theorem dX6_fill_24 : decode cX6_fill 24 = .ok (.getfield 28, 3) := by decide +kernel
theorem dX6_fill_27 : decode cX6_fill 27 = .ok (.if_icmp .ge 71, 3) := by decide +kernel
theorem dX6_fill_30 : decode cX6_fill 30 = .ok (.iload_n 1, 1) := by decide +kernel
theorem dX6_fill_31 : decode cX6_fill 31 = .ok (.sipush 160, 3) := by decide +kernel
theorem dX6_fill_34 : decode cX6_fill 34 = .ok (.if_icmp .ge 64, 3) := by decide +kernel
theorem dX6_fill_37 : decode cX6_fill 37 = .ok (.aload_n 0, 1) := by decide +kernel
theorem dX6_fill_38 : decode cX6_fill 38 = .ok (.getfield 11, 3) := by decide +kernel
theorem dX6_fill_41 : decode cX6_fill 41 = .ok (.iload_n 1, 1) := by decide +kernel
theorem dX6_fill_42 : decode cX6_fill 42 = .ok (.laload, 1) := by decide +kernel
theorem dX6_fill_43 : decode cX6_fill 43 = .ok (.lstore_n 2, 1) := by decide +kernel
theorem dX6_fill_44 : decode cX6_fill 44 = .ok (.aload_n 0, 1) := by decide +kernel
theorem dX6_fill_45 : decode cX6_fill 45 = .ok (.getfield 15, 3) := by decide +kernel
theorem dX6_fill_48 : decode cX6_fill 48 = .ok (.iload_n 1, 1) := by decide +kernel
theorem dX6_fill_49 : decode cX6_fill 49 = .ok (.laload, 1) := by decide +kernel
theorem dX6_fill_50 : decode cX6_fill 50 = .ok (.lstore 4, 2) := by decide +kernel
theorem dX6_fill_52 : decode cX6_fill 52 = .ok (.aload_n 0, 1) := by decide +kernel
theorem dX6_fill_53 : decode cX6_fill 53 = .ok (.getfield 18, 3) := by decide +kernel
theorem dX6_fill_56 : decode cX6_fill 56 = .ok (.iload_n 1, 1) := by decide +kernel
theorem dX6_fill_57 : decode cX6_fill 57 = .ok (.laload, 1) := by decide +kernel
theorem dX6_fill_58 : decode cX6_fill 58 = .ok (.lstore 6, 2) := by decide +kernel
theorem dX6_fill_60 : decode cX6_fill 60 = .ok (.aload_n 0, 1) := by decide +kernel
theorem dX6_fill_61 : decode cX6_fill 61 = .ok (.getfield 21, 3) := by decide +kernel
theorem dX6_fill_64 : decode cX6_fill 64 = .ok (.iload_n 1, 1) := by decide +kernel
theorem dX6_fill_65 : decode cX6_fill 65 = .ok (.iaload, 1) := by decide +kernel
theorem dX6_fill_66 : decode cX6_fill 66 = .ok (.iconst 1, 1) := by decide +kernel
theorem dX6_fill_67 : decode cX6_fill 67 = .ok (.iadd, 1) := by decide +kernel
theorem dX6_fill_68 : decode cX6_fill 68 = .ok (.istore 8, 2) := by decide +kernel
theorem dX6_fill_70 : decode cX6_fill 70 = .ok (.aload_n 0, 1) := by decide +kernel
theorem dX6_fill_71 : decode cX6_fill 71 = .ok (.lload_n 2, 1) := by decide +kernel
theorem dX6_fill_72 : decode cX6_fill 72 = .ok (.lload 6, 2) := by decide +kernel
theorem dX6_fill_74 : decode cX6_fill 74 = .ok (.lload 4, 2) := by decide +kernel
theorem dX6_fill_76 : decode cX6_fill 76 = .ok (.iload 8, 2) := by decide +kernel
theorem dX6_fill_78 : decode cX6_fill 78 = .ok (.invokevirtual 60, 3) := by decide +kernel
theorem dX6_fill_81 : decode cX6_fill 81 = .ok (.aload_n 0, 1) := by decide +kernel
theorem dX6_fill_82 : decode cX6_fill 82 = .ok (.lload 4, 2) := by decide +kernel
theorem dX6_fill_84 : decode cX6_fill 84 = .ok (.lload 6, 2) := by decide +kernel
theorem dX6_fill_86 : decode cX6_fill 86 = .ok (.lload_n 2, 1) := by decide +kernel
theorem dX6_fill_87 : decode cX6_fill 87 = .ok (.iload 8, 2) := by decide +kernel
theorem dX6_fill_89 : decode cX6_fill 89 = .ok (.invokevirtual 60, 3) := by decide +kernel
theorem dX6_fill_92 : decode cX6_fill 92 = .ok (.iinc 1 1, 3) := by decide +kernel
theorem dX6_fill_95 : decode cX6_fill 95 = .ok (.goto (-73), 3) := by decide +kernel
theorem dX6_fill_98 : decode cX6_fill 98 = .ok (.aload_n 0, 1) := by decide +kernel
theorem dX6_fill_99 : decode cX6_fill 99 = .ok (.invokevirtual 63, 3) := by decide +kernel
theorem dX6_fill_102 : decode cX6_fill 102 = .ok (.return_, 1) := by decide +kernel
theorem dX6_putNext_0 : decode cX6_putNext 0 = .ok (.lload_n 3, 1) := by decide +kernel
theorem dX6_putNext_1 : decode cX6_putNext 1 = .ok (.lconst 1, 1) := by decide +kernel
theorem dX6_putNext_2 : decode cX6_putNext 2 = .ok (.lcmp, 1) := by decide +kernel
theorem dX6_putNext_3 : decode cX6_putNext 3 = .ok (.ifCond .lt 20, 3) := by decide +kernel
theorem dX6_putNext_6 : decode cX6_putNext 6 = .ok (.lload_n 1, 1) := by decide +kernel
theorem dX6_putNext_7 : decode cX6_putNext 7 = .ok (.ldc2_w 66, 3) := by decide +kernel
theorem dX6_putNext_10 : decode cX6_putNext 10 = .ok (.lload 5, 2) := by decide +kernel
theorem dX6_putNext_12 : decode cX6_putNext 12 = .ok (.ladd, 1) := by decide +kernel
theorem dX6_putNext_13 : decode cX6_putNext 13 = .ok (.ldc2_w 68, 3) := by decide +kernel
theorem dX6_putNext_16 : decode cX6_putNext 16 = .ok (.lload_n 3, 1) := by decide +kernel
theorem dX6_putNext_17 : decode cX6_putNext 17 = .ok (.lmul, 1) := by decide +kernel
theorem dX6_putNext_18 : decode cX6_putNext 18 = .ok (.ldiv, 1) := by decide +kernel
theorem dX6_putNext_19 : decode cX6_putNext 19 = .ok (.lcmp, 1) := by decide +kernel
theorem dX6_putNext_20 : decode cX6_putNext 20 = .ok (.ifCond .le 4, 3) := by decide +kernel
theorem dX6_putNext_23 : decode cX6_putNext 23 = .ok (.return_, 1) := by decide +kernel
theorem dX6_putNext_24 : decode cX6_putNext 24 = .ok (.aload_n 0, 1) := by decide +kernel
theorem dX6_putNext_25 : decode cX6_putNext 25 = .ok (.lload_n 1, 1) := by decide +kernel
theorem dX6_putNext_26 : decode cX6_putNext 26 = .ok (.lload_n 3, 1) := by decide +kernel
theorem dX6_putNext_27 : decode cX6_putNext 27 = .ok (.ldc2_w 68, 3) := by decide +kernel
theorem dX6_putNext_30 : decode cX6_putNext 30 = .ok (.lload_n 1, 1) := by decide +kernel
theorem dX6_putNext_31 : decode cX6_putNext 31 = .ok (.lmul, 1) := by decide +kernel
theorem dX6_putNext_32 : decode cX6_putNext 32 = .ok (.lload_n 3, 1) := by decide +kernel
theorem dX6_putNext_33 : decode cX6_putNext 33 = .ok (.lmul, 1) := by decide +kernel
theorem dX6_putNext_34 : decode cX6_putNext 34 = .ok (.lload 5, 2) := by decide +kernel
theorem dX6_putNext_36 : decode cX6_putNext 36 = .ok (.lsub, 1) := by decide +kernel
theorem dX6_putNext_37 : decode cX6_putNext 37 = .ok (.iload 7, 2) := by decide +kernel
theorem dX6_putNext_39 : decode cX6_putNext 39 = .ok (.invokevirtual 56, 3) := by decide +kernel
theorem dX6_putNext_42 : decode cX6_putNext 42 = .ok (.return_, 1) := by decide +kernel
theorem dX6_putRow_0 : decode cX6_putRow 0 = .ok (.aload_n 0, 1) := by decide +kernel
theorem dX6_putRow_1 : decode cX6_putRow 1 = .ok (.getfield 28, 3) := by decide +kernel
theorem dX6_putRow_4 : decode cX6_putRow 4 = .ok (.sipush 160, 3) := by decide +kernel
theorem dX6_putRow_7 : decode cX6_putRow 7 = .ok (.if_icmp .lt 4, 3) := by decide +kernel
theorem dX6_putRow_10 : decode cX6_putRow 10 = .ok (.return_, 1) := by decide +kernel
theorem dX6_putRow_11 : decode cX6_putRow 11 = .ok (.aload_n 0, 1) := by decide +kernel
theorem dX6_putRow_12 : decode cX6_putRow 12 = .ok (.getfield 28, 3) := by decide +kernel
theorem dX6_putRow_15 : decode cX6_putRow 15 = .ok (.istore 8, 2) := by decide +kernel
theorem dX6_putRow_17 : decode cX6_putRow 17 = .ok (.iload 8, 2) := by decide +kernel
theorem dX6_putRow_19 : decode cX6_putRow 19 = .ok (.ifCond .le 117, 3) := by decide +kernel
theorem dX6_putRow_22 : decode cX6_putRow 22 = .ok (.aload_n 0, 1) := by decide +kernel
theorem dX6_putRow_23 : decode cX6_putRow 23 = .ok (.getfield 18, 3) := by decide +kernel
theorem dX6_putRow_26 : decode cX6_putRow 26 = .ok (.iload 8, 2) := by decide +kernel
theorem dX6_putRow_28 : decode cX6_putRow 28 = .ok (.iconst 1, 1) := by decide +kernel
theorem dX6_putRow_29 : decode cX6_putRow 29 = .ok (.isub, 1) := by decide +kernel
theorem dX6_putRow_30 : decode cX6_putRow 30 = .ok (.laload, 1) := by decide +kernel
theorem dX6_putRow_31 : decode cX6_putRow 31 = .ok (.lload 5, 2) := by decide +kernel
theorem dX6_putRow_33 : decode cX6_putRow 33 = .ok (.lcmp, 1) := by decide +kernel
theorem dX6_putRow_34 : decode cX6_putRow 34 = .ok (.ifCond .gt 32, 3) := by decide +kernel
theorem dX6_putRow_37 : decode cX6_putRow 37 = .ok (.aload_n 0, 1) := by decide +kernel
theorem dX6_putRow_38 : decode cX6_putRow 38 = .ok (.getfield 18, 3) := by decide +kernel
theorem dX6_putRow_41 : decode cX6_putRow 41 = .ok (.iload 8, 2) := by decide +kernel
theorem dX6_putRow_43 : decode cX6_putRow 43 = .ok (.iconst 1, 1) := by decide +kernel
theorem dX6_putRow_44 : decode cX6_putRow 44 = .ok (.isub, 1) := by decide +kernel
theorem dX6_putRow_45 : decode cX6_putRow 45 = .ok (.laload, 1) := by decide +kernel
theorem dX6_putRow_46 : decode cX6_putRow 46 = .ok (.lload 5, 2) := by decide +kernel
theorem dX6_putRow_48 : decode cX6_putRow 48 = .ok (.lcmp, 1) := by decide +kernel
theorem dX6_putRow_49 : decode cX6_putRow 49 = .ok (.ifCond .ne 87, 3) := by decide +kernel
theorem dX6_putRow_52 : decode cX6_putRow 52 = .ok (.aload_n 0, 1) := by decide +kernel
theorem dX6_putRow_53 : decode cX6_putRow 53 = .ok (.getfield 11, 3) := by decide +kernel
theorem dX6_putRow_56 : decode cX6_putRow 56 = .ok (.iload 8, 2) := by decide +kernel
theorem dX6_putRow_58 : decode cX6_putRow 58 = .ok (.iconst 1, 1) := by decide +kernel
theorem dX6_putRow_59 : decode cX6_putRow 59 = .ok (.isub, 1) := by decide +kernel
theorem dX6_putRow_60 : decode cX6_putRow 60 = .ok (.laload, 1) := by decide +kernel
theorem dX6_putRow_61 : decode cX6_putRow 61 = .ok (.lload_n 1, 1) := by decide +kernel
theorem dX6_putRow_62 : decode cX6_putRow 62 = .ok (.lcmp, 1) := by decide +kernel
theorem dX6_putRow_63 : decode cX6_putRow 63 = .ok (.ifCond .le 73, 3) := by decide +kernel
theorem dX6_putRow_66 : decode cX6_putRow 66 = .ok (.aload_n 0, 1) := by decide +kernel
theorem dX6_putRow_67 : decode cX6_putRow 67 = .ok (.getfield 11, 3) := by decide +kernel
theorem dX6_putRow_70 : decode cX6_putRow 70 = .ok (.iload 8, 2) := by decide +kernel
theorem dX6_putRow_72 : decode cX6_putRow 72 = .ok (.aload_n 0, 1) := by decide +kernel
theorem dX6_putRow_73 : decode cX6_putRow 73 = .ok (.getfield 11, 3) := by decide +kernel
theorem dX6_putRow_76 : decode cX6_putRow 76 = .ok (.iload 8, 2) := by decide +kernel
theorem dX6_putRow_78 : decode cX6_putRow 78 = .ok (.iconst 1, 1) := by decide +kernel
theorem dX6_putRow_79 : decode cX6_putRow 79 = .ok (.isub, 1) := by decide +kernel
theorem dX6_putRow_80 : decode cX6_putRow 80 = .ok (.laload, 1) := by decide +kernel
theorem dX6_putRow_81 : decode cX6_putRow 81 = .ok (.lastore, 1) := by decide +kernel
theorem dX6_putRow_82 : decode cX6_putRow 82 = .ok (.aload_n 0, 1) := by decide +kernel
theorem dX6_putRow_83 : decode cX6_putRow 83 = .ok (.getfield 15, 3) := by decide +kernel
theorem dX6_putRow_86 : decode cX6_putRow 86 = .ok (.iload 8, 2) := by decide +kernel
theorem dX6_putRow_88 : decode cX6_putRow 88 = .ok (.aload_n 0, 1) := by decide +kernel
theorem dX6_putRow_89 : decode cX6_putRow 89 = .ok (.getfield 15, 3) := by decide +kernel
theorem dX6_putRow_92 : decode cX6_putRow 92 = .ok (.iload 8, 2) := by decide +kernel
theorem dX6_putRow_94 : decode cX6_putRow 94 = .ok (.iconst 1, 1) := by decide +kernel
theorem dX6_putRow_95 : decode cX6_putRow 95 = .ok (.isub, 1) := by decide +kernel
theorem dX6_putRow_96 : decode cX6_putRow 96 = .ok (.laload, 1) := by decide +kernel
theorem dX6_putRow_97 : decode cX6_putRow 97 = .ok (.lastore, 1) := by decide +kernel
theorem dX6_putRow_98 : decode cX6_putRow 98 = .ok (.aload_n 0, 1) := by decide +kernel
theorem dX6_putRow_99 : decode cX6_putRow 99 = .ok (.getfield 18, 3) := by decide +kernel
theorem dX6_putRow_102 : decode cX6_putRow 102 = .ok (.iload 8, 2) := by decide +kernel
theorem dX6_putRow_104 : decode cX6_putRow 104 = .ok (.aload_n 0, 1) := by decide +kernel
theorem dX6_putRow_105 : decode cX6_putRow 105 = .ok (.getfield 18, 3) := by decide +kernel
theorem dX6_putRow_108 : decode cX6_putRow 108 = .ok (.iload 8, 2) := by decide +kernel
theorem dX6_putRow_110 : decode cX6_putRow 110 = .ok (.iconst 1, 1) := by decide +kernel
theorem dX6_putRow_111 : decode cX6_putRow 111 = .ok (.isub, 1) := by decide +kernel
theorem dX6_putRow_112 : decode cX6_putRow 112 = .ok (.laload, 1) := by decide +kernel
theorem dX6_putRow_113 : decode cX6_putRow 113 = .ok (.lastore, 1) := by decide +kernel
theorem dX6_putRow_114 : decode cX6_putRow 114 = .ok (.aload_n 0, 1) := by decide +kernel
theorem dX6_putRow_115 : decode cX6_putRow 115 = .ok (.getfield 21, 3) := by decide +kernel
theorem dX6_putRow_118 : decode cX6_putRow 118 = .ok (.iload 8, 2) := by decide +kernel
theorem dX6_putRow_120 : decode cX6_putRow 120 = .ok (.aload_n 0, 1) := by decide +kernel
theorem dX6_putRow_121 : decode cX6_putRow 121 = .ok (.getfield 21, 3) := by decide +kernel
theorem dX6_putRow_124 : decode cX6_putRow 124 = .ok (.iload 8, 2) := by decide +kernel
theorem dX6_putRow_126 : decode cX6_putRow 126 = .ok (.iconst 1, 1) := by decide +kernel
theorem dX6_putRow_127 : decode cX6_putRow 127 = .ok (.isub, 1) := by decide +kernel
theorem dX6_putRow_128 : decode cX6_putRow 128 = .ok (.iaload, 1) := by decide +kernel
theorem dX6_putRow_129 : decode cX6_putRow 129 = .ok (.iastore, 1) := by decide +kernel
theorem dX6_putRow_130 : decode cX6_putRow 130 = .ok (.iinc 8 (-1), 3) := by decide +kernel
theorem dX6_putRow_133 : decode cX6_putRow 133 = .ok (.goto (-116), 3) := by decide +kernel
theorem dX6_putRow_136 : decode cX6_putRow 136 = .ok (.aload_n 0, 1) := by decide +kernel
theorem dX6_putRow_137 : decode cX6_putRow 137 = .ok (.getfield 11, 3) := by decide +kernel
theorem dX6_putRow_140 : decode cX6_putRow 140 = .ok (.iload 8, 2) := by decide +kernel
theorem dX6_putRow_142 : decode cX6_putRow 142 = .ok (.lload_n 1, 1) := by decide +kernel
theorem dX6_putRow_143 : decode cX6_putRow 143 = .ok (.lastore, 1) := by decide +kernel
theorem dX6_putRow_144 : decode cX6_putRow 144 = .ok (.aload_n 0, 1) := by decide +kernel
theorem dX6_putRow_145 : decode cX6_putRow 145 = .ok (.getfield 15, 3) := by decide +kernel
theorem dX6_putRow_148 : decode cX6_putRow 148 = .ok (.iload 8, 2) := by decide +kernel
theorem dX6_putRow_150 : decode cX6_putRow 150 = .ok (.lload_n 3, 1) := by decide +kernel
theorem dX6_putRow_151 : decode cX6_putRow 151 = .ok (.lastore, 1) := by decide +kernel
theorem dX6_putRow_152 : decode cX6_putRow 152 = .ok (.aload_n 0, 1) := by decide +kernel
theorem dX6_putRow_153 : decode cX6_putRow 153 = .ok (.getfield 18, 3) := by decide +kernel
theorem dX6_putRow_156 : decode cX6_putRow 156 = .ok (.iload 8, 2) := by decide +kernel
theorem dX6_putRow_158 : decode cX6_putRow 158 = .ok (.lload 5, 2) := by decide +kernel
theorem dX6_putRow_160 : decode cX6_putRow 160 = .ok (.lastore, 1) := by decide +kernel
theorem dX6_putRow_161 : decode cX6_putRow 161 = .ok (.aload_n 0, 1) := by decide +kernel
theorem dX6_putRow_162 : decode cX6_putRow 162 = .ok (.getfield 21, 3) := by decide +kernel
theorem dX6_putRow_165 : decode cX6_putRow 165 = .ok (.iload 8, 2) := by decide +kernel
theorem dX6_putRow_167 : decode cX6_putRow 167 = .ok (.iload 7, 2) := by decide +kernel
theorem dX6_putRow_169 : decode cX6_putRow 169 = .ok (.iastore, 1) := by decide +kernel
theorem dX6_putRow_170 : decode cX6_putRow 170 = .ok (.aload_n 0, 1) := by decide +kernel
theorem dX6_putRow_171 : decode cX6_putRow 171 = .ok (.dup, 1) := by decide +kernel
theorem dX6_putRow_172 : decode cX6_putRow 172 = .ok (.getfield 28, 3) := by decide +kernel
theorem dX6_putRow_175 : decode cX6_putRow 175 = .ok (.iconst 1, 1) := by decide +kernel
theorem dX6_putRow_176 : decode cX6_putRow 176 = .ok (.iadd, 1) := by decide +kernel
theorem dX6_putRow_177 : decode cX6_putRow 177 = .ok (.putfield 28, 3) := by decide +kernel
theorem dX6_putRow_180 : decode cX6_putRow 180 = .ok (.return_, 1) := by decide +kernel
theorem dX6_fillNumbers_0 : decode cX6_fillNumbers 0 = .ok (.aload_n 0, 1) := by decide +kernel
theorem dX6_fillNumbers_1 : decode cX6_fillNumbers 1 = .ok (.getfield 25, 3) := by decide +kernel
theorem dX6_fillNumbers_4 : decode cX6_fillNumbers 4 = .ok (.iconst 0, 1) := by decide +kernel
theorem dX6_fillNumbers_5 : decode cX6_fillNumbers 5 = .ok (.lconst 1, 1) := by decide +kernel
theorem dX6_fillNumbers_6 : decode cX6_fillNumbers 6 = .ok (.lastore, 1) := by decide +kernel
theorem dX6_fillNumbers_7 : decode cX6_fillNumbers 7 = .ok (.aload_n 0, 1) := by decide +kernel
theorem dX6_fillNumbers_8 : decode cX6_fillNumbers 8 = .ok (.getfield 25, 3) := by decide +kernel
theorem dX6_fillNumbers_11 : decode cX6_fillNumbers 11 = .ok (.iconst 1, 1) := by decide +kernel
theorem dX6_fillNumbers_12 : decode cX6_fillNumbers 12 = .ok (.ldc2_w 52, 3) := by decide +kernel
theorem dX6_fillNumbers_15 : decode cX6_fillNumbers 15 = .ok (.lastore, 1) := by decide +kernel
theorem dX6_fillNumbers_16 : decode cX6_fillNumbers 16 = .ok (.aload_n 0, 1) := by decide +kernel
theorem dX6_fillNumbers_17 : decode cX6_fillNumbers 17 = .ok (.iconst 2, 1) := by decide +kernel
theorem dX6_fillNumbers_18 : decode cX6_fillNumbers 18 = .ok (.putfield 32, 3) := by decide +kernel
theorem dX6_fillNumbers_21 : decode cX6_fillNumbers 21 = .ok (.iconst 0, 1) := by decide +kernel
theorem dX6_fillNumbers_22 : decode cX6_fillNumbers 22 = .ok (.istore_n 1, 1) := by decide +kernel
theorem dX6_fillNumbers_23 : decode cX6_fillNumbers 23 = .ok (.iload_n 1, 1) := by decide +kernel
theorem dX6_fillNumbers_24 : decode cX6_fillNumbers 24 = .ok (.aload_n 0, 1) := by decide +kernel
theorem dX6_fillNumbers_25 : decode cX6_fillNumbers 25 = .ok (.getfield 28, 3) := by decide +kernel
theorem dX6_fillNumbers_28 : decode cX6_fillNumbers 28 = .ok (.if_icmp .ge 65, 3) := by decide +kernel
theorem dX6_fillNumbers_31 : decode cX6_fillNumbers 31 = .ok (.aload_n 0, 1) := by decide +kernel
theorem dX6_fillNumbers_32 : decode cX6_fillNumbers 32 = .ok (.getfield 32, 3) := by decide +kernel
theorem dX6_fillNumbers_35 : decode cX6_fillNumbers 35 = .ok (.sipush 160, 3) := by decide +kernel
theorem dX6_fillNumbers_38 : decode cX6_fillNumbers 38 = .ok (.if_icmp .ge 49, 3) := by decide +kernel
theorem dX6_fillNumbers_41 : decode cX6_fillNumbers 41 = .ok (.aload_n 0, 1) := by decide +kernel
theorem dX6_fillNumbers_42 : decode cX6_fillNumbers 42 = .ok (.getfield 18, 3) := by decide +kernel
theorem dX6_fillNumbers_45 : decode cX6_fillNumbers 45 = .ok (.iload_n 1, 1) := by decide +kernel
theorem dX6_fillNumbers_46 : decode cX6_fillNumbers 46 = .ok (.laload, 1) := by decide +kernel
theorem dX6_fillNumbers_47 : decode cX6_fillNumbers 47 = .ok (.aload_n 0, 1) := by decide +kernel
theorem dX6_fillNumbers_48 : decode cX6_fillNumbers 48 = .ok (.getfield 25, 3) := by decide +kernel
theorem dX6_fillNumbers_51 : decode cX6_fillNumbers 51 = .ok (.aload_n 0, 1) := by decide +kernel
theorem dX6_fillNumbers_52 : decode cX6_fillNumbers 52 = .ok (.getfield 32, 3) := by decide +kernel
theorem dX6_fillNumbers_55 : decode cX6_fillNumbers 55 = .ok (.iconst 1, 1) := by decide +kernel
theorem dX6_fillNumbers_56 : decode cX6_fillNumbers 56 = .ok (.isub, 1) := by decide +kernel
theorem dX6_fillNumbers_57 : decode cX6_fillNumbers 57 = .ok (.laload, 1) := by decide +kernel
theorem dX6_fillNumbers_58 : decode cX6_fillNumbers 58 = .ok (.lcmp, 1) := by decide +kernel
theorem dX6_fillNumbers_59 : decode cX6_fillNumbers 59 = .ok (.ifCond .eq 28, 3) := by decide +kernel
theorem dX6_fillNumbers_62 : decode cX6_fillNumbers 62 = .ok (.aload_n 0, 1) := by decide +kernel
theorem dX6_fillNumbers_63 : decode cX6_fillNumbers 63 = .ok (.getfield 25, 3) := by decide +kernel
theorem dX6_fillNumbers_66 : decode cX6_fillNumbers 66 = .ok (.aload_n 0, 1) := by decide +kernel
theorem dX6_fillNumbers_67 : decode cX6_fillNumbers 67 = .ok (.getfield 32, 3) := by decide +kernel
theorem dX6_fillNumbers_70 : decode cX6_fillNumbers 70 = .ok (.aload_n 0, 1) := by decide +kernel
theorem dX6_fillNumbers_71 : decode cX6_fillNumbers 71 = .ok (.getfield 18, 3) := by decide +kernel
theorem dX6_fillNumbers_74 : decode cX6_fillNumbers 74 = .ok (.iload_n 1, 1) := by decide +kernel
theorem dX6_fillNumbers_75 : decode cX6_fillNumbers 75 = .ok (.laload, 1) := by decide +kernel
theorem dX6_fillNumbers_76 : decode cX6_fillNumbers 76 = .ok (.lastore, 1) := by decide +kernel
theorem dX6_fillNumbers_77 : decode cX6_fillNumbers 77 = .ok (.aload_n 0, 1) := by decide +kernel
theorem dX6_fillNumbers_78 : decode cX6_fillNumbers 78 = .ok (.dup, 1) := by decide +kernel
theorem dX6_fillNumbers_79 : decode cX6_fillNumbers 79 = .ok (.getfield 32, 3) := by decide +kernel
theorem dX6_fillNumbers_82 : decode cX6_fillNumbers 82 = .ok (.iconst 1, 1) := by decide +kernel
theorem dX6_fillNumbers_83 : decode cX6_fillNumbers 83 = .ok (.iadd, 1) := by decide +kernel
theorem dX6_fillNumbers_84 : decode cX6_fillNumbers 84 = .ok (.putfield 32, 3) := by decide +kernel
theorem dX6_fillNumbers_87 : decode cX6_fillNumbers 87 = .ok (.iinc 1 1, 3) := by decide +kernel
theorem dX6_fillNumbers_90 : decode cX6_fillNumbers 90 = .ok (.goto (-67), 3) := by decide +kernel
theorem dX6_fillNumbers_93 : decode cX6_fillNumbers 93 = .ok (.return_, 1) := by decide +kernel
theorem dX7_init_0 : decode cX7_init 0 = .ok (.aload_n 0, 1) := by decide +kernel
theorem dX7_init_1 : decode cX7_init 1 = .ok (.invokespecial 3, 3) := by decide +kernel
theorem dX7_init_4 : decode cX7_init 4 = .ok (.aload_n 0, 1) := by decide +kernel
theorem dX7_init_5 : decode cX7_init 5 = .ok (.sipush 240, 3) := by decide +kernel
theorem dX7_init_8 : decode cX7_init 8 = .ok (.newarray .byte, 2) := by decide +kernel
theorem dX7_init_10 : decode cX7_init 10 = .ok (.putfield 11, 3) := by decide +kernel
theorem dX7_init_13 : decode cX7_init 13 = .ok (.aload_n 0, 1) := by decide +kernel
theorem dX7_init_14 : decode cX7_init 14 = .ok (.iconst 0, 1) := by decide +kernel
theorem dX7_init_15 : decode cX7_init 15 = .ok (.putfield 15, 3) := by decide +kernel
theorem dX7_init_18 : decode cX7_init 18 = .ok (.return_, 1) := by decide +kernel
theorem dX7_length_0 : decode cX7_length 0 = .ok (.aload_n 0, 1) := by decide +kernel
theorem dX7_length_1 : decode cX7_length 1 = .ok (.getfield 15, 3) := by decide +kernel
theorem dX7_length_4 : decode cX7_length 4 = .ok (.ireturn, 1) := by decide +kernel
theorem dX7_hasRoom_0 : decode cX7_hasRoom 0 = .ok (.aload_n 0, 1) := by decide +kernel
theorem dX7_hasRoom_1 : decode cX7_hasRoom 1 = .ok (.getfield 15, 3) := by decide +kernel
theorem dX7_hasRoom_4 : decode cX7_hasRoom 4 = .ok (.bipush 20, 2) := by decide +kernel
theorem dX7_hasRoom_6 : decode cX7_hasRoom 6 = .ok (.iadd, 1) := by decide +kernel
theorem dX7_hasRoom_7 : decode cX7_hasRoom 7 = .ok (.sipush 240, 3) := by decide +kernel
theorem dX7_hasRoom_10 : decode cX7_hasRoom 10 = .ok (.if_icmp .gt 7, 3) := by decide +kernel
theorem dX7_hasRoom_13 : decode cX7_hasRoom 13 = .ok (.iconst 1, 1) := by decide +kernel
theorem dX7_hasRoom_14 : decode cX7_hasRoom 14 = .ok (.goto 4, 3) := by decide +kernel
theorem dX7_hasRoom_17 : decode cX7_hasRoom 17 = .ok (.iconst 0, 1) := by decide +kernel
theorem dX7_hasRoom_18 : decode cX7_hasRoom 18 = .ok (.ireturn, 1) := by decide +kernel
theorem dX7_putNumber_0 : decode cX7_putNumber 0 = .ok (.bipush 24, 2) := by decide +kernel
theorem dX7_putNumber_2 : decode cX7_putNumber 2 = .ok (.istore_n 2, 1) := by decide +kernel
theorem dX7_putNumber_3 : decode cX7_putNumber 3 = .ok (.iload_n 2, 1) := by decide +kernel
theorem dX7_putNumber_4 : decode cX7_putNumber 4 = .ok (.ifCond .lt 42, 3) := by decide +kernel
theorem dX7_putNumber_7 : decode cX7_putNumber 7 = .ok (.aload_n 0, 1) := by decide +kernel
theorem dX7_putNumber_8 : decode cX7_putNumber 8 = .ok (.getfield 15, 3) := by decide +kernel
theorem dX7_putNumber_11 : decode cX7_putNumber 11 = .ok (.sipush 240, 3) := by decide +kernel
theorem dX7_putNumber_14 : decode cX7_putNumber 14 = .ok (.if_icmp .ge 32, 3) := by decide +kernel
theorem dX7_putNumber_17 : decode cX7_putNumber 17 = .ok (.aload_n 0, 1) := by decide +kernel
theorem dX7_putNumber_18 : decode cX7_putNumber 18 = .ok (.getfield 11, 3) := by decide +kernel
theorem dX7_putNumber_21 : decode cX7_putNumber 21 = .ok (.aload_n 0, 1) := by decide +kernel
theorem dX7_putNumber_22 : decode cX7_putNumber 22 = .ok (.getfield 15, 3) := by decide +kernel
theorem dX7_putNumber_25 : decode cX7_putNumber 25 = .ok (.iload_n 1, 1) := by decide +kernel
theorem dX7_putNumber_26 : decode cX7_putNumber 26 = .ok (.iload_n 2, 1) := by decide +kernel
theorem dX7_putNumber_27 : decode cX7_putNumber 27 = .ok (.iushr, 1) := by decide +kernel
theorem dX7_putNumber_28 : decode cX7_putNumber 28 = .ok (.i2b, 1) := by decide +kernel
theorem dX7_putNumber_29 : decode cX7_putNumber 29 = .ok (.bastore, 1) := by decide +kernel
theorem dX7_putNumber_30 : decode cX7_putNumber 30 = .ok (.aload_n 0, 1) := by decide +kernel
theorem dX7_putNumber_31 : decode cX7_putNumber 31 = .ok (.dup, 1) := by decide +kernel
theorem dX7_putNumber_32 : decode cX7_putNumber 32 = .ok (.getfield 15, 3) := by decide +kernel
theorem dX7_putNumber_35 : decode cX7_putNumber 35 = .ok (.iconst 1, 1) := by decide +kernel
theorem dX7_putNumber_36 : decode cX7_putNumber 36 = .ok (.iadd, 1) := by decide +kernel
theorem dX7_putNumber_37 : decode cX7_putNumber 37 = .ok (.putfield 15, 3) := by decide +kernel
theorem dX7_putNumber_40 : decode cX7_putNumber 40 = .ok (.iinc 2 (-8), 3) := by decide +kernel
theorem dX7_putNumber_43 : decode cX7_putNumber 43 = .ok (.goto (-40), 3) := by decide +kernel
theorem dX7_putNumber_46 : decode cX7_putNumber 46 = .ok (.return_, 1) := by decide +kernel
theorem dX7_cutTo_0 : decode cX7_cutTo 0 = .ok (.iload_n 1, 1) := by decide +kernel
theorem dX7_cutTo_1 : decode cX7_cutTo 1 = .ok (.ifCond .lt 11, 3) := by decide +kernel
theorem dX7_cutTo_4 : decode cX7_cutTo 4 = .ok (.iload_n 1, 1) := by decide +kernel
theorem dX7_cutTo_5 : decode cX7_cutTo 5 = .ok (.aload_n 0, 1) := by decide +kernel
theorem dX7_cutTo_6 : decode cX7_cutTo 6 = .ok (.getfield 15, 3) := by decide +kernel
theorem dX7_cutTo_9 : decode cX7_cutTo 9 = .ok (.if_icmp .le 5, 3) := by decide +kernel
theorem dX7_cutTo_12 : decode cX7_cutTo 12 = .ok (.iconst 0, 1) := by decide +kernel
theorem dX7_cutTo_13 : decode cX7_cutTo 13 = .ok (.ireturn, 1) := by decide +kernel
theorem dX7_cutTo_14 : decode cX7_cutTo 14 = .ok (.aload_n 0, 1) := by decide +kernel
theorem dX7_cutTo_15 : decode cX7_cutTo 15 = .ok (.iload_n 1, 1) := by decide +kernel
theorem dX7_cutTo_16 : decode cX7_cutTo 16 = .ok (.putfield 15, 3) := by decide +kernel
theorem dX7_cutTo_19 : decode cX7_cutTo 19 = .ok (.iconst 1, 1) := by decide +kernel
theorem dX7_cutTo_20 : decode cX7_cutTo 20 = .ok (.ireturn, 1) := by decide +kernel
theorem dX7_at_0 : decode cX7_at 0 = .ok (.iload_n 1, 1) := by decide +kernel
theorem dX7_at_1 : decode cX7_at 1 = .ok (.ifCond .lt 24, 3) := by decide +kernel
theorem dX7_at_4 : decode cX7_at 4 = .ok (.iload_n 1, 1) := by decide +kernel
theorem dX7_at_5 : decode cX7_at 5 = .ok (.aload_n 0, 1) := by decide +kernel
theorem dX7_at_6 : decode cX7_at 6 = .ok (.getfield 15, 3) := by decide +kernel
theorem dX7_at_9 : decode cX7_at 9 = .ok (.if_icmp .ge 16, 3) := by decide +kernel
theorem dX7_at_12 : decode cX7_at 12 = .ok (.aload_n 0, 1) := by decide +kernel
theorem dX7_at_13 : decode cX7_at 13 = .ok (.getfield 11, 3) := by decide +kernel
theorem dX7_at_16 : decode cX7_at 16 = .ok (.iload_n 1, 1) := by decide +kernel
theorem dX7_at_17 : decode cX7_at 17 = .ok (.baload, 1) := by decide +kernel
theorem dX7_at_18 : decode cX7_at 18 = .ok (.sipush 255, 3) := by decide +kernel
theorem dX7_at_21 : decode cX7_at 21 = .ok (.iand, 1) := by decide +kernel
theorem dX7_at_22 : decode cX7_at 22 = .ok (.goto 4, 3) := by decide +kernel
theorem dX7_at_25 : decode cX7_at 25 = .ok (.iconst (-1), 1) := by decide +kernel
theorem dX7_at_26 : decode cX7_at 26 = .ok (.ireturn, 1) := by decide +kernel
theorem dX8_init_0 : decode cX8_init 0 = .ok (.aload_n 0, 1) := by decide +kernel
theorem dX8_init_1 : decode cX8_init 1 = .ok (.invokespecial 3, 3) := by decide +kernel
theorem dX8_init_4 : decode cX8_init 4 = .ok (.aload_n 0, 1) := by decide +kernel
theorem dX8_init_5 : decode cX8_init 5 = .ok (.bipush 44, 2) := by decide +kernel
theorem dX8_init_7 : decode cX8_init 7 = .ok (.newarray .byte, 2) := by decide +kernel
theorem dX8_init_9 : decode cX8_init 9 = .ok (.putfield 11, 3) := by decide +kernel
theorem dX8_init_12 : decode cX8_init 12 = .ok (.aload_n 0, 1) := by decide +kernel
theorem dX8_init_13 : decode cX8_init 13 = .ok (.new 15, 3) := by decide +kernel
theorem dX8_init_16 : decode cX8_init 16 = .ok (.dup, 1) := by decide +kernel
theorem dX8_init_17 : decode cX8_init 17 = .ok (.invokespecial 17, 3) := by decide +kernel
theorem dX8_init_20 : decode cX8_init 20 = .ok (.putfield 18, 3) := by decide +kernel
theorem dX8_init_23 : decode cX8_init 23 = .ok (.aload_n 0, 1) := by decide +kernel
theorem dX8_init_24 : decode cX8_init 24 = .ok (.iconst 0, 1) := by decide +kernel
theorem dX8_init_25 : decode cX8_init 25 = .ok (.putfield 22, 3) := by decide +kernel
theorem dX8_init_28 : decode cX8_init 28 = .ok (.return_, 1) := by decide +kernel
theorem dX8_at_0 : decode cX8_at 0 = .ok (.iload_n 1, 1) := by decide +kernel
theorem dX8_at_1 : decode cX8_at 1 = .ok (.ifCond .lt 20, 3) := by decide +kernel
theorem dX8_at_4 : decode cX8_at 4 = .ok (.iload_n 1, 1) := by decide +kernel
theorem dX8_at_5 : decode cX8_at 5 = .ok (.aload_n 0, 1) := by decide +kernel
theorem dX8_at_6 : decode cX8_at 6 = .ok (.getfield 22, 3) := by decide +kernel
theorem dX8_at_9 : decode cX8_at 9 = .ok (.if_icmp .ge 12, 3) := by decide +kernel
theorem dX8_at_12 : decode cX8_at 12 = .ok (.aload_n 0, 1) := by decide +kernel
theorem dX8_at_13 : decode cX8_at 13 = .ok (.getfield 11, 3) := by decide +kernel
theorem dX8_at_16 : decode cX8_at 16 = .ok (.iload_n 1, 1) := by decide +kernel
theorem dX8_at_17 : decode cX8_at 17 = .ok (.baload, 1) := by decide +kernel
theorem dX8_at_18 : decode cX8_at 18 = .ok (.goto 4, 3) := by decide +kernel
theorem dX8_at_21 : decode cX8_at 21 = .ok (.iconst (-1), 1) := by decide +kernel
theorem dX8_at_22 : decode cX8_at 22 = .ok (.ireturn, 1) := by decide +kernel
theorem dX8_tell_0 : decode cX8_tell 0 = .ok (.aload_n 0, 1) := by decide +kernel
theorem dX8_tell_1 : decode cX8_tell 1 = .ok (.iconst 0, 1) := by decide +kernel
theorem dX8_tell_2 : decode cX8_tell 2 = .ok (.putfield 22, 3) := by decide +kernel
theorem dX8_tell_5 : decode cX8_tell 5 = .ok (.aload_n 0, 1) := by decide +kernel
theorem dX8_tell_6 : decode cX8_tell 6 = .ok (.getfield 18, 3) := by decide +kernel
theorem dX8_tell_9 : decode cX8_tell 9 = .ok (.invokevirtual 26, 3) := by decide +kernel
theorem dX8_tell_12 : decode cX8_tell 12 = .ok (.iconst 0, 1) := by decide +kernel
theorem dX8_tell_13 : decode cX8_tell 13 = .ok (.istore_n 3, 1) := by decide +kernel
theorem dX8_tell_14 : decode cX8_tell 14 = .ok (.iload_n 3, 1) := by decide +kernel
theorem dX8_tell_15 : decode cX8_tell 15 = .ok (.bipush 22, 2) := by decide +kernel
theorem dX8_tell_17 : decode cX8_tell 17 = .ok (.if_icmp .ge 70, 3) := by decide +kernel
theorem dX8_tell_20 : decode cX8_tell 20 = .ok (.aload_n 0, 1) := by decide +kernel
theorem dX8_tell_21 : decode cX8_tell 21 = .ok (.getfield 18, 3) := by decide +kernel
theorem dX8_tell_24 : decode cX8_tell 24 = .ok (.iload_n 1, 1) := by decide +kernel
theorem dX8_tell_25 : decode cX8_tell 25 = .ok (.iload_n 2, 1) := by decide +kernel
theorem dX8_tell_26 : decode cX8_tell 26 = .ok (.invokevirtual 29, 3) := by decide +kernel
theorem dX8_tell_29 : decode cX8_tell 29 = .ok (.ifCond .ne 58, 3) := by decide +kernel
theorem dX8_tell_32 : decode cX8_tell 32 = .ok (.aload_n 0, 1) := by decide +kernel
theorem dX8_tell_33 : decode cX8_tell 33 = .ok (.getfield 18, 3) := by decide +kernel
theorem dX8_tell_36 : decode cX8_tell 36 = .ok (.iload_n 1, 1) := by decide +kernel
theorem dX8_tell_37 : decode cX8_tell 37 = .ok (.iload_n 2, 1) := by decide +kernel
theorem dX8_tell_38 : decode cX8_tell 38 = .ok (.invokevirtual 33, 3) := by decide +kernel
theorem dX8_tell_41 : decode cX8_tell 41 = .ok (.istore 4, 2) := by decide +kernel
theorem dX8_tell_43 : decode cX8_tell 43 = .ok (.aload_n 0, 1) := by decide +kernel
theorem dX8_tell_44 : decode cX8_tell 44 = .ok (.iload 4, 2) := by decide +kernel
theorem dX8_tell_46 : decode cX8_tell 46 = .ok (.iload_n 1, 1) := by decide +kernel
theorem dX8_tell_47 : decode cX8_tell 47 = .ok (.iload_n 2, 1) := by decide +kernel
theorem dX8_tell_48 : decode cX8_tell 48 = .ok (.invokevirtual 37, 3) := by decide +kernel
theorem dX8_tell_51 : decode cX8_tell 51 = .ok (.istore 5, 2) := by decide +kernel
theorem dX8_tell_53 : decode cX8_tell 53 = .ok (.aload_n 0, 1) := by decide +kernel
theorem dX8_tell_54 : decode cX8_tell 54 = .ok (.iload 4, 2) := by decide +kernel
theorem dX8_tell_56 : decode cX8_tell 56 = .ok (.ifCond .ge 8, 3) := by decide +kernel
theorem dX8_tell_59 : decode cX8_tell 59 = .ok (.bipush 108, 2) := by decide +kernel
theorem dX8_tell_61 : decode cX8_tell 61 = .ok (.goto 5, 3) := by decide +kernel
theorem dX8_tell_64 : decode cX8_tell 64 = .ok (.bipush 114, 2) := by decide +kernel
theorem dX8_tell_66 : decode cX8_tell 66 = .ok (.invokevirtual 41, 3) := by decide +kernel
theorem dX8_tell_69 : decode cX8_tell 69 = .ok (.iload 5, 2) := by decide +kernel
theorem dX8_tell_71 : decode cX8_tell 71 = .ok (.iconst 1, 1) := by decide +kernel
theorem dX8_tell_72 : decode cX8_tell 72 = .ok (.if_icmp .le 9, 3) := by decide +kernel
theorem dX8_tell_75 : decode cX8_tell 75 = .ok (.aload_n 0, 1) := by decide +kernel
theorem dX8_tell_76 : decode cX8_tell 76 = .ok (.iload 5, 2) := by decide +kernel
theorem dX8_tell_78 : decode cX8_tell 78 = .ok (.invokevirtual 45, 3) := by decide +kernel
theorem dX8_tell_81 : decode cX8_tell 81 = .ok (.iinc 3 1, 3) := by decide +kernel
theorem dX8_tell_84 : decode cX8_tell 84 = .ok (.goto (-70), 3) := by decide +kernel
theorem dX8_tell_87 : decode cX8_tell 87 = .ok (.aload_n 0, 1) := by decide +kernel
theorem dX8_tell_88 : decode cX8_tell 88 = .ok (.getfield 22, 3) := by decide +kernel
theorem dX8_tell_91 : decode cX8_tell 91 = .ok (.ireturn, 1) := by decide +kernel
theorem dX8_goOn_0 : decode cX8_goOn 0 = .ok (.iconst 0, 1) := by decide +kernel
theorem dX8_goOn_1 : decode cX8_goOn 1 = .ok (.istore 4, 2) := by decide +kernel
theorem dX8_goOn_3 : decode cX8_goOn 3 = .ok (.iload 4, 2) := by decide +kernel
theorem dX8_goOn_5 : decode cX8_goOn 5 = .ok (.bipush 22, 2) := by decide +kernel
theorem dX8_goOn_7 : decode cX8_goOn 7 = .ok (.if_icmp .ge 33, 3) := by decide +kernel
theorem dX8_goOn_10 : decode cX8_goOn 10 = .ok (.aload_n 0, 1) := by decide +kernel
theorem dX8_goOn_11 : decode cX8_goOn 11 = .ok (.getfield 18, 3) := by decide +kernel
theorem dX8_goOn_14 : decode cX8_goOn 14 = .ok (.iload_n 2, 1) := by decide +kernel
theorem dX8_goOn_15 : decode cX8_goOn 15 = .ok (.iload_n 3, 1) := by decide +kernel
theorem dX8_goOn_16 : decode cX8_goOn 16 = .ok (.invokevirtual 33, 3) := by decide +kernel
theorem dX8_goOn_19 : decode cX8_goOn 19 = .ok (.iload_n 1, 1) := by decide +kernel
theorem dX8_goOn_20 : decode cX8_goOn 20 = .ok (.if_icmp .ne 20, 3) := by decide +kernel
theorem dX8_goOn_23 : decode cX8_goOn 23 = .ok (.aload_n 0, 1) := by decide +kernel
theorem dX8_goOn_24 : decode cX8_goOn 24 = .ok (.getfield 18, 3) := by decide +kernel
theorem dX8_goOn_27 : decode cX8_goOn 27 = .ok (.iload_n 1, 1) := by decide +kernel
theorem dX8_goOn_28 : decode cX8_goOn 28 = .ok (.invokevirtual 48, 3) := by decide +kernel
theorem dX8_goOn_31 : decode cX8_goOn 31 = .ok (.ifCond .eq 9, 3) := by decide +kernel
theorem dX8_goOn_34 : decode cX8_goOn 34 = .ok (.iinc 4 1, 3) := by decide +kernel
theorem dX8_goOn_37 : decode cX8_goOn 37 = .ok (.goto (-34), 3) := by decide +kernel
theorem dX8_goOn_40 : decode cX8_goOn 40 = .ok (.iload 4, 2) := by decide +kernel
theorem dX8_goOn_42 : decode cX8_goOn 42 = .ok (.ireturn, 1) := by decide +kernel
theorem dX8_putNumber_0 : decode cX8_putNumber 0 = .ok (.iload_n 1, 1) := by decide +kernel
theorem dX8_putNumber_1 : decode cX8_putNumber 1 = .ok (.bipush 9, 2) := by decide +kernel
theorem dX8_putNumber_3 : decode cX8_putNumber 3 = .ok (.if_icmp .le 14, 3) := by decide +kernel
theorem dX8_putNumber_6 : decode cX8_putNumber 6 = .ok (.aload_n 0, 1) := by decide +kernel
theorem dX8_putNumber_7 : decode cX8_putNumber 7 = .ok (.bipush 48, 2) := by decide +kernel
theorem dX8_putNumber_9 : decode cX8_putNumber 9 = .ok (.iload_n 1, 1) := by decide +kernel
theorem dX8_putNumber_10 : decode cX8_putNumber 10 = .ok (.bipush 10, 2) := by decide +kernel
theorem dX8_putNumber_12 : decode cX8_putNumber 12 = .ok (.idiv, 1) := by decide +kernel
theorem dX8_putNumber_13 : decode cX8_putNumber 13 = .ok (.iadd, 1) := by decide +kernel
theorem dX8_putNumber_14 : decode cX8_putNumber 14 = .ok (.invokevirtual 41, 3) := by decide +kernel
theorem dX8_putNumber_17 : decode cX8_putNumber 17 = .ok (.aload_n 0, 1) := by decide +kernel
theorem dX8_putNumber_18 : decode cX8_putNumber 18 = .ok (.bipush 48, 2) := by decide +kernel
theorem dX8_putNumber_20 : decode cX8_putNumber 20 = .ok (.iload_n 1, 1) := by decide +kernel
theorem dX8_putNumber_21 : decode cX8_putNumber 21 = .ok (.bipush 10, 2) := by decide +kernel
theorem dX8_putNumber_23 : decode cX8_putNumber 23 = .ok (.irem, 1) := by decide +kernel
theorem dX8_putNumber_24 : decode cX8_putNumber 24 = .ok (.iadd, 1) := by decide +kernel
theorem dX8_putNumber_25 : decode cX8_putNumber 25 = .ok (.invokevirtual 41, 3) := by decide +kernel
theorem dX8_putNumber_28 : decode cX8_putNumber 28 = .ok (.return_, 1) := by decide +kernel
theorem dX8_put_0 : decode cX8_put 0 = .ok (.aload_n 0, 1) := by decide +kernel
theorem dX8_put_1 : decode cX8_put 1 = .ok (.getfield 22, 3) := by decide +kernel
theorem dX8_put_4 : decode cX8_put 4 = .ok (.bipush 44, 2) := by decide +kernel
theorem dX8_put_6 : decode cX8_put 6 = .ok (.if_icmp .ge 24, 3) := by decide +kernel
theorem dX8_put_9 : decode cX8_put 9 = .ok (.aload_n 0, 1) := by decide +kernel
theorem dX8_put_10 : decode cX8_put 10 = .ok (.getfield 11, 3) := by decide +kernel
theorem dX8_put_13 : decode cX8_put 13 = .ok (.aload_n 0, 1) := by decide +kernel
theorem dX8_put_14 : decode cX8_put 14 = .ok (.getfield 22, 3) := by decide +kernel
theorem dX8_put_17 : decode cX8_put 17 = .ok (.iload_n 1, 1) := by decide +kernel
theorem dX8_put_18 : decode cX8_put 18 = .ok (.i2b, 1) := by decide +kernel
theorem dX8_put_19 : decode cX8_put 19 = .ok (.bastore, 1) := by decide +kernel
theorem dX8_put_20 : decode cX8_put 20 = .ok (.aload_n 0, 1) := by decide +kernel
theorem dX8_put_21 : decode cX8_put 21 = .ok (.dup, 1) := by decide +kernel
theorem dX8_put_22 : decode cX8_put 22 = .ok (.getfield 22, 3) := by decide +kernel
theorem dX8_put_25 : decode cX8_put 25 = .ok (.iconst 1, 1) := by decide +kernel
theorem dX8_put_26 : decode cX8_put 26 = .ok (.iadd, 1) := by decide +kernel
theorem dX8_put_27 : decode cX8_put 27 = .ok (.putfield 22, 3) := by decide +kernel
theorem dX8_put_30 : decode cX8_put 30 = .ok (.return_, 1) := by decide +kernel
theorem dX9_init_0 : decode cX9_init 0 = .ok (.aload_n 0, 1) := by decide +kernel
theorem dX9_init_1 : decode cX9_init 1 = .ok (.invokespecial 1, 3) := by decide +kernel
theorem dX9_init_4 : decode cX9_init 4 = .ok (.aload_n 0, 1) := by decide +kernel
theorem dX9_init_5 : decode cX9_init 5 = .ok (.iconst 0, 1) := by decide +kernel
theorem dX9_init_6 : decode cX9_init 6 = .ok (.iconst 1, 1) := by decide +kernel
theorem dX9_init_7 : decode cX9_init 7 = .ok (.invokevirtual 7, 3) := by decide +kernel
theorem dX9_init_10 : decode cX9_init 10 = .ok (.return_, 1) := by decide +kernel
theorem dX9_letterIsA_0 : decode cX9_letterIsA 0 = .ok (.iload_n 0, 1) := by decide +kernel
theorem dX9_letterIsA_1 : decode cX9_letterIsA 1 = .ok (.iload_n 1, 1) := by decide +kernel
theorem dX9_letterIsA_2 : decode cX9_letterIsA 2 = .ok (.iadd, 1) := by decide +kernel
theorem dX9_letterIsA_3 : decode cX9_letterIsA 3 = .ok (.istore_n 3, 1) := by decide +kernel
theorem dX9_letterIsA_4 : decode cX9_letterIsA 4 = .ok (.iload_n 0, 1) := by decide +kernel
theorem dX9_letterIsA_5 : decode cX9_letterIsA 5 = .ok (.ifCond .eq 8, 3) := by decide +kernel
theorem dX9_letterIsA_8 : decode cX9_letterIsA 8 = .ok (.iload_n 3, 1) := by decide +kernel
theorem dX9_letterIsA_9 : decode cX9_letterIsA 9 = .ok (.iconst 1, 1) := by decide +kernel
theorem dX9_letterIsA_10 : decode cX9_letterIsA 10 = .ok (.if_icmp .ge 5, 3) := by decide +kernel
theorem dX9_letterIsA_13 : decode cX9_letterIsA 13 = .ok (.iconst 1, 1) := by decide +kernel
theorem dX9_letterIsA_14 : decode cX9_letterIsA 14 = .ok (.ireturn, 1) := by decide +kernel
theorem dX9_letterIsA_15 : decode cX9_letterIsA 15 = .ok (.iload_n 2, 1) := by decide +kernel
theorem dX9_letterIsA_16 : decode cX9_letterIsA 16 = .ok (.iload_n 0, 1) := by decide +kernel
theorem dX9_letterIsA_17 : decode cX9_letterIsA 17 = .ok (.imul, 1) := by decide +kernel
theorem dX9_letterIsA_18 : decode cX9_letterIsA 18 = .ok (.iload_n 3, 1) := by decide +kernel
theorem dX9_letterIsA_19 : decode cX9_letterIsA 19 = .ok (.irem, 1) := by decide +kernel
theorem dX9_letterIsA_20 : decode cX9_letterIsA 20 = .ok (.iload_n 2, 1) := by decide +kernel
theorem dX9_letterIsA_21 : decode cX9_letterIsA 21 = .ok (.iconst 1, 1) := by decide +kernel
theorem dX9_letterIsA_22 : decode cX9_letterIsA 22 = .ok (.isub, 1) := by decide +kernel
theorem dX9_letterIsA_23 : decode cX9_letterIsA 23 = .ok (.iload_n 0, 1) := by decide +kernel
theorem dX9_letterIsA_24 : decode cX9_letterIsA 24 = .ok (.imul, 1) := by decide +kernel
theorem dX9_letterIsA_25 : decode cX9_letterIsA 25 = .ok (.iload_n 3, 1) := by decide +kernel
theorem dX9_letterIsA_26 : decode cX9_letterIsA 26 = .ok (.irem, 1) := by decide +kernel
theorem dX9_letterIsA_27 : decode cX9_letterIsA 27 = .ok (.if_icmp .le 7, 3) := by decide +kernel
theorem dX9_letterIsA_30 : decode cX9_letterIsA 30 = .ok (.iconst 1, 1) := by decide +kernel
theorem dX9_letterIsA_31 : decode cX9_letterIsA 31 = .ok (.goto 4, 3) := by decide +kernel
theorem dX9_letterIsA_34 : decode cX9_letterIsA 34 = .ok (.iconst 0, 1) := by decide +kernel
theorem dX9_letterIsA_35 : decode cX9_letterIsA 35 = .ok (.ireturn, 1) := by decide +kernel
theorem dX9_setTo_0 : decode cX9_setTo 0 = .ok (.aload_n 0, 1) := by decide +kernel
theorem dX9_setTo_1 : decode cX9_setTo 1 = .ok (.lconst 1, 1) := by decide +kernel
theorem dX9_setTo_2 : decode cX9_setTo 2 = .ok (.putfield 13, 3) := by decide +kernel
theorem dX9_setTo_5 : decode cX9_setTo 5 = .ok (.aload_n 0, 1) := by decide +kernel
theorem dX9_setTo_6 : decode cX9_setTo 6 = .ok (.lconst 0, 1) := by decide +kernel
theorem dX9_setTo_7 : decode cX9_setTo 7 = .ok (.putfield 17, 3) := by decide +kernel
theorem dX9_setTo_10 : decode cX9_setTo 10 = .ok (.aload_n 0, 1) := by decide +kernel
theorem dX9_setTo_11 : decode cX9_setTo 11 = .ok (.lconst 0, 1) := by decide +kernel
theorem dX9_setTo_12 : decode cX9_setTo 12 = .ok (.putfield 20, 3) := by decide +kernel
theorem dX9_setTo_15 : decode cX9_setTo 15 = .ok (.aload_n 0, 1) := by decide +kernel
theorem dX9_setTo_16 : decode cX9_setTo 16 = .ok (.lconst 1, 1) := by decide +kernel
theorem dX9_setTo_17 : decode cX9_setTo 17 = .ok (.putfield 23, 3) := by decide +kernel
theorem dX9_setTo_20 : decode cX9_setTo 20 = .ok (.iconst 1, 1) := by decide +kernel
theorem dX9_setTo_21 : decode cX9_setTo 21 = .ok (.istore_n 3, 1) := by decide +kernel
theorem dX9_setTo_22 : decode cX9_setTo 22 = .ok (.iload_n 3, 1) := by decide +kernel
theorem dX9_setTo_23 : decode cX9_setTo 23 = .ok (.iload_n 1, 1) := by decide +kernel
theorem dX9_setTo_24 : decode cX9_setTo 24 = .ok (.iload_n 2, 1) := by decide +kernel
theorem dX9_setTo_25 : decode cX9_setTo 25 = .ok (.iadd, 1) := by decide +kernel
theorem dX9_setTo_26 : decode cX9_setTo 26 = .ok (.if_icmp .gt 41, 3) := by decide +kernel
theorem dX9_setTo_29 : decode cX9_setTo 29 = .ok (.iload_n 1, 1) := by decide +kernel
theorem dX9_setTo_30 : decode cX9_setTo 30 = .ok (.iload_n 2, 1) := by decide +kernel
theorem dX9_setTo_31 : decode cX9_setTo 31 = .ok (.iload_n 3, 1) := by decide +kernel
theorem dX9_setTo_32 : decode cX9_setTo 32 = .ok (.invokestatic 26, 3) := by decide +kernel
theorem dX9_setTo_35 : decode cX9_setTo 35 = .ok (.ifCond .eq 15, 3) := by decide +kernel
theorem dX9_setTo_38 : decode cX9_setTo 38 = .ok (.aload_n 0, 1) := by decide +kernel
theorem dX9_setTo_39 : decode cX9_setTo 39 = .ok (.ldc2_w 30, 3) := by decide +kernel
theorem dX9_setTo_42 : decode cX9_setTo 42 = .ok (.lconst 1, 1) := by decide +kernel
theorem dX9_setTo_43 : decode cX9_setTo 43 = .ok (.lconst 1, 1) := by decide +kernel
theorem dX9_setTo_44 : decode cX9_setTo 44 = .ok (.invokevirtual 32, 3) := by decide +kernel
theorem dX9_setTo_47 : decode cX9_setTo 47 = .ok (.goto 14, 3) := by decide +kernel
theorem dX9_setTo_50 : decode cX9_setTo 50 = .ok (.aload_n 0, 1) := by decide +kernel
theorem dX9_setTo_51 : decode cX9_setTo 51 = .ok (.ldc2_w 36, 3) := by decide +kernel
theorem dX9_setTo_54 : decode cX9_setTo 54 = .ok (.ldc2_w 30, 3) := by decide +kernel
theorem dX9_setTo_57 : decode cX9_setTo 57 = .ok (.lconst 1, 1) := by decide +kernel
theorem dX9_setTo_58 : decode cX9_setTo 58 = .ok (.invokevirtual 32, 3) := by decide +kernel
theorem dX9_setTo_61 : decode cX9_setTo 61 = .ok (.iinc 3 1, 3) := by decide +kernel
theorem dX9_setTo_64 : decode cX9_setTo 64 = .ok (.goto (-42), 3) := by decide +kernel
theorem dX9_setTo_67 : decode cX9_setTo 67 = .ok (.return_, 1) := by decide +kernel
theorem dX9_multiply_0 : decode cX9_multiply 0 = .ok (.aload_n 0, 1) := by decide +kernel
theorem dX9_multiply_1 : decode cX9_multiply 1 = .ok (.getfield 13, 3) := by decide +kernel
theorem dX9_multiply_4 : decode cX9_multiply 4 = .ok (.lstore 7, 2) := by decide +kernel
theorem dX9_multiply_6 : decode cX9_multiply 6 = .ok (.aload_n 0, 1) := by decide +kernel
theorem dX9_multiply_7 : decode cX9_multiply 7 = .ok (.getfield 20, 3) := by decide +kernel
theorem dX9_multiply_10 : decode cX9_multiply 10 = .ok (.lstore 9, 2) := by decide +kernel
theorem dX9_multiply_12 : decode cX9_multiply 12 = .ok (.aload_n 0, 1) := by decide +kernel
theorem dX9_multiply_13 : decode cX9_multiply 13 = .ok (.lload 7, 2) := by decide +kernel
theorem dX9_multiply_15 : decode cX9_multiply 15 = .ok (.lload_n 1, 1) := by decide +kernel
theorem dX9_multiply_16 : decode cX9_multiply 16 = .ok (.lmul, 1) := by decide +kernel
theorem dX9_multiply_17 : decode cX9_multiply 17 = .ok (.aload_n 0, 1) := by decide +kernel
theorem dX9_multiply_18 : decode cX9_multiply 18 = .ok (.getfield 17, 3) := by decide +kernel
theorem dX9_multiply_21 : decode cX9_multiply 21 = .ok (.lload_n 3, 1) := by decide +kernel
theorem dX9_multiply_22 : decode cX9_multiply 22 = .ok (.lmul, 1) := by decide +kernel
theorem dX9_multiply_23 : decode cX9_multiply 23 = .ok (.ladd, 1) := by decide +kernel
theorem dX9_multiply_24 : decode cX9_multiply 24 = .ok (.putfield 13, 3) := by decide +kernel
theorem dX9_multiply_27 : decode cX9_multiply 27 = .ok (.aload_n 0, 1) := by decide +kernel
theorem dX9_multiply_28 : decode cX9_multiply 28 = .ok (.lload 7, 2) := by decide +kernel
theorem dX9_multiply_30 : decode cX9_multiply 30 = .ok (.lload_n 3, 1) := by decide +kernel
theorem dX9_multiply_31 : decode cX9_multiply 31 = .ok (.lmul, 1) := by decide +kernel
theorem dX9_multiply_32 : decode cX9_multiply 32 = .ok (.aload_n 0, 1) := by decide +kernel
theorem dX9_multiply_33 : decode cX9_multiply 33 = .ok (.getfield 17, 3) := by decide +kernel
theorem dX9_multiply_36 : decode cX9_multiply 36 = .ok (.lload 5, 2) := by decide +kernel
theorem dX9_multiply_38 : decode cX9_multiply 38 = .ok (.lmul, 1) := by decide +kernel
theorem dX9_multiply_39 : decode cX9_multiply 39 = .ok (.ladd, 1) := by decide +kernel
theorem dX9_multiply_40 : decode cX9_multiply 40 = .ok (.putfield 17, 3) := by decide +kernel
theorem dX9_multiply_43 : decode cX9_multiply 43 = .ok (.aload_n 0, 1) := by decide +kernel
theorem dX9_multiply_44 : decode cX9_multiply 44 = .ok (.lload 9, 2) := by decide +kernel
theorem dX9_multiply_46 : decode cX9_multiply 46 = .ok (.lload_n 1, 1) := by decide +kernel
theorem dX9_multiply_47 : decode cX9_multiply 47 = .ok (.lmul, 1) := by decide +kernel
theorem dX9_multiply_48 : decode cX9_multiply 48 = .ok (.aload_n 0, 1) := by decide +kernel
theorem dX9_multiply_49 : decode cX9_multiply 49 = .ok (.getfield 23, 3) := by decide +kernel
theorem dX9_multiply_52 : decode cX9_multiply 52 = .ok (.lload_n 3, 1) := by decide +kernel
theorem dX9_multiply_53 : decode cX9_multiply 53 = .ok (.lmul, 1) := by decide +kernel
theorem dX9_multiply_54 : decode cX9_multiply 54 = .ok (.ladd, 1) := by decide +kernel
theorem dX9_multiply_55 : decode cX9_multiply 55 = .ok (.putfield 20, 3) := by decide +kernel
theorem dX9_multiply_58 : decode cX9_multiply 58 = .ok (.aload_n 0, 1) := by decide +kernel
theorem dX9_multiply_59 : decode cX9_multiply 59 = .ok (.lload 9, 2) := by decide +kernel
theorem dX9_multiply_61 : decode cX9_multiply 61 = .ok (.lload_n 3, 1) := by decide +kernel
theorem dX9_multiply_62 : decode cX9_multiply 62 = .ok (.lmul, 1) := by decide +kernel
theorem dX9_multiply_63 : decode cX9_multiply 63 = .ok (.aload_n 0, 1) := by decide +kernel
theorem dX9_multiply_64 : decode cX9_multiply 64 = .ok (.getfield 23, 3) := by decide +kernel
theorem dX9_multiply_67 : decode cX9_multiply 67 = .ok (.lload 5, 2) := by decide +kernel
theorem dX9_multiply_69 : decode cX9_multiply 69 = .ok (.lmul, 1) := by decide +kernel
theorem dX9_multiply_70 : decode cX9_multiply 70 = .ok (.ladd, 1) := by decide +kernel
theorem dX9_multiply_71 : decode cX9_multiply 71 = .ok (.putfield 23, 3) := by decide +kernel
theorem dX9_multiply_74 : decode cX9_multiply 74 = .ok (.return_, 1) := by decide +kernel
theorem dX9_entry_0 : decode cX9_entry 0 = .ok (.iload_n 1, 1) := by decide +kernel
theorem dX9_entry_1 : decode cX9_entry 1 = .ok (.ifCond .ne 19, 3) := by decide +kernel
theorem dX9_entry_4 : decode cX9_entry 4 = .ok (.iload_n 2, 1) := by decide +kernel
theorem dX9_entry_5 : decode cX9_entry 5 = .ok (.ifCond .ne 10, 3) := by decide +kernel
theorem dX9_entry_8 : decode cX9_entry 8 = .ok (.aload_n 0, 1) := by decide +kernel
theorem dX9_entry_9 : decode cX9_entry 9 = .ok (.getfield 13, 3) := by decide +kernel
theorem dX9_entry_12 : decode cX9_entry 12 = .ok (.goto 7, 3) := by decide +kernel
theorem dX9_entry_15 : decode cX9_entry 15 = .ok (.aload_n 0, 1) := by decide +kernel
theorem dX9_entry_16 : decode cX9_entry 16 = .ok (.getfield 17, 3) := by decide +kernel
theorem dX9_entry_19 : decode cX9_entry 19 = .ok (.lreturn, 1) := by decide +kernel
theorem dX9_entry_20 : decode cX9_entry 20 = .ok (.iload_n 2, 1) := by decide +kernel
theorem dX9_entry_21 : decode cX9_entry 21 = .ok (.ifCond .ne 10, 3) := by decide +kernel
theorem dX9_entry_24 : decode cX9_entry 24 = .ok (.aload_n 0, 1) := by decide +kernel
theorem dX9_entry_25 : decode cX9_entry 25 = .ok (.getfield 20, 3) := by decide +kernel
theorem dX9_entry_28 : decode cX9_entry 28 = .ok (.goto 7, 3) := by decide +kernel
theorem dX9_entry_31 : decode cX9_entry 31 = .ok (.aload_n 0, 1) := by decide +kernel
theorem dX9_entry_32 : decode cX9_entry 32 = .ok (.getfield 23, 3) := by decide +kernel
theorem dX9_entry_35 : decode cX9_entry 35 = .ok (.lreturn, 1) := by decide +kernel
theorem dJxf58ca_isNaN_12338_0 : decode cJxf58ca_isNaN_12338 0 = .ok (.fload_n 0, 1) := by decide +kernel
theorem dJxf58ca_isNaN_12338_1 : decode cJxf58ca_isNaN_12338 1 = .ok (.fload_n 0, 1) := by decide +kernel
theorem dJxf58ca_isNaN_12338_2 : decode cJxf58ca_isNaN_12338 2 = .ok (.fcmp .l, 1) := by decide +kernel
theorem dJxf58ca_isNaN_12338_3 : decode cJxf58ca_isNaN_12338 3 = .ok (.ifCond .eq 7, 3) := by decide +kernel
theorem dJxf58ca_isNaN_12338_6 : decode cJxf58ca_isNaN_12338 6 = .ok (.iconst 1, 1) := by decide +kernel
theorem dJxf58ca_isNaN_12338_7 : decode cJxf58ca_isNaN_12338 7 = .ok (.goto 4, 3) := by decide +kernel
theorem dJxf58ca_isNaN_12338_10 : decode cJxf58ca_isNaN_12338 10 = .ok (.iconst 0, 1) := by decide +kernel
theorem dJxf58ca_isNaN_12338_11 : decode cJxf58ca_isNaN_12338 11 = .ok (.ireturn, 1) := by decide +kernel
theorem dJxf58ca_floatToIntBits_5c35a_0 : decode cJxf58ca_floatToIntBits_5c35a 0 = .ok (.fload_n 0, 1) := by decide +kernel
theorem dJxf58ca_floatToIntBits_5c35a_1 : decode cJxf58ca_floatToIntBits_5c35a 1 = .ok (.invokestatic 59, 3) := by decide +kernel
theorem dJxf58ca_floatToIntBits_5c35a_4 : decode cJxf58ca_floatToIntBits_5c35a 4 = .ok (.ifCond .ne 8, 3) := by decide +kernel
theorem dJxf58ca_floatToIntBits_5c35a_7 : decode cJxf58ca_floatToIntBits_5c35a 7 = .ok (.fload_n 0, 1) := by decide +kernel
theorem dJxf58ca_floatToIntBits_5c35a_8 : decode cJxf58ca_floatToIntBits_5c35a 8 = .ok (.invokestatic 74, 3) := by decide +kernel
theorem dJxf58ca_floatToIntBits_5c35a_11 : decode cJxf58ca_floatToIntBits_5c35a 11 = .ok (.ireturn, 1) := by decide +kernel
theorem dJxf58ca_floatToIntBits_5c35a_12 : decode cJxf58ca_floatToIntBits_5c35a 12 = .ok (.ldc 77, 2) := by decide +kernel
theorem dJxf58ca_floatToIntBits_5c35a_14 : decode cJxf58ca_floatToIntBits_5c35a 14 = .ok (.ireturn, 1) := by decide +kernel
theorem dJ6_compare_7cf53_0 : decode cJ6_compare_7cf53 0 = .ok (.iload_n 0, 1) := by decide +kernel
theorem dJ6_compare_7cf53_1 : decode cJ6_compare_7cf53 1 = .ok (.iload_n 1, 1) := by decide +kernel
theorem dJ6_compare_7cf53_2 : decode cJ6_compare_7cf53 2 = .ok (.if_icmp .ge 7, 3) := by decide +kernel
theorem dJ6_compare_7cf53_5 : decode cJ6_compare_7cf53 5 = .ok (.iconst (-1), 1) := by decide +kernel
theorem dJ6_compare_7cf53_6 : decode cJ6_compare_7cf53 6 = .ok (.goto 13, 3) := by decide +kernel
theorem dJ6_compare_7cf53_9 : decode cJ6_compare_7cf53 9 = .ok (.iload_n 0, 1) := by decide +kernel
theorem dJ6_compare_7cf53_10 : decode cJ6_compare_7cf53 10 = .ok (.iload_n 1, 1) := by decide +kernel
theorem dJ6_compare_7cf53_11 : decode cJ6_compare_7cf53 11 = .ok (.if_icmp .ne 7, 3) := by decide +kernel
theorem dJ6_compare_7cf53_14 : decode cJ6_compare_7cf53 14 = .ok (.iconst 0, 1) := by decide +kernel
theorem dJ6_compare_7cf53_15 : decode cJ6_compare_7cf53 15 = .ok (.goto 4, 3) := by decide +kernel
theorem dJ6_compare_7cf53_18 : decode cJ6_compare_7cf53 18 = .ok (.iconst 1, 1) := by decide +kernel
theorem dJ6_compare_7cf53_19 : decode cJ6_compare_7cf53 19 = .ok (.ireturn, 1) := by decide +kernel
theorem dJ9_floorMod_f86c9_0 : decode cJ9_floorMod_f86c9 0 = .ok (.lload_n 0, 1) := by decide +kernel
theorem dJ9_floorMod_f86c9_1 : decode cJ9_floorMod_f86c9 1 = .ok (.lload_n 2, 1) := by decide +kernel
theorem dJ9_floorMod_f86c9_2 : decode cJ9_floorMod_f86c9 2 = .ok (.lrem, 1) := by decide +kernel
theorem dJ9_floorMod_f86c9_3 : decode cJ9_floorMod_f86c9 3 = .ok (.lstore 4, 2) := by decide +kernel
theorem dJ9_floorMod_f86c9_5 : decode cJ9_floorMod_f86c9 5 = .ok (.lload_n 0, 1) := by decide +kernel
theorem dJ9_floorMod_f86c9_6 : decode cJ9_floorMod_f86c9 6 = .ok (.lload_n 2, 1) := by decide +kernel
theorem dJ9_floorMod_f86c9_7 : decode cJ9_floorMod_f86c9 7 = .ok (.lxor, 1) := by decide +kernel
theorem dJ9_floorMod_f86c9_8 : decode cJ9_floorMod_f86c9 8 = .ok (.lconst 0, 1) := by decide +kernel
theorem dJ9_floorMod_f86c9_9 : decode cJ9_floorMod_f86c9 9 = .ok (.lcmp, 1) := by decide +kernel
theorem dJ9_floorMod_f86c9_10 : decode cJ9_floorMod_f86c9 10 = .ok (.ifCond .ge 15, 3) := by decide +kernel
theorem dJ9_floorMod_f86c9_13 : decode cJ9_floorMod_f86c9 13 = .ok (.lload 4, 2) := by decide +kernel
theorem dJ9_floorMod_f86c9_15 : decode cJ9_floorMod_f86c9 15 = .ok (.lconst 0, 1) := by decide +kernel
theorem dJ9_floorMod_f86c9_16 : decode cJ9_floorMod_f86c9 16 = .ok (.lcmp, 1) := by decide +kernel
theorem dJ9_floorMod_f86c9_17 : decode cJ9_floorMod_f86c9 17 = .ok (.ifCond .eq 8, 3) := by decide +kernel
theorem dJ9_floorMod_f86c9_20 : decode cJ9_floorMod_f86c9 20 = .ok (.lload 4, 2) := by decide +kernel
theorem dJ9_floorMod_f86c9_22 : decode cJ9_floorMod_f86c9 22 = .ok (.lload_n 2, 1) := by decide +kernel
theorem dJ9_floorMod_f86c9_23 : decode cJ9_floorMod_f86c9 23 = .ok (.ladd, 1) := by decide +kernel
theorem dJ9_floorMod_f86c9_24 : decode cJ9_floorMod_f86c9 24 = .ok (.lreturn, 1) := by decide +kernel
theorem dJ9_floorMod_f86c9_25 : decode cJ9_floorMod_f86c9 25 = .ok (.lload 4, 2) := by decide +kernel
theorem dJ9_floorMod_f86c9_27 : decode cJ9_floorMod_f86c9 27 = .ok (.lreturn, 1) := by decide +kernel
theorem dJ9_abs_067f4_0 : decode cJ9_abs_067f4 0 = .ok (.lload_n 0, 1) := by decide +kernel
theorem dJ9_abs_067f4_1 : decode cJ9_abs_067f4 1 = .ok (.lconst 0, 1) := by decide +kernel
theorem dJ9_abs_067f4_2 : decode cJ9_abs_067f4 2 = .ok (.lcmp, 1) := by decide +kernel
theorem dJ9_abs_067f4_3 : decode cJ9_abs_067f4 3 = .ok (.ifCond .ge 8, 3) := by decide +kernel
theorem dJ9_abs_067f4_6 : decode cJ9_abs_067f4 6 = .ok (.lload_n 0, 1) := by decide +kernel
theorem dJ9_abs_067f4_7 : decode cJ9_abs_067f4 7 = .ok (.lneg, 1) := by decide +kernel
theorem dJ9_abs_067f4_8 : decode cJ9_abs_067f4 8 = .ok (.goto 4, 3) := by decide +kernel
theorem dJ9_abs_067f4_11 : decode cJ9_abs_067f4 11 = .ok (.lload_n 0, 1) := by decide +kernel
theorem dJ9_abs_067f4_12 : decode cJ9_abs_067f4 12 = .ok (.lreturn, 1) := by decide +kernel
theorem dJ9_min_7cf53_0 : decode cJ9_min_7cf53 0 = .ok (.iload_n 0, 1) := by decide +kernel
theorem dJ9_min_7cf53_1 : decode cJ9_min_7cf53 1 = .ok (.iload_n 1, 1) := by decide +kernel
theorem dJ9_min_7cf53_2 : decode cJ9_min_7cf53 2 = .ok (.if_icmp .gt 7, 3) := by decide +kernel
theorem dJ9_min_7cf53_5 : decode cJ9_min_7cf53 5 = .ok (.iload_n 0, 1) := by decide +kernel
theorem dJ9_min_7cf53_6 : decode cJ9_min_7cf53 6 = .ok (.goto 4, 3) := by decide +kernel
theorem dJ9_min_7cf53_9 : decode cJ9_min_7cf53 9 = .ok (.iload_n 1, 1) := by decide +kernel
theorem dJ9_min_7cf53_10 : decode cJ9_min_7cf53 10 = .ok (.ireturn, 1) := by decide +kernel
theorem dJ9_min_f86c9_0 : decode cJ9_min_f86c9 0 = .ok (.lload_n 0, 1) := by decide +kernel
theorem dJ9_min_f86c9_1 : decode cJ9_min_f86c9 1 = .ok (.lload_n 2, 1) := by decide +kernel
theorem dJ9_min_f86c9_2 : decode cJ9_min_f86c9 2 = .ok (.lcmp, 1) := by decide +kernel
theorem dJ9_min_f86c9_3 : decode cJ9_min_f86c9 3 = .ok (.ifCond .gt 7, 3) := by decide +kernel
theorem dJ9_min_f86c9_6 : decode cJ9_min_f86c9 6 = .ok (.lload_n 0, 1) := by decide +kernel
theorem dJ9_min_f86c9_7 : decode cJ9_min_f86c9 7 = .ok (.goto 4, 3) := by decide +kernel
theorem dJ9_min_f86c9_10 : decode cJ9_min_f86c9 10 = .ok (.lload_n 2, 1) := by decide +kernel
theorem dJ9_min_f86c9_11 : decode cJ9_min_f86c9 11 = .ok (.lreturn, 1) := by decide +kernel
end
section
theorem dX10_init_0 : decode cX10_init 0 = .ok (.aload_n 0, 1) := by decide +kernel
theorem dX10_init_1 : decode cX10_init 1 = .ok (.invokespecial 1, 3) := by decide +kernel
theorem dX10_init_4 : decode cX10_init 4 = .ok (.aload_n 0, 1) := by decide +kernel
theorem dX10_init_5 : decode cX10_init 5 = .ok (.new 7, 3) := by decide +kernel
theorem dX10_init_8 : decode cX10_init 8 = .ok (.dup, 1) := by decide +kernel
theorem dX10_init_9 : decode cX10_init 9 = .ok (.invokespecial 9, 3) := by decide +kernel
theorem dX10_init_12 : decode cX10_init 12 = .ok (.putfield 10, 3) := by decide +kernel
theorem dX10_init_15 : decode cX10_init 15 = .ok (.aload_n 0, 1) := by decide +kernel
theorem dX10_init_16 : decode cX10_init 16 = .ok (.new 16, 3) := by decide +kernel
theorem dX10_init_19 : decode cX10_init 19 = .ok (.dup, 1) := by decide +kernel
theorem dX10_init_20 : decode cX10_init 20 = .ok (.invokespecial 18, 3) := by decide +kernel
theorem dX10_init_23 : decode cX10_init 23 = .ok (.putfield 19, 3) := by decide +kernel
theorem dX10_init_26 : decode cX10_init 26 = .ok (.aload_n 0, 1) := by decide +kernel
theorem dX10_init_27 : decode cX10_init 27 = .ok (.new 23, 3) := by decide +kernel
theorem dX10_init_30 : decode cX10_init 30 = .ok (.dup, 1) := by decide +kernel
theorem dX10_init_31 : decode cX10_init 31 = .ok (.invokespecial 25, 3) := by decide +kernel
theorem dX10_init_34 : decode cX10_init 34 = .ok (.putfield 26, 3) := by decide +kernel
theorem dX10_init_37 : decode cX10_init 37 = .ok (.aload_n 0, 1) := by decide +kernel
theorem dX10_init_38 : decode cX10_init 38 = .ok (.new 30, 3) := by decide +kernel
theorem dX10_init_41 : decode cX10_init 41 = .ok (.dup, 1) := by decide +kernel
theorem dX10_init_42 : decode cX10_init 42 = .ok (.invokespecial 32, 3) := by decide +kernel
theorem dX10_init_45 : decode cX10_init 45 = .ok (.putfield 33, 3) := by decide +kernel
theorem dX10_init_48 : decode cX10_init 48 = .ok (.aload_n 0, 1) := by decide +kernel
theorem dX10_init_49 : decode cX10_init 49 = .ok (.iconst 2, 1) := by decide +kernel
theorem dX10_init_50 : decode cX10_init 50 = .ok (.anewarray 23, 3) := by decide +kernel
theorem dX10_init_53 : decode cX10_init 53 = .ok (.putfield 37, 3) := by decide +kernel
theorem dX10_init_56 : decode cX10_init 56 = .ok (.iconst 0, 1) := by decide +kernel
theorem dX10_init_57 : decode cX10_init 57 = .ok (.istore_n 1, 1) := by decide +kernel
theorem dX10_init_58 : decode cX10_init 58 = .ok (.iload_n 1, 1) := by decide +kernel
theorem dX10_init_59 : decode cX10_init 59 = .ok (.iconst 2, 1) := by decide +kernel
theorem dX10_init_60 : decode cX10_init 60 = .ok (.if_icmp .ge 22, 3) := by decide +kernel
theorem dX10_init_63 : decode cX10_init 63 = .ok (.aload_n 0, 1) := by decide +kernel
theorem dX10_init_64 : decode cX10_init 64 = .ok (.getfield 37, 3) := by decide +kernel
theorem dX10_init_67 : decode cX10_init 67 = .ok (.iload_n 1, 1) := by decide +kernel
theorem dX10_init_68 : decode cX10_init 68 = .ok (.new 23, 3) := by decide +kernel
theorem dX10_init_71 : decode cX10_init 71 = .ok (.dup, 1) := by decide +kernel
theorem dX10_init_72 : decode cX10_init 72 = .ok (.invokespecial 25, 3) := by decide +kernel
theorem dX10_init_75 : decode cX10_init 75 = .ok (.aastore, 1) := by decide +kernel
theorem dX10_init_76 : decode cX10_init 76 = .ok (.iinc 1 1, 3) := by decide +kernel
theorem dX10_init_79 : decode cX10_init 79 = .ok (.goto (-21), 3) := by decide +kernel
theorem dX10_init_82 : decode cX10_init 82 = .ok (.aload_n 0, 1) := by decide +kernel
theorem dX10_init_83 : decode cX10_init 83 = .ok (.iconst 2, 1) := by decide +kernel
theorem dX10_init_84 : decode cX10_init 84 = .ok (.newarray .boolean, 2) := by decide +kernel
theorem dX10_init_86 : decode cX10_init 86 = .ok (.putfield 41, 3) := by decide +kernel
theorem dX10_init_89 : decode cX10_init 89 = .ok (.aload_n 0, 1) := by decide +kernel
theorem dX10_init_90 : decode cX10_init 90 = .ok (.new 45, 3) := by decide +kernel
theorem dX10_init_93 : decode cX10_init 93 = .ok (.dup, 1) := by decide +kernel
theorem dX10_init_94 : decode cX10_init 94 = .ok (.invokespecial 47, 3) := by decide +kernel
theorem dX10_init_97 : decode cX10_init 97 = .ok (.putfield 48, 3) := by decide +kernel
theorem dX10_init_100 : decode cX10_init 100 = .ok (.aload_n 0, 1) := by decide +kernel
theorem dX10_init_101 : decode cX10_init 101 = .ok (.new 52, 3) := by decide +kernel
theorem dX10_init_104 : decode cX10_init 104 = .ok (.dup, 1) := by decide +kernel
theorem dX10_init_105 : decode cX10_init 105 = .ok (.invokespecial 54, 3) := by decide +kernel
theorem dX10_init_108 : decode cX10_init 108 = .ok (.putfield 55, 3) := by decide +kernel
theorem dX10_init_111 : decode cX10_init 111 = .ok (.aload_n 0, 1) := by decide +kernel
theorem dX10_init_112 : decode cX10_init 112 = .ok (.new 59, 3) := by decide +kernel
theorem dX10_init_115 : decode cX10_init 115 = .ok (.dup, 1) := by decide +kernel
theorem dX10_init_116 : decode cX10_init 116 = .ok (.invokespecial 61, 3) := by decide +kernel
theorem dX10_init_119 : decode cX10_init 119 = .ok (.putfield 62, 3) := by decide +kernel
theorem dX10_init_122 : decode cX10_init 122 = .ok (.aload_n 0, 1) := by decide +kernel
theorem dX10_init_123 : decode cX10_init 123 = .ok (.new 66, 3) := by decide +kernel
theorem dX10_init_126 : decode cX10_init 126 = .ok (.dup, 1) := by decide +kernel
theorem dX10_init_127 : decode cX10_init 127 = .ok (.invokespecial 68, 3) := by decide +kernel
theorem dX10_init_130 : decode cX10_init 130 = .ok (.putfield 69, 3) := by decide +kernel
theorem dX10_init_133 : decode cX10_init 133 = .ok (.return_, 1) := by decide +kernel
theorem dX10_feed_0 : decode cX10_feed 0 = .ok (.aload_n 0, 1) := by decide +kernel
theorem dX10_feed_1 : decode cX10_feed 1 = .ok (.getfield 10, 3) := by decide +kernel
theorem dX10_feed_4 : decode cX10_feed 4 = .ok (.invokevirtual 73, 3) := by decide +kernel
theorem dX10_feed_7 : decode cX10_feed 7 = .ok (.ifCond .ne 5, 3) := by decide +kernel
theorem dX10_feed_10 : decode cX10_feed 10 = .ok (.iconst (-1), 1) := by decide +kernel
theorem dX10_feed_11 : decode cX10_feed 11 = .ok (.ireturn, 1) := by decide +kernel
theorem dX10_feed_12 : decode cX10_feed 12 = .ok (.aload_n 0, 1) := by decide +kernel
theorem dX10_feed_13 : decode cX10_feed 13 = .ok (.getfield 10, 3) := by decide +kernel
theorem dX10_feed_16 : decode cX10_feed 16 = .ok (.iload_n 1, 1) := by decide +kernel
theorem dX10_feed_17 : decode cX10_feed 17 = .ok (.invokevirtual 77, 3) := by decide +kernel
theorem dX10_feed_20 : decode cX10_feed 20 = .ok (.aload_n 0, 1) := by decide +kernel
theorem dX10_feed_21 : decode cX10_feed 21 = .ok (.getfield 10, 3) := by decide +kernel
theorem dX10_feed_24 : decode cX10_feed 24 = .ok (.iload_n 2, 1) := by decide +kernel
theorem dX10_feed_25 : decode cX10_feed 25 = .ok (.invokevirtual 77, 3) := by decide +kernel
theorem dX10_feed_28 : decode cX10_feed 28 = .ok (.aload_n 0, 1) := by decide +kernel
theorem dX10_feed_29 : decode cX10_feed 29 = .ok (.getfield 10, 3) := by decide +kernel
theorem dX10_feed_32 : decode cX10_feed 32 = .ok (.iload_n 3, 1) := by decide +kernel
theorem dX10_feed_33 : decode cX10_feed 33 = .ok (.invokevirtual 77, 3) := by decide +kernel
theorem dX10_feed_36 : decode cX10_feed 36 = .ok (.aload_n 0, 1) := by decide +kernel
theorem dX10_feed_37 : decode cX10_feed 37 = .ok (.getfield 10, 3) := by decide +kernel
theorem dX10_feed_40 : decode cX10_feed 40 = .ok (.iload 4, 2) := by decide +kernel
theorem dX10_feed_42 : decode cX10_feed 42 = .ok (.invokevirtual 77, 3) := by decide +kernel
theorem dX10_feed_45 : decode cX10_feed 45 = .ok (.aload_n 0, 1) := by decide +kernel
theorem dX10_feed_46 : decode cX10_feed 46 = .ok (.getfield 10, 3) := by decide +kernel
theorem dX10_feed_49 : decode cX10_feed 49 = .ok (.iload 5, 2) := by decide +kernel
theorem dX10_feed_51 : decode cX10_feed 51 = .ok (.invokevirtual 77, 3) := by decide +kernel
theorem dX10_feed_54 : decode cX10_feed 54 = .ok (.aload_n 0, 1) := by decide +kernel
theorem dX10_feed_55 : decode cX10_feed 55 = .ok (.getfield 10, 3) := by decide +kernel
theorem dX10_feed_58 : decode cX10_feed 58 = .ok (.invokevirtual 81, 3) := by decide +kernel
theorem dX10_feed_61 : decode cX10_feed 61 = .ok (.ireturn, 1) := by decide +kernel
theorem dX10_end_0 : decode cX10_end 0 = .ok (.aload_n 0, 1) := by decide +kernel
theorem dX10_end_1 : decode cX10_end 1 = .ok (.getfield 10, 3) := by decide +kernel
theorem dX10_end_4 : decode cX10_end 4 = .ok (.iload_n 1, 1) := by decide +kernel
theorem dX10_end_5 : decode cX10_end 5 = .ok (.invokevirtual 85, 3) := by decide +kernel
theorem dX10_end_8 : decode cX10_end 8 = .ok (.ireturn, 1) := by decide +kernel
theorem dX10_path_0 : decode cX10_path 0 = .ok (.aload_n 0, 1) := by decide +kernel
theorem dX10_path_1 : decode cX10_path 1 = .ok (.getfield 19, 3) := by decide +kernel
theorem dX10_path_4 : decode cX10_path 4 = .ok (.aload_n 0, 1) := by decide +kernel
theorem dX10_path_5 : decode cX10_path 5 = .ok (.getfield 10, 3) := by decide +kernel
theorem dX10_path_8 : decode cX10_path 8 = .ok (.invokevirtual 89, 3) := by decide +kernel
theorem dX10_path_11 : decode cX10_path 11 = .ok (.aload_n 0, 1) := by decide +kernel
theorem dX10_path_12 : decode cX10_path 12 = .ok (.getfield 10, 3) := by decide +kernel
theorem dX10_path_15 : decode cX10_path 15 = .ok (.iconst 0, 1) := by decide +kernel
theorem dX10_path_16 : decode cX10_path 16 = .ok (.invokevirtual 85, 3) := by decide +kernel
theorem dX10_path_19 : decode cX10_path 19 = .ok (.pop, 1) := by decide +kernel
theorem dX10_path_20 : decode cX10_path 20 = .ok (.aload_n 0, 1) := by decide +kernel
theorem dX10_path_21 : decode cX10_path 21 = .ok (.getfield 19, 3) := by decide +kernel
theorem dX10_path_24 : decode cX10_path 24 = .ok (.invokevirtual 93, 3) := by decide +kernel
theorem dX10_path_27 : decode cX10_path 27 = .ok (.ifCond .eq 15, 3) := by decide +kernel
theorem dX10_path_30 : decode cX10_path 30 = .ok (.sipush (-1000), 3) := by decide +kernel
theorem dX10_path_33 : decode cX10_path 33 = .ok (.aload_n 0, 1) := by decide +kernel
theorem dX10_path_34 : decode cX10_path 34 = .ok (.getfield 19, 3) := by decide +kernel
theorem dX10_path_37 : decode cX10_path 37 = .ok (.invokevirtual 96, 3) := by decide +kernel
theorem dX10_path_40 : decode cX10_path 40 = .ok (.isub, 1) := by decide +kernel
theorem dX10_path_41 : decode cX10_path 41 = .ok (.ireturn, 1) := by decide +kernel
theorem dX10_path_42 : decode cX10_path 42 = .ok (.aload_n 0, 1) := by decide +kernel
theorem dX10_path_43 : decode cX10_path 43 = .ok (.getfield 33, 3) := by decide +kernel
theorem dX10_path_46 : decode cX10_path 46 = .ok (.aload_n 0, 1) := by decide +kernel
theorem dX10_path_47 : decode cX10_path 47 = .ok (.getfield 26, 3) := by decide +kernel
theorem dX10_path_50 : decode cX10_path 50 = .ok (.invokevirtual 99, 3) := by decide +kernel
theorem dX10_path_53 : decode cX10_path 53 = .ok (.aload_n 0, 1) := by decide +kernel
theorem dX10_path_54 : decode cX10_path 54 = .ok (.getfield 19, 3) := by decide +kernel
theorem dX10_path_57 : decode cX10_path 57 = .ok (.aload_n 0, 1) := by decide +kernel
theorem dX10_path_58 : decode cX10_path 58 = .ok (.getfield 26, 3) := by decide +kernel
theorem dX10_path_61 : decode cX10_path 61 = .ok (.invokevirtual 103, 3) := by decide +kernel
theorem dX10_path_64 : decode cX10_path 64 = .ok (.invokevirtual 107, 3) := by decide +kernel
theorem dX10_path_67 : decode cX10_path 67 = .ok (.istore_n 1, 1) := by decide +kernel
theorem dX10_path_68 : decode cX10_path 68 = .ok (.iload_n 1, 1) := by decide +kernel
theorem dX10_path_69 : decode cX10_path 69 = .ok (.ifCond .le 10, 3) := by decide +kernel
theorem dX10_path_72 : decode cX10_path 72 = .ok (.aload_n 0, 1) := by decide +kernel
theorem dX10_path_73 : decode cX10_path 73 = .ok (.getfield 33, 3) := by decide +kernel
theorem dX10_path_76 : decode cX10_path 76 = .ok (.invokevirtual 111, 3) := by decide +kernel
theorem dX10_path_79 : decode cX10_path 79 = .ok (.iload_n 1, 1) := by decide +kernel
theorem dX10_path_80 : decode cX10_path 80 = .ok (.ireturn, 1) := by decide +kernel
theorem dX10_fault_0 : decode cX10_fault 0 = .ok (.aload_n 0, 1) := by decide +kernel
theorem dX10_fault_1 : decode cX10_fault 1 = .ok (.getfield 19, 3) := by decide +kernel
theorem dX10_fault_4 : decode cX10_fault 4 = .ok (.invokevirtual 93, 3) := by decide +kernel
theorem dX10_fault_7 : decode cX10_fault 7 = .ok (.ireturn, 1) := by decide +kernel
theorem dX10_now_0 : decode cX10_now 0 = .ok (.aload_n 0, 1) := by decide +kernel
theorem dX10_now_1 : decode cX10_now 1 = .ok (.getfield 26, 3) := by decide +kernel
theorem dX10_now_4 : decode cX10_now 4 = .ok (.invokevirtual 103, 3) := by decide +kernel
theorem dX10_now_7 : decode cX10_now 7 = .ok (.astore_n 2, 1) := by decide +kernel
theorem dX10_now_8 : decode cX10_now 8 = .ok (.iload_n 1, 1) := by decide +kernel
theorem dX10_now_9 : decode cX10_now 9 = .ok (.tableswitch 117 0 9 #[55, 60, 65, 70, 75, 80, 85, 90, 101, 109], 55) := by decide +kernel
theorem dX10_now_64 : decode cX10_now 64 = .ok (.aload_n 2, 1) := by decide +kernel
theorem dX10_now_65 : decode cX10_now 65 = .ok (.invokevirtual 114, 3) := by decide +kernel
theorem dX10_now_68 : decode cX10_now 68 = .ok (.ireturn, 1) := by decide +kernel
theorem dX10_now_69 : decode cX10_now 69 = .ok (.aload_n 2, 1) := by decide +kernel
theorem dX10_now_70 : decode cX10_now 70 = .ok (.invokevirtual 119, 3) := by decide +kernel
theorem dX10_now_73 : decode cX10_now 73 = .ok (.ireturn, 1) := by decide +kernel
theorem dX10_now_74 : decode cX10_now 74 = .ok (.aload_n 2, 1) := by decide +kernel
theorem dX10_now_75 : decode cX10_now 75 = .ok (.invokevirtual 122, 3) := by decide +kernel
theorem dX10_now_78 : decode cX10_now 78 = .ok (.ireturn, 1) := by decide +kernel
theorem dX10_now_79 : decode cX10_now 79 = .ok (.aload_n 2, 1) := by decide +kernel
theorem dX10_now_80 : decode cX10_now 80 = .ok (.invokevirtual 125, 3) := by decide +kernel
theorem dX10_now_83 : decode cX10_now 83 = .ok (.ireturn, 1) := by decide +kernel
theorem dX10_now_84 : decode cX10_now 84 = .ok (.aload_n 2, 1) := by decide +kernel
theorem dX10_now_85 : decode cX10_now 85 = .ok (.invokevirtual 128, 3) := by decide +kernel
theorem dX10_now_88 : decode cX10_now 88 = .ok (.ireturn, 1) := by decide +kernel
theorem dX10_now_89 : decode cX10_now 89 = .ok (.aload_n 2, 1) := by decide +kernel
theorem dX10_now_90 : decode cX10_now 90 = .ok (.invokevirtual 131, 3) := by decide +kernel
theorem dX10_now_93 : decode cX10_now 93 = .ok (.ireturn, 1) := by decide +kernel
theorem dX10_now_94 : decode cX10_now 94 = .ok (.aload_n 2, 1) := by decide +kernel
theorem dX10_now_95 : decode cX10_now 95 = .ok (.invokevirtual 134, 3) := by decide +kernel
theorem dX10_now_98 : decode cX10_now 98 = .ok (.ireturn, 1) := by decide +kernel
theorem dX10_now_99 : decode cX10_now 99 = .ok (.aload_n 0, 1) := by decide +kernel
theorem dX10_now_100 : decode cX10_now 100 = .ok (.getfield 26, 3) := by decide +kernel
theorem dX10_now_103 : decode cX10_now 103 = .ok (.invokevirtual 137, 3) := by decide +kernel
theorem dX10_now_106 : decode cX10_now 106 = .ok (.invokevirtual 141, 3) := by decide +kernel
theorem dX10_now_109 : decode cX10_now 109 = .ok (.ireturn, 1) := by decide +kernel
theorem dX10_now_110 : decode cX10_now 110 = .ok (.aload_n 0, 1) := by decide +kernel
theorem dX10_now_111 : decode cX10_now 111 = .ok (.getfield 33, 3) := by decide +kernel
theorem dX10_now_114 : decode cX10_now 114 = .ok (.invokevirtual 146, 3) := by decide +kernel
theorem dX10_now_117 : decode cX10_now 117 = .ok (.ireturn, 1) := by decide +kernel
theorem dX10_now_118 : decode cX10_now 118 = .ok (.aload_n 0, 1) := by decide +kernel
theorem dX10_now_119 : decode cX10_now 119 = .ok (.getfield 10, 3) := by decide +kernel
theorem dX10_now_122 : decode cX10_now 122 = .ok (.invokevirtual 81, 3) := by decide +kernel
theorem dX10_now_125 : decode cX10_now 125 = .ok (.ireturn, 1) := by decide +kernel
theorem dX10_now_126 : decode cX10_now 126 = .ok (.iconst (-1), 1) := by decide +kernel
theorem dX10_now_127 : decode cX10_now 127 = .ok (.ireturn, 1) := by decide +kernel
theorem dX10_left_0 : decode cX10_left 0 = .ok (.aload_n 0, 1) := by decide +kernel
theorem dX10_left_1 : decode cX10_left 1 = .ok (.getfield 33, 3) := by decide +kernel
theorem dX10_left_4 : decode cX10_left 4 = .ok (.aload_n 0, 1) := by decide +kernel
theorem dX10_left_5 : decode cX10_left 5 = .ok (.getfield 26, 3) := by decide +kernel
theorem dX10_left_8 : decode cX10_left 8 = .ok (.invokevirtual 99, 3) := by decide +kernel
theorem dX10_left_11 : decode cX10_left 11 = .ok (.aload_n 0, 1) := by decide +kernel
theorem dX10_left_12 : decode cX10_left 12 = .ok (.aload_n 0, 1) := by decide +kernel
theorem dX10_left_13 : decode cX10_left 13 = .ok (.getfield 26, 3) := by decide +kernel
theorem dX10_left_16 : decode cX10_left 16 = .ok (.invokevirtual 103, 3) := by decide +kernel
theorem dX10_left_19 : decode cX10_left 19 = .ok (.invokevirtual 147, 3) := by decide +kernel
theorem dX10_left_22 : decode cX10_left 22 = .ok (.invokevirtual 150, 3) := by decide +kernel
theorem dX10_left_25 : decode cX10_left 25 = .ok (.ireturn, 1) := by decide +kernel
theorem dX10_right_0 : decode cX10_right 0 = .ok (.aload_n 0, 1) := by decide +kernel
theorem dX10_right_1 : decode cX10_right 1 = .ok (.getfield 33, 3) := by decide +kernel
theorem dX10_right_4 : decode cX10_right 4 = .ok (.aload_n 0, 1) := by decide +kernel
theorem dX10_right_5 : decode cX10_right 5 = .ok (.getfield 26, 3) := by decide +kernel
theorem dX10_right_8 : decode cX10_right 8 = .ok (.invokevirtual 99, 3) := by decide +kernel
theorem dX10_right_11 : decode cX10_right 11 = .ok (.aload_n 0, 1) := by decide +kernel
theorem dX10_right_12 : decode cX10_right 12 = .ok (.aload_n 0, 1) := by decide +kernel
theorem dX10_right_13 : decode cX10_right 13 = .ok (.getfield 26, 3) := by decide +kernel
theorem dX10_right_16 : decode cX10_right 16 = .ok (.invokevirtual 103, 3) := by decide +kernel
theorem dX10_right_19 : decode cX10_right 19 = .ok (.invokevirtual 154, 3) := by decide +kernel
theorem dX10_right_22 : decode cX10_right 22 = .ok (.invokevirtual 150, 3) := by decide +kernel
theorem dX10_right_25 : decode cX10_right 25 = .ok (.ireturn, 1) := by decide +kernel
theorem dX10_up_0 : decode cX10_up 0 = .ok (.aload_n 0, 1) := by decide +kernel
theorem dX10_up_1 : decode cX10_up 1 = .ok (.getfield 33, 3) := by decide +kernel
theorem dX10_up_4 : decode cX10_up 4 = .ok (.aload_n 0, 1) := by decide +kernel
theorem dX10_up_5 : decode cX10_up 5 = .ok (.getfield 26, 3) := by decide +kernel
theorem dX10_up_8 : decode cX10_up 8 = .ok (.invokevirtual 99, 3) := by decide +kernel
theorem dX10_up_11 : decode cX10_up 11 = .ok (.aload_n 0, 1) := by decide +kernel
theorem dX10_up_12 : decode cX10_up 12 = .ok (.aload_n 0, 1) := by decide +kernel
theorem dX10_up_13 : decode cX10_up 13 = .ok (.getfield 26, 3) := by decide +kernel
theorem dX10_up_16 : decode cX10_up 16 = .ok (.invokevirtual 103, 3) := by decide +kernel
theorem dX10_up_19 : decode cX10_up 19 = .ok (.invokevirtual 157, 3) := by decide +kernel
theorem dX10_up_22 : decode cX10_up 22 = .ok (.invokevirtual 150, 3) := by decide +kernel
theorem dX10_up_25 : decode cX10_up 25 = .ok (.ireturn, 1) := by decide +kernel
theorem dX10_go_0 : decode cX10_go 0 = .ok (.iload_n 1, 1) := by decide +kernel
theorem dX10_go_1 : decode cX10_go 1 = .ok (.iload_n 2, 1) := by decide +kernel
theorem dX10_go_2 : decode cX10_go 2 = .ok (.invokestatic 160, 3) := by decide +kernel
theorem dX10_go_5 : decode cX10_go 5 = .ok (.ifCond .eq 12, 3) := by decide +kernel
theorem dX10_go_8 : decode cX10_go 8 = .ok (.aload_n 0, 1) := by decide +kernel
theorem dX10_go_9 : decode cX10_go 9 = .ok (.iload_n 1, 1) := by decide +kernel
theorem dX10_go_10 : decode cX10_go 10 = .ok (.iload_n 2, 1) := by decide +kernel
theorem dX10_go_11 : decode cX10_go 11 = .ok (.invokevirtual 164, 3) := by decide +kernel
theorem dX10_go_14 : decode cX10_go 14 = .ok (.goto 4, 3) := by decide +kernel
theorem dX10_go_17 : decode cX10_go 17 = .ok (.iconst (-1), 1) := by decide +kernel
theorem dX10_go_18 : decode cX10_go 18 = .ok (.ireturn, 1) := by decide +kernel
theorem dX10_stepped_0 : decode cX10_stepped 0 = .ok (.iload_n 1, 1) := by decide +kernel
theorem dX10_stepped_1 : decode cX10_stepped 1 = .ok (.ifCond .ne 5, 3) := by decide +kernel
theorem dX10_stepped_4 : decode cX10_stepped 4 = .ok (.iconst (-1), 1) := by decide +kernel
theorem dX10_stepped_5 : decode cX10_stepped 5 = .ok (.ireturn, 1) := by decide +kernel
theorem dX10_stepped_6 : decode cX10_stepped 6 = .ok (.aload_n 0, 1) := by decide +kernel
theorem dX10_stepped_7 : decode cX10_stepped 7 = .ok (.getfield 33, 3) := by decide +kernel
theorem dX10_stepped_10 : decode cX10_stepped 10 = .ok (.invokevirtual 111, 3) := by decide +kernel
theorem dX10_stepped_13 : decode cX10_stepped 13 = .ok (.aload_n 0, 1) := by decide +kernel
theorem dX10_stepped_14 : decode cX10_stepped 14 = .ok (.getfield 26, 3) := by decide +kernel
theorem dX10_stepped_17 : decode cX10_stepped 17 = .ok (.invokevirtual 103, 3) := by decide +kernel
theorem dX10_stepped_20 : decode cX10_stepped 20 = .ok (.invokevirtual 168, 3) := by decide +kernel
theorem dX10_stepped_23 : decode cX10_stepped 23 = .ok (.ireturn, 1) := by decide +kernel
theorem dX10_moveTo_0 : decode cX10_moveTo 0 = .ok (.aload_n 0, 1) := by decide +kernel
theorem dX10_moveTo_1 : decode cX10_moveTo 1 = .ok (.getfield 26, 3) := by decide +kernel
theorem dX10_moveTo_4 : decode cX10_moveTo 4 = .ok (.invokevirtual 103, 3) := by decide +kernel
theorem dX10_moveTo_7 : decode cX10_moveTo 7 = .ok (.astore_n 3, 1) := by decide +kernel
theorem dX10_moveTo_8 : decode cX10_moveTo 8 = .ok (.aload_n 3, 1) := by decide +kernel
theorem dX10_moveTo_9 : decode cX10_moveTo 9 = .ok (.iload_n 1, 1) := by decide +kernel
theorem dX10_moveTo_10 : decode cX10_moveTo 10 = .ok (.iload_n 2, 1) := by decide +kernel
theorem dX10_moveTo_11 : decode cX10_moveTo 11 = .ok (.invokevirtual 171, 3) := by decide +kernel
theorem dX10_moveTo_14 : decode cX10_moveTo 14 = .ok (.ifCond .eq 5, 3) := by decide +kernel
theorem dX10_moveTo_17 : decode cX10_moveTo 17 = .ok (.iconst (-1), 1) := by decide +kernel
theorem dX10_moveTo_18 : decode cX10_moveTo 18 = .ok (.ireturn, 1) := by decide +kernel
theorem dX10_moveTo_19 : decode cX10_moveTo 19 = .ok (.aload_n 0, 1) := by decide +kernel
theorem dX10_moveTo_20 : decode cX10_moveTo 20 = .ok (.getfield 33, 3) := by decide +kernel
theorem dX10_moveTo_23 : decode cX10_moveTo 23 = .ok (.aload_n 0, 1) := by decide +kernel
theorem dX10_moveTo_24 : decode cX10_moveTo 24 = .ok (.getfield 26, 3) := by decide +kernel
theorem dX10_moveTo_27 : decode cX10_moveTo 27 = .ok (.invokevirtual 99, 3) := by decide +kernel
theorem dX10_moveTo_30 : decode cX10_moveTo 30 = .ok (.aload_n 3, 1) := by decide +kernel
theorem dX10_moveTo_31 : decode cX10_moveTo 31 = .ok (.iload_n 1, 1) := by decide +kernel
theorem dX10_moveTo_32 : decode cX10_moveTo 32 = .ok (.iload_n 2, 1) := by decide +kernel
theorem dX10_moveTo_33 : decode cX10_moveTo 33 = .ok (.invokevirtual 174, 3) := by decide +kernel
theorem dX10_moveTo_36 : decode cX10_moveTo 36 = .ok (.aload_n 0, 1) := by decide +kernel
theorem dX10_moveTo_37 : decode cX10_moveTo 37 = .ok (.getfield 33, 3) := by decide +kernel
theorem dX10_moveTo_40 : decode cX10_moveTo 40 = .ok (.invokevirtual 111, 3) := by decide +kernel
theorem dX10_moveTo_43 : decode cX10_moveTo 43 = .ok (.aload_n 3, 1) := by decide +kernel
theorem dX10_moveTo_44 : decode cX10_moveTo 44 = .ok (.invokevirtual 134, 3) := by decide +kernel
theorem dX10_moveTo_47 : decode cX10_moveTo 47 = .ok (.ireturn, 1) := by decide +kernel
theorem dX10_isPlace_0 : decode cX10_isPlace 0 = .ok (.iload_n 0, 1) := by decide +kernel
theorem dX10_isPlace_1 : decode cX10_isPlace 1 = .ok (.iconst 1, 1) := by decide +kernel
theorem dX10_isPlace_2 : decode cX10_isPlace 2 = .ok (.if_icmp .lt 26, 3) := by decide +kernel
theorem dX10_isPlace_5 : decode cX10_isPlace 5 = .ok (.iload_n 1, 1) := by decide +kernel
theorem dX10_isPlace_6 : decode cX10_isPlace 6 = .ok (.iconst 1, 1) := by decide +kernel
theorem dX10_isPlace_7 : decode cX10_isPlace 7 = .ok (.if_icmp .lt 21, 3) := by decide +kernel
theorem dX10_isPlace_10 : decode cX10_isPlace 10 = .ok (.iload_n 0, 1) := by decide +kernel
theorem dX10_isPlace_11 : decode cX10_isPlace 11 = .ok (.bipush 22, 2) := by decide +kernel
theorem dX10_isPlace_13 : decode cX10_isPlace 13 = .ok (.if_icmp .ge 15, 3) := by decide +kernel
theorem dX10_isPlace_16 : decode cX10_isPlace 16 = .ok (.iload_n 1, 1) := by decide +kernel
theorem dX10_isPlace_17 : decode cX10_isPlace 17 = .ok (.bipush 22, 2) := by decide +kernel
theorem dX10_isPlace_19 : decode cX10_isPlace 19 = .ok (.iload_n 0, 1) := by decide +kernel
theorem dX10_isPlace_20 : decode cX10_isPlace 20 = .ok (.isub, 1) := by decide +kernel
theorem dX10_isPlace_21 : decode cX10_isPlace 21 = .ok (.if_icmp .gt 7, 3) := by decide +kernel
theorem dX10_isPlace_24 : decode cX10_isPlace 24 = .ok (.iconst 1, 1) := by decide +kernel
theorem dX10_isPlace_25 : decode cX10_isPlace 25 = .ok (.goto 4, 3) := by decide +kernel
theorem dX10_isPlace_28 : decode cX10_isPlace 28 = .ok (.iconst 0, 1) := by decide +kernel
theorem dX10_isPlace_29 : decode cX10_isPlace 29 = .ok (.istore_n 2, 1) := by decide +kernel
theorem dX10_isPlace_30 : decode cX10_isPlace 30 = .ok (.iload_n 2, 1) := by decide +kernel
theorem dX10_isPlace_31 : decode cX10_isPlace 31 = .ok (.ifCond .eq 16, 3) := by decide +kernel
theorem dX10_isPlace_34 : decode cX10_isPlace 34 = .ok (.iload_n 0, 1) := by decide +kernel
theorem dX10_isPlace_35 : decode cX10_isPlace 35 = .ok (.iload_n 1, 1) := by decide +kernel
theorem dX10_isPlace_36 : decode cX10_isPlace 36 = .ok (.invokestatic 178, 3) := by decide +kernel
theorem dX10_isPlace_39 : decode cX10_isPlace 39 = .ok (.iconst 1, 1) := by decide +kernel
theorem dX10_isPlace_40 : decode cX10_isPlace 40 = .ok (.if_icmp .ne 7, 3) := by decide +kernel
theorem dX10_isPlace_43 : decode cX10_isPlace 43 = .ok (.iconst 1, 1) := by decide +kernel
theorem dX10_isPlace_44 : decode cX10_isPlace 44 = .ok (.goto 4, 3) := by decide +kernel
theorem dX10_isPlace_47 : decode cX10_isPlace 47 = .ok (.iconst 0, 1) := by decide +kernel
theorem dX10_isPlace_48 : decode cX10_isPlace 48 = .ok (.ireturn, 1) := by decide +kernel
theorem dX10_commonPart_0 : decode cX10_commonPart 0 = .ok (.iload_n 0, 1) := by decide +kernel
theorem dX10_commonPart_1 : decode cX10_commonPart 1 = .ok (.istore_n 2, 1) := by decide +kernel
theorem dX10_commonPart_2 : decode cX10_commonPart 2 = .ok (.iload_n 1, 1) := by decide +kernel
theorem dX10_commonPart_3 : decode cX10_commonPart 3 = .ok (.istore_n 3, 1) := by decide +kernel
theorem dX10_commonPart_4 : decode cX10_commonPart 4 = .ok (.iconst 0, 1) := by decide +kernel
theorem dX10_commonPart_5 : decode cX10_commonPart 5 = .ok (.istore 4, 2) := by decide +kernel
theorem dX10_commonPart_7 : decode cX10_commonPart 7 = .ok (.iload 4, 2) := by decide +kernel
theorem dX10_commonPart_9 : decode cX10_commonPart 9 = .ok (.bipush 22, 2) := by decide +kernel
theorem dX10_commonPart_11 : decode cX10_commonPart 11 = .ok (.if_icmp .ge 23, 3) := by decide +kernel
theorem dX10_commonPart_14 : decode cX10_commonPart 14 = .ok (.iload_n 3, 1) := by decide +kernel
theorem dX10_commonPart_15 : decode cX10_commonPart 15 = .ok (.ifCond .eq 19, 3) := by decide +kernel
theorem dX10_commonPart_18 : decode cX10_commonPart 18 = .ok (.iload_n 2, 1) := by decide +kernel
theorem dX10_commonPart_19 : decode cX10_commonPart 19 = .ok (.iload_n 3, 1) := by decide +kernel
theorem dX10_commonPart_20 : decode cX10_commonPart 20 = .ok (.irem, 1) := by decide +kernel
theorem dX10_commonPart_21 : decode cX10_commonPart 21 = .ok (.istore 5, 2) := by decide +kernel
theorem dX10_commonPart_23 : decode cX10_commonPart 23 = .ok (.iload_n 3, 1) := by decide +kernel
theorem dX10_commonPart_24 : decode cX10_commonPart 24 = .ok (.istore_n 2, 1) := by decide +kernel
theorem dX10_commonPart_25 : decode cX10_commonPart 25 = .ok (.iload 5, 2) := by decide +kernel
theorem dX10_commonPart_27 : decode cX10_commonPart 27 = .ok (.istore_n 3, 1) := by decide +kernel
theorem dX10_commonPart_28 : decode cX10_commonPart 28 = .ok (.iinc 4 1, 3) := by decide +kernel
theorem dX10_commonPart_31 : decode cX10_commonPart 31 = .ok (.goto (-24), 3) := by decide +kernel
theorem dX10_commonPart_34 : decode cX10_commonPart 34 = .ok (.iload_n 2, 1) := by decide +kernel
theorem dX10_commonPart_35 : decode cX10_commonPart 35 = .ok (.ireturn, 1) := by decide +kernel
theorem dX10_triple_0 : decode cX10_triple 0 = .ok (.aload_n 0, 1) := by decide +kernel
theorem dX10_triple_1 : decode cX10_triple 1 = .ok (.getfield 26, 3) := by decide +kernel
theorem dX10_triple_4 : decode cX10_triple 4 = .ok (.invokevirtual 103, 3) := by decide +kernel
theorem dX10_triple_7 : decode cX10_triple 7 = .ok (.astore_n 2, 1) := by decide +kernel
theorem dX10_triple_8 : decode cX10_triple 8 = .ok (.iload_n 1, 1) := by decide +kernel
theorem dX10_triple_9 : decode cX10_triple 9 = .ok (.tableswitch 58 0 2 #[27, 40, 53], 27) := by decide +kernel
theorem dX10_triple_36 : decode cX10_triple 36 = .ok (.aload_n 0, 1) := by decide +kernel
theorem dX10_triple_37 : decode cX10_triple 37 = .ok (.aload_n 2, 1) := by decide +kernel
theorem dX10_triple_38 : decode cX10_triple 38 = .ok (.invokevirtual 122, 3) := by decide +kernel
theorem dX10_triple_41 : decode cX10_triple 41 = .ok (.aload_n 2, 1) := by decide +kernel
theorem dX10_triple_42 : decode cX10_triple 42 = .ok (.invokevirtual 125, 3) := by decide +kernel
theorem dX10_triple_45 : decode cX10_triple 45 = .ok (.invokevirtual 181, 3) := by decide +kernel
theorem dX10_triple_48 : decode cX10_triple 48 = .ok (.lreturn, 1) := by decide +kernel
theorem dX10_triple_49 : decode cX10_triple 49 = .ok (.aload_n 0, 1) := by decide +kernel
theorem dX10_triple_50 : decode cX10_triple 50 = .ok (.aload_n 2, 1) := by decide +kernel
theorem dX10_triple_51 : decode cX10_triple 51 = .ok (.invokevirtual 128, 3) := by decide +kernel
theorem dX10_triple_54 : decode cX10_triple 54 = .ok (.aload_n 2, 1) := by decide +kernel
theorem dX10_triple_55 : decode cX10_triple 55 = .ok (.invokevirtual 131, 3) := by decide +kernel
theorem dX10_triple_58 : decode cX10_triple 58 = .ok (.invokevirtual 181, 3) := by decide +kernel
theorem dX10_triple_61 : decode cX10_triple 61 = .ok (.lreturn, 1) := by decide +kernel
theorem dX10_triple_62 : decode cX10_triple 62 = .ok (.aload_n 0, 1) := by decide +kernel
theorem dX10_triple_63 : decode cX10_triple 63 = .ok (.invokevirtual 185, 3) := by decide +kernel
theorem dX10_triple_66 : decode cX10_triple 66 = .ok (.lreturn, 1) := by decide +kernel
theorem dX10_triple_67 : decode cX10_triple 67 = .ok (.new 189, 3) := by decide +kernel
theorem dX10_triple_70 : decode cX10_triple 70 = .ok (.dup, 1) := by decide +kernel
theorem dX10_triple_71 : decode cX10_triple 71 = .ok (.invokespecial 191, 3) := by decide +kernel
theorem dX10_triple_74 : decode cX10_triple 74 = .ok (.athrow, 1) := by decide +kernel
theorem dX10_letter_0 : decode cX10_letter 0 = .ok (.aload_n 0, 1) := by decide +kernel
theorem dX10_letter_1 : decode cX10_letter 1 = .ok (.getfield 26, 3) := by decide +kernel
theorem dX10_letter_4 : decode cX10_letter 4 = .ok (.invokevirtual 103, 3) := by decide +kernel
theorem dX10_letter_7 : decode cX10_letter 7 = .ok (.astore_n 2, 1) := by decide +kernel
theorem dX10_letter_8 : decode cX10_letter 8 = .ok (.iload_n 1, 1) := by decide +kernel
theorem dX10_letter_9 : decode cX10_letter 9 = .ok (.iconst 1, 1) := by decide +kernel
theorem dX10_letter_10 : decode cX10_letter 10 = .ok (.if_icmp .lt 11, 3) := by decide +kernel
theorem dX10_letter_13 : decode cX10_letter 13 = .ok (.iload_n 1, 1) := by decide +kernel
theorem dX10_letter_14 : decode cX10_letter 14 = .ok (.aload_n 2, 1) := by decide +kernel
theorem dX10_letter_15 : decode cX10_letter 15 = .ok (.invokevirtual 168, 3) := by decide +kernel
theorem dX10_letter_18 : decode cX10_letter 18 = .ok (.if_icmp .le 5, 3) := by decide +kernel
theorem dX10_letter_21 : decode cX10_letter 21 = .ok (.iconst (-1), 1) := by decide +kernel
theorem dX10_letter_22 : decode cX10_letter 22 = .ok (.ireturn, 1) := by decide +kernel
theorem dX10_letter_23 : decode cX10_letter 23 = .ok (.aload_n 2, 1) := by decide +kernel
theorem dX10_letter_24 : decode cX10_letter 24 = .ok (.invokevirtual 114, 3) := by decide +kernel
theorem dX10_letter_27 : decode cX10_letter 27 = .ok (.aload_n 2, 1) := by decide +kernel
theorem dX10_letter_28 : decode cX10_letter 28 = .ok (.invokevirtual 119, 3) := by decide +kernel
theorem dX10_letter_31 : decode cX10_letter 31 = .ok (.iload_n 1, 1) := by decide +kernel
theorem dX10_letter_32 : decode cX10_letter 32 = .ok (.invokestatic 192, 3) := by decide +kernel
theorem dX10_letter_35 : decode cX10_letter 35 = .ok (.ifCond .eq 8, 3) := by decide +kernel
theorem dX10_letter_38 : decode cX10_letter 38 = .ok (.bipush 97, 2) := by decide +kernel
theorem dX10_letter_40 : decode cX10_letter 40 = .ok (.goto 5, 3) := by decide +kernel
theorem dX10_letter_43 : decode cX10_letter 43 = .ok (.bipush 98, 2) := by decide +kernel
theorem dX10_letter_45 : decode cX10_letter 45 = .ok (.ireturn, 1) := by decide +kernel
theorem dX10_cut_0 : decode cX10_cut 0 = .ok (.aload_n 0, 1) := by decide +kernel
theorem dX10_cut_1 : decode cX10_cut 1 = .ok (.getfield 26, 3) := by decide +kernel
theorem dX10_cut_4 : decode cX10_cut 4 = .ok (.invokevirtual 103, 3) := by decide +kernel
theorem dX10_cut_7 : decode cX10_cut 7 = .ok (.invokevirtual 114, 3) := by decide +kernel
theorem dX10_cut_10 : decode cX10_cut 10 = .ok (.istore_n 1, 1) := by decide +kernel
theorem dX10_cut_11 : decode cX10_cut 11 = .ok (.aload_n 0, 1) := by decide +kernel
theorem dX10_cut_12 : decode cX10_cut 12 = .ok (.getfield 26, 3) := by decide +kernel
theorem dX10_cut_15 : decode cX10_cut 15 = .ok (.invokevirtual 103, 3) := by decide +kernel
theorem dX10_cut_18 : decode cX10_cut 18 = .ok (.invokevirtual 168, 3) := by decide +kernel
theorem dX10_cut_21 : decode cX10_cut 21 = .ok (.istore_n 2, 1) := by decide +kernel
theorem dX10_cut_22 : decode cX10_cut 22 = .ok (.iconst 1, 1) := by decide +kernel
theorem dX10_cut_23 : decode cX10_cut 23 = .ok (.istore_n 3, 1) := by decide +kernel
theorem dX10_cut_24 : decode cX10_cut 24 = .ok (.iload_n 3, 1) := by decide +kernel
theorem dX10_cut_25 : decode cX10_cut 25 = .ok (.iload_n 2, 1) := by decide +kernel
theorem dX10_cut_26 : decode cX10_cut 26 = .ok (.if_icmp .gt 20, 3) := by decide +kernel
theorem dX10_cut_29 : decode cX10_cut 29 = .ok (.iload_n 3, 1) := by decide +kernel
theorem dX10_cut_30 : decode cX10_cut 30 = .ok (.iload_n 1, 1) := by decide +kernel
theorem dX10_cut_31 : decode cX10_cut 31 = .ok (.imul, 1) := by decide +kernel
theorem dX10_cut_32 : decode cX10_cut 32 = .ok (.iload_n 2, 1) := by decide +kernel
theorem dX10_cut_33 : decode cX10_cut 33 = .ok (.irem, 1) := by decide +kernel
theorem dX10_cut_34 : decode cX10_cut 34 = .ok (.iconst 1, 1) := by decide +kernel
theorem dX10_cut_35 : decode cX10_cut 35 = .ok (.if_icmp .ne 5, 3) := by decide +kernel
theorem dX10_cut_38 : decode cX10_cut 38 = .ok (.iload_n 3, 1) := by decide +kernel
theorem dX10_cut_39 : decode cX10_cut 39 = .ok (.ireturn, 1) := by decide +kernel
theorem dX10_cut_40 : decode cX10_cut 40 = .ok (.iinc 3 1, 3) := by decide +kernel
theorem dX10_cut_43 : decode cX10_cut 43 = .ok (.goto (-19), 3) := by decide +kernel
theorem dX10_cut_46 : decode cX10_cut 46 = .ok (.iconst (-1), 1) := by decide +kernel
theorem dX10_cut_47 : decode cX10_cut 47 = .ok (.ireturn, 1) := by decide +kernel
theorem dX10_matrix_0 : decode cX10_matrix 0 = .ok (.iload_n 1, 1) := by decide +kernel
theorem dX10_matrix_1 : decode cX10_matrix 1 = .ok (.ifCond .lt 17, 3) := by decide +kernel
theorem dX10_matrix_4 : decode cX10_matrix 4 = .ok (.iload_n 1, 1) := by decide +kernel
theorem dX10_matrix_5 : decode cX10_matrix 5 = .ok (.iconst 1, 1) := by decide +kernel
theorem dX10_matrix_6 : decode cX10_matrix 6 = .ok (.if_icmp .gt 12, 3) := by decide +kernel
theorem dX10_matrix_9 : decode cX10_matrix 9 = .ok (.iload_n 2, 1) := by decide +kernel
theorem dX10_matrix_10 : decode cX10_matrix 10 = .ok (.ifCond .lt 8, 3) := by decide +kernel
theorem dX10_matrix_13 : decode cX10_matrix 13 = .ok (.iload_n 2, 1) := by decide +kernel
theorem dX10_matrix_14 : decode cX10_matrix 14 = .ok (.iconst 1, 1) := by decide +kernel
theorem dX10_matrix_15 : decode cX10_matrix 15 = .ok (.if_icmp .le 11, 3) := by decide +kernel
theorem dX10_matrix_18 : decode cX10_matrix 18 = .ok (.new 189, 3) := by decide +kernel
theorem dX10_matrix_21 : decode cX10_matrix 21 = .ok (.dup, 1) := by decide +kernel
theorem dX10_matrix_22 : decode cX10_matrix 22 = .ok (.invokespecial 191, 3) := by decide +kernel
theorem dX10_matrix_25 : decode cX10_matrix 25 = .ok (.athrow, 1) := by decide +kernel
theorem dX10_matrix_26 : decode cX10_matrix 26 = .ok (.aload_n 0, 1) := by decide +kernel
theorem dX10_matrix_27 : decode cX10_matrix 27 = .ok (.getfield 55, 3) := by decide +kernel
theorem dX10_matrix_30 : decode cX10_matrix 30 = .ok (.aload_n 0, 1) := by decide +kernel
theorem dX10_matrix_31 : decode cX10_matrix 31 = .ok (.getfield 26, 3) := by decide +kernel
theorem dX10_matrix_34 : decode cX10_matrix 34 = .ok (.invokevirtual 103, 3) := by decide +kernel
theorem dX10_matrix_37 : decode cX10_matrix 37 = .ok (.invokevirtual 114, 3) := by decide +kernel
theorem dX10_matrix_40 : decode cX10_matrix 40 = .ok (.aload_n 0, 1) := by decide +kernel
theorem dX10_matrix_41 : decode cX10_matrix 41 = .ok (.getfield 26, 3) := by decide +kernel
theorem dX10_matrix_44 : decode cX10_matrix 44 = .ok (.invokevirtual 103, 3) := by decide +kernel
theorem dX10_matrix_47 : decode cX10_matrix 47 = .ok (.invokevirtual 119, 3) := by decide +kernel
theorem dX10_matrix_50 : decode cX10_matrix 50 = .ok (.invokevirtual 196, 3) := by decide +kernel
theorem dX10_matrix_53 : decode cX10_matrix 53 = .ok (.aload_n 0, 1) := by decide +kernel
theorem dX10_matrix_54 : decode cX10_matrix 54 = .ok (.getfield 55, 3) := by decide +kernel
theorem dX10_matrix_57 : decode cX10_matrix 57 = .ok (.iload_n 1, 1) := by decide +kernel
theorem dX10_matrix_58 : decode cX10_matrix 58 = .ok (.iload_n 2, 1) := by decide +kernel
theorem dX10_matrix_59 : decode cX10_matrix 59 = .ok (.invokevirtual 199, 3) := by decide +kernel
theorem dX10_matrix_62 : decode cX10_matrix 62 = .ok (.lreturn, 1) := by decide +kernel
theorem dX10_numberOf_0 : decode cX10_numberOf 0 = .ok (.aload_n 0, 1) := by decide +kernel
theorem dX10_numberOf_1 : decode cX10_numberOf 1 = .ok (.getfield 55, 3) := by decide +kernel
theorem dX10_numberOf_4 : decode cX10_numberOf 4 = .ok (.iload_n 1, 1) := by decide +kernel
theorem dX10_numberOf_5 : decode cX10_numberOf 5 = .ok (.iload_n 2, 1) := by decide +kernel
theorem dX10_numberOf_6 : decode cX10_numberOf 6 = .ok (.invokevirtual 196, 3) := by decide +kernel
theorem dX10_numberOf_9 : decode cX10_numberOf 9 = .ok (.aload_n 0, 1) := by decide +kernel
theorem dX10_numberOf_10 : decode cX10_numberOf 10 = .ok (.getfield 55, 3) := by decide +kernel
theorem dX10_numberOf_13 : decode cX10_numberOf 13 = .ok (.iconst 0, 1) := by decide +kernel
theorem dX10_numberOf_14 : decode cX10_numberOf 14 = .ok (.iconst 1, 1) := by decide +kernel
theorem dX10_numberOf_15 : decode cX10_numberOf 15 = .ok (.invokevirtual 199, 3) := by decide +kernel
theorem dX10_numberOf_18 : decode cX10_numberOf 18 = .ok (.lreturn, 1) := by decide +kernel
theorem dX10_numberHere_0 : decode cX10_numberHere 0 = .ok (.aload_n 0, 1) := by decide +kernel
theorem dX10_numberHere_1 : decode cX10_numberHere 1 = .ok (.aload_n 0, 1) := by decide +kernel
theorem dX10_numberHere_2 : decode cX10_numberHere 2 = .ok (.getfield 26, 3) := by decide +kernel
theorem dX10_numberHere_5 : decode cX10_numberHere 5 = .ok (.invokevirtual 103, 3) := by decide +kernel
theorem dX10_numberHere_8 : decode cX10_numberHere 8 = .ok (.invokevirtual 114, 3) := by decide +kernel
theorem dX10_numberHere_11 : decode cX10_numberHere 11 = .ok (.aload_n 0, 1) := by decide +kernel
theorem dX10_numberHere_12 : decode cX10_numberHere 12 = .ok (.getfield 26, 3) := by decide +kernel
theorem dX10_numberHere_15 : decode cX10_numberHere 15 = .ok (.invokevirtual 103, 3) := by decide +kernel
theorem dX10_numberHere_18 : decode cX10_numberHere 18 = .ok (.invokevirtual 119, 3) := by decide +kernel
theorem dX10_numberHere_21 : decode cX10_numberHere 21 = .ok (.invokevirtual 181, 3) := by decide +kernel
theorem dX10_numberHere_24 : decode cX10_numberHere 24 = .ok (.lreturn, 1) := by decide +kernel
theorem dX10_form_0 : decode cX10_form 0 = .ok (.iload_n 1, 1) := by decide +kernel
theorem dX10_form_1 : decode cX10_form 1 = .ok (.ifCond .lt 15, 3) := by decide +kernel
theorem dX10_form_4 : decode cX10_form 4 = .ok (.iload_n 1, 1) := by decide +kernel
theorem dX10_form_5 : decode cX10_form 5 = .ok (.iconst 2, 1) := by decide +kernel
theorem dX10_form_6 : decode cX10_form 6 = .ok (.if_icmp .gt 10, 3) := by decide +kernel
theorem dX10_form_9 : decode cX10_form 9 = .ok (.aload_n 0, 1) := by decide +kernel
theorem dX10_form_10 : decode cX10_form 10 = .ok (.invokevirtual 202, 3) := by decide +kernel
theorem dX10_form_13 : decode cX10_form 13 = .ok (.ifCond .ne 11, 3) := by decide +kernel
theorem dX10_form_16 : decode cX10_form 16 = .ok (.new 189, 3) := by decide +kernel
theorem dX10_form_19 : decode cX10_form 19 = .ok (.dup, 1) := by decide +kernel
theorem dX10_form_20 : decode cX10_form 20 = .ok (.invokespecial 191, 3) := by decide +kernel
theorem dX10_form_23 : decode cX10_form 23 = .ok (.athrow, 1) := by decide +kernel
theorem dX10_form_24 : decode cX10_form 24 = .ok (.aload_n 0, 1) := by decide +kernel
theorem dX10_form_25 : decode cX10_form 25 = .ok (.getfield 62, 3) := by decide +kernel
theorem dX10_form_28 : decode cX10_form 28 = .ok (.iload_n 1, 1) := by decide +kernel
theorem dX10_form_29 : decode cX10_form 29 = .ok (.invokevirtual 205, 3) := by decide +kernel
theorem dX10_form_32 : decode cX10_form 32 = .ok (.lreturn, 1) := by decide +kernel
theorem dX10_value_0 : decode cX10_value 0 = .ok (.iload_n 1, 1) := by decide +kernel
theorem dX10_value_1 : decode cX10_value 1 = .ok (.invokestatic 209, 3) := by decide +kernel
theorem dX10_value_4 : decode cX10_value 4 = .ok (.ifCond .eq 17, 3) := by decide +kernel
theorem dX10_value_7 : decode cX10_value 7 = .ok (.iload_n 2, 1) := by decide +kernel
theorem dX10_value_8 : decode cX10_value 8 = .ok (.invokestatic 209, 3) := by decide +kernel
theorem dX10_value_11 : decode cX10_value 11 = .ok (.ifCond .eq 10, 3) := by decide +kernel
theorem dX10_value_14 : decode cX10_value 14 = .ok (.aload_n 0, 1) := by decide +kernel
theorem dX10_value_15 : decode cX10_value 15 = .ok (.invokevirtual 202, 3) := by decide +kernel
theorem dX10_value_18 : decode cX10_value 18 = .ok (.ifCond .ne 7, 3) := by decide +kernel
theorem dX10_value_21 : decode cX10_value 21 = .ok (.ldc2_w 212, 3) := by decide +kernel
theorem dX10_value_24 : decode cX10_value 24 = .ok (.lreturn, 1) := by decide +kernel
theorem dX10_value_25 : decode cX10_value 25 = .ok (.aload_n 0, 1) := by decide +kernel
theorem dX10_value_26 : decode cX10_value 26 = .ok (.getfield 62, 3) := by decide +kernel
theorem dX10_value_29 : decode cX10_value 29 = .ok (.iload_n 1, 1) := by decide +kernel
theorem dX10_value_30 : decode cX10_value 30 = .ok (.i2l, 1) := by decide +kernel
theorem dX10_value_31 : decode cX10_value 31 = .ok (.iload_n 2, 1) := by decide +kernel
theorem dX10_value_32 : decode cX10_value 32 = .ok (.i2l, 1) := by decide +kernel
theorem dX10_value_33 : decode cX10_value 33 = .ok (.invokevirtual 214, 3) := by decide +kernel
theorem dX10_value_36 : decode cX10_value 36 = .ok (.lreturn, 1) := by decide +kernel
theorem dX10_round_0 : decode cX10_round 0 = .ok (.aload_n 0, 1) := by decide +kernel
theorem dX10_round_1 : decode cX10_round 1 = .ok (.invokevirtual 202, 3) := by decide +kernel
theorem dX10_round_4 : decode cX10_round 4 = .ok (.ifCond .ne 5, 3) := by decide +kernel
theorem dX10_round_7 : decode cX10_round 7 = .ok (.iconst (-1), 1) := by decide +kernel
theorem dX10_round_8 : decode cX10_round 8 = .ok (.ireturn, 1) := by decide +kernel
theorem dX10_round_9 : decode cX10_round 9 = .ok (.aload_n 0, 1) := by decide +kernel
theorem dX10_round_10 : decode cX10_round 10 = .ok (.getfield 62, 3) := by decide +kernel
theorem dX10_round_13 : decode cX10_round 13 = .ok (.invokevirtual 218, 3) := by decide +kernel
theorem dX10_round_16 : decode cX10_round 16 = .ok (.aload_n 0, 1) := by decide +kernel
theorem dX10_round_17 : decode cX10_round 17 = .ok (.getfield 62, 3) := by decide +kernel
theorem dX10_round_20 : decode cX10_round 20 = .ok (.invokevirtual 221, 3) := by decide +kernel
theorem dX10_round_23 : decode cX10_round 23 = .ok (.ireturn, 1) := by decide +kernel
theorem dX10_least_0 : decode cX10_least 0 = .ok (.aload_n 0, 1) := by decide +kernel
theorem dX10_least_1 : decode cX10_least 1 = .ok (.invokevirtual 202, 3) := by decide +kernel
theorem dX10_least_4 : decode cX10_least 4 = .ok (.ifCond .ne 7, 3) := by decide +kernel
theorem dX10_least_7 : decode cX10_least 7 = .ok (.ldc2_w 224, 3) := by decide +kernel
theorem dX10_least_10 : decode cX10_least 10 = .ok (.lreturn, 1) := by decide +kernel
theorem dX10_least_11 : decode cX10_least 11 = .ok (.aload_n 0, 1) := by decide +kernel
theorem dX10_least_12 : decode cX10_least 12 = .ok (.getfield 62, 3) := by decide +kernel
theorem dX10_least_15 : decode cX10_least 15 = .ok (.invokevirtual 218, 3) := by decide +kernel
theorem dX10_least_18 : decode cX10_least 18 = .ok (.aload_n 0, 1) := by decide +kernel
theorem dX10_least_19 : decode cX10_least 19 = .ok (.getfield 62, 3) := by decide +kernel
theorem dX10_least_22 : decode cX10_least 22 = .ok (.invokevirtual 226, 3) := by decide +kernel
theorem dX10_least_25 : decode cX10_least 25 = .ok (.lreturn, 1) := by decide +kernel
theorem dX10_setForm_0 : decode cX10_setForm 0 = .ok (.aload_n 0, 1) := by decide +kernel
theorem dX10_setForm_1 : decode cX10_setForm 1 = .ok (.invokevirtual 185, 3) := by decide +kernel
theorem dX10_setForm_4 : decode cX10_setForm 4 = .ok (.lstore_n 1, 1) := by decide +kernel
theorem dX10_setForm_5 : decode cX10_setForm 5 = .ok (.lload_n 1, 1) := by decide +kernel
theorem dX10_setForm_6 : decode cX10_setForm 6 = .ok (.ldc2_w 229, 3) := by decide +kernel
theorem dX10_setForm_9 : decode cX10_setForm 9 = .ok (.lcmp, 1) := by decide +kernel
theorem dX10_setForm_10 : decode cX10_setForm 10 = .ok (.ifCond .le 5, 3) := by decide +kernel
theorem dX10_setForm_13 : decode cX10_setForm 13 = .ok (.iconst 0, 1) := by decide +kernel
theorem dX10_setForm_14 : decode cX10_setForm 14 = .ok (.ireturn, 1) := by decide +kernel
theorem dX10_setForm_15 : decode cX10_setForm 15 = .ok (.aload_n 0, 1) := by decide +kernel
theorem dX10_setForm_16 : decode cX10_setForm 16 = .ok (.getfield 62, 3) := by decide +kernel
theorem dX10_setForm_19 : decode cX10_setForm 19 = .ok (.lload_n 1, 1) := by decide +kernel
theorem dX10_setForm_20 : decode cX10_setForm 20 = .ok (.aload_n 0, 1) := by decide +kernel
theorem dX10_setForm_21 : decode cX10_setForm 21 = .ok (.getfield 55, 3) := by decide +kernel
theorem dX10_setForm_24 : decode cX10_setForm 24 = .ok (.iconst 1, 1) := by decide +kernel
theorem dX10_setForm_25 : decode cX10_setForm 25 = .ok (.iconst 1, 1) := by decide +kernel
theorem dX10_setForm_26 : decode cX10_setForm 26 = .ok (.invokevirtual 199, 3) := by decide +kernel
theorem dX10_setForm_29 : decode cX10_setForm 29 = .ok (.invokevirtual 231, 3) := by decide +kernel
theorem dX10_setForm_32 : decode cX10_setForm 32 = .ok (.iconst 1, 1) := by decide +kernel
theorem dX10_setForm_33 : decode cX10_setForm 33 = .ok (.ireturn, 1) := by decide +kernel
theorem dX10_fitsValue_0 : decode cX10_fitsValue 0 = .ok (.iload_n 0, 1) := by decide +kernel
theorem dX10_fitsValue_1 : decode cX10_fitsValue 1 = .ok (.sipush (-999), 3) := by decide +kernel
theorem dX10_fitsValue_4 : decode cX10_fitsValue 4 = .ok (.if_icmp .lt 14, 3) := by decide +kernel
theorem dX10_fitsValue_7 : decode cX10_fitsValue 7 = .ok (.iload_n 0, 1) := by decide +kernel
theorem dX10_fitsValue_8 : decode cX10_fitsValue 8 = .ok (.sipush 999, 3) := by decide +kernel
theorem dX10_fitsValue_11 : decode cX10_fitsValue 11 = .ok (.if_icmp .gt 7, 3) := by decide +kernel
theorem dX10_fitsValue_14 : decode cX10_fitsValue 14 = .ok (.iconst 1, 1) := by decide +kernel
theorem dX10_fitsValue_15 : decode cX10_fitsValue 15 = .ok (.goto 4, 3) := by decide +kernel
theorem dX10_fitsValue_18 : decode cX10_fitsValue 18 = .ok (.iconst 0, 1) := by decide +kernel
theorem dX10_fitsValue_19 : decode cX10_fitsValue 19 = .ok (.ireturn, 1) := by decide +kernel
theorem dX10_upTo_0 : decode cX10_upTo 0 = .ok (.lload_n 1, 1) := by decide +kernel
theorem dX10_upTo_1 : decode cX10_upTo 1 = .ok (.lconst 1, 1) := by decide +kernel
theorem dX10_upTo_2 : decode cX10_upTo 2 = .ok (.lcmp, 1) := by decide +kernel
theorem dX10_upTo_3 : decode cX10_upTo 3 = .ok (.ifCond .lt 11, 3) := by decide +kernel
theorem dX10_upTo_6 : decode cX10_upTo 6 = .ok (.lload_n 1, 1) := by decide +kernel
theorem dX10_upTo_7 : decode cX10_upTo 7 = .ok (.ldc2_w 235, 3) := by decide +kernel
theorem dX10_upTo_10 : decode cX10_upTo 10 = .ok (.lcmp, 1) := by decide +kernel
theorem dX10_upTo_11 : decode cX10_upTo 11 = .ok (.ifCond .le 7, 3) := by decide +kernel
theorem dX10_upTo_14 : decode cX10_upTo 14 = .ok (.iconst (-1), 1) := by decide +kernel
theorem dX10_upTo_15 : decode cX10_upTo 15 = .ok (.goto 11, 3) := by decide +kernel
theorem dX10_upTo_18 : decode cX10_upTo 18 = .ok (.aload_n 0, 1) := by decide +kernel
theorem dX10_upTo_19 : decode cX10_upTo 19 = .ok (.getfield 69, 3) := by decide +kernel
theorem dX10_upTo_22 : decode cX10_upTo 22 = .ok (.lload_n 1, 1) := by decide +kernel
theorem dX10_upTo_23 : decode cX10_upTo 23 = .ok (.invokevirtual 237, 3) := by decide +kernel
theorem dX10_upTo_26 : decode cX10_upTo 26 = .ok (.ireturn, 1) := by decide +kernel
theorem dX10_markov_0 : decode cX10_markov 0 = .ok (.aload_n 0, 1) := by decide +kernel
theorem dX10_markov_1 : decode cX10_markov 1 = .ok (.getfield 69, 3) := by decide +kernel
theorem dX10_markov_4 : decode cX10_markov 4 = .ok (.iload_n 1, 1) := by decide +kernel
theorem dX10_markov_5 : decode cX10_markov 5 = .ok (.invokevirtual 241, 3) := by decide +kernel
theorem dX10_markov_8 : decode cX10_markov 8 = .ok (.lreturn, 1) := by decide +kernel
theorem dX10_rank_0 : decode cX10_rank 0 = .ok (.aload_n 0, 1) := by decide +kernel
theorem dX10_rank_1 : decode cX10_rank 1 = .ok (.getfield 69, 3) := by decide +kernel
theorem dX10_rank_4 : decode cX10_rank 4 = .ok (.lload_n 1, 1) := by decide +kernel
theorem dX10_rank_5 : decode cX10_rank 5 = .ok (.invokevirtual 244, 3) := by decide +kernel
theorem dX10_rank_8 : decode cX10_rank 8 = .ok (.ireturn, 1) := by decide +kernel
theorem dX10_triples_0 : decode cX10_triples 0 = .ok (.aload_n 0, 1) := by decide +kernel
theorem dX10_triples_1 : decode cX10_triples 1 = .ok (.getfield 69, 3) := by decide +kernel
theorem dX10_triples_4 : decode cX10_triples 4 = .ok (.lload_n 1, 1) := by decide +kernel
theorem dX10_triples_5 : decode cX10_triples 5 = .ok (.invokevirtual 247, 3) := by decide +kernel
theorem dX10_triples_8 : decode cX10_triples 8 = .ok (.istore_n 3, 1) := by decide +kernel
theorem dX10_triples_9 : decode cX10_triples 9 = .ok (.iload_n 3, 1) := by decide +kernel
theorem dX10_triples_10 : decode cX10_triples 10 = .ok (.ifCond .ne 7, 3) := by decide +kernel
theorem dX10_triples_13 : decode cX10_triples 13 = .ok (.iconst (-1), 1) := by decide +kernel
theorem dX10_triples_14 : decode cX10_triples 14 = .ok (.goto 4, 3) := by decide +kernel
theorem dX10_triples_17 : decode cX10_triples 17 = .ok (.iload_n 3, 1) := by decide +kernel
theorem dX10_triples_18 : decode cX10_triples 18 = .ok (.ireturn, 1) := by decide +kernel
theorem dX10_with_0 : decode cX10_with 0 = .ok (.aload_n 0, 1) := by decide +kernel
theorem dX10_with_1 : decode cX10_with 1 = .ok (.getfield 69, 3) := by decide +kernel
theorem dX10_with_4 : decode cX10_with 4 = .ok (.lload_n 1, 1) := by decide +kernel
theorem dX10_with_5 : decode cX10_with 5 = .ok (.invokevirtual 250, 3) := by decide +kernel
theorem dX10_with_8 : decode cX10_with 8 = .ok (.istore 4, 2) := by decide +kernel
theorem dX10_with_10 : decode cX10_with 10 = .ok (.iload_n 3, 1) := by decide +kernel
theorem dX10_with_11 : decode cX10_with 11 = .ok (.tableswitch 56 0 2 #[25, 35, 45], 25) := by decide +kernel
theorem dX10_with_36 : decode cX10_with 36 = .ok (.aload_n 0, 1) := by decide +kernel
theorem dX10_with_37 : decode cX10_with 37 = .ok (.getfield 69, 3) := by decide +kernel
theorem dX10_with_40 : decode cX10_with 40 = .ok (.iload 4, 2) := by decide +kernel
theorem dX10_with_42 : decode cX10_with 42 = .ok (.invokevirtual 253, 3) := by decide +kernel
theorem dX10_with_45 : decode cX10_with 45 = .ok (.lreturn, 1) := by decide +kernel
theorem dX10_with_46 : decode cX10_with 46 = .ok (.aload_n 0, 1) := by decide +kernel
theorem dX10_with_47 : decode cX10_with 47 = .ok (.getfield 69, 3) := by decide +kernel
theorem dX10_with_50 : decode cX10_with 50 = .ok (.iload 4, 2) := by decide +kernel
theorem dX10_with_52 : decode cX10_with 52 = .ok (.invokevirtual 256, 3) := by decide +kernel
theorem dX10_with_55 : decode cX10_with 55 = .ok (.lreturn, 1) := by decide +kernel
theorem dX10_with_56 : decode cX10_with 56 = .ok (.aload_n 0, 1) := by decide +kernel
theorem dX10_with_57 : decode cX10_with 57 = .ok (.getfield 69, 3) := by decide +kernel
theorem dX10_with_60 : decode cX10_with 60 = .ok (.iload 4, 2) := by decide +kernel
theorem dX10_with_62 : decode cX10_with 62 = .ok (.invokevirtual 259, 3) := by decide +kernel
theorem dX10_with_65 : decode cX10_with 65 = .ok (.i2l, 1) := by decide +kernel
theorem dX10_with_66 : decode cX10_with 66 = .ok (.lreturn, 1) := by decide +kernel
theorem dX10_with_67 : decode cX10_with 67 = .ok (.ldc2_w 224, 3) := by decide +kernel
theorem dX10_with_70 : decode cX10_with 70 = .ok (.lreturn, 1) := by decide +kernel
theorem dX10_spread_0 : decode cX10_spread 0 = .ok (.aload_n 0, 1) := by decide +kernel
theorem dX10_spread_1 : decode cX10_spread 1 = .ok (.invokevirtual 185, 3) := by decide +kernel
theorem dX10_spread_4 : decode cX10_spread 4 = .ok (.l2f, 1) := by decide +kernel
theorem dX10_spread_5 : decode cX10_spread 5 = .ok (.fstore_n 1, 1) := by decide +kernel
theorem dX10_spread_6 : decode cX10_spread 6 = .ok (.ldc_w 263, 3) := by decide +kernel
theorem dX10_spread_9 : decode cX10_spread 9 = .ok (.ldc_w 264, 3) := by decide +kernel
theorem dX10_spread_12 : decode cX10_spread 12 = .ok (.fload_n 1, 1) := by decide +kernel
theorem dX10_spread_13 : decode cX10_spread 13 = .ok (.fload_n 1, 1) := by decide +kernel
theorem dX10_spread_14 : decode cX10_spread 14 = .ok (.fmul, 1) := by decide +kernel
theorem dX10_spread_15 : decode cX10_spread 15 = .ok (.fdiv, 1) := by decide +kernel
theorem dX10_spread_16 : decode cX10_spread 16 = .ok (.fsub, 1) := by decide +kernel
theorem dX10_spread_17 : decode cX10_spread 17 = .ok (.invokestatic 265, 3) := by decide +kernel
theorem dX10_spread_20 : decode cX10_spread 20 = .ok (.ireturn, 1) := by decide +kernel
theorem dX10_bitsFromEight_0 : decode cX10_bitsFromEight 0 = .ok (.ldc_w 269, 3) := by decide +kernel
theorem dX10_bitsFromEight_3 : decode cX10_bitsFromEight 3 = .ok (.fload_n 0, 1) := by decide +kernel
theorem dX10_bitsFromEight_4 : decode cX10_bitsFromEight 4 = .ok (.ldc_w 270, 3) := by decide +kernel
theorem dX10_bitsFromEight_7 : decode cX10_bitsFromEight 7 = .ok (.fsub, 1) := by decide +kernel
theorem dX10_bitsFromEight_8 : decode cX10_bitsFromEight 8 = .ok (.ldc_w 271, 3) := by decide +kernel
theorem dX10_bitsFromEight_11 : decode cX10_bitsFromEight 11 = .ok (.fmul, 1) := by decide +kernel
theorem dX10_bitsFromEight_12 : decode cX10_bitsFromEight 12 = .ok (.f2i, 1) := by decide +kernel
theorem dX10_bitsFromEight_13 : decode cX10_bitsFromEight 13 = .ok (.iadd, 1) := by decide +kernel
theorem dX10_bitsFromEight_14 : decode cX10_bitsFromEight 14 = .ok (.ireturn, 1) := by decide +kernel
theorem dX10_mark_0 : decode cX10_mark 0 = .ok (.aload_n 0, 1) := by decide +kernel
theorem dX10_mark_1 : decode cX10_mark 1 = .ok (.getfield 26, 3) := by decide +kernel
theorem dX10_mark_4 : decode cX10_mark 4 = .ok (.invokevirtual 272, 3) := by decide +kernel
theorem dX10_mark_7 : decode cX10_mark 7 = .ok (.ifCond .eq 5, 3) := by decide +kernel
theorem dX10_mark_10 : decode cX10_mark 10 = .ok (.iconst 1, 1) := by decide +kernel
theorem dX10_mark_11 : decode cX10_mark 11 = .ok (.ireturn, 1) := by decide +kernel
theorem dX10_mark_12 : decode cX10_mark 12 = .ok (.aload_n 0, 1) := by decide +kernel
theorem dX10_mark_13 : decode cX10_mark 13 = .ok (.getfield 33, 3) := by decide +kernel
theorem dX10_mark_16 : decode cX10_mark 16 = .ok (.aload_n 0, 1) := by decide +kernel
theorem dX10_mark_17 : decode cX10_mark 17 = .ok (.getfield 26, 3) := by decide +kernel
theorem dX10_mark_20 : decode cX10_mark 20 = .ok (.invokevirtual 99, 3) := by decide +kernel
theorem dX10_mark_23 : decode cX10_mark 23 = .ok (.aload_n 0, 1) := by decide +kernel
theorem dX10_mark_24 : decode cX10_mark 24 = .ok (.invokevirtual 275, 3) := by decide +kernel
theorem dX10_mark_27 : decode cX10_mark 27 = .ok (.ifCond .ne 5, 3) := by decide +kernel
theorem dX10_mark_30 : decode cX10_mark 30 = .ok (.iconst (-1), 1) := by decide +kernel
theorem dX10_mark_31 : decode cX10_mark 31 = .ok (.ireturn, 1) := by decide +kernel
theorem dX10_mark_32 : decode cX10_mark 32 = .ok (.aload_n 0, 1) := by decide +kernel
theorem dX10_mark_33 : decode cX10_mark 33 = .ok (.getfield 33, 3) := by decide +kernel
theorem dX10_mark_36 : decode cX10_mark 36 = .ok (.invokevirtual 111, 3) := by decide +kernel
theorem dX10_mark_39 : decode cX10_mark 39 = .ok (.iconst 0, 1) := by decide +kernel
theorem dX10_mark_40 : decode cX10_mark 40 = .ok (.ireturn, 1) := by decide +kernel
theorem dX10_unmark_0 : decode cX10_unmark 0 = .ok (.aload_n 0, 1) := by decide +kernel
theorem dX10_unmark_1 : decode cX10_unmark 1 = .ok (.getfield 26, 3) := by decide +kernel
theorem dX10_unmark_4 : decode cX10_unmark 4 = .ok (.invokevirtual 137, 3) := by decide +kernel
theorem dX10_unmark_7 : decode cX10_unmark 7 = .ok (.aload_n 0, 1) := by decide +kernel
theorem dX10_unmark_8 : decode cX10_unmark 8 = .ok (.getfield 26, 3) := by decide +kernel
theorem dX10_unmark_11 : decode cX10_unmark 11 = .ok (.invokevirtual 103, 3) := by decide +kernel
theorem dX10_unmark_14 : decode cX10_unmark 14 = .ok (.invokevirtual 114, 3) := by decide +kernel
theorem dX10_unmark_17 : decode cX10_unmark 17 = .ok (.aload_n 0, 1) := by decide +kernel
theorem dX10_unmark_18 : decode cX10_unmark 18 = .ok (.getfield 26, 3) := by decide +kernel
theorem dX10_unmark_21 : decode cX10_unmark 21 = .ok (.invokevirtual 103, 3) := by decide +kernel
theorem dX10_unmark_24 : decode cX10_unmark 24 = .ok (.invokevirtual 119, 3) := by decide +kernel
theorem dX10_unmark_27 : decode cX10_unmark 27 = .ok (.invokevirtual 278, 3) := by decide +kernel
theorem dX10_unmark_30 : decode cX10_unmark 30 = .ok (.istore_n 1, 1) := by decide +kernel
theorem dX10_unmark_31 : decode cX10_unmark 31 = .ok (.iload_n 1, 1) := by decide +kernel
theorem dX10_unmark_32 : decode cX10_unmark 32 = .ok (.iconst (-1), 1) := by decide +kernel
theorem dX10_unmark_33 : decode cX10_unmark 33 = .ok (.if_icmp .ne 5, 3) := by decide +kernel
theorem dX10_unmark_36 : decode cX10_unmark 36 = .ok (.iconst 1, 1) := by decide +kernel
theorem dX10_unmark_37 : decode cX10_unmark 37 = .ok (.ireturn, 1) := by decide +kernel
theorem dX10_unmark_38 : decode cX10_unmark 38 = .ok (.aload_n 0, 1) := by decide +kernel
theorem dX10_unmark_39 : decode cX10_unmark 39 = .ok (.getfield 33, 3) := by decide +kernel
theorem dX10_unmark_42 : decode cX10_unmark 42 = .ok (.aload_n 0, 1) := by decide +kernel
theorem dX10_unmark_43 : decode cX10_unmark 43 = .ok (.getfield 26, 3) := by decide +kernel
theorem dX10_unmark_46 : decode cX10_unmark 46 = .ok (.invokevirtual 99, 3) := by decide +kernel
theorem dX10_unmark_49 : decode cX10_unmark 49 = .ok (.aload_n 0, 1) := by decide +kernel
theorem dX10_unmark_50 : decode cX10_unmark 50 = .ok (.getfield 26, 3) := by decide +kernel
theorem dX10_unmark_53 : decode cX10_unmark 53 = .ok (.invokevirtual 137, 3) := by decide +kernel
theorem dX10_unmark_56 : decode cX10_unmark 56 = .ok (.iload_n 1, 1) := by decide +kernel
theorem dX10_unmark_57 : decode cX10_unmark 57 = .ok (.invokevirtual 281, 3) := by decide +kernel
theorem dX10_unmark_60 : decode cX10_unmark 60 = .ok (.aload_n 0, 1) := by decide +kernel
theorem dX10_unmark_61 : decode cX10_unmark 61 = .ok (.getfield 33, 3) := by decide +kernel
theorem dX10_unmark_64 : decode cX10_unmark 64 = .ok (.invokevirtual 111, 3) := by decide +kernel
theorem dX10_unmark_67 : decode cX10_unmark 67 = .ok (.iconst 0, 1) := by decide +kernel
theorem dX10_unmark_68 : decode cX10_unmark 68 = .ok (.ireturn, 1) := by decide +kernel
theorem dX10_marked_0 : decode cX10_marked 0 = .ok (.aload_n 0, 1) := by decide +kernel
theorem dX10_marked_1 : decode cX10_marked 1 = .ok (.getfield 26, 3) := by decide +kernel
theorem dX10_marked_4 : decode cX10_marked 4 = .ok (.invokevirtual 137, 3) := by decide +kernel
theorem dX10_marked_7 : decode cX10_marked 7 = .ok (.astore_n 3, 1) := by decide +kernel
theorem dX10_marked_8 : decode cX10_marked 8 = .ok (.iload_n 2, 1) := by decide +kernel
theorem dX10_marked_9 : decode cX10_marked 9 = .ok (.tableswitch 47 0 2 #[27, 33, 40], 27) := by decide +kernel
theorem dX10_marked_36 : decode cX10_marked 36 = .ok (.aload_n 3, 1) := by decide +kernel
theorem dX10_marked_37 : decode cX10_marked 37 = .ok (.iload_n 1, 1) := by decide +kernel
theorem dX10_marked_38 : decode cX10_marked 38 = .ok (.invokevirtual 284, 3) := by decide +kernel
theorem dX10_marked_41 : decode cX10_marked 41 = .ok (.lreturn, 1) := by decide +kernel
theorem dX10_marked_42 : decode cX10_marked 42 = .ok (.aload_n 3, 1) := by decide +kernel
theorem dX10_marked_43 : decode cX10_marked 43 = .ok (.iload_n 1, 1) := by decide +kernel
theorem dX10_marked_44 : decode cX10_marked 44 = .ok (.invokevirtual 285, 3) := by decide +kernel
theorem dX10_marked_47 : decode cX10_marked 47 = .ok (.i2l, 1) := by decide +kernel
theorem dX10_marked_48 : decode cX10_marked 48 = .ok (.lreturn, 1) := by decide +kernel
theorem dX10_marked_49 : decode cX10_marked 49 = .ok (.aload_n 3, 1) := by decide +kernel
theorem dX10_marked_50 : decode cX10_marked 50 = .ok (.iload_n 1, 1) := by decide +kernel
theorem dX10_marked_51 : decode cX10_marked 51 = .ok (.invokevirtual 288, 3) := by decide +kernel
theorem dX10_marked_54 : decode cX10_marked 54 = .ok (.i2l, 1) := by decide +kernel
theorem dX10_marked_55 : decode cX10_marked 55 = .ok (.lreturn, 1) := by decide +kernel
theorem dX10_marked_56 : decode cX10_marked 56 = .ok (.ldc2_w 224, 3) := by decide +kernel
theorem dX10_marked_59 : decode cX10_marked 59 = .ok (.lreturn, 1) := by decide +kernel
theorem dX10_near_0 : decode cX10_near 0 = .ok (.iload_n 3, 1) := by decide +kernel
theorem dX10_near_1 : decode cX10_near 1 = .ok (.ifCond .eq 17, 3) := by decide +kernel
theorem dX10_near_4 : decode cX10_near 4 = .ok (.aload_n 0, 1) := by decide +kernel
theorem dX10_near_5 : decode cX10_near 5 = .ok (.getfield 26, 3) := by decide +kernel
theorem dX10_near_8 : decode cX10_near 8 = .ok (.invokevirtual 137, 3) := by decide +kernel
theorem dX10_near_11 : decode cX10_near 11 = .ok (.lload_n 1, 1) := by decide +kernel
theorem dX10_near_12 : decode cX10_near 12 = .ok (.invokevirtual 291, 3) := by decide +kernel
theorem dX10_near_15 : decode cX10_near 15 = .ok (.goto 14, 3) := by decide +kernel
theorem dX10_near_18 : decode cX10_near 18 = .ok (.aload_n 0, 1) := by decide +kernel
theorem dX10_near_19 : decode cX10_near 19 = .ok (.getfield 26, 3) := by decide +kernel
theorem dX10_near_22 : decode cX10_near 22 = .ok (.invokevirtual 137, 3) := by decide +kernel
theorem dX10_near_25 : decode cX10_near 25 = .ok (.lload_n 1, 1) := by decide +kernel
theorem dX10_near_26 : decode cX10_near 26 = .ok (.invokevirtual 295, 3) := by decide +kernel
theorem dX10_near_29 : decode cX10_near 29 = .ok (.lreturn, 1) := by decide +kernel
theorem dX10_jump_0 : decode cX10_jump 0 = .ok (.aload_n 0, 1) := by decide +kernel
theorem dX10_jump_1 : decode cX10_jump 1 = .ok (.getfield 26, 3) := by decide +kernel
theorem dX10_jump_4 : decode cX10_jump 4 = .ok (.invokevirtual 137, 3) := by decide +kernel
theorem dX10_jump_7 : decode cX10_jump 7 = .ok (.astore_n 2, 1) := by decide +kernel
theorem dX10_jump_8 : decode cX10_jump 8 = .ok (.aload_n 2, 1) := by decide +kernel
theorem dX10_jump_9 : decode cX10_jump 9 = .ok (.iload_n 1, 1) := by decide +kernel
theorem dX10_jump_10 : decode cX10_jump 10 = .ok (.invokevirtual 298, 3) := by decide +kernel
theorem dX10_jump_13 : decode cX10_jump 13 = .ok (.ifCond .eq 20, 3) := by decide +kernel
theorem dX10_jump_16 : decode cX10_jump 16 = .ok (.aload_n 0, 1) := by decide +kernel
theorem dX10_jump_17 : decode cX10_jump 17 = .ok (.aload_n 2, 1) := by decide +kernel
theorem dX10_jump_18 : decode cX10_jump 18 = .ok (.iload_n 1, 1) := by decide +kernel
theorem dX10_jump_19 : decode cX10_jump 19 = .ok (.invokevirtual 285, 3) := by decide +kernel
theorem dX10_jump_22 : decode cX10_jump 22 = .ok (.aload_n 2, 1) := by decide +kernel
theorem dX10_jump_23 : decode cX10_jump 23 = .ok (.iload_n 1, 1) := by decide +kernel
theorem dX10_jump_24 : decode cX10_jump 24 = .ok (.invokevirtual 288, 3) := by decide +kernel
theorem dX10_jump_27 : decode cX10_jump 27 = .ok (.invokevirtual 164, 3) := by decide +kernel
theorem dX10_jump_30 : decode cX10_jump 30 = .ok (.goto 4, 3) := by decide +kernel
theorem dX10_jump_33 : decode cX10_jump 33 = .ok (.iconst (-1), 1) := by decide +kernel
theorem dX10_jump_34 : decode cX10_jump 34 = .ok (.ireturn, 1) := by decide +kernel
theorem dX10_markHere_0 : decode cX10_markHere 0 = .ok (.aload_n 0, 1) := by decide +kernel
theorem dX10_markHere_1 : decode cX10_markHere 1 = .ok (.getfield 26, 3) := by decide +kernel
theorem dX10_markHere_4 : decode cX10_markHere 4 = .ok (.invokevirtual 272, 3) := by decide +kernel
theorem dX10_markHere_7 : decode cX10_markHere 7 = .ok (.ifCond .ne 16, 3) := by decide +kernel
theorem dX10_markHere_10 : decode cX10_markHere 10 = .ok (.aload_n 0, 1) := by decide +kernel
theorem dX10_markHere_11 : decode cX10_markHere 11 = .ok (.getfield 26, 3) := by decide +kernel
theorem dX10_markHere_14 : decode cX10_markHere 14 = .ok (.invokevirtual 137, 3) := by decide +kernel
theorem dX10_markHere_17 : decode cX10_markHere 17 = .ok (.invokevirtual 301, 3) := by decide +kernel
theorem dX10_markHere_20 : decode cX10_markHere 20 = .ok (.ifCond .eq 5, 3) := by decide +kernel
theorem dX10_markHere_23 : decode cX10_markHere 23 = .ok (.iconst 0, 1) := by decide +kernel
theorem dX10_markHere_24 : decode cX10_markHere 24 = .ok (.ireturn, 1) := by decide +kernel
theorem dX10_markHere_25 : decode cX10_markHere 25 = .ok (.aload_n 0, 1) := by decide +kernel
theorem dX10_markHere_26 : decode cX10_markHere 26 = .ok (.getfield 26, 3) := by decide +kernel
theorem dX10_markHere_29 : decode cX10_markHere 29 = .ok (.invokevirtual 103, 3) := by decide +kernel
theorem dX10_markHere_32 : decode cX10_markHere 32 = .ok (.astore_n 1, 1) := by decide +kernel
theorem dX10_markHere_33 : decode cX10_markHere 33 = .ok (.aload_n 0, 1) := by decide +kernel
theorem dX10_markHere_34 : decode cX10_markHere 34 = .ok (.getfield 26, 3) := by decide +kernel
theorem dX10_markHere_37 : decode cX10_markHere 37 = .ok (.invokevirtual 137, 3) := by decide +kernel
theorem dX10_markHere_40 : decode cX10_markHere 40 = .ok (.aload_n 0, 1) := by decide +kernel
theorem dX10_markHere_41 : decode cX10_markHere 41 = .ok (.invokevirtual 185, 3) := by decide +kernel
theorem dX10_markHere_44 : decode cX10_markHere 44 = .ok (.aload_n 1, 1) := by decide +kernel
theorem dX10_markHere_45 : decode cX10_markHere 45 = .ok (.invokevirtual 114, 3) := by decide +kernel
theorem dX10_markHere_48 : decode cX10_markHere 48 = .ok (.aload_n 1, 1) := by decide +kernel
theorem dX10_markHere_49 : decode cX10_markHere 49 = .ok (.invokevirtual 119, 3) := by decide +kernel
theorem dX10_markHere_52 : decode cX10_markHere 52 = .ok (.invokevirtual 304, 3) := by decide +kernel
theorem dX10_markHere_55 : decode cX10_markHere 55 = .ok (.iconst 1, 1) := by decide +kernel
theorem dX10_markHere_56 : decode cX10_markHere 56 = .ok (.ireturn, 1) := by decide +kernel
theorem dX10_told_0 : decode cX10_told 0 = .ok (.aload_n 0, 1) := by decide +kernel
theorem dX10_told_1 : decode cX10_told 1 = .ok (.getfield 48, 3) := by decide +kernel
theorem dX10_told_4 : decode cX10_told 4 = .ok (.aload_n 0, 1) := by decide +kernel
theorem dX10_told_5 : decode cX10_told 5 = .ok (.getfield 26, 3) := by decide +kernel
theorem dX10_told_8 : decode cX10_told 8 = .ok (.invokevirtual 103, 3) := by decide +kernel
theorem dX10_told_11 : decode cX10_told 11 = .ok (.invokevirtual 114, 3) := by decide +kernel
theorem dX10_told_14 : decode cX10_told 14 = .ok (.aload_n 0, 1) := by decide +kernel
theorem dX10_told_15 : decode cX10_told 15 = .ok (.getfield 26, 3) := by decide +kernel
theorem dX10_told_18 : decode cX10_told 18 = .ok (.invokevirtual 103, 3) := by decide +kernel
theorem dX10_told_21 : decode cX10_told 21 = .ok (.invokevirtual 119, 3) := by decide +kernel
theorem dX10_told_24 : decode cX10_told 24 = .ok (.invokevirtual 308, 3) := by decide +kernel
theorem dX10_told_27 : decode cX10_told 27 = .ok (.ireturn, 1) := by decide +kernel
theorem dX10_byteAt_0 : decode cX10_byteAt 0 = .ok (.aload_n 0, 1) := by decide +kernel
theorem dX10_byteAt_1 : decode cX10_byteAt 1 = .ok (.getfield 48, 3) := by decide +kernel
theorem dX10_byteAt_4 : decode cX10_byteAt 4 = .ok (.iload_n 1, 1) := by decide +kernel
theorem dX10_byteAt_5 : decode cX10_byteAt 5 = .ok (.invokevirtual 311, 3) := by decide +kernel
theorem dX10_byteAt_8 : decode cX10_byteAt 8 = .ok (.ireturn, 1) := by decide +kernel
theorem dX10_drawn_0 : decode cX10_drawn 0 = .ok (.iload_n 1, 1) := by decide +kernel
theorem dX10_drawn_1 : decode cX10_drawn 1 = .ok (.iconst 1, 1) := by decide +kernel
theorem dX10_drawn_2 : decode cX10_drawn 2 = .ok (.if_icmp .lt 9, 3) := by decide +kernel
theorem dX10_drawn_5 : decode cX10_drawn 5 = .ok (.iload_n 1, 1) := by decide +kernel
theorem dX10_drawn_6 : decode cX10_drawn 6 = .ok (.bipush 60, 2) := by decide +kernel
theorem dX10_drawn_8 : decode cX10_drawn 8 = .ok (.if_icmp .le 5, 3) := by decide +kernel
theorem dX10_drawn_11 : decode cX10_drawn 11 = .ok (.iconst (-1), 1) := by decide +kernel
theorem dX10_drawn_12 : decode cX10_drawn 12 = .ok (.ireturn, 1) := by decide +kernel
theorem dX10_drawn_13 : decode cX10_drawn 13 = .ok (.aload_n 0, 1) := by decide +kernel
theorem dX10_drawn_14 : decode cX10_drawn 14 = .ok (.getfield 33, 3) := by decide +kernel
theorem dX10_drawn_17 : decode cX10_drawn 17 = .ok (.aload_n 0, 1) := by decide +kernel
theorem dX10_drawn_18 : decode cX10_drawn 18 = .ok (.getfield 26, 3) := by decide +kernel
theorem dX10_drawn_21 : decode cX10_drawn 21 = .ok (.invokevirtual 99, 3) := by decide +kernel
theorem dX10_drawn_24 : decode cX10_drawn 24 = .ok (.iload_n 2, 1) := by decide +kernel
theorem dX10_drawn_25 : decode cX10_drawn 25 = .ok (.istore_n 3, 1) := by decide +kernel
theorem dX10_drawn_26 : decode cX10_drawn 26 = .ok (.iconst 0, 1) := by decide +kernel
theorem dX10_drawn_27 : decode cX10_drawn 27 = .ok (.istore 4, 2) := by decide +kernel
theorem dX10_drawn_29 : decode cX10_drawn 29 = .ok (.iconst 0, 1) := by decide +kernel
theorem dX10_drawn_30 : decode cX10_drawn 30 = .ok (.istore 5, 2) := by decide +kernel
theorem dX10_drawn_32 : decode cX10_drawn 32 = .ok (.iload 5, 2) := by decide +kernel
theorem dX10_drawn_34 : decode cX10_drawn 34 = .ok (.iload_n 1, 1) := by decide +kernel
theorem dX10_drawn_35 : decode cX10_drawn 35 = .ok (.if_icmp .ge 36, 3) := by decide +kernel
theorem dX10_drawn_38 : decode cX10_drawn 38 = .ok (.iload_n 3, 1) := by decide +kernel
theorem dX10_drawn_39 : decode cX10_drawn 39 = .ok (.ldc_w 314, 3) := by decide +kernel
theorem dX10_drawn_42 : decode cX10_drawn 42 = .ok (.imul, 1) := by decide +kernel
theorem dX10_drawn_43 : decode cX10_drawn 43 = .ok (.sipush 12345, 3) := by decide +kernel
theorem dX10_drawn_46 : decode cX10_drawn 46 = .ok (.iadd, 1) := by decide +kernel
theorem dX10_drawn_47 : decode cX10_drawn 47 = .ok (.istore_n 3, 1) := by decide +kernel
theorem dX10_drawn_48 : decode cX10_drawn 48 = .ok (.aload_n 0, 1) := by decide +kernel
theorem dX10_drawn_49 : decode cX10_drawn 49 = .ok (.iload_n 3, 1) := by decide +kernel
theorem dX10_drawn_50 : decode cX10_drawn 50 = .ok (.bipush 8, 2) := by decide +kernel
theorem dX10_drawn_52 : decode cX10_drawn 52 = .ok (.iushr, 1) := by decide +kernel
theorem dX10_drawn_53 : decode cX10_drawn 53 = .ok (.bipush 8, 2) := by decide +kernel
theorem dX10_drawn_55 : decode cX10_drawn 55 = .ok (.irem, 1) := by decide +kernel
theorem dX10_drawn_56 : decode cX10_drawn 56 = .ok (.invokevirtual 315, 3) := by decide +kernel
theorem dX10_drawn_59 : decode cX10_drawn 59 = .ok (.ifCond .eq 6, 3) := by decide +kernel
theorem dX10_drawn_62 : decode cX10_drawn 62 = .ok (.iinc 4 1, 3) := by decide +kernel
theorem dX10_drawn_65 : decode cX10_drawn 65 = .ok (.iinc 5 1, 3) := by decide +kernel
theorem dX10_drawn_68 : decode cX10_drawn 68 = .ok (.goto (-36), 3) := by decide +kernel
theorem dX10_drawn_71 : decode cX10_drawn 71 = .ok (.iload 4, 2) := by decide +kernel
theorem dX10_drawn_73 : decode cX10_drawn 73 = .ok (.ifCond .le 10, 3) := by decide +kernel
theorem dX10_drawn_76 : decode cX10_drawn 76 = .ok (.aload_n 0, 1) := by decide +kernel
theorem dX10_drawn_77 : decode cX10_drawn 77 = .ok (.getfield 33, 3) := by decide +kernel
theorem dX10_drawn_80 : decode cX10_drawn 80 = .ok (.invokevirtual 111, 3) := by decide +kernel
theorem dX10_drawn_83 : decode cX10_drawn 83 = .ok (.iload 4, 2) := by decide +kernel
theorem dX10_drawn_85 : decode cX10_drawn 85 = .ok (.ireturn, 1) := by decide +kernel
theorem dX10_doDrawn_0 : decode cX10_doDrawn 0 = .ok (.iload_n 1, 1) := by decide +kernel
theorem dX10_doDrawn_1 : decode cX10_doDrawn 1 = .ok (.ifCond .ne 14, 3) := by decide +kernel
theorem dX10_doDrawn_4 : decode cX10_doDrawn 4 = .ok (.aload_n 0, 1) := by decide +kernel
theorem dX10_doDrawn_5 : decode cX10_doDrawn 5 = .ok (.getfield 26, 3) := by decide +kernel
theorem dX10_doDrawn_8 : decode cX10_doDrawn 8 = .ok (.invokevirtual 103, 3) := by decide +kernel
theorem dX10_doDrawn_11 : decode cX10_doDrawn 11 = .ok (.invokevirtual 157, 3) := by decide +kernel
theorem dX10_doDrawn_14 : decode cX10_doDrawn 14 = .ok (.ireturn, 1) := by decide +kernel
theorem dX10_doDrawn_15 : decode cX10_doDrawn 15 = .ok (.iload_n 1, 1) := by decide +kernel
theorem dX10_doDrawn_16 : decode cX10_doDrawn 16 = .ok (.iconst 3, 1) := by decide +kernel
theorem dX10_doDrawn_17 : decode cX10_doDrawn 17 = .ok (.if_icmp .gt 14, 3) := by decide +kernel
theorem dX10_doDrawn_20 : decode cX10_doDrawn 20 = .ok (.aload_n 0, 1) := by decide +kernel
theorem dX10_doDrawn_21 : decode cX10_doDrawn 21 = .ok (.getfield 26, 3) := by decide +kernel
theorem dX10_doDrawn_24 : decode cX10_doDrawn 24 = .ok (.invokevirtual 103, 3) := by decide +kernel
theorem dX10_doDrawn_27 : decode cX10_doDrawn 27 = .ok (.invokevirtual 147, 3) := by decide +kernel
theorem dX10_doDrawn_30 : decode cX10_doDrawn 30 = .ok (.ireturn, 1) := by decide +kernel
theorem dX10_doDrawn_31 : decode cX10_doDrawn 31 = .ok (.iload_n 1, 1) := by decide +kernel
theorem dX10_doDrawn_32 : decode cX10_doDrawn 32 = .ok (.bipush 6, 2) := by decide +kernel
theorem dX10_doDrawn_34 : decode cX10_doDrawn 34 = .ok (.if_icmp .gt 16, 3) := by decide +kernel
theorem dX10_doDrawn_37 : decode cX10_doDrawn 37 = .ok (.aload_n 0, 1) := by decide +kernel
theorem dX10_doDrawn_38 : decode cX10_doDrawn 38 = .ok (.getfield 26, 3) := by decide +kernel
theorem dX10_doDrawn_41 : decode cX10_doDrawn 41 = .ok (.invokevirtual 103, 3) := by decide +kernel
theorem dX10_doDrawn_44 : decode cX10_doDrawn 44 = .ok (.invokevirtual 154, 3) := by decide +kernel
theorem dX10_doDrawn_47 : decode cX10_doDrawn 47 = .ok (.goto 7, 3) := by decide +kernel
theorem dX10_doDrawn_50 : decode cX10_doDrawn 50 = .ok (.aload_n 0, 1) := by decide +kernel
theorem dX10_doDrawn_51 : decode cX10_doDrawn 51 = .ok (.invokevirtual 275, 3) := by decide +kernel
theorem dX10_doDrawn_54 : decode cX10_doDrawn 54 = .ok (.ireturn, 1) := by decide +kernel
theorem dX10_undo_0 : decode cX10_undo 0 = .ok (.aload_n 0, 1) := by decide +kernel
theorem dX10_undo_1 : decode cX10_undo 1 = .ok (.getfield 33, 3) := by decide +kernel
theorem dX10_undo_4 : decode cX10_undo 4 = .ok (.aload_n 0, 1) := by decide +kernel
theorem dX10_undo_5 : decode cX10_undo 5 = .ok (.getfield 26, 3) := by decide +kernel
theorem dX10_undo_8 : decode cX10_undo 8 = .ok (.invokevirtual 318, 3) := by decide +kernel
theorem dX10_undo_11 : decode cX10_undo 11 = .ok (.ifCond .eq 13, 3) := by decide +kernel
theorem dX10_undo_14 : decode cX10_undo 14 = .ok (.aload_n 0, 1) := by decide +kernel
theorem dX10_undo_15 : decode cX10_undo 15 = .ok (.getfield 33, 3) := by decide +kernel
theorem dX10_undo_18 : decode cX10_undo 18 = .ok (.invokevirtual 146, 3) := by decide +kernel
theorem dX10_undo_21 : decode cX10_undo 21 = .ok (.goto 4, 3) := by decide +kernel
theorem dX10_undo_24 : decode cX10_undo 24 = .ok (.iconst (-1), 1) := by decide +kernel
theorem dX10_undo_25 : decode cX10_undo 25 = .ok (.ireturn, 1) := by decide +kernel
theorem dX10_image_0 : decode cX10_image 0 = .ok (.aload_n 0, 1) := by decide +kernel
theorem dX10_image_1 : decode cX10_image 1 = .ok (.iload_n 1, 1) := by decide +kernel
theorem dX10_image_2 : decode cX10_image 2 = .ok (.invokevirtual 322, 3) := by decide +kernel
theorem dX10_image_5 : decode cX10_image 5 = .ok (.astore_n 2, 1) := by decide +kernel
theorem dX10_image_6 : decode cX10_image 6 = .ok (.aload_n 2, 1) := by decide +kernel
theorem dX10_image_7 : decode cX10_image 7 = .ok (.ifnonnull 5, 3) := by decide +kernel
theorem dX10_image_10 : decode cX10_image 10 = .ok (.iconst 0, 1) := by decide +kernel
theorem dX10_image_11 : decode cX10_image 11 = .ok (.ireturn, 1) := by decide +kernel
theorem dX10_image_12 : decode cX10_image 12 = .ok (.aload_n 2, 1) := by decide +kernel
theorem dX10_image_13 : decode cX10_image 13 = .ok (.aload_n 0, 1) := by decide +kernel
theorem dX10_image_14 : decode cX10_image 14 = .ok (.getfield 26, 3) := by decide +kernel
theorem dX10_image_17 : decode cX10_image 17 = .ok (.invokevirtual 326, 3) := by decide +kernel
theorem dX10_image_20 : decode cX10_image 20 = .ok (.aload_n 0, 1) := by decide +kernel
theorem dX10_image_21 : decode cX10_image 21 = .ok (.getfield 41, 3) := by decide +kernel
theorem dX10_image_24 : decode cX10_image 24 = .ok (.iload_n 1, 1) := by decide +kernel
theorem dX10_image_25 : decode cX10_image 25 = .ok (.iconst 1, 1) := by decide +kernel
theorem dX10_image_26 : decode cX10_image 26 = .ok (.bastore, 1) := by decide +kernel
theorem dX10_image_27 : decode cX10_image 27 = .ok (.iconst 1, 1) := by decide +kernel
theorem dX10_image_28 : decode cX10_image 28 = .ok (.ireturn, 1) := by decide +kernel
theorem dX10_restore_0 : decode cX10_restore 0 = .ok (.aload_n 0, 1) := by decide +kernel
theorem dX10_restore_1 : decode cX10_restore 1 = .ok (.iload_n 1, 1) := by decide +kernel
theorem dX10_restore_2 : decode cX10_restore 2 = .ok (.invokevirtual 322, 3) := by decide +kernel
theorem dX10_restore_5 : decode cX10_restore 5 = .ok (.astore_n 2, 1) := by decide +kernel
theorem dX10_restore_6 : decode cX10_restore 6 = .ok (.aload_n 2, 1) := by decide +kernel
theorem dX10_restore_7 : decode cX10_restore 7 = .ok (.ifnull 12, 3) := by decide +kernel
theorem dX10_restore_10 : decode cX10_restore 10 = .ok (.aload_n 0, 1) := by decide +kernel
theorem dX10_restore_11 : decode cX10_restore 11 = .ok (.getfield 41, 3) := by decide +kernel
theorem dX10_restore_14 : decode cX10_restore 14 = .ok (.iload_n 1, 1) := by decide +kernel
theorem dX10_restore_15 : decode cX10_restore 15 = .ok (.baload, 1) := by decide +kernel
theorem dX10_restore_16 : decode cX10_restore 16 = .ok (.ifCond .ne 5, 3) := by decide +kernel
theorem dX10_restore_19 : decode cX10_restore 19 = .ok (.iconst 0, 1) := by decide +kernel
theorem dX10_restore_20 : decode cX10_restore 20 = .ok (.ireturn, 1) := by decide +kernel
theorem dX10_restore_21 : decode cX10_restore 21 = .ok (.aload_n 0, 1) := by decide +kernel
theorem dX10_restore_22 : decode cX10_restore 22 = .ok (.getfield 26, 3) := by decide +kernel
theorem dX10_restore_25 : decode cX10_restore 25 = .ok (.aload_n 2, 1) := by decide +kernel
theorem dX10_restore_26 : decode cX10_restore 26 = .ok (.invokevirtual 326, 3) := by decide +kernel
theorem dX10_restore_29 : decode cX10_restore 29 = .ok (.aload_n 0, 1) := by decide +kernel
theorem dX10_restore_30 : decode cX10_restore 30 = .ok (.getfield 33, 3) := by decide +kernel
theorem dX10_restore_33 : decode cX10_restore 33 = .ok (.invokevirtual 329, 3) := by decide +kernel
theorem dX10_restore_36 : decode cX10_restore 36 = .ok (.iconst 1, 1) := by decide +kernel
theorem dX10_restore_37 : decode cX10_restore 37 = .ok (.ireturn, 1) := by decide +kernel
theorem dX10_imageAt_0 : decode cX10_imageAt 0 = .ok (.iload_n 1, 1) := by decide +kernel
theorem dX10_imageAt_1 : decode cX10_imageAt 1 = .ok (.ifCond .lt 8, 3) := by decide +kernel
theorem dX10_imageAt_4 : decode cX10_imageAt 4 = .ok (.iload_n 1, 1) := by decide +kernel
theorem dX10_imageAt_5 : decode cX10_imageAt 5 = .ok (.iconst 2, 1) := by decide +kernel
theorem dX10_imageAt_6 : decode cX10_imageAt 6 = .ok (.if_icmp .lt 7, 3) := by decide +kernel
theorem dX10_imageAt_9 : decode cX10_imageAt 9 = .ok (.aconst_null, 1) := by decide +kernel
theorem dX10_imageAt_10 : decode cX10_imageAt 10 = .ok (.goto 9, 3) := by decide +kernel
theorem dX10_imageAt_13 : decode cX10_imageAt 13 = .ok (.aload_n 0, 1) := by decide +kernel
theorem dX10_imageAt_14 : decode cX10_imageAt 14 = .ok (.getfield 37, 3) := by decide +kernel
theorem dX10_imageAt_17 : decode cX10_imageAt 17 = .ok (.iload_n 1, 1) := by decide +kernel
theorem dX10_imageAt_18 : decode cX10_imageAt 18 = .ok (.aaload, 1) := by decide +kernel
theorem dX10_imageAt_19 : decode cX10_imageAt 19 = .ok (.areturn, 1) := by decide +kernel
end
section
theorem dX11_thrown_0 : decode cX11_thrown 0 = .ok (.aload_n 0, 1) := by decide +kernel
theorem dX11_thrown_1 : decode cX11_thrown 1 = .ok (.getfield 1, 3) := by decide +kernel
theorem dX11_thrown_4 : decode cX11_thrown 4 = .ok (.ireturn, 1) := by decide +kernel
theorem dX11_refuse_0 : decode cX11_refuse 0 = .ok (.aload_n 0, 1) := by decide +kernel
theorem dX11_refuse_1 : decode cX11_refuse 1 = .ok (.iconst 1, 1) := by decide +kernel
theorem dX11_refuse_2 : decode cX11_refuse 2 = .ok (.putfield 1, 3) := by decide +kernel
theorem dX11_refuse_5 : decode cX11_refuse 5 = .ok (.iconst 0, 1) := by decide +kernel
theorem dX11_refuse_6 : decode cX11_refuse 6 = .ok (.ireturn, 1) := by decide +kernel
theorem dX11_isIn_0 : decode cX11_isIn 0 = .ok (.lload_n 0, 1) := by decide +kernel
theorem dX11_isIn_1 : decode cX11_isIn 1 = .ok (.lload_n 2, 1) := by decide +kernel
theorem dX11_isIn_2 : decode cX11_isIn 2 = .ok (.lcmp, 1) := by decide +kernel
theorem dX11_isIn_3 : decode cX11_isIn 3 = .ok (.ifCond .lt 14, 3) := by decide +kernel
theorem dX11_isIn_6 : decode cX11_isIn 6 = .ok (.lload_n 0, 1) := by decide +kernel
theorem dX11_isIn_7 : decode cX11_isIn 7 = .ok (.lload 4, 2) := by decide +kernel
theorem dX11_isIn_9 : decode cX11_isIn 9 = .ok (.lcmp, 1) := by decide +kernel
theorem dX11_isIn_10 : decode cX11_isIn 10 = .ok (.ifCond .gt 7, 3) := by decide +kernel
theorem dX11_isIn_13 : decode cX11_isIn 13 = .ok (.iconst 1, 1) := by decide +kernel
theorem dX11_isIn_14 : decode cX11_isIn 14 = .ok (.goto 4, 3) := by decide +kernel
theorem dX11_isIn_17 : decode cX11_isIn 17 = .ok (.iconst 0, 1) := by decide +kernel
theorem dX11_isIn_18 : decode cX11_isIn 18 = .ok (.ireturn, 1) := by decide +kernel
theorem dX11_lay_0 : decode cX11_lay 0 = .ok (.bipush 24, 2) := by decide +kernel
theorem dX11_lay_2 : decode cX11_lay 2 = .ok (.istore_n 2, 1) := by decide +kernel
theorem dX11_lay_3 : decode cX11_lay 3 = .ok (.iload_n 2, 1) := by decide +kernel
theorem dX11_lay_4 : decode cX11_lay 4 = .ok (.ifCond .lt 35, 3) := by decide +kernel
theorem dX11_lay_7 : decode cX11_lay 7 = .ok (.aload_n 0, 1) := by decide +kernel
theorem dX11_lay_8 : decode cX11_lay 8 = .ok (.getfield 7, 3) := by decide +kernel
theorem dX11_lay_11 : decode cX11_lay 11 = .ok (.aload_n 0, 1) := by decide +kernel
theorem dX11_lay_12 : decode cX11_lay 12 = .ok (.getfield 11, 3) := by decide +kernel
theorem dX11_lay_15 : decode cX11_lay 15 = .ok (.iload_n 1, 1) := by decide +kernel
theorem dX11_lay_16 : decode cX11_lay 16 = .ok (.iload_n 2, 1) := by decide +kernel
theorem dX11_lay_17 : decode cX11_lay 17 = .ok (.iushr, 1) := by decide +kernel
theorem dX11_lay_18 : decode cX11_lay 18 = .ok (.sipush 255, 3) := by decide +kernel
theorem dX11_lay_21 : decode cX11_lay 21 = .ok (.iand, 1) := by decide +kernel
theorem dX11_lay_22 : decode cX11_lay 22 = .ok (.iastore, 1) := by decide +kernel
theorem dX11_lay_23 : decode cX11_lay 23 = .ok (.aload_n 0, 1) := by decide +kernel
theorem dX11_lay_24 : decode cX11_lay 24 = .ok (.dup, 1) := by decide +kernel
theorem dX11_lay_25 : decode cX11_lay 25 = .ok (.getfield 11, 3) := by decide +kernel
theorem dX11_lay_28 : decode cX11_lay 28 = .ok (.iconst 1, 1) := by decide +kernel
theorem dX11_lay_29 : decode cX11_lay 29 = .ok (.iadd, 1) := by decide +kernel
theorem dX11_lay_30 : decode cX11_lay 30 = .ok (.putfield 11, 3) := by decide +kernel
theorem dX11_lay_33 : decode cX11_lay 33 = .ok (.iinc 2 (-8), 3) := by decide +kernel
theorem dX11_lay_36 : decode cX11_lay 36 = .ok (.goto (-33), 3) := by decide +kernel
theorem dX11_lay_39 : decode cX11_lay 39 = .ok (.return_, 1) := by decide +kernel
theorem dX11_feed_0 : decode cX11_feed 0 = .ok (.aload_n 0, 1) := by decide +kernel
theorem dX11_feed_1 : decode cX11_feed 1 = .ok (.iconst 0, 1) := by decide +kernel
theorem dX11_feed_2 : decode cX11_feed 2 = .ok (.putfield 1, 3) := by decide +kernel
theorem dX11_feed_5 : decode cX11_feed 5 = .ok (.aload_n 0, 1) := by decide +kernel
theorem dX11_feed_6 : decode cX11_feed 6 = .ok (.getfield 11, 3) := by decide +kernel
theorem dX11_feed_9 : decode cX11_feed 9 = .ok (.bipush 20, 2) := by decide +kernel
theorem dX11_feed_11 : decode cX11_feed 11 = .ok (.iadd, 1) := by decide +kernel
theorem dX11_feed_12 : decode cX11_feed 12 = .ok (.sipush 240, 3) := by decide +kernel
theorem dX11_feed_15 : decode cX11_feed 15 = .ok (.if_icmp .le 5, 3) := by decide +kernel
theorem dX11_feed_18 : decode cX11_feed 18 = .ok (.iconst (-1), 1) := by decide +kernel
theorem dX11_feed_19 : decode cX11_feed 19 = .ok (.ireturn, 1) := by decide +kernel
theorem dX11_feed_20 : decode cX11_feed 20 = .ok (.aload_n 0, 1) := by decide +kernel
theorem dX11_feed_21 : decode cX11_feed 21 = .ok (.iload_n 1, 1) := by decide +kernel
theorem dX11_feed_22 : decode cX11_feed 22 = .ok (.invokevirtual 14, 3) := by decide +kernel
theorem dX11_feed_25 : decode cX11_feed 25 = .ok (.aload_n 0, 1) := by decide +kernel
theorem dX11_feed_26 : decode cX11_feed 26 = .ok (.iload_n 2, 1) := by decide +kernel
theorem dX11_feed_27 : decode cX11_feed 27 = .ok (.invokevirtual 14, 3) := by decide +kernel
theorem dX11_feed_30 : decode cX11_feed 30 = .ok (.aload_n 0, 1) := by decide +kernel
theorem dX11_feed_31 : decode cX11_feed 31 = .ok (.iload_n 3, 1) := by decide +kernel
theorem dX11_feed_32 : decode cX11_feed 32 = .ok (.invokevirtual 14, 3) := by decide +kernel
theorem dX11_feed_35 : decode cX11_feed 35 = .ok (.aload_n 0, 1) := by decide +kernel
theorem dX11_feed_36 : decode cX11_feed 36 = .ok (.iload 4, 2) := by decide +kernel
theorem dX11_feed_38 : decode cX11_feed 38 = .ok (.invokevirtual 14, 3) := by decide +kernel
theorem dX11_feed_41 : decode cX11_feed 41 = .ok (.aload_n 0, 1) := by decide +kernel
theorem dX11_feed_42 : decode cX11_feed 42 = .ok (.iload 5, 2) := by decide +kernel
theorem dX11_feed_44 : decode cX11_feed 44 = .ok (.invokevirtual 14, 3) := by decide +kernel
theorem dX11_feed_47 : decode cX11_feed 47 = .ok (.aload_n 0, 1) := by decide +kernel
theorem dX11_feed_48 : decode cX11_feed 48 = .ok (.getfield 11, 3) := by decide +kernel
theorem dX11_feed_51 : decode cX11_feed 51 = .ok (.ireturn, 1) := by decide +kernel
theorem dX11_end_0 : decode cX11_end 0 = .ok (.aload_n 0, 1) := by decide +kernel
theorem dX11_end_1 : decode cX11_end 1 = .ok (.iconst 0, 1) := by decide +kernel
theorem dX11_end_2 : decode cX11_end 2 = .ok (.putfield 1, 3) := by decide +kernel
theorem dX11_end_5 : decode cX11_end 5 = .ok (.iload_n 1, 1) := by decide +kernel
theorem dX11_end_6 : decode cX11_end 6 = .ok (.ifCond .lt 11, 3) := by decide +kernel
theorem dX11_end_9 : decode cX11_end 9 = .ok (.iload_n 1, 1) := by decide +kernel
theorem dX11_end_10 : decode cX11_end 10 = .ok (.aload_n 0, 1) := by decide +kernel
theorem dX11_end_11 : decode cX11_end 11 = .ok (.getfield 11, 3) := by decide +kernel
theorem dX11_end_14 : decode cX11_end 14 = .ok (.if_icmp .le 5, 3) := by decide +kernel
theorem dX11_end_17 : decode cX11_end 17 = .ok (.iconst 0, 1) := by decide +kernel
theorem dX11_end_18 : decode cX11_end 18 = .ok (.ireturn, 1) := by decide +kernel
theorem dX11_end_19 : decode cX11_end 19 = .ok (.aload_n 0, 1) := by decide +kernel
theorem dX11_end_20 : decode cX11_end 20 = .ok (.iload_n 1, 1) := by decide +kernel
theorem dX11_end_21 : decode cX11_end 21 = .ok (.putfield 11, 3) := by decide +kernel
theorem dX11_end_24 : decode cX11_end 24 = .ok (.iconst 1, 1) := by decide +kernel
theorem dX11_end_25 : decode cX11_end 25 = .ok (.ireturn, 1) := by decide +kernel
theorem dX11_init_0 : decode cX11_init 0 = .ok (.aload_n 0, 1) := by decide +kernel
theorem dX11_init_1 : decode cX11_init 1 = .ok (.invokespecial 18, 3) := by decide +kernel
theorem dX11_init_4 : decode cX11_init 4 = .ok (.aload_n 0, 1) := by decide +kernel
theorem dX11_init_5 : decode cX11_init 5 = .ok (.sipush 240, 3) := by decide +kernel
theorem dX11_init_8 : decode cX11_init 8 = .ok (.newarray .int, 2) := by decide +kernel
theorem dX11_init_10 : decode cX11_init 10 = .ok (.putfield 7, 3) := by decide +kernel
theorem dX11_init_13 : decode cX11_init 13 = .ok (.aload_n 0, 1) := by decide +kernel
theorem dX11_init_14 : decode cX11_init 14 = .ok (.bipush 35, 2) := by decide +kernel
theorem dX11_init_16 : decode cX11_init 16 = .ok (.newarray .int, 2) := by decide +kernel
theorem dX11_init_18 : decode cX11_init 18 = .ok (.putfield 24, 3) := by decide +kernel
theorem dX11_init_21 : decode cX11_init 21 = .ok (.aload_n 0, 1) := by decide +kernel
theorem dX11_init_22 : decode cX11_init 22 = .ok (.bipush 70, 2) := by decide +kernel
theorem dX11_init_24 : decode cX11_init 24 = .ok (.newarray .int, 2) := by decide +kernel
theorem dX11_init_26 : decode cX11_init 26 = .ok (.putfield 27, 3) := by decide +kernel
theorem dX11_init_29 : decode cX11_init 29 = .ok (.aload_n 0, 1) := by decide +kernel
theorem dX11_init_30 : decode cX11_init 30 = .ok (.sipush 280, 3) := by decide +kernel
theorem dX11_init_33 : decode cX11_init 33 = .ok (.newarray .int, 2) := by decide +kernel
theorem dX11_init_35 : decode cX11_init 35 = .ok (.putfield 30, 3) := by decide +kernel
theorem dX11_init_38 : decode cX11_init 38 = .ok (.aload_n 0, 1) := by decide +kernel
theorem dX11_init_39 : decode cX11_init 39 = .ok (.bipush 35, 2) := by decide +kernel
theorem dX11_init_41 : decode cX11_init 41 = .ok (.newarray .int, 2) := by decide +kernel
theorem dX11_init_43 : decode cX11_init 43 = .ok (.putfield 33, 3) := by decide +kernel
theorem dX11_init_46 : decode cX11_init 46 = .ok (.aload_n 0, 1) := by decide +kernel
theorem dX11_init_47 : decode cX11_init 47 = .ok (.bipush 35, 2) := by decide +kernel
theorem dX11_init_49 : decode cX11_init 49 = .ok (.newarray .int, 2) := by decide +kernel
theorem dX11_init_51 : decode cX11_init 51 = .ok (.putfield 36, 3) := by decide +kernel
theorem dX11_init_54 : decode cX11_init 54 = .ok (.aload_n 0, 1) := by decide +kernel
theorem dX11_init_55 : decode cX11_init 55 = .ok (.iconst 2, 1) := by decide +kernel
theorem dX11_init_56 : decode cX11_init 56 = .ok (.newarray .boolean, 2) := by decide +kernel
theorem dX11_init_58 : decode cX11_init 58 = .ok (.putfield 39, 3) := by decide +kernel
theorem dX11_init_61 : decode cX11_init 61 = .ok (.aload_n 0, 1) := by decide +kernel
theorem dX11_init_62 : decode cX11_init 62 = .ok (.bipush 22, 2) := by decide +kernel
theorem dX11_init_64 : decode cX11_init 64 = .ok (.newarray .int, 2) := by decide +kernel
theorem dX11_init_66 : decode cX11_init 66 = .ok (.putfield 43, 3) := by decide +kernel
theorem dX11_init_69 : decode cX11_init 69 = .ok (.aload_n 0, 1) := by decide +kernel
theorem dX11_init_70 : decode cX11_init 70 = .ok (.iconst 4, 1) := by decide +kernel
theorem dX11_init_71 : decode cX11_init 71 = .ok (.newarray .long, 2) := by decide +kernel
theorem dX11_init_73 : decode cX11_init 73 = .ok (.putfield 46, 3) := by decide +kernel
theorem dX11_init_76 : decode cX11_init 76 = .ok (.aload_n 0, 1) := by decide +kernel
theorem dX11_init_77 : decode cX11_init 77 = .ok (.sipush 400, 3) := by decide +kernel
theorem dX11_init_80 : decode cX11_init 80 = .ok (.newarray .long, 2) := by decide +kernel
theorem dX11_init_82 : decode cX11_init 82 = .ok (.putfield 50, 3) := by decide +kernel
theorem dX11_init_85 : decode cX11_init 85 = .ok (.aload_n 0, 1) := by decide +kernel
theorem dX11_init_86 : decode cX11_init 86 = .ok (.bipush 48, 2) := by decide +kernel
theorem dX11_init_88 : decode cX11_init 88 = .ok (.newarray .int, 2) := by decide +kernel
theorem dX11_init_90 : decode cX11_init 90 = .ok (.putfield 53, 3) := by decide +kernel
theorem dX11_init_93 : decode cX11_init 93 = .ok (.aload_n 0, 1) := by decide +kernel
theorem dX11_init_94 : decode cX11_init 94 = .ok (.getfield 24, 3) := by decide +kernel
theorem dX11_init_97 : decode cX11_init 97 = .ok (.iconst 0, 1) := by decide +kernel
theorem dX11_init_98 : decode cX11_init 98 = .ok (.iconst 1, 1) := by decide +kernel
theorem dX11_init_99 : decode cX11_init 99 = .ok (.iastore, 1) := by decide +kernel
theorem dX11_init_100 : decode cX11_init 100 = .ok (.aload_n 0, 1) := by decide +kernel
theorem dX11_init_101 : decode cX11_init 101 = .ok (.getfield 24, 3) := by decide +kernel
theorem dX11_init_104 : decode cX11_init 104 = .ok (.iconst 1, 1) := by decide +kernel
theorem dX11_init_105 : decode cX11_init 105 = .ok (.iconst 1, 1) := by decide +kernel
theorem dX11_init_106 : decode cX11_init 106 = .ok (.iastore, 1) := by decide +kernel
theorem dX11_init_107 : decode cX11_init 107 = .ok (.return_, 1) := by decide +kernel
theorem dX11_copy_0 : decode cX11_copy 0 = .ok (.iconst 0, 1) := by decide +kernel
theorem dX11_copy_1 : decode cX11_copy 1 = .ok (.istore 4, 2) := by decide +kernel
theorem dX11_copy_3 : decode cX11_copy 3 = .ok (.iload 4, 2) := by decide +kernel
theorem dX11_copy_5 : decode cX11_copy 5 = .ok (.bipush 35, 2) := by decide +kernel
theorem dX11_copy_7 : decode cX11_copy 7 = .ok (.if_icmp .ge 21, 3) := by decide +kernel
theorem dX11_copy_10 : decode cX11_copy 10 = .ok (.aload_n 2, 1) := by decide +kernel
theorem dX11_copy_11 : decode cX11_copy 11 = .ok (.iload_n 3, 1) := by decide +kernel
theorem dX11_copy_12 : decode cX11_copy 12 = .ok (.iload 4, 2) := by decide +kernel
theorem dX11_copy_14 : decode cX11_copy 14 = .ok (.iadd, 1) := by decide +kernel
theorem dX11_copy_15 : decode cX11_copy 15 = .ok (.aload_n 0, 1) := by decide +kernel
theorem dX11_copy_16 : decode cX11_copy 16 = .ok (.iload_n 1, 1) := by decide +kernel
theorem dX11_copy_17 : decode cX11_copy 17 = .ok (.iload 4, 2) := by decide +kernel
theorem dX11_copy_19 : decode cX11_copy 19 = .ok (.iadd, 1) := by decide +kernel
theorem dX11_copy_20 : decode cX11_copy 20 = .ok (.iaload, 1) := by decide +kernel
theorem dX11_copy_21 : decode cX11_copy 21 = .ok (.iastore, 1) := by decide +kernel
theorem dX11_copy_22 : decode cX11_copy 22 = .ok (.iinc 4 1, 3) := by decide +kernel
theorem dX11_copy_25 : decode cX11_copy 25 = .ok (.goto (-22), 3) := by decide +kernel
theorem dX11_copy_28 : decode cX11_copy 28 = .ok (.return_, 1) := by decide +kernel
theorem dX11_snap_0 : decode cX11_snap 0 = .ok (.aload_n 0, 1) := by decide +kernel
theorem dX11_snap_1 : decode cX11_snap 1 = .ok (.getfield 56, 3) := by decide +kernel
theorem dX11_snap_4 : decode cX11_snap 4 = .ok (.bipush 8, 2) := by decide +kernel
theorem dX11_snap_6 : decode cX11_snap 6 = .ok (.if_icmp .ne 43, 3) := by decide +kernel
theorem dX11_snap_9 : decode cX11_snap 9 = .ok (.iconst 0, 1) := by decide +kernel
theorem dX11_snap_10 : decode cX11_snap 10 = .ok (.istore_n 1, 1) := by decide +kernel
theorem dX11_snap_11 : decode cX11_snap 11 = .ok (.iload_n 1, 1) := by decide +kernel
theorem dX11_snap_12 : decode cX11_snap 12 = .ok (.sipush 245, 3) := by decide +kernel
theorem dX11_snap_15 : decode cX11_snap 15 = .ok (.if_icmp .ge 24, 3) := by decide +kernel
theorem dX11_snap_18 : decode cX11_snap 18 = .ok (.aload_n 0, 1) := by decide +kernel
theorem dX11_snap_19 : decode cX11_snap 19 = .ok (.getfield 30, 3) := by decide +kernel
theorem dX11_snap_22 : decode cX11_snap 22 = .ok (.iload_n 1, 1) := by decide +kernel
theorem dX11_snap_23 : decode cX11_snap 23 = .ok (.aload_n 0, 1) := by decide +kernel
theorem dX11_snap_24 : decode cX11_snap 24 = .ok (.getfield 30, 3) := by decide +kernel
theorem dX11_snap_27 : decode cX11_snap 27 = .ok (.iload_n 1, 1) := by decide +kernel
theorem dX11_snap_28 : decode cX11_snap 28 = .ok (.bipush 35, 2) := by decide +kernel
theorem dX11_snap_30 : decode cX11_snap 30 = .ok (.iadd, 1) := by decide +kernel
theorem dX11_snap_31 : decode cX11_snap 31 = .ok (.iaload, 1) := by decide +kernel
theorem dX11_snap_32 : decode cX11_snap 32 = .ok (.iastore, 1) := by decide +kernel
theorem dX11_snap_33 : decode cX11_snap 33 = .ok (.iinc 1 1, 3) := by decide +kernel
theorem dX11_snap_36 : decode cX11_snap 36 = .ok (.goto (-25), 3) := by decide +kernel
theorem dX11_snap_39 : decode cX11_snap 39 = .ok (.aload_n 0, 1) := by decide +kernel
theorem dX11_snap_40 : decode cX11_snap 40 = .ok (.dup, 1) := by decide +kernel
theorem dX11_snap_41 : decode cX11_snap 41 = .ok (.getfield 56, 3) := by decide +kernel
theorem dX11_snap_44 : decode cX11_snap 44 = .ok (.iconst 1, 1) := by decide +kernel
theorem dX11_snap_45 : decode cX11_snap 45 = .ok (.isub, 1) := by decide +kernel
theorem dX11_snap_46 : decode cX11_snap 46 = .ok (.putfield 56, 3) := by decide +kernel
theorem dX11_snap_49 : decode cX11_snap 49 = .ok (.aload_n 0, 1) := by decide +kernel
theorem dX11_snap_50 : decode cX11_snap 50 = .ok (.getfield 24, 3) := by decide +kernel
theorem dX11_snap_53 : decode cX11_snap 53 = .ok (.iconst 0, 1) := by decide +kernel
theorem dX11_snap_54 : decode cX11_snap 54 = .ok (.aload_n 0, 1) := by decide +kernel
theorem dX11_snap_55 : decode cX11_snap 55 = .ok (.getfield 30, 3) := by decide +kernel
theorem dX11_snap_58 : decode cX11_snap 58 = .ok (.bipush 35, 2) := by decide +kernel
theorem dX11_snap_60 : decode cX11_snap 60 = .ok (.aload_n 0, 1) := by decide +kernel
theorem dX11_snap_61 : decode cX11_snap 61 = .ok (.getfield 56, 3) := by decide +kernel
theorem dX11_snap_64 : decode cX11_snap 64 = .ok (.imul, 1) := by decide +kernel
theorem dX11_snap_65 : decode cX11_snap 65 = .ok (.invokestatic 59, 3) := by decide +kernel
theorem dX11_snap_68 : decode cX11_snap 68 = .ok (.aload_n 0, 1) := by decide +kernel
theorem dX11_snap_69 : decode cX11_snap 69 = .ok (.dup, 1) := by decide +kernel
theorem dX11_snap_70 : decode cX11_snap 70 = .ok (.getfield 56, 3) := by decide +kernel
theorem dX11_snap_73 : decode cX11_snap 73 = .ok (.iconst 1, 1) := by decide +kernel
theorem dX11_snap_74 : decode cX11_snap 74 = .ok (.iadd, 1) := by decide +kernel
theorem dX11_snap_75 : decode cX11_snap 75 = .ok (.putfield 56, 3) := by decide +kernel
theorem dX11_snap_78 : decode cX11_snap 78 = .ok (.return_, 1) := by decide +kernel
theorem dX11_stay_0 : decode cX11_stay 0 = .ok (.aload_n 0, 1) := by decide +kernel
theorem dX11_stay_1 : decode cX11_stay 1 = .ok (.getfield 24, 3) := by decide +kernel
theorem dX11_stay_4 : decode cX11_stay 4 = .ok (.iconst 0, 1) := by decide +kernel
theorem dX11_stay_5 : decode cX11_stay 5 = .ok (.aload_n 0, 1) := by decide +kernel
theorem dX11_stay_6 : decode cX11_stay 6 = .ok (.getfield 36, 3) := by decide +kernel
theorem dX11_stay_9 : decode cX11_stay 9 = .ok (.iconst 0, 1) := by decide +kernel
theorem dX11_stay_10 : decode cX11_stay 10 = .ok (.invokestatic 59, 3) := by decide +kernel
theorem dX11_stay_13 : decode cX11_stay 13 = .ok (.aload_n 0, 1) := by decide +kernel
theorem dX11_stay_14 : decode cX11_stay 14 = .ok (.getfield 33, 3) := by decide +kernel
theorem dX11_stay_17 : decode cX11_stay 17 = .ok (.iconst 0, 1) := by decide +kernel
theorem dX11_stay_18 : decode cX11_stay 18 = .ok (.aload_n 0, 1) := by decide +kernel
theorem dX11_stay_19 : decode cX11_stay 19 = .ok (.getfield 24, 3) := by decide +kernel
theorem dX11_stay_22 : decode cX11_stay 22 = .ok (.iconst 0, 1) := by decide +kernel
theorem dX11_stay_23 : decode cX11_stay 23 = .ok (.invokestatic 59, 3) := by decide +kernel
theorem dX11_stay_26 : decode cX11_stay 26 = .ok (.aload_n 0, 1) := by decide +kernel
theorem dX11_stay_27 : decode cX11_stay 27 = .ok (.invokevirtual 63, 3) := by decide +kernel
theorem dX11_stay_30 : decode cX11_stay 30 = .ok (.aload_n 0, 1) := by decide +kernel
theorem dX11_stay_31 : decode cX11_stay 31 = .ok (.getfield 36, 3) := by decide +kernel
theorem dX11_stay_34 : decode cX11_stay 34 = .ok (.iconst 0, 1) := by decide +kernel
theorem dX11_stay_35 : decode cX11_stay 35 = .ok (.aload_n 0, 1) := by decide +kernel
theorem dX11_stay_36 : decode cX11_stay 36 = .ok (.getfield 24, 3) := by decide +kernel
theorem dX11_stay_39 : decode cX11_stay 39 = .ok (.iconst 0, 1) := by decide +kernel
theorem dX11_stay_40 : decode cX11_stay 40 = .ok (.invokestatic 59, 3) := by decide +kernel
theorem dX11_stay_43 : decode cX11_stay 43 = .ok (.return_, 1) := by decide +kernel
theorem dX11_goesTo_0 : decode cX11_goesTo 0 = .ok (.aload_n 0, 1) := by decide +kernel
theorem dX11_goesTo_1 : decode cX11_goesTo 1 = .ok (.iconst 0, 1) := by decide +kernel
theorem dX11_goesTo_2 : decode cX11_goesTo 2 = .ok (.putfield 66, 3) := by decide +kernel
theorem dX11_goesTo_5 : decode cX11_goesTo 5 = .ok (.aload_n 0, 1) := by decide +kernel
theorem dX11_goesTo_6 : decode cX11_goesTo 6 = .ok (.iconst 1, 1) := by decide +kernel
theorem dX11_goesTo_7 : decode cX11_goesTo 7 = .ok (.putfield 69, 3) := by decide +kernel
theorem dX11_goesTo_10 : decode cX11_goesTo 10 = .ok (.aload_n 0, 1) := by decide +kernel
theorem dX11_goesTo_11 : decode cX11_goesTo 11 = .ok (.iconst 1, 1) := by decide +kernel
theorem dX11_goesTo_12 : decode cX11_goesTo 12 = .ok (.putfield 72, 3) := by decide +kernel
theorem dX11_goesTo_15 : decode cX11_goesTo 15 = .ok (.aload_n 0, 1) := by decide +kernel
theorem dX11_goesTo_16 : decode cX11_goesTo 16 = .ok (.iconst 0, 1) := by decide +kernel
theorem dX11_goesTo_17 : decode cX11_goesTo 17 = .ok (.putfield 75, 3) := by decide +kernel
theorem dX11_goesTo_20 : decode cX11_goesTo 20 = .ok (.aload_n 0, 1) := by decide +kernel
theorem dX11_goesTo_21 : decode cX11_goesTo 21 = .ok (.iconst 0, 1) := by decide +kernel
theorem dX11_goesTo_22 : decode cX11_goesTo 22 = .ok (.putfield 78, 3) := by decide +kernel
theorem dX11_goesTo_25 : decode cX11_goesTo 25 = .ok (.aload_n 0, 1) := by decide +kernel
theorem dX11_goesTo_26 : decode cX11_goesTo 26 = .ok (.getfield 66, 3) := by decide +kernel
theorem dX11_goesTo_29 : decode cX11_goesTo 29 = .ok (.aload_n 0, 1) := by decide +kernel
theorem dX11_goesTo_30 : decode cX11_goesTo 30 = .ok (.getfield 72, 3) := by decide +kernel
theorem dX11_goesTo_33 : decode cX11_goesTo 33 = .ok (.iadd, 1) := by decide +kernel
theorem dX11_goesTo_34 : decode cX11_goesTo 34 = .ok (.iload_n 1, 1) := by decide +kernel
theorem dX11_goesTo_35 : decode cX11_goesTo 35 = .ok (.if_icmp .ne 16, 3) := by decide +kernel
theorem dX11_goesTo_38 : decode cX11_goesTo 38 = .ok (.aload_n 0, 1) := by decide +kernel
theorem dX11_goesTo_39 : decode cX11_goesTo 39 = .ok (.getfield 69, 3) := by decide +kernel
theorem dX11_goesTo_42 : decode cX11_goesTo 42 = .ok (.aload_n 0, 1) := by decide +kernel
theorem dX11_goesTo_43 : decode cX11_goesTo 43 = .ok (.getfield 75, 3) := by decide +kernel
theorem dX11_goesTo_46 : decode cX11_goesTo 46 = .ok (.iadd, 1) := by decide +kernel
theorem dX11_goesTo_47 : decode cX11_goesTo 47 = .ok (.iload_n 2, 1) := by decide +kernel
theorem dX11_goesTo_48 : decode cX11_goesTo 48 = .ok (.if_icmp .eq 105, 3) := by decide +kernel
theorem dX11_goesTo_51 : decode cX11_goesTo 51 = .ok (.aload_n 0, 1) := by decide +kernel
theorem dX11_goesTo_52 : decode cX11_goesTo 52 = .ok (.getfield 66, 3) := by decide +kernel
theorem dX11_goesTo_55 : decode cX11_goesTo 55 = .ok (.aload_n 0, 1) := by decide +kernel
theorem dX11_goesTo_56 : decode cX11_goesTo 56 = .ok (.getfield 72, 3) := by decide +kernel
theorem dX11_goesTo_59 : decode cX11_goesTo 59 = .ok (.iadd, 1) := by decide +kernel
theorem dX11_goesTo_60 : decode cX11_goesTo 60 = .ok (.istore_n 3, 1) := by decide +kernel
theorem dX11_goesTo_61 : decode cX11_goesTo 61 = .ok (.aload_n 0, 1) := by decide +kernel
theorem dX11_goesTo_62 : decode cX11_goesTo 62 = .ok (.getfield 69, 3) := by decide +kernel
theorem dX11_goesTo_65 : decode cX11_goesTo 65 = .ok (.aload_n 0, 1) := by decide +kernel
theorem dX11_goesTo_66 : decode cX11_goesTo 66 = .ok (.getfield 75, 3) := by decide +kernel
theorem dX11_goesTo_69 : decode cX11_goesTo 69 = .ok (.iadd, 1) := by decide +kernel
theorem dX11_goesTo_70 : decode cX11_goesTo 70 = .ok (.istore 4, 2) := by decide +kernel
theorem dX11_goesTo_72 : decode cX11_goesTo 72 = .ok (.iload_n 1, 1) := by decide +kernel
theorem dX11_goesTo_73 : decode cX11_goesTo 73 = .ok (.iload 4, 2) := by decide +kernel
theorem dX11_goesTo_75 : decode cX11_goesTo 75 = .ok (.imul, 1) := by decide +kernel
theorem dX11_goesTo_76 : decode cX11_goesTo 76 = .ok (.iload_n 3, 1) := by decide +kernel
theorem dX11_goesTo_77 : decode cX11_goesTo 77 = .ok (.iload_n 2, 1) := by decide +kernel
theorem dX11_goesTo_78 : decode cX11_goesTo 78 = .ok (.imul, 1) := by decide +kernel
theorem dX11_goesTo_79 : decode cX11_goesTo 79 = .ok (.if_icmp .ge 7, 3) := by decide +kernel
theorem dX11_goesTo_82 : decode cX11_goesTo 82 = .ok (.iconst 1, 1) := by decide +kernel
theorem dX11_goesTo_83 : decode cX11_goesTo 83 = .ok (.goto 4, 3) := by decide +kernel
theorem dX11_goesTo_86 : decode cX11_goesTo 86 = .ok (.iconst 0, 1) := by decide +kernel
theorem dX11_goesTo_87 : decode cX11_goesTo 87 = .ok (.istore 5, 2) := by decide +kernel
theorem dX11_goesTo_89 : decode cX11_goesTo 89 = .ok (.aload_n 0, 1) := by decide +kernel
theorem dX11_goesTo_90 : decode cX11_goesTo 90 = .ok (.getfield 43, 3) := by decide +kernel
theorem dX11_goesTo_93 : decode cX11_goesTo 93 = .ok (.aload_n 0, 1) := by decide +kernel
theorem dX11_goesTo_94 : decode cX11_goesTo 94 = .ok (.getfield 78, 3) := by decide +kernel
theorem dX11_goesTo_97 : decode cX11_goesTo 97 = .ok (.iload 5, 2) := by decide +kernel
theorem dX11_goesTo_99 : decode cX11_goesTo 99 = .ok (.ifCond .eq 8, 3) := by decide +kernel
theorem dX11_goesTo_102 : decode cX11_goesTo 102 = .ok (.bipush 108, 2) := by decide +kernel
theorem dX11_goesTo_104 : decode cX11_goesTo 104 = .ok (.goto 5, 3) := by decide +kernel
theorem dX11_goesTo_107 : decode cX11_goesTo 107 = .ok (.bipush 114, 2) := by decide +kernel
theorem dX11_goesTo_109 : decode cX11_goesTo 109 = .ok (.iastore, 1) := by decide +kernel
theorem dX11_goesTo_110 : decode cX11_goesTo 110 = .ok (.aload_n 0, 1) := by decide +kernel
theorem dX11_goesTo_111 : decode cX11_goesTo 111 = .ok (.dup, 1) := by decide +kernel
theorem dX11_goesTo_112 : decode cX11_goesTo 112 = .ok (.getfield 78, 3) := by decide +kernel
theorem dX11_goesTo_115 : decode cX11_goesTo 115 = .ok (.iconst 1, 1) := by decide +kernel
theorem dX11_goesTo_116 : decode cX11_goesTo 116 = .ok (.iadd, 1) := by decide +kernel
theorem dX11_goesTo_117 : decode cX11_goesTo 117 = .ok (.putfield 78, 3) := by decide +kernel
theorem dX11_goesTo_120 : decode cX11_goesTo 120 = .ok (.iload 5, 2) := by decide +kernel
theorem dX11_goesTo_122 : decode cX11_goesTo 122 = .ok (.ifCond .eq 17, 3) := by decide +kernel
theorem dX11_goesTo_125 : decode cX11_goesTo 125 = .ok (.aload_n 0, 1) := by decide +kernel
theorem dX11_goesTo_126 : decode cX11_goesTo 126 = .ok (.iload_n 3, 1) := by decide +kernel
theorem dX11_goesTo_127 : decode cX11_goesTo 127 = .ok (.putfield 72, 3) := by decide +kernel
theorem dX11_goesTo_130 : decode cX11_goesTo 130 = .ok (.aload_n 0, 1) := by decide +kernel
theorem dX11_goesTo_131 : decode cX11_goesTo 131 = .ok (.iload 4, 2) := by decide +kernel
theorem dX11_goesTo_133 : decode cX11_goesTo 133 = .ok (.putfield 75, 3) := by decide +kernel
theorem dX11_goesTo_136 : decode cX11_goesTo 136 = .ok (.goto 14, 3) := by decide +kernel
theorem dX11_goesTo_139 : decode cX11_goesTo 139 = .ok (.aload_n 0, 1) := by decide +kernel
theorem dX11_goesTo_140 : decode cX11_goesTo 140 = .ok (.iload_n 3, 1) := by decide +kernel
theorem dX11_goesTo_141 : decode cX11_goesTo 141 = .ok (.putfield 66, 3) := by decide +kernel
theorem dX11_goesTo_144 : decode cX11_goesTo 144 = .ok (.aload_n 0, 1) := by decide +kernel
theorem dX11_goesTo_145 : decode cX11_goesTo 145 = .ok (.iload 4, 2) := by decide +kernel
theorem dX11_goesTo_147 : decode cX11_goesTo 147 = .ok (.putfield 69, 3) := by decide +kernel
theorem dX11_goesTo_150 : decode cX11_goesTo 150 = .ok (.goto (-125), 3) := by decide +kernel
theorem dX11_goesTo_153 : decode cX11_goesTo 153 = .ok (.return_, 1) := by decide +kernel
theorem dX11_lays_0 : decode cX11_lays 0 = .ok (.aload_n 0, 1) := by decide +kernel
theorem dX11_lays_1 : decode cX11_lays 1 = .ok (.aload_n 0, 1) := by decide +kernel
theorem dX11_lays_2 : decode cX11_lays 2 = .ok (.getfield 24, 3) := by decide +kernel
theorem dX11_lays_5 : decode cX11_lays 5 = .ok (.iconst 0, 1) := by decide +kernel
theorem dX11_lays_6 : decode cX11_lays 6 = .ok (.iaload, 1) := by decide +kernel
theorem dX11_lays_7 : decode cX11_lays 7 = .ok (.aload_n 0, 1) := by decide +kernel
theorem dX11_lays_8 : decode cX11_lays 8 = .ok (.getfield 24, 3) := by decide +kernel
theorem dX11_lays_11 : decode cX11_lays 11 = .ok (.iconst 1, 1) := by decide +kernel
theorem dX11_lays_12 : decode cX11_lays 12 = .ok (.iaload, 1) := by decide +kernel
theorem dX11_lays_13 : decode cX11_lays 13 = .ok (.invokevirtual 81, 3) := by decide +kernel
theorem dX11_lays_16 : decode cX11_lays 16 = .ok (.return_, 1) := by decide +kernel
theorem dX11_divisor_0 : decode cX11_divisor 0 = .ok (.iload_n 1, 1) := by decide +kernel
theorem dX11_divisor_1 : decode cX11_divisor 1 = .ok (.ifCond .ne 7, 3) := by decide +kernel
theorem dX11_divisor_4 : decode cX11_divisor 4 = .ok (.iload_n 0, 1) := by decide +kernel
theorem dX11_divisor_5 : decode cX11_divisor 5 = .ok (.goto 10, 3) := by decide +kernel
theorem dX11_divisor_8 : decode cX11_divisor 8 = .ok (.iload_n 1, 1) := by decide +kernel
theorem dX11_divisor_9 : decode cX11_divisor 9 = .ok (.iload_n 0, 1) := by decide +kernel
theorem dX11_divisor_10 : decode cX11_divisor 10 = .ok (.iload_n 1, 1) := by decide +kernel
theorem dX11_divisor_11 : decode cX11_divisor 11 = .ok (.irem, 1) := by decide +kernel
theorem dX11_divisor_12 : decode cX11_divisor 12 = .ok (.invokestatic 85, 3) := by decide +kernel
theorem dX11_divisor_15 : decode cX11_divisor 15 = .ok (.ireturn, 1) := by decide +kernel
theorem dX11_isPlace_0 : decode cX11_isPlace 0 = .ok (.iload_n 0, 1) := by decide +kernel
theorem dX11_isPlace_1 : decode cX11_isPlace 1 = .ok (.i2l, 1) := by decide +kernel
theorem dX11_isPlace_2 : decode cX11_isPlace 2 = .ok (.lconst 1, 1) := by decide +kernel
theorem dX11_isPlace_3 : decode cX11_isPlace 3 = .ok (.ldc2_w 89, 3) := by decide +kernel
theorem dX11_isPlace_6 : decode cX11_isPlace 6 = .ok (.invokestatic 91, 3) := by decide +kernel
theorem dX11_isPlace_9 : decode cX11_isPlace 9 = .ok (.ifCond .eq 36, 3) := by decide +kernel
theorem dX11_isPlace_12 : decode cX11_isPlace 12 = .ok (.iload_n 1, 1) := by decide +kernel
theorem dX11_isPlace_13 : decode cX11_isPlace 13 = .ok (.i2l, 1) := by decide +kernel
theorem dX11_isPlace_14 : decode cX11_isPlace 14 = .ok (.lconst 1, 1) := by decide +kernel
theorem dX11_isPlace_15 : decode cX11_isPlace 15 = .ok (.ldc2_w 89, 3) := by decide +kernel
theorem dX11_isPlace_18 : decode cX11_isPlace 18 = .ok (.invokestatic 91, 3) := by decide +kernel
theorem dX11_isPlace_21 : decode cX11_isPlace 21 = .ok (.ifCond .eq 24, 3) := by decide +kernel
theorem dX11_isPlace_24 : decode cX11_isPlace 24 = .ok (.iload_n 0, 1) := by decide +kernel
theorem dX11_isPlace_25 : decode cX11_isPlace 25 = .ok (.iload_n 1, 1) := by decide +kernel
theorem dX11_isPlace_26 : decode cX11_isPlace 26 = .ok (.iadd, 1) := by decide +kernel
theorem dX11_isPlace_27 : decode cX11_isPlace 27 = .ok (.bipush 22, 2) := by decide +kernel
theorem dX11_isPlace_29 : decode cX11_isPlace 29 = .ok (.if_icmp .gt 16, 3) := by decide +kernel
theorem dX11_isPlace_32 : decode cX11_isPlace 32 = .ok (.iload_n 0, 1) := by decide +kernel
theorem dX11_isPlace_33 : decode cX11_isPlace 33 = .ok (.iload_n 1, 1) := by decide +kernel
theorem dX11_isPlace_34 : decode cX11_isPlace 34 = .ok (.invokestatic 85, 3) := by decide +kernel
theorem dX11_isPlace_37 : decode cX11_isPlace 37 = .ok (.iconst 1, 1) := by decide +kernel
theorem dX11_isPlace_38 : decode cX11_isPlace 38 = .ok (.if_icmp .ne 7, 3) := by decide +kernel
theorem dX11_isPlace_41 : decode cX11_isPlace 41 = .ok (.iconst 1, 1) := by decide +kernel
theorem dX11_isPlace_42 : decode cX11_isPlace 42 = .ok (.goto 4, 3) := by decide +kernel
theorem dX11_isPlace_45 : decode cX11_isPlace 45 = .ok (.iconst 0, 1) := by decide +kernel
theorem dX11_isPlace_46 : decode cX11_isPlace 46 = .ok (.ireturn, 1) := by decide +kernel
theorem dX11_becomes_0 : decode cX11_becomes 0 = .ok (.aload_n 0, 1) := by decide +kernel
theorem dX11_becomes_1 : decode cX11_becomes 1 = .ok (.getfield 24, 3) := by decide +kernel
theorem dX11_becomes_4 : decode cX11_becomes 4 = .ok (.iconst 0, 1) := by decide +kernel
theorem dX11_becomes_5 : decode cX11_becomes 5 = .ok (.iload_n 1, 1) := by decide +kernel
theorem dX11_becomes_6 : decode cX11_becomes 6 = .ok (.iastore, 1) := by decide +kernel
theorem dX11_becomes_7 : decode cX11_becomes 7 = .ok (.aload_n 0, 1) := by decide +kernel
theorem dX11_becomes_8 : decode cX11_becomes 8 = .ok (.getfield 24, 3) := by decide +kernel
theorem dX11_becomes_11 : decode cX11_becomes 11 = .ok (.iconst 1, 1) := by decide +kernel
theorem dX11_becomes_12 : decode cX11_becomes 12 = .ok (.iload_n 2, 1) := by decide +kernel
theorem dX11_becomes_13 : decode cX11_becomes 13 = .ok (.iastore, 1) := by decide +kernel
theorem dX11_becomes_14 : decode cX11_becomes 14 = .ok (.return_, 1) := by decide +kernel
theorem dX11_steps_0 : decode cX11_steps 0 = .ok (.aload_n 0, 1) := by decide +kernel
theorem dX11_steps_1 : decode cX11_steps 1 = .ok (.invokevirtual 95, 3) := by decide +kernel
theorem dX11_steps_4 : decode cX11_steps 4 = .ok (.aload_n 0, 1) := by decide +kernel
theorem dX11_steps_5 : decode cX11_steps 5 = .ok (.getfield 24, 3) := by decide +kernel
theorem dX11_steps_8 : decode cX11_steps 8 = .ok (.iconst 0, 1) := by decide +kernel
theorem dX11_steps_9 : decode cX11_steps 9 = .ok (.iaload, 1) := by decide +kernel
theorem dX11_steps_10 : decode cX11_steps 10 = .ok (.istore_n 2, 1) := by decide +kernel
theorem dX11_steps_11 : decode cX11_steps 11 = .ok (.aload_n 0, 1) := by decide +kernel
theorem dX11_steps_12 : decode cX11_steps 12 = .ok (.getfield 24, 3) := by decide +kernel
theorem dX11_steps_15 : decode cX11_steps 15 = .ok (.iconst 1, 1) := by decide +kernel
theorem dX11_steps_16 : decode cX11_steps 16 = .ok (.iaload, 1) := by decide +kernel
theorem dX11_steps_17 : decode cX11_steps 17 = .ok (.istore_n 3, 1) := by decide +kernel
theorem dX11_steps_18 : decode cX11_steps 18 = .ok (.iload_n 1, 1) := by decide +kernel
theorem dX11_steps_19 : decode cX11_steps 19 = .ok (.lookupswitch 168 #[(108, 33), (114, 71), (117, 109)], 33) := by decide +kernel
theorem dX11_steps_52 : decode cX11_steps 52 = .ok (.iload_n 2, 1) := by decide +kernel
theorem dX11_steps_53 : decode cX11_steps 53 = .ok (.iload_n 3, 1) := by decide +kernel
theorem dX11_steps_54 : decode cX11_steps 54 = .ok (.iadd, 1) := by decide +kernel
theorem dX11_steps_55 : decode cX11_steps 55 = .ok (.aload_n 0, 1) := by decide +kernel
theorem dX11_steps_56 : decode cX11_steps 56 = .ok (.getfield 66, 3) := by decide +kernel
theorem dX11_steps_59 : decode cX11_steps 59 = .ok (.iadd, 1) := by decide +kernel
theorem dX11_steps_60 : decode cX11_steps 60 = .ok (.aload_n 0, 1) := by decide +kernel
theorem dX11_steps_61 : decode cX11_steps 61 = .ok (.getfield 69, 3) := by decide +kernel
theorem dX11_steps_64 : decode cX11_steps 64 = .ok (.iadd, 1) := by decide +kernel
theorem dX11_steps_65 : decode cX11_steps 65 = .ok (.bipush 22, 2) := by decide +kernel
theorem dX11_steps_67 : decode cX11_steps 67 = .ok (.if_icmp .le 5, 3) := by decide +kernel
theorem dX11_steps_70 : decode cX11_steps 70 = .ok (.iconst 0, 1) := by decide +kernel
theorem dX11_steps_71 : decode cX11_steps 71 = .ok (.ireturn, 1) := by decide +kernel
theorem dX11_steps_72 : decode cX11_steps 72 = .ok (.aload_n 0, 1) := by decide +kernel
theorem dX11_steps_73 : decode cX11_steps 73 = .ok (.iload_n 2, 1) := by decide +kernel
theorem dX11_steps_74 : decode cX11_steps 74 = .ok (.aload_n 0, 1) := by decide +kernel
theorem dX11_steps_75 : decode cX11_steps 75 = .ok (.getfield 66, 3) := by decide +kernel
theorem dX11_steps_78 : decode cX11_steps 78 = .ok (.iadd, 1) := by decide +kernel
theorem dX11_steps_79 : decode cX11_steps 79 = .ok (.iload_n 3, 1) := by decide +kernel
theorem dX11_steps_80 : decode cX11_steps 80 = .ok (.aload_n 0, 1) := by decide +kernel
theorem dX11_steps_81 : decode cX11_steps 81 = .ok (.getfield 69, 3) := by decide +kernel
theorem dX11_steps_84 : decode cX11_steps 84 = .ok (.iadd, 1) := by decide +kernel
theorem dX11_steps_85 : decode cX11_steps 85 = .ok (.invokevirtual 98, 3) := by decide +kernel
theorem dX11_steps_88 : decode cX11_steps 88 = .ok (.iconst 1, 1) := by decide +kernel
theorem dX11_steps_89 : decode cX11_steps 89 = .ok (.ireturn, 1) := by decide +kernel
theorem dX11_steps_90 : decode cX11_steps 90 = .ok (.iload_n 2, 1) := by decide +kernel
theorem dX11_steps_91 : decode cX11_steps 91 = .ok (.iload_n 3, 1) := by decide +kernel
theorem dX11_steps_92 : decode cX11_steps 92 = .ok (.iadd, 1) := by decide +kernel
theorem dX11_steps_93 : decode cX11_steps 93 = .ok (.aload_n 0, 1) := by decide +kernel
theorem dX11_steps_94 : decode cX11_steps 94 = .ok (.getfield 72, 3) := by decide +kernel
theorem dX11_steps_97 : decode cX11_steps 97 = .ok (.iadd, 1) := by decide +kernel
theorem dX11_steps_98 : decode cX11_steps 98 = .ok (.aload_n 0, 1) := by decide +kernel
theorem dX11_steps_99 : decode cX11_steps 99 = .ok (.getfield 75, 3) := by decide +kernel
theorem dX11_steps_102 : decode cX11_steps 102 = .ok (.iadd, 1) := by decide +kernel
theorem dX11_steps_103 : decode cX11_steps 103 = .ok (.bipush 22, 2) := by decide +kernel
theorem dX11_steps_105 : decode cX11_steps 105 = .ok (.if_icmp .le 5, 3) := by decide +kernel
theorem dX11_steps_108 : decode cX11_steps 108 = .ok (.iconst 0, 1) := by decide +kernel
theorem dX11_steps_109 : decode cX11_steps 109 = .ok (.ireturn, 1) := by decide +kernel
theorem dX11_steps_110 : decode cX11_steps 110 = .ok (.aload_n 0, 1) := by decide +kernel
theorem dX11_steps_111 : decode cX11_steps 111 = .ok (.iload_n 2, 1) := by decide +kernel
theorem dX11_steps_112 : decode cX11_steps 112 = .ok (.aload_n 0, 1) := by decide +kernel
theorem dX11_steps_113 : decode cX11_steps 113 = .ok (.getfield 72, 3) := by decide +kernel
theorem dX11_steps_116 : decode cX11_steps 116 = .ok (.iadd, 1) := by decide +kernel
theorem dX11_steps_117 : decode cX11_steps 117 = .ok (.iload_n 3, 1) := by decide +kernel
theorem dX11_steps_118 : decode cX11_steps 118 = .ok (.aload_n 0, 1) := by decide +kernel
theorem dX11_steps_119 : decode cX11_steps 119 = .ok (.getfield 75, 3) := by decide +kernel
theorem dX11_steps_122 : decode cX11_steps 122 = .ok (.iadd, 1) := by decide +kernel
theorem dX11_steps_123 : decode cX11_steps 123 = .ok (.invokevirtual 98, 3) := by decide +kernel
theorem dX11_steps_126 : decode cX11_steps 126 = .ok (.iconst 1, 1) := by decide +kernel
theorem dX11_steps_127 : decode cX11_steps 127 = .ok (.ireturn, 1) := by decide +kernel
theorem dX11_steps_128 : decode cX11_steps 128 = .ok (.aload_n 0, 1) := by decide +kernel
theorem dX11_steps_129 : decode cX11_steps 129 = .ok (.getfield 78, 3) := by decide +kernel
theorem dX11_steps_132 : decode cX11_steps 132 = .ok (.ifCond .ne 5, 3) := by decide +kernel
theorem dX11_steps_135 : decode cX11_steps 135 = .ok (.iconst 0, 1) := by decide +kernel
theorem dX11_steps_136 : decode cX11_steps 136 = .ok (.ireturn, 1) := by decide +kernel
theorem dX11_steps_137 : decode cX11_steps 137 = .ok (.aload_n 0, 1) := by decide +kernel
theorem dX11_steps_138 : decode cX11_steps 138 = .ok (.getfield 66, 3) := by decide +kernel
theorem dX11_steps_141 : decode cX11_steps 141 = .ok (.aload_n 0, 1) := by decide +kernel
theorem dX11_steps_142 : decode cX11_steps 142 = .ok (.getfield 69, 3) := by decide +kernel
theorem dX11_steps_145 : decode cX11_steps 145 = .ok (.iadd, 1) := by decide +kernel
theorem dX11_steps_146 : decode cX11_steps 146 = .ok (.aload_n 0, 1) := by decide +kernel
theorem dX11_steps_147 : decode cX11_steps 147 = .ok (.getfield 72, 3) := by decide +kernel
theorem dX11_steps_150 : decode cX11_steps 150 = .ok (.aload_n 0, 1) := by decide +kernel
theorem dX11_steps_151 : decode cX11_steps 151 = .ok (.getfield 75, 3) := by decide +kernel
theorem dX11_steps_154 : decode cX11_steps 154 = .ok (.iadd, 1) := by decide +kernel
theorem dX11_steps_155 : decode cX11_steps 155 = .ok (.if_icmp .le 18, 3) := by decide +kernel
theorem dX11_steps_158 : decode cX11_steps 158 = .ok (.aload_n 0, 1) := by decide +kernel
theorem dX11_steps_159 : decode cX11_steps 159 = .ok (.aload_n 0, 1) := by decide +kernel
theorem dX11_steps_160 : decode cX11_steps 160 = .ok (.getfield 66, 3) := by decide +kernel
theorem dX11_steps_163 : decode cX11_steps 163 = .ok (.aload_n 0, 1) := by decide +kernel
theorem dX11_steps_164 : decode cX11_steps 164 = .ok (.getfield 69, 3) := by decide +kernel
theorem dX11_steps_167 : decode cX11_steps 167 = .ok (.invokevirtual 98, 3) := by decide +kernel
theorem dX11_steps_170 : decode cX11_steps 170 = .ok (.goto 15, 3) := by decide +kernel
theorem dX11_steps_173 : decode cX11_steps 173 = .ok (.aload_n 0, 1) := by decide +kernel
theorem dX11_steps_174 : decode cX11_steps 174 = .ok (.aload_n 0, 1) := by decide +kernel
theorem dX11_steps_175 : decode cX11_steps 175 = .ok (.getfield 72, 3) := by decide +kernel
theorem dX11_steps_178 : decode cX11_steps 178 = .ok (.aload_n 0, 1) := by decide +kernel
theorem dX11_steps_179 : decode cX11_steps 179 = .ok (.getfield 75, 3) := by decide +kernel
theorem dX11_steps_182 : decode cX11_steps 182 = .ok (.invokevirtual 98, 3) := by decide +kernel
theorem dX11_steps_185 : decode cX11_steps 185 = .ok (.iconst 1, 1) := by decide +kernel
theorem dX11_steps_186 : decode cX11_steps 186 = .ok (.ireturn, 1) := by decide +kernel
theorem dX11_steps_187 : decode cX11_steps 187 = .ok (.aload_n 0, 1) := by decide +kernel
theorem dX11_steps_188 : decode cX11_steps 188 = .ok (.iconst 1, 1) := by decide +kernel
theorem dX11_steps_189 : decode cX11_steps 189 = .ok (.iconst 1, 1) := by decide +kernel
theorem dX11_steps_190 : decode cX11_steps 190 = .ok (.invokevirtual 98, 3) := by decide +kernel
theorem dX11_steps_193 : decode cX11_steps 193 = .ok (.iconst 1, 1) := by decide +kernel
theorem dX11_steps_194 : decode cX11_steps 194 = .ok (.ireturn, 1) := by decide +kernel
theorem dX11_stepsOnce_0 : decode cX11_stepsOnce 0 = .ok (.aload_n 0, 1) := by decide +kernel
theorem dX11_stepsOnce_1 : decode cX11_stepsOnce 1 = .ok (.iconst 0, 1) := by decide +kernel
theorem dX11_stepsOnce_2 : decode cX11_stepsOnce 2 = .ok (.putfield 1, 3) := by decide +kernel
theorem dX11_stepsOnce_5 : decode cX11_stepsOnce 5 = .ok (.aload_n 0, 1) := by decide +kernel
theorem dX11_stepsOnce_6 : decode cX11_stepsOnce 6 = .ok (.getfield 24, 3) := by decide +kernel
theorem dX11_stepsOnce_9 : decode cX11_stepsOnce 9 = .ok (.iconst 0, 1) := by decide +kernel
theorem dX11_stepsOnce_10 : decode cX11_stepsOnce 10 = .ok (.aload_n 0, 1) := by decide +kernel
theorem dX11_stepsOnce_11 : decode cX11_stepsOnce 11 = .ok (.getfield 33, 3) := by decide +kernel
theorem dX11_stepsOnce_14 : decode cX11_stepsOnce 14 = .ok (.iconst 0, 1) := by decide +kernel
theorem dX11_stepsOnce_15 : decode cX11_stepsOnce 15 = .ok (.invokestatic 59, 3) := by decide +kernel
theorem dX11_stepsOnce_18 : decode cX11_stepsOnce 18 = .ok (.aload_n 0, 1) := by decide +kernel
theorem dX11_stepsOnce_19 : decode cX11_stepsOnce 19 = .ok (.iload_n 1, 1) := by decide +kernel
theorem dX11_stepsOnce_20 : decode cX11_stepsOnce 20 = .ok (.invokevirtual 101, 3) := by decide +kernel
theorem dX11_stepsOnce_23 : decode cX11_stepsOnce 23 = .ok (.ifCond .ne 5, 3) := by decide +kernel
theorem dX11_stepsOnce_26 : decode cX11_stepsOnce 26 = .ok (.iconst (-1), 1) := by decide +kernel
theorem dX11_stepsOnce_27 : decode cX11_stepsOnce 27 = .ok (.ireturn, 1) := by decide +kernel
theorem dX11_stepsOnce_28 : decode cX11_stepsOnce 28 = .ok (.aload_n 0, 1) := by decide +kernel
theorem dX11_stepsOnce_29 : decode cX11_stepsOnce 29 = .ok (.invokevirtual 105, 3) := by decide +kernel
theorem dX11_stepsOnce_32 : decode cX11_stepsOnce 32 = .ok (.aload_n 0, 1) := by decide +kernel
theorem dX11_stepsOnce_33 : decode cX11_stepsOnce 33 = .ok (.getfield 24, 3) := by decide +kernel
theorem dX11_stepsOnce_36 : decode cX11_stepsOnce 36 = .ok (.iconst 0, 1) := by decide +kernel
theorem dX11_stepsOnce_37 : decode cX11_stepsOnce 37 = .ok (.iaload, 1) := by decide +kernel
theorem dX11_stepsOnce_38 : decode cX11_stepsOnce 38 = .ok (.aload_n 0, 1) := by decide +kernel
theorem dX11_stepsOnce_39 : decode cX11_stepsOnce 39 = .ok (.getfield 24, 3) := by decide +kernel
theorem dX11_stepsOnce_42 : decode cX11_stepsOnce 42 = .ok (.iconst 1, 1) := by decide +kernel
theorem dX11_stepsOnce_43 : decode cX11_stepsOnce 43 = .ok (.iaload, 1) := by decide +kernel
theorem dX11_stepsOnce_44 : decode cX11_stepsOnce 44 = .ok (.iadd, 1) := by decide +kernel
theorem dX11_stepsOnce_45 : decode cX11_stepsOnce 45 = .ok (.ireturn, 1) := by decide +kernel
theorem dX11_left_0 : decode cX11_left 0 = .ok (.aload_n 0, 1) := by decide +kernel
theorem dX11_left_1 : decode cX11_left 1 = .ok (.bipush 108, 2) := by decide +kernel
theorem dX11_left_3 : decode cX11_left 3 = .ok (.invokevirtual 108, 3) := by decide +kernel
theorem dX11_left_6 : decode cX11_left 6 = .ok (.ireturn, 1) := by decide +kernel
theorem dX11_right_0 : decode cX11_right 0 = .ok (.aload_n 0, 1) := by decide +kernel
theorem dX11_right_1 : decode cX11_right 1 = .ok (.bipush 114, 2) := by decide +kernel
theorem dX11_right_3 : decode cX11_right 3 = .ok (.invokevirtual 108, 3) := by decide +kernel
theorem dX11_right_6 : decode cX11_right 6 = .ok (.ireturn, 1) := by decide +kernel
theorem dX11_up_0 : decode cX11_up 0 = .ok (.aload_n 0, 1) := by decide +kernel
theorem dX11_up_1 : decode cX11_up 1 = .ok (.bipush 117, 2) := by decide +kernel
theorem dX11_up_3 : decode cX11_up 3 = .ok (.invokevirtual 108, 3) := by decide +kernel
theorem dX11_up_6 : decode cX11_up 6 = .ok (.ireturn, 1) := by decide +kernel
theorem dX11_depth_0 : decode cX11_depth 0 = .ok (.aload_n 0, 1) := by decide +kernel
theorem dX11_depth_1 : decode cX11_depth 1 = .ok (.invokevirtual 95, 3) := by decide +kernel
theorem dX11_depth_4 : decode cX11_depth 4 = .ok (.aload_n 0, 1) := by decide +kernel
theorem dX11_depth_5 : decode cX11_depth 5 = .ok (.getfield 78, 3) := by decide +kernel
theorem dX11_depth_8 : decode cX11_depth 8 = .ok (.ireturn, 1) := by decide +kernel
theorem dX11_goesThere_0 : decode cX11_goesThere 0 = .ok (.aload_n 0, 1) := by decide +kernel
theorem dX11_goesThere_1 : decode cX11_goesThere 1 = .ok (.getfield 24, 3) := by decide +kernel
theorem dX11_goesThere_4 : decode cX11_goesThere 4 = .ok (.iconst 0, 1) := by decide +kernel
theorem dX11_goesThere_5 : decode cX11_goesThere 5 = .ok (.iaload, 1) := by decide +kernel
theorem dX11_goesThere_6 : decode cX11_goesThere 6 = .ok (.iload_n 1, 1) := by decide +kernel
theorem dX11_goesThere_7 : decode cX11_goesThere 7 = .ok (.if_icmp .ne 15, 3) := by decide +kernel
theorem dX11_goesThere_10 : decode cX11_goesThere 10 = .ok (.aload_n 0, 1) := by decide +kernel
theorem dX11_goesThere_11 : decode cX11_goesThere 11 = .ok (.getfield 24, 3) := by decide +kernel
theorem dX11_goesThere_14 : decode cX11_goesThere 14 = .ok (.iconst 1, 1) := by decide +kernel
theorem dX11_goesThere_15 : decode cX11_goesThere 15 = .ok (.iaload, 1) := by decide +kernel
theorem dX11_goesThere_16 : decode cX11_goesThere 16 = .ok (.iload_n 2, 1) := by decide +kernel
theorem dX11_goesThere_17 : decode cX11_goesThere 17 = .ok (.if_icmp .ne 5, 3) := by decide +kernel
theorem dX11_goesThere_20 : decode cX11_goesThere 20 = .ok (.iconst (-1), 1) := by decide +kernel
theorem dX11_goesThere_21 : decode cX11_goesThere 21 = .ok (.ireturn, 1) := by decide +kernel
theorem dX11_goesThere_22 : decode cX11_goesThere 22 = .ok (.aload_n 0, 1) := by decide +kernel
theorem dX11_goesThere_23 : decode cX11_goesThere 23 = .ok (.invokevirtual 63, 3) := by decide +kernel
theorem dX11_goesThere_26 : decode cX11_goesThere 26 = .ok (.aload_n 0, 1) := by decide +kernel
theorem dX11_goesThere_27 : decode cX11_goesThere 27 = .ok (.iload_n 1, 1) := by decide +kernel
theorem dX11_goesThere_28 : decode cX11_goesThere 28 = .ok (.iload_n 2, 1) := by decide +kernel
theorem dX11_goesThere_29 : decode cX11_goesThere 29 = .ok (.invokevirtual 98, 3) := by decide +kernel
theorem dX11_goesThere_32 : decode cX11_goesThere 32 = .ok (.aload_n 0, 1) := by decide +kernel
theorem dX11_goesThere_33 : decode cX11_goesThere 33 = .ok (.invokevirtual 112, 3) := by decide +kernel
theorem dX11_goesThere_36 : decode cX11_goesThere 36 = .ok (.ireturn, 1) := by decide +kernel
theorem dX11_go_0 : decode cX11_go 0 = .ok (.aload_n 0, 1) := by decide +kernel
theorem dX11_go_1 : decode cX11_go 1 = .ok (.iconst 0, 1) := by decide +kernel
theorem dX11_go_2 : decode cX11_go 2 = .ok (.putfield 1, 3) := by decide +kernel
theorem dX11_go_5 : decode cX11_go 5 = .ok (.iload_n 1, 1) := by decide +kernel
theorem dX11_go_6 : decode cX11_go 6 = .ok (.iload_n 2, 1) := by decide +kernel
theorem dX11_go_7 : decode cX11_go 7 = .ok (.invokestatic 116, 3) := by decide +kernel
theorem dX11_go_10 : decode cX11_go 10 = .ok (.ifCond .eq 12, 3) := by decide +kernel
theorem dX11_go_13 : decode cX11_go 13 = .ok (.aload_n 0, 1) := by decide +kernel
theorem dX11_go_14 : decode cX11_go 14 = .ok (.iload_n 1, 1) := by decide +kernel
theorem dX11_go_15 : decode cX11_go 15 = .ok (.iload_n 2, 1) := by decide +kernel
theorem dX11_go_16 : decode cX11_go 16 = .ok (.invokevirtual 120, 3) := by decide +kernel
theorem dX11_go_19 : decode cX11_go 19 = .ok (.goto 4, 3) := by decide +kernel
theorem dX11_go_22 : decode cX11_go 22 = .ok (.iconst (-1), 1) := by decide +kernel
theorem dX11_go_23 : decode cX11_go 23 = .ok (.ireturn, 1) := by decide +kernel
theorem dX11_isA_0 : decode cX11_isA 0 = .ok (.iload_n 1, 1) := by decide +kernel
theorem dX11_isA_1 : decode cX11_isA 1 = .ok (.iconst 1, 1) := by decide +kernel
theorem dX11_isA_2 : decode cX11_isA 2 = .ok (.if_icmp .ne 15, 3) := by decide +kernel
theorem dX11_isA_5 : decode cX11_isA 5 = .ok (.iload_n 0, 1) := by decide +kernel
theorem dX11_isA_6 : decode cX11_isA 6 = .ok (.ifCond .ne 7, 3) := by decide +kernel
theorem dX11_isA_9 : decode cX11_isA 9 = .ok (.iconst 1, 1) := by decide +kernel
theorem dX11_isA_10 : decode cX11_isA 10 = .ok (.goto 27, 3) := by decide +kernel
theorem dX11_isA_13 : decode cX11_isA 13 = .ok (.iconst 0, 1) := by decide +kernel
theorem dX11_isA_14 : decode cX11_isA 14 = .ok (.goto 23, 3) := by decide +kernel
theorem dX11_isA_17 : decode cX11_isA 17 = .ok (.iload_n 2, 1) := by decide +kernel
theorem dX11_isA_18 : decode cX11_isA 18 = .ok (.iload_n 0, 1) := by decide +kernel
theorem dX11_isA_19 : decode cX11_isA 19 = .ok (.imul, 1) := by decide +kernel
theorem dX11_isA_20 : decode cX11_isA 20 = .ok (.iload_n 1, 1) := by decide +kernel
theorem dX11_isA_21 : decode cX11_isA 21 = .ok (.irem, 1) := by decide +kernel
theorem dX11_isA_22 : decode cX11_isA 22 = .ok (.iload_n 2, 1) := by decide +kernel
theorem dX11_isA_23 : decode cX11_isA 23 = .ok (.iconst 1, 1) := by decide +kernel
theorem dX11_isA_24 : decode cX11_isA 24 = .ok (.isub, 1) := by decide +kernel
theorem dX11_isA_25 : decode cX11_isA 25 = .ok (.iload_n 0, 1) := by decide +kernel
theorem dX11_isA_26 : decode cX11_isA 26 = .ok (.imul, 1) := by decide +kernel
theorem dX11_isA_27 : decode cX11_isA 27 = .ok (.iload_n 1, 1) := by decide +kernel
theorem dX11_isA_28 : decode cX11_isA 28 = .ok (.irem, 1) := by decide +kernel
theorem dX11_isA_29 : decode cX11_isA 29 = .ok (.if_icmp .le 7, 3) := by decide +kernel
theorem dX11_isA_32 : decode cX11_isA 32 = .ok (.iconst 1, 1) := by decide +kernel
theorem dX11_isA_33 : decode cX11_isA 33 = .ok (.goto 4, 3) := by decide +kernel
theorem dX11_isA_36 : decode cX11_isA 36 = .ok (.iconst 0, 1) := by decide +kernel
theorem dX11_isA_37 : decode cX11_isA 37 = .ok (.ireturn, 1) := by decide +kernel
theorem dX11_laysMatrix_0 : decode cX11_laysMatrix 0 = .ok (.aload_n 0, 1) := by decide +kernel
theorem dX11_laysMatrix_1 : decode cX11_laysMatrix 1 = .ok (.getfield 46, 3) := by decide +kernel
theorem dX11_laysMatrix_4 : decode cX11_laysMatrix 4 = .ok (.iconst 0, 1) := by decide +kernel
theorem dX11_laysMatrix_5 : decode cX11_laysMatrix 5 = .ok (.lconst 1, 1) := by decide +kernel
theorem dX11_laysMatrix_6 : decode cX11_laysMatrix 6 = .ok (.lastore, 1) := by decide +kernel
theorem dX11_laysMatrix_7 : decode cX11_laysMatrix 7 = .ok (.aload_n 0, 1) := by decide +kernel
theorem dX11_laysMatrix_8 : decode cX11_laysMatrix 8 = .ok (.getfield 46, 3) := by decide +kernel
theorem dX11_laysMatrix_11 : decode cX11_laysMatrix 11 = .ok (.iconst 1, 1) := by decide +kernel
theorem dX11_laysMatrix_12 : decode cX11_laysMatrix 12 = .ok (.lconst 0, 1) := by decide +kernel
theorem dX11_laysMatrix_13 : decode cX11_laysMatrix 13 = .ok (.lastore, 1) := by decide +kernel
theorem dX11_laysMatrix_14 : decode cX11_laysMatrix 14 = .ok (.aload_n 0, 1) := by decide +kernel
theorem dX11_laysMatrix_15 : decode cX11_laysMatrix 15 = .ok (.getfield 46, 3) := by decide +kernel
theorem dX11_laysMatrix_18 : decode cX11_laysMatrix 18 = .ok (.iconst 2, 1) := by decide +kernel
theorem dX11_laysMatrix_19 : decode cX11_laysMatrix 19 = .ok (.lconst 0, 1) := by decide +kernel
theorem dX11_laysMatrix_20 : decode cX11_laysMatrix 20 = .ok (.lastore, 1) := by decide +kernel
theorem dX11_laysMatrix_21 : decode cX11_laysMatrix 21 = .ok (.aload_n 0, 1) := by decide +kernel
theorem dX11_laysMatrix_22 : decode cX11_laysMatrix 22 = .ok (.getfield 46, 3) := by decide +kernel
theorem dX11_laysMatrix_25 : decode cX11_laysMatrix 25 = .ok (.iconst 3, 1) := by decide +kernel
theorem dX11_laysMatrix_26 : decode cX11_laysMatrix 26 = .ok (.lconst 1, 1) := by decide +kernel
theorem dX11_laysMatrix_27 : decode cX11_laysMatrix 27 = .ok (.lastore, 1) := by decide +kernel
theorem dX11_laysMatrix_28 : decode cX11_laysMatrix 28 = .ok (.iconst 1, 1) := by decide +kernel
theorem dX11_laysMatrix_29 : decode cX11_laysMatrix 29 = .ok (.istore_n 3, 1) := by decide +kernel
theorem dX11_laysMatrix_30 : decode cX11_laysMatrix 30 = .ok (.iload_n 3, 1) := by decide +kernel
theorem dX11_laysMatrix_31 : decode cX11_laysMatrix 31 = .ok (.iload_n 1, 1) := by decide +kernel
theorem dX11_laysMatrix_32 : decode cX11_laysMatrix 32 = .ok (.iload_n 2, 1) := by decide +kernel
theorem dX11_laysMatrix_33 : decode cX11_laysMatrix 33 = .ok (.iadd, 1) := by decide +kernel
theorem dX11_laysMatrix_34 : decode cX11_laysMatrix 34 = .ok (.if_icmp .gt 119, 3) := by decide +kernel
theorem dX11_laysMatrix_37 : decode cX11_laysMatrix 37 = .ok (.iload_n 1, 1) := by decide +kernel
theorem dX11_laysMatrix_38 : decode cX11_laysMatrix 38 = .ok (.iload_n 1, 1) := by decide +kernel
theorem dX11_laysMatrix_39 : decode cX11_laysMatrix 39 = .ok (.iload_n 2, 1) := by decide +kernel
theorem dX11_laysMatrix_40 : decode cX11_laysMatrix 40 = .ok (.iadd, 1) := by decide +kernel
theorem dX11_laysMatrix_41 : decode cX11_laysMatrix 41 = .ok (.iload_n 3, 1) := by decide +kernel
theorem dX11_laysMatrix_42 : decode cX11_laysMatrix 42 = .ok (.invokestatic 123, 3) := by decide +kernel
theorem dX11_laysMatrix_45 : decode cX11_laysMatrix 45 = .ok (.istore 4, 2) := by decide +kernel
theorem dX11_laysMatrix_47 : decode cX11_laysMatrix 47 = .ok (.iload 4, 2) := by decide +kernel
theorem dX11_laysMatrix_49 : decode cX11_laysMatrix 49 = .ok (.ifCond .eq 9, 3) := by decide +kernel
theorem dX11_laysMatrix_52 : decode cX11_laysMatrix 52 = .ok (.ldc2_w 127, 3) := by decide +kernel
theorem dX11_laysMatrix_55 : decode cX11_laysMatrix 55 = .ok (.goto 6, 3) := by decide +kernel
theorem dX11_laysMatrix_58 : decode cX11_laysMatrix 58 = .ok (.ldc2_w 129, 3) := by decide +kernel
theorem dX11_laysMatrix_61 : decode cX11_laysMatrix 61 = .ok (.lstore 5, 2) := by decide +kernel
theorem dX11_laysMatrix_63 : decode cX11_laysMatrix 63 = .ok (.iload 4, 2) := by decide +kernel
theorem dX11_laysMatrix_65 : decode cX11_laysMatrix 65 = .ok (.ifCond .eq 7, 3) := by decide +kernel
theorem dX11_laysMatrix_68 : decode cX11_laysMatrix 68 = .ok (.lconst 1, 1) := by decide +kernel
theorem dX11_laysMatrix_69 : decode cX11_laysMatrix 69 = .ok (.goto 6, 3) := by decide +kernel
theorem dX11_laysMatrix_72 : decode cX11_laysMatrix 72 = .ok (.ldc2_w 127, 3) := by decide +kernel
theorem dX11_laysMatrix_75 : decode cX11_laysMatrix 75 = .ok (.lstore 7, 2) := by decide +kernel
theorem dX11_laysMatrix_77 : decode cX11_laysMatrix 77 = .ok (.iconst 0, 1) := by decide +kernel
theorem dX11_laysMatrix_78 : decode cX11_laysMatrix 78 = .ok (.istore 9, 2) := by decide +kernel
theorem dX11_laysMatrix_80 : decode cX11_laysMatrix 80 = .ok (.iload 9, 2) := by decide +kernel
theorem dX11_laysMatrix_82 : decode cX11_laysMatrix 82 = .ok (.iconst 4, 1) := by decide +kernel
theorem dX11_laysMatrix_83 : decode cX11_laysMatrix 83 = .ok (.if_icmp .ge 64, 3) := by decide +kernel
theorem dX11_laysMatrix_86 : decode cX11_laysMatrix 86 = .ok (.aload_n 0, 1) := by decide +kernel
theorem dX11_laysMatrix_87 : decode cX11_laysMatrix 87 = .ok (.getfield 46, 3) := by decide +kernel
theorem dX11_laysMatrix_90 : decode cX11_laysMatrix 90 = .ok (.iload 9, 2) := by decide +kernel
theorem dX11_laysMatrix_92 : decode cX11_laysMatrix 92 = .ok (.laload, 1) := by decide +kernel
theorem dX11_laysMatrix_93 : decode cX11_laysMatrix 93 = .ok (.lstore 10, 2) := by decide +kernel
theorem dX11_laysMatrix_95 : decode cX11_laysMatrix 95 = .ok (.aload_n 0, 1) := by decide +kernel
theorem dX11_laysMatrix_96 : decode cX11_laysMatrix 96 = .ok (.getfield 46, 3) := by decide +kernel
theorem dX11_laysMatrix_99 : decode cX11_laysMatrix 99 = .ok (.iload 9, 2) := by decide +kernel
theorem dX11_laysMatrix_101 : decode cX11_laysMatrix 101 = .ok (.iconst 1, 1) := by decide +kernel
theorem dX11_laysMatrix_102 : decode cX11_laysMatrix 102 = .ok (.iadd, 1) := by decide +kernel
theorem dX11_laysMatrix_103 : decode cX11_laysMatrix 103 = .ok (.laload, 1) := by decide +kernel
theorem dX11_laysMatrix_104 : decode cX11_laysMatrix 104 = .ok (.lstore 12, 2) := by decide +kernel
theorem dX11_laysMatrix_106 : decode cX11_laysMatrix 106 = .ok (.aload_n 0, 1) := by decide +kernel
theorem dX11_laysMatrix_107 : decode cX11_laysMatrix 107 = .ok (.getfield 46, 3) := by decide +kernel
theorem dX11_laysMatrix_110 : decode cX11_laysMatrix 110 = .ok (.iload 9, 2) := by decide +kernel
theorem dX11_laysMatrix_112 : decode cX11_laysMatrix 112 = .ok (.lload 10, 2) := by decide +kernel
theorem dX11_laysMatrix_114 : decode cX11_laysMatrix 114 = .ok (.lload 5, 2) := by decide +kernel
theorem dX11_laysMatrix_116 : decode cX11_laysMatrix 116 = .ok (.lmul, 1) := by decide +kernel
theorem dX11_laysMatrix_117 : decode cX11_laysMatrix 117 = .ok (.lload 12, 2) := by decide +kernel
theorem dX11_laysMatrix_119 : decode cX11_laysMatrix 119 = .ok (.lload 7, 2) := by decide +kernel
theorem dX11_laysMatrix_121 : decode cX11_laysMatrix 121 = .ok (.lmul, 1) := by decide +kernel
theorem dX11_laysMatrix_122 : decode cX11_laysMatrix 122 = .ok (.ladd, 1) := by decide +kernel
theorem dX11_laysMatrix_123 : decode cX11_laysMatrix 123 = .ok (.lastore, 1) := by decide +kernel
theorem dX11_laysMatrix_124 : decode cX11_laysMatrix 124 = .ok (.aload_n 0, 1) := by decide +kernel
theorem dX11_laysMatrix_125 : decode cX11_laysMatrix 125 = .ok (.getfield 46, 3) := by decide +kernel
theorem dX11_laysMatrix_128 : decode cX11_laysMatrix 128 = .ok (.iload 9, 2) := by decide +kernel
theorem dX11_laysMatrix_130 : decode cX11_laysMatrix 130 = .ok (.iconst 1, 1) := by decide +kernel
theorem dX11_laysMatrix_131 : decode cX11_laysMatrix 131 = .ok (.iadd, 1) := by decide +kernel
theorem dX11_laysMatrix_132 : decode cX11_laysMatrix 132 = .ok (.lload 10, 2) := by decide +kernel
theorem dX11_laysMatrix_134 : decode cX11_laysMatrix 134 = .ok (.lload 7, 2) := by decide +kernel
theorem dX11_laysMatrix_136 : decode cX11_laysMatrix 136 = .ok (.lmul, 1) := by decide +kernel
theorem dX11_laysMatrix_137 : decode cX11_laysMatrix 137 = .ok (.lload 12, 2) := by decide +kernel
theorem dX11_laysMatrix_139 : decode cX11_laysMatrix 139 = .ok (.ladd, 1) := by decide +kernel
theorem dX11_laysMatrix_140 : decode cX11_laysMatrix 140 = .ok (.lastore, 1) := by decide +kernel
theorem dX11_laysMatrix_141 : decode cX11_laysMatrix 141 = .ok (.iinc 9 2, 3) := by decide +kernel
theorem dX11_laysMatrix_144 : decode cX11_laysMatrix 144 = .ok (.goto (-64), 3) := by decide +kernel
theorem dX11_laysMatrix_147 : decode cX11_laysMatrix 147 = .ok (.iinc 3 1, 3) := by decide +kernel
theorem dX11_laysMatrix_150 : decode cX11_laysMatrix 150 = .ok (.goto (-120), 3) := by decide +kernel
theorem dX11_laysMatrix_153 : decode cX11_laysMatrix 153 = .ok (.return_, 1) := by decide +kernel
theorem dX11_numberOf_0 : decode cX11_numberOf 0 = .ok (.aload_n 0, 1) := by decide +kernel
theorem dX11_numberOf_1 : decode cX11_numberOf 1 = .ok (.iload_n 1, 1) := by decide +kernel
theorem dX11_numberOf_2 : decode cX11_numberOf 2 = .ok (.iload_n 2, 1) := by decide +kernel
theorem dX11_numberOf_3 : decode cX11_numberOf 3 = .ok (.invokevirtual 131, 3) := by decide +kernel
theorem dX11_numberOf_6 : decode cX11_numberOf 6 = .ok (.aload_n 0, 1) := by decide +kernel
theorem dX11_numberOf_7 : decode cX11_numberOf 7 = .ok (.getfield 46, 3) := by decide +kernel
theorem dX11_numberOf_10 : decode cX11_numberOf 10 = .ok (.iconst 1, 1) := by decide +kernel
theorem dX11_numberOf_11 : decode cX11_numberOf 11 = .ok (.laload, 1) := by decide +kernel
theorem dX11_numberOf_12 : decode cX11_numberOf 12 = .ok (.lreturn, 1) := by decide +kernel
theorem dX11_number_0 : decode cX11_number 0 = .ok (.aload_n 0, 1) := by decide +kernel
theorem dX11_number_1 : decode cX11_number 1 = .ok (.aload_n 0, 1) := by decide +kernel
theorem dX11_number_2 : decode cX11_number 2 = .ok (.getfield 24, 3) := by decide +kernel
theorem dX11_number_5 : decode cX11_number 5 = .ok (.iconst 0, 1) := by decide +kernel
theorem dX11_number_6 : decode cX11_number 6 = .ok (.iaload, 1) := by decide +kernel
theorem dX11_number_7 : decode cX11_number 7 = .ok (.aload_n 0, 1) := by decide +kernel
theorem dX11_number_8 : decode cX11_number 8 = .ok (.getfield 24, 3) := by decide +kernel
theorem dX11_number_11 : decode cX11_number 11 = .ok (.iconst 1, 1) := by decide +kernel
theorem dX11_number_12 : decode cX11_number 12 = .ok (.iaload, 1) := by decide +kernel
theorem dX11_number_13 : decode cX11_number 13 = .ok (.invokevirtual 134, 3) := by decide +kernel
theorem dX11_number_16 : decode cX11_number 16 = .ok (.lreturn, 1) := by decide +kernel
theorem dX11_triple_0 : decode cX11_triple 0 = .ok (.aload_n 0, 1) := by decide +kernel
theorem dX11_triple_1 : decode cX11_triple 1 = .ok (.iconst 0, 1) := by decide +kernel
theorem dX11_triple_2 : decode cX11_triple 2 = .ok (.putfield 1, 3) := by decide +kernel
theorem dX11_triple_5 : decode cX11_triple 5 = .ok (.aload_n 0, 1) := by decide +kernel
theorem dX11_triple_6 : decode cX11_triple 6 = .ok (.invokevirtual 95, 3) := by decide +kernel
theorem dX11_triple_9 : decode cX11_triple 9 = .ok (.iload_n 1, 1) := by decide +kernel
theorem dX11_triple_10 : decode cX11_triple 10 = .ok (.tableswitch 57 0 2 #[26, 39, 52], 26) := by decide +kernel
theorem dX11_triple_36 : decode cX11_triple 36 = .ok (.aload_n 0, 1) := by decide +kernel
theorem dX11_triple_37 : decode cX11_triple 37 = .ok (.aload_n 0, 1) := by decide +kernel
theorem dX11_triple_38 : decode cX11_triple 38 = .ok (.getfield 66, 3) := by decide +kernel
theorem dX11_triple_41 : decode cX11_triple 41 = .ok (.aload_n 0, 1) := by decide +kernel
theorem dX11_triple_42 : decode cX11_triple 42 = .ok (.getfield 69, 3) := by decide +kernel
theorem dX11_triple_45 : decode cX11_triple 45 = .ok (.invokevirtual 134, 3) := by decide +kernel
theorem dX11_triple_48 : decode cX11_triple 48 = .ok (.lreturn, 1) := by decide +kernel
theorem dX11_triple_49 : decode cX11_triple 49 = .ok (.aload_n 0, 1) := by decide +kernel
theorem dX11_triple_50 : decode cX11_triple 50 = .ok (.aload_n 0, 1) := by decide +kernel
theorem dX11_triple_51 : decode cX11_triple 51 = .ok (.getfield 72, 3) := by decide +kernel
theorem dX11_triple_54 : decode cX11_triple 54 = .ok (.aload_n 0, 1) := by decide +kernel
theorem dX11_triple_55 : decode cX11_triple 55 = .ok (.getfield 75, 3) := by decide +kernel
theorem dX11_triple_58 : decode cX11_triple 58 = .ok (.invokevirtual 134, 3) := by decide +kernel
theorem dX11_triple_61 : decode cX11_triple 61 = .ok (.lreturn, 1) := by decide +kernel
theorem dX11_triple_62 : decode cX11_triple 62 = .ok (.aload_n 0, 1) := by decide +kernel
theorem dX11_triple_63 : decode cX11_triple 63 = .ok (.invokevirtual 138, 3) := by decide +kernel
theorem dX11_triple_66 : decode cX11_triple 66 = .ok (.lreturn, 1) := by decide +kernel
theorem dX11_triple_67 : decode cX11_triple 67 = .ok (.aload_n 0, 1) := by decide +kernel
theorem dX11_triple_68 : decode cX11_triple 68 = .ok (.invokevirtual 142, 3) := by decide +kernel
theorem dX11_triple_71 : decode cX11_triple 71 = .ok (.i2l, 1) := by decide +kernel
theorem dX11_triple_72 : decode cX11_triple 72 = .ok (.lreturn, 1) := by decide +kernel
theorem dX11_letter_0 : decode cX11_letter 0 = .ok (.aload_n 0, 1) := by decide +kernel
theorem dX11_letter_1 : decode cX11_letter 1 = .ok (.iconst 0, 1) := by decide +kernel
theorem dX11_letter_2 : decode cX11_letter 2 = .ok (.putfield 1, 3) := by decide +kernel
theorem dX11_letter_5 : decode cX11_letter 5 = .ok (.aload_n 0, 1) := by decide +kernel
theorem dX11_letter_6 : decode cX11_letter 6 = .ok (.getfield 24, 3) := by decide +kernel
theorem dX11_letter_9 : decode cX11_letter 9 = .ok (.iconst 0, 1) := by decide +kernel
theorem dX11_letter_10 : decode cX11_letter 10 = .ok (.iaload, 1) := by decide +kernel
theorem dX11_letter_11 : decode cX11_letter 11 = .ok (.aload_n 0, 1) := by decide +kernel
theorem dX11_letter_12 : decode cX11_letter 12 = .ok (.getfield 24, 3) := by decide +kernel
theorem dX11_letter_15 : decode cX11_letter 15 = .ok (.iconst 1, 1) := by decide +kernel
theorem dX11_letter_16 : decode cX11_letter 16 = .ok (.iaload, 1) := by decide +kernel
theorem dX11_letter_17 : decode cX11_letter 17 = .ok (.iadd, 1) := by decide +kernel
theorem dX11_letter_18 : decode cX11_letter 18 = .ok (.istore_n 2, 1) := by decide +kernel
theorem dX11_letter_19 : decode cX11_letter 19 = .ok (.iload_n 1, 1) := by decide +kernel
theorem dX11_letter_20 : decode cX11_letter 20 = .ok (.i2l, 1) := by decide +kernel
theorem dX11_letter_21 : decode cX11_letter 21 = .ok (.lconst 1, 1) := by decide +kernel
theorem dX11_letter_22 : decode cX11_letter 22 = .ok (.iload_n 2, 1) := by decide +kernel
theorem dX11_letter_23 : decode cX11_letter 23 = .ok (.i2l, 1) := by decide +kernel
theorem dX11_letter_24 : decode cX11_letter 24 = .ok (.invokestatic 91, 3) := by decide +kernel
theorem dX11_letter_27 : decode cX11_letter 27 = .ok (.ifCond .ne 7, 3) := by decide +kernel
theorem dX11_letter_30 : decode cX11_letter 30 = .ok (.iconst (-1), 1) := by decide +kernel
theorem dX11_letter_31 : decode cX11_letter 31 = .ok (.goto 24, 3) := by decide +kernel
theorem dX11_letter_34 : decode cX11_letter 34 = .ok (.aload_n 0, 1) := by decide +kernel
theorem dX11_letter_35 : decode cX11_letter 35 = .ok (.getfield 24, 3) := by decide +kernel
theorem dX11_letter_38 : decode cX11_letter 38 = .ok (.iconst 0, 1) := by decide +kernel
theorem dX11_letter_39 : decode cX11_letter 39 = .ok (.iaload, 1) := by decide +kernel
theorem dX11_letter_40 : decode cX11_letter 40 = .ok (.iload_n 2, 1) := by decide +kernel
theorem dX11_letter_41 : decode cX11_letter 41 = .ok (.iload_n 1, 1) := by decide +kernel
theorem dX11_letter_42 : decode cX11_letter 42 = .ok (.invokestatic 123, 3) := by decide +kernel
theorem dX11_letter_45 : decode cX11_letter 45 = .ok (.ifCond .eq 8, 3) := by decide +kernel
theorem dX11_letter_48 : decode cX11_letter 48 = .ok (.bipush 97, 2) := by decide +kernel
theorem dX11_letter_50 : decode cX11_letter 50 = .ok (.goto 5, 3) := by decide +kernel
theorem dX11_letter_53 : decode cX11_letter 53 = .ok (.bipush 98, 2) := by decide +kernel
theorem dX11_letter_55 : decode cX11_letter 55 = .ok (.ireturn, 1) := by decide +kernel
theorem dX11_cut_0 : decode cX11_cut 0 = .ok (.aload_n 0, 1) := by decide +kernel
theorem dX11_cut_1 : decode cX11_cut 1 = .ok (.iconst 0, 1) := by decide +kernel
theorem dX11_cut_2 : decode cX11_cut 2 = .ok (.putfield 1, 3) := by decide +kernel
theorem dX11_cut_5 : decode cX11_cut 5 = .ok (.iconst 1, 1) := by decide +kernel
theorem dX11_cut_6 : decode cX11_cut 6 = .ok (.istore_n 1, 1) := by decide +kernel
theorem dX11_cut_7 : decode cX11_cut 7 = .ok (.iload_n 1, 1) := by decide +kernel
theorem dX11_cut_8 : decode cX11_cut 8 = .ok (.aload_n 0, 1) := by decide +kernel
theorem dX11_cut_9 : decode cX11_cut 9 = .ok (.getfield 24, 3) := by decide +kernel
theorem dX11_cut_12 : decode cX11_cut 12 = .ok (.iconst 0, 1) := by decide +kernel
theorem dX11_cut_13 : decode cX11_cut 13 = .ok (.iaload, 1) := by decide +kernel
theorem dX11_cut_14 : decode cX11_cut 14 = .ok (.imul, 1) := by decide +kernel
theorem dX11_cut_15 : decode cX11_cut 15 = .ok (.aload_n 0, 1) := by decide +kernel
theorem dX11_cut_16 : decode cX11_cut 16 = .ok (.getfield 24, 3) := by decide +kernel
theorem dX11_cut_19 : decode cX11_cut 19 = .ok (.iconst 0, 1) := by decide +kernel
theorem dX11_cut_20 : decode cX11_cut 20 = .ok (.iaload, 1) := by decide +kernel
theorem dX11_cut_21 : decode cX11_cut 21 = .ok (.aload_n 0, 1) := by decide +kernel
theorem dX11_cut_22 : decode cX11_cut 22 = .ok (.getfield 24, 3) := by decide +kernel
theorem dX11_cut_25 : decode cX11_cut 25 = .ok (.iconst 1, 1) := by decide +kernel
theorem dX11_cut_26 : decode cX11_cut 26 = .ok (.iaload, 1) := by decide +kernel
theorem dX11_cut_27 : decode cX11_cut 27 = .ok (.iadd, 1) := by decide +kernel
theorem dX11_cut_28 : decode cX11_cut 28 = .ok (.irem, 1) := by decide +kernel
theorem dX11_cut_29 : decode cX11_cut 29 = .ok (.iconst 1, 1) := by decide +kernel
theorem dX11_cut_30 : decode cX11_cut 30 = .ok (.if_icmp .eq 9, 3) := by decide +kernel
theorem dX11_cut_33 : decode cX11_cut 33 = .ok (.iinc 1 1, 3) := by decide +kernel
theorem dX11_cut_36 : decode cX11_cut 36 = .ok (.goto (-29), 3) := by decide +kernel
theorem dX11_cut_39 : decode cX11_cut 39 = .ok (.iload_n 1, 1) := by decide +kernel
theorem dX11_cut_40 : decode cX11_cut 40 = .ok (.ireturn, 1) := by decide +kernel
theorem dX11_matrix_0 : decode cX11_matrix 0 = .ok (.aload_n 0, 1) := by decide +kernel
theorem dX11_matrix_1 : decode cX11_matrix 1 = .ok (.iconst 0, 1) := by decide +kernel
theorem dX11_matrix_2 : decode cX11_matrix 2 = .ok (.putfield 1, 3) := by decide +kernel
theorem dX11_matrix_5 : decode cX11_matrix 5 = .ok (.iload_n 1, 1) := by decide +kernel
theorem dX11_matrix_6 : decode cX11_matrix 6 = .ok (.i2l, 1) := by decide +kernel
theorem dX11_matrix_7 : decode cX11_matrix 7 = .ok (.lconst 0, 1) := by decide +kernel
theorem dX11_matrix_8 : decode cX11_matrix 8 = .ok (.lconst 1, 1) := by decide +kernel
theorem dX11_matrix_9 : decode cX11_matrix 9 = .ok (.invokestatic 91, 3) := by decide +kernel
theorem dX11_matrix_12 : decode cX11_matrix 12 = .ok (.ifCond .eq 13, 3) := by decide +kernel
theorem dX11_matrix_15 : decode cX11_matrix 15 = .ok (.iload_n 2, 1) := by decide +kernel
theorem dX11_matrix_16 : decode cX11_matrix 16 = .ok (.i2l, 1) := by decide +kernel
theorem dX11_matrix_17 : decode cX11_matrix 17 = .ok (.lconst 0, 1) := by decide +kernel
theorem dX11_matrix_18 : decode cX11_matrix 18 = .ok (.lconst 1, 1) := by decide +kernel
theorem dX11_matrix_19 : decode cX11_matrix 19 = .ok (.invokestatic 91, 3) := by decide +kernel
theorem dX11_matrix_22 : decode cX11_matrix 22 = .ok (.ifCond .ne 9, 3) := by decide +kernel
theorem dX11_matrix_25 : decode cX11_matrix 25 = .ok (.aload_n 0, 1) := by decide +kernel
theorem dX11_matrix_26 : decode cX11_matrix 26 = .ok (.invokevirtual 142, 3) := by decide +kernel
theorem dX11_matrix_29 : decode cX11_matrix 29 = .ok (.i2l, 1) := by decide +kernel
theorem dX11_matrix_30 : decode cX11_matrix 30 = .ok (.lreturn, 1) := by decide +kernel
theorem dX11_matrix_31 : decode cX11_matrix 31 = .ok (.aload_n 0, 1) := by decide +kernel
theorem dX11_matrix_32 : decode cX11_matrix 32 = .ok (.aload_n 0, 1) := by decide +kernel
theorem dX11_matrix_33 : decode cX11_matrix 33 = .ok (.getfield 24, 3) := by decide +kernel
theorem dX11_matrix_36 : decode cX11_matrix 36 = .ok (.iconst 0, 1) := by decide +kernel
theorem dX11_matrix_37 : decode cX11_matrix 37 = .ok (.iaload, 1) := by decide +kernel
theorem dX11_matrix_38 : decode cX11_matrix 38 = .ok (.aload_n 0, 1) := by decide +kernel
theorem dX11_matrix_39 : decode cX11_matrix 39 = .ok (.getfield 24, 3) := by decide +kernel
theorem dX11_matrix_42 : decode cX11_matrix 42 = .ok (.iconst 1, 1) := by decide +kernel
theorem dX11_matrix_43 : decode cX11_matrix 43 = .ok (.iaload, 1) := by decide +kernel
theorem dX11_matrix_44 : decode cX11_matrix 44 = .ok (.invokevirtual 131, 3) := by decide +kernel
theorem dX11_matrix_47 : decode cX11_matrix 47 = .ok (.aload_n 0, 1) := by decide +kernel
theorem dX11_matrix_48 : decode cX11_matrix 48 = .ok (.getfield 46, 3) := by decide +kernel
theorem dX11_matrix_51 : decode cX11_matrix 51 = .ok (.iconst 2, 1) := by decide +kernel
theorem dX11_matrix_52 : decode cX11_matrix 52 = .ok (.iload_n 1, 1) := by decide +kernel
theorem dX11_matrix_53 : decode cX11_matrix 53 = .ok (.imul, 1) := by decide +kernel
theorem dX11_matrix_54 : decode cX11_matrix 54 = .ok (.iload_n 2, 1) := by decide +kernel
theorem dX11_matrix_55 : decode cX11_matrix 55 = .ok (.iadd, 1) := by decide +kernel
theorem dX11_matrix_56 : decode cX11_matrix 56 = .ok (.laload, 1) := by decide +kernel
theorem dX11_matrix_57 : decode cX11_matrix 57 = .ok (.lreturn, 1) := by decide +kernel
theorem dX11_laysForm_0 : decode cX11_laysForm 0 = .ok (.aload_n 0, 1) := by decide +kernel
theorem dX11_laysForm_1 : decode cX11_laysForm 1 = .ok (.invokevirtual 138, 3) := by decide +kernel
theorem dX11_laysForm_4 : decode cX11_laysForm 4 = .ok (.lstore_n 1, 1) := by decide +kernel
theorem dX11_laysForm_5 : decode cX11_laysForm 5 = .ok (.lload_n 1, 1) := by decide +kernel
theorem dX11_laysForm_6 : decode cX11_laysForm 6 = .ok (.ldc2_w 145, 3) := by decide +kernel
theorem dX11_laysForm_9 : decode cX11_laysForm 9 = .ok (.lcmp, 1) := by decide +kernel
theorem dX11_laysForm_10 : decode cX11_laysForm 10 = .ok (.ifCond .le 5, 3) := by decide +kernel
theorem dX11_laysForm_13 : decode cX11_laysForm 13 = .ok (.iconst 0, 1) := by decide +kernel
theorem dX11_laysForm_14 : decode cX11_laysForm 14 = .ok (.ireturn, 1) := by decide +kernel
theorem dX11_laysForm_15 : decode cX11_laysForm 15 = .ok (.aload_n 0, 1) := by decide +kernel
theorem dX11_laysForm_16 : decode cX11_laysForm 16 = .ok (.getfield 46, 3) := by decide +kernel
theorem dX11_laysForm_19 : decode cX11_laysForm 19 = .ok (.iconst 3, 1) := by decide +kernel
theorem dX11_laysForm_20 : decode cX11_laysForm 20 = .ok (.laload, 1) := by decide +kernel
theorem dX11_laysForm_21 : decode cX11_laysForm 21 = .ok (.lstore_n 3, 1) := by decide +kernel
theorem dX11_laysForm_22 : decode cX11_laysForm 22 = .ok (.aload_n 0, 1) := by decide +kernel
theorem dX11_laysForm_23 : decode cX11_laysForm 23 = .ok (.lload_n 1, 1) := by decide +kernel
theorem dX11_laysForm_24 : decode cX11_laysForm 24 = .ok (.putfield 147, 3) := by decide +kernel
theorem dX11_laysForm_27 : decode cX11_laysForm 27 = .ok (.aload_n 0, 1) := by decide +kernel
theorem dX11_laysForm_28 : decode cX11_laysForm 28 = .ok (.ldc2_w 151, 3) := by decide +kernel
theorem dX11_laysForm_31 : decode cX11_laysForm 31 = .ok (.lload_n 1, 1) := by decide +kernel
theorem dX11_laysForm_32 : decode cX11_laysForm 32 = .ok (.lmul, 1) := by decide +kernel
theorem dX11_laysForm_33 : decode cX11_laysForm 33 = .ok (.ldc2_w 127, 3) := by decide +kernel
theorem dX11_laysForm_36 : decode cX11_laysForm 36 = .ok (.lload_n 3, 1) := by decide +kernel
theorem dX11_laysForm_37 : decode cX11_laysForm 37 = .ok (.lmul, 1) := by decide +kernel
theorem dX11_laysForm_38 : decode cX11_laysForm 38 = .ok (.lsub, 1) := by decide +kernel
theorem dX11_laysForm_39 : decode cX11_laysForm 39 = .ok (.putfield 153, 3) := by decide +kernel
theorem dX11_laysForm_42 : decode cX11_laysForm 42 = .ok (.aload_n 0, 1) := by decide +kernel
theorem dX11_laysForm_43 : decode cX11_laysForm 43 = .ok (.lload_n 3, 1) := by decide +kernel
theorem dX11_laysForm_44 : decode cX11_laysForm 44 = .ok (.lload_n 3, 1) := by decide +kernel
theorem dX11_laysForm_45 : decode cX11_laysForm 45 = .ok (.lmul, 1) := by decide +kernel
theorem dX11_laysForm_46 : decode cX11_laysForm 46 = .ok (.lconst 1, 1) := by decide +kernel
theorem dX11_laysForm_47 : decode cX11_laysForm 47 = .ok (.ladd, 1) := by decide +kernel
theorem dX11_laysForm_48 : decode cX11_laysForm 48 = .ok (.lload_n 1, 1) := by decide +kernel
theorem dX11_laysForm_49 : decode cX11_laysForm 49 = .ok (.ldiv, 1) := by decide +kernel
theorem dX11_laysForm_50 : decode cX11_laysForm 50 = .ok (.ldc2_w 151, 3) := by decide +kernel
theorem dX11_laysForm_53 : decode cX11_laysForm 53 = .ok (.lload_n 3, 1) := by decide +kernel
theorem dX11_laysForm_54 : decode cX11_laysForm 54 = .ok (.lmul, 1) := by decide +kernel
theorem dX11_laysForm_55 : decode cX11_laysForm 55 = .ok (.lsub, 1) := by decide +kernel
theorem dX11_laysForm_56 : decode cX11_laysForm 56 = .ok (.putfield 156, 3) := by decide +kernel
theorem dX11_laysForm_59 : decode cX11_laysForm 59 = .ok (.aload_n 0, 1) := by decide +kernel
theorem dX11_laysForm_60 : decode cX11_laysForm 60 = .ok (.ldc2_w 159, 3) := by decide +kernel
theorem dX11_laysForm_63 : decode cX11_laysForm 63 = .ok (.lload_n 1, 1) := by decide +kernel
theorem dX11_laysForm_64 : decode cX11_laysForm 64 = .ok (.lmul, 1) := by decide +kernel
theorem dX11_laysForm_65 : decode cX11_laysForm 65 = .ok (.lload_n 1, 1) := by decide +kernel
theorem dX11_laysForm_66 : decode cX11_laysForm 66 = .ok (.lmul, 1) := by decide +kernel
theorem dX11_laysForm_67 : decode cX11_laysForm 67 = .ok (.ldc2_w 161, 3) := by decide +kernel
theorem dX11_laysForm_70 : decode cX11_laysForm 70 = .ok (.lsub, 1) := by decide +kernel
theorem dX11_laysForm_71 : decode cX11_laysForm 71 = .ok (.putfield 163, 3) := by decide +kernel
theorem dX11_laysForm_74 : decode cX11_laysForm 74 = .ok (.aload_n 0, 1) := by decide +kernel
theorem dX11_laysForm_75 : decode cX11_laysForm 75 = .ok (.lconst 0, 1) := by decide +kernel
theorem dX11_laysForm_76 : decode cX11_laysForm 76 = .ok (.putfield 166, 3) := by decide +kernel
theorem dX11_laysForm_79 : decode cX11_laysForm 79 = .ok (.ldc2_w 169, 3) := by decide +kernel
theorem dX11_laysForm_82 : decode cX11_laysForm 82 = .ok (.lstore 5, 2) := by decide +kernel
theorem dX11_laysForm_84 : decode cX11_laysForm 84 = .ok (.lload 5, 2) := by decide +kernel
theorem dX11_laysForm_86 : decode cX11_laysForm 86 = .ok (.lconst 0, 1) := by decide +kernel
theorem dX11_laysForm_87 : decode cX11_laysForm 87 = .ok (.lcmp, 1) := by decide +kernel
theorem dX11_laysForm_88 : decode cX11_laysForm 88 = .ok (.ifCond .le 60, 3) := by decide +kernel
theorem dX11_laysForm_91 : decode cX11_laysForm 91 = .ok (.aload_n 0, 1) := by decide +kernel
theorem dX11_laysForm_92 : decode cX11_laysForm 92 = .ok (.getfield 166, 3) := by decide +kernel
theorem dX11_laysForm_95 : decode cX11_laysForm 95 = .ok (.lload 5, 2) := by decide +kernel
theorem dX11_laysForm_97 : decode cX11_laysForm 97 = .ok (.ladd, 1) := by decide +kernel
theorem dX11_laysForm_98 : decode cX11_laysForm 98 = .ok (.ldc2_w 171, 3) := by decide +kernel
theorem dX11_laysForm_101 : decode cX11_laysForm 101 = .ok (.lcmp, 1) := by decide +kernel
theorem dX11_laysForm_102 : decode cX11_laysForm 102 = .ok (.ifCond .gt 37, 3) := by decide +kernel
theorem dX11_laysForm_105 : decode cX11_laysForm 105 = .ok (.aload_n 0, 1) := by decide +kernel
theorem dX11_laysForm_106 : decode cX11_laysForm 106 = .ok (.getfield 166, 3) := by decide +kernel
theorem dX11_laysForm_109 : decode cX11_laysForm 109 = .ok (.lload 5, 2) := by decide +kernel
theorem dX11_laysForm_111 : decode cX11_laysForm 111 = .ok (.ladd, 1) := by decide +kernel
theorem dX11_laysForm_112 : decode cX11_laysForm 112 = .ok (.aload_n 0, 1) := by decide +kernel
theorem dX11_laysForm_113 : decode cX11_laysForm 113 = .ok (.getfield 166, 3) := by decide +kernel
theorem dX11_laysForm_116 : decode cX11_laysForm 116 = .ok (.lload 5, 2) := by decide +kernel
theorem dX11_laysForm_118 : decode cX11_laysForm 118 = .ok (.ladd, 1) := by decide +kernel
theorem dX11_laysForm_119 : decode cX11_laysForm 119 = .ok (.lmul, 1) := by decide +kernel
theorem dX11_laysForm_120 : decode cX11_laysForm 120 = .ok (.aload_n 0, 1) := by decide +kernel
theorem dX11_laysForm_121 : decode cX11_laysForm 121 = .ok (.getfield 163, 3) := by decide +kernel
theorem dX11_laysForm_124 : decode cX11_laysForm 124 = .ok (.lcmp, 1) := by decide +kernel
theorem dX11_laysForm_125 : decode cX11_laysForm 125 = .ok (.ifCond .gt 14, 3) := by decide +kernel
theorem dX11_laysForm_128 : decode cX11_laysForm 128 = .ok (.aload_n 0, 1) := by decide +kernel
theorem dX11_laysForm_129 : decode cX11_laysForm 129 = .ok (.dup, 1) := by decide +kernel
theorem dX11_laysForm_130 : decode cX11_laysForm 130 = .ok (.getfield 166, 3) := by decide +kernel
theorem dX11_laysForm_133 : decode cX11_laysForm 133 = .ok (.lload 5, 2) := by decide +kernel
theorem dX11_laysForm_135 : decode cX11_laysForm 135 = .ok (.ladd, 1) := by decide +kernel
theorem dX11_laysForm_136 : decode cX11_laysForm 136 = .ok (.putfield 166, 3) := by decide +kernel
theorem dX11_laysForm_139 : decode cX11_laysForm 139 = .ok (.lload 5, 2) := by decide +kernel
theorem dX11_laysForm_141 : decode cX11_laysForm 141 = .ok (.iconst 1, 1) := by decide +kernel
theorem dX11_laysForm_142 : decode cX11_laysForm 142 = .ok (.lshr, 1) := by decide +kernel
theorem dX11_laysForm_143 : decode cX11_laysForm 143 = .ok (.lstore 5, 2) := by decide +kernel
theorem dX11_laysForm_145 : decode cX11_laysForm 145 = .ok (.goto (-61), 3) := by decide +kernel
theorem dX11_laysForm_148 : decode cX11_laysForm 148 = .ok (.iconst 1, 1) := by decide +kernel
theorem dX11_laysForm_149 : decode cX11_laysForm 149 = .ok (.ireturn, 1) := by decide +kernel
theorem dX11_form_0 : decode cX11_form 0 = .ok (.aload_n 0, 1) := by decide +kernel
theorem dX11_form_1 : decode cX11_form 1 = .ok (.iconst 0, 1) := by decide +kernel
theorem dX11_form_2 : decode cX11_form 2 = .ok (.putfield 1, 3) := by decide +kernel
theorem dX11_form_5 : decode cX11_form 5 = .ok (.iload_n 1, 1) := by decide +kernel
theorem dX11_form_6 : decode cX11_form 6 = .ok (.i2l, 1) := by decide +kernel
theorem dX11_form_7 : decode cX11_form 7 = .ok (.lconst 0, 1) := by decide +kernel
theorem dX11_form_8 : decode cX11_form 8 = .ok (.ldc2_w 127, 3) := by decide +kernel
theorem dX11_form_11 : decode cX11_form 11 = .ok (.invokestatic 91, 3) := by decide +kernel
theorem dX11_form_14 : decode cX11_form 14 = .ok (.ifCond .eq 10, 3) := by decide +kernel
theorem dX11_form_17 : decode cX11_form 17 = .ok (.aload_n 0, 1) := by decide +kernel
theorem dX11_form_18 : decode cX11_form 18 = .ok (.invokevirtual 173, 3) := by decide +kernel
theorem dX11_form_21 : decode cX11_form 21 = .ok (.ifCond .ne 9, 3) := by decide +kernel
theorem dX11_form_24 : decode cX11_form 24 = .ok (.aload_n 0, 1) := by decide +kernel
theorem dX11_form_25 : decode cX11_form 25 = .ok (.invokevirtual 142, 3) := by decide +kernel
theorem dX11_form_28 : decode cX11_form 28 = .ok (.i2l, 1) := by decide +kernel
theorem dX11_form_29 : decode cX11_form 29 = .ok (.lreturn, 1) := by decide +kernel
theorem dX11_form_30 : decode cX11_form 30 = .ok (.iload_n 1, 1) := by decide +kernel
theorem dX11_form_31 : decode cX11_form 31 = .ok (.ifCond .ne 10, 3) := by decide +kernel
theorem dX11_form_34 : decode cX11_form 34 = .ok (.aload_n 0, 1) := by decide +kernel
theorem dX11_form_35 : decode cX11_form 35 = .ok (.getfield 147, 3) := by decide +kernel
theorem dX11_form_38 : decode cX11_form 38 = .ok (.goto 19, 3) := by decide +kernel
theorem dX11_form_41 : decode cX11_form 41 = .ok (.iload_n 1, 1) := by decide +kernel
theorem dX11_form_42 : decode cX11_form 42 = .ok (.iconst 1, 1) := by decide +kernel
theorem dX11_form_43 : decode cX11_form 43 = .ok (.if_icmp .ne 10, 3) := by decide +kernel
theorem dX11_form_46 : decode cX11_form 46 = .ok (.aload_n 0, 1) := by decide +kernel
theorem dX11_form_47 : decode cX11_form 47 = .ok (.getfield 153, 3) := by decide +kernel
theorem dX11_form_50 : decode cX11_form 50 = .ok (.goto 7, 3) := by decide +kernel
theorem dX11_form_53 : decode cX11_form 53 = .ok (.aload_n 0, 1) := by decide +kernel
theorem dX11_form_54 : decode cX11_form 54 = .ok (.getfield 156, 3) := by decide +kernel
theorem dX11_form_57 : decode cX11_form 57 = .ok (.lreturn, 1) := by decide +kernel
theorem dX11_value_0 : decode cX11_value 0 = .ok (.aload_n 0, 1) := by decide +kernel
theorem dX11_value_1 : decode cX11_value 1 = .ok (.iconst 0, 1) := by decide +kernel
theorem dX11_value_2 : decode cX11_value 2 = .ok (.putfield 1, 3) := by decide +kernel
theorem dX11_value_5 : decode cX11_value 5 = .ok (.iload_n 1, 1) := by decide +kernel
theorem dX11_value_6 : decode cX11_value 6 = .ok (.i2l, 1) := by decide +kernel
theorem dX11_value_7 : decode cX11_value 7 = .ok (.ldc2_w 177, 3) := by decide +kernel
theorem dX11_value_10 : decode cX11_value 10 = .ok (.ldc2_w 179, 3) := by decide +kernel
theorem dX11_value_13 : decode cX11_value 13 = .ok (.invokestatic 91, 3) := by decide +kernel
theorem dX11_value_16 : decode cX11_value 16 = .ok (.ifCond .eq 24, 3) := by decide +kernel
theorem dX11_value_19 : decode cX11_value 19 = .ok (.iload_n 2, 1) := by decide +kernel
theorem dX11_value_20 : decode cX11_value 20 = .ok (.i2l, 1) := by decide +kernel
theorem dX11_value_21 : decode cX11_value 21 = .ok (.ldc2_w 177, 3) := by decide +kernel
theorem dX11_value_24 : decode cX11_value 24 = .ok (.ldc2_w 179, 3) := by decide +kernel
theorem dX11_value_27 : decode cX11_value 27 = .ok (.invokestatic 91, 3) := by decide +kernel
theorem dX11_value_30 : decode cX11_value 30 = .ok (.ifCond .eq 10, 3) := by decide +kernel
theorem dX11_value_33 : decode cX11_value 33 = .ok (.aload_n 0, 1) := by decide +kernel
theorem dX11_value_34 : decode cX11_value 34 = .ok (.invokevirtual 173, 3) := by decide +kernel
theorem dX11_value_37 : decode cX11_value 37 = .ok (.ifCond .ne 7, 3) := by decide +kernel
theorem dX11_value_40 : decode cX11_value 40 = .ok (.ldc2_w 181, 3) := by decide +kernel
theorem dX11_value_43 : decode cX11_value 43 = .ok (.lreturn, 1) := by decide +kernel
theorem dX11_value_44 : decode cX11_value 44 = .ok (.aload_n 0, 1) := by decide +kernel
theorem dX11_value_45 : decode cX11_value 45 = .ok (.getfield 147, 3) := by decide +kernel
theorem dX11_value_48 : decode cX11_value 48 = .ok (.iload_n 1, 1) := by decide +kernel
theorem dX11_value_49 : decode cX11_value 49 = .ok (.i2l, 1) := by decide +kernel
theorem dX11_value_50 : decode cX11_value 50 = .ok (.lmul, 1) := by decide +kernel
theorem dX11_value_51 : decode cX11_value 51 = .ok (.iload_n 1, 1) := by decide +kernel
theorem dX11_value_52 : decode cX11_value 52 = .ok (.i2l, 1) := by decide +kernel
theorem dX11_value_53 : decode cX11_value 53 = .ok (.lmul, 1) := by decide +kernel
theorem dX11_value_54 : decode cX11_value 54 = .ok (.aload_n 0, 1) := by decide +kernel
theorem dX11_value_55 : decode cX11_value 55 = .ok (.getfield 153, 3) := by decide +kernel
theorem dX11_value_58 : decode cX11_value 58 = .ok (.iload_n 1, 1) := by decide +kernel
theorem dX11_value_59 : decode cX11_value 59 = .ok (.i2l, 1) := by decide +kernel
theorem dX11_value_60 : decode cX11_value 60 = .ok (.lmul, 1) := by decide +kernel
theorem dX11_value_61 : decode cX11_value 61 = .ok (.iload_n 2, 1) := by decide +kernel
theorem dX11_value_62 : decode cX11_value 62 = .ok (.i2l, 1) := by decide +kernel
theorem dX11_value_63 : decode cX11_value 63 = .ok (.lmul, 1) := by decide +kernel
theorem dX11_value_64 : decode cX11_value 64 = .ok (.ladd, 1) := by decide +kernel
theorem dX11_value_65 : decode cX11_value 65 = .ok (.aload_n 0, 1) := by decide +kernel
theorem dX11_value_66 : decode cX11_value 66 = .ok (.getfield 156, 3) := by decide +kernel
theorem dX11_value_69 : decode cX11_value 69 = .ok (.iload_n 2, 1) := by decide +kernel
theorem dX11_value_70 : decode cX11_value 70 = .ok (.i2l, 1) := by decide +kernel
theorem dX11_value_71 : decode cX11_value 71 = .ok (.lmul, 1) := by decide +kernel
theorem dX11_value_72 : decode cX11_value 72 = .ok (.iload_n 2, 1) := by decide +kernel
theorem dX11_value_73 : decode cX11_value 73 = .ok (.i2l, 1) := by decide +kernel
theorem dX11_value_74 : decode cX11_value 74 = .ok (.lmul, 1) := by decide +kernel
theorem dX11_value_75 : decode cX11_value 75 = .ok (.ladd, 1) := by decide +kernel
theorem dX11_value_76 : decode cX11_value 76 = .ok (.lreturn, 1) := by decide +kernel
theorem dX11_formOn_0 : decode cX11_formOn 0 = .ok (.ldc2_w 127, 3) := by decide +kernel
theorem dX11_formOn_3 : decode cX11_formOn 3 = .ok (.aload_n 0, 1) := by decide +kernel
theorem dX11_formOn_4 : decode cX11_formOn 4 = .ok (.getfield 156, 3) := by decide +kernel
theorem dX11_formOn_7 : decode cX11_formOn 7 = .ok (.lconst 0, 1) := by decide +kernel
theorem dX11_formOn_8 : decode cX11_formOn 8 = .ok (.lcmp, 1) := by decide +kernel
theorem dX11_formOn_9 : decode cX11_formOn 9 = .ok (.ifCond .ge 11, 3) := by decide +kernel
theorem dX11_formOn_12 : decode cX11_formOn 12 = .ok (.aload_n 0, 1) := by decide +kernel
theorem dX11_formOn_13 : decode cX11_formOn 13 = .ok (.getfield 156, 3) := by decide +kernel
theorem dX11_formOn_16 : decode cX11_formOn 16 = .ok (.lneg, 1) := by decide +kernel
theorem dX11_formOn_17 : decode cX11_formOn 17 = .ok (.goto 7, 3) := by decide +kernel
theorem dX11_formOn_20 : decode cX11_formOn 20 = .ok (.aload_n 0, 1) := by decide +kernel
theorem dX11_formOn_21 : decode cX11_formOn 21 = .ok (.getfield 156, 3) := by decide +kernel
theorem dX11_formOn_24 : decode cX11_formOn 24 = .ok (.lmul, 1) := by decide +kernel
theorem dX11_formOn_25 : decode cX11_formOn 25 = .ok (.lstore_n 1, 1) := by decide +kernel
theorem dX11_formOn_26 : decode cX11_formOn 26 = .ok (.aload_n 0, 1) := by decide +kernel
theorem dX11_formOn_27 : decode cX11_formOn 27 = .ok (.getfield 166, 3) := by decide +kernel
theorem dX11_formOn_30 : decode cX11_formOn 30 = .ok (.aload_n 0, 1) := by decide +kernel
theorem dX11_formOn_31 : decode cX11_formOn 31 = .ok (.getfield 153, 3) := by decide +kernel
theorem dX11_formOn_34 : decode cX11_formOn 34 = .ok (.ladd, 1) := by decide +kernel
theorem dX11_formOn_35 : decode cX11_formOn 35 = .ok (.lload_n 1, 1) := by decide +kernel
theorem dX11_formOn_36 : decode cX11_formOn 36 = .ok (.lrem, 1) := by decide +kernel
theorem dX11_formOn_37 : decode cX11_formOn 37 = .ok (.lstore_n 3, 1) := by decide +kernel
theorem dX11_formOn_38 : decode cX11_formOn 38 = .ok (.lload_n 3, 1) := by decide +kernel
theorem dX11_formOn_39 : decode cX11_formOn 39 = .ok (.lconst 0, 1) := by decide +kernel
theorem dX11_formOn_40 : decode cX11_formOn 40 = .ok (.lcmp, 1) := by decide +kernel
theorem dX11_formOn_41 : decode cX11_formOn 41 = .ok (.ifCond .ge 7, 3) := by decide +kernel
theorem dX11_formOn_44 : decode cX11_formOn 44 = .ok (.lload_n 3, 1) := by decide +kernel
theorem dX11_formOn_45 : decode cX11_formOn 45 = .ok (.lload_n 1, 1) := by decide +kernel
theorem dX11_formOn_46 : decode cX11_formOn 46 = .ok (.ladd, 1) := by decide +kernel
theorem dX11_formOn_47 : decode cX11_formOn 47 = .ok (.lstore_n 3, 1) := by decide +kernel
theorem dX11_formOn_48 : decode cX11_formOn 48 = .ok (.aload_n 0, 1) := by decide +kernel
theorem dX11_formOn_49 : decode cX11_formOn 49 = .ok (.getfield 166, 3) := by decide +kernel
theorem dX11_formOn_52 : decode cX11_formOn 52 = .ok (.lload_n 3, 1) := by decide +kernel
theorem dX11_formOn_53 : decode cX11_formOn 53 = .ok (.lsub, 1) := by decide +kernel
theorem dX11_formOn_54 : decode cX11_formOn 54 = .ok (.lstore 5, 2) := by decide +kernel
theorem dX11_formOn_56 : decode cX11_formOn 56 = .ok (.lload 5, 2) := by decide +kernel
theorem dX11_formOn_58 : decode cX11_formOn 58 = .ok (.lload 5, 2) := by decide +kernel
theorem dX11_formOn_60 : decode cX11_formOn 60 = .ok (.lmul, 1) := by decide +kernel
theorem dX11_formOn_61 : decode cX11_formOn 61 = .ok (.aload_n 0, 1) := by decide +kernel
theorem dX11_formOn_62 : decode cX11_formOn 62 = .ok (.getfield 163, 3) := by decide +kernel
theorem dX11_formOn_65 : decode cX11_formOn 65 = .ok (.lsub, 1) := by decide +kernel
theorem dX11_formOn_66 : decode cX11_formOn 66 = .ok (.ldc2_w 161, 3) := by decide +kernel
theorem dX11_formOn_69 : decode cX11_formOn 69 = .ok (.aload_n 0, 1) := by decide +kernel
theorem dX11_formOn_70 : decode cX11_formOn 70 = .ok (.getfield 156, 3) := by decide +kernel
theorem dX11_formOn_73 : decode cX11_formOn 73 = .ok (.lmul, 1) := by decide +kernel
theorem dX11_formOn_74 : decode cX11_formOn 74 = .ok (.ldiv, 1) := by decide +kernel
theorem dX11_formOn_75 : decode cX11_formOn 75 = .ok (.lstore 7, 2) := by decide +kernel
theorem dX11_formOn_77 : decode cX11_formOn 77 = .ok (.aload_n 0, 1) := by decide +kernel
theorem dX11_formOn_78 : decode cX11_formOn 78 = .ok (.aload_n 0, 1) := by decide +kernel
theorem dX11_formOn_79 : decode cX11_formOn 79 = .ok (.getfield 156, 3) := by decide +kernel
theorem dX11_formOn_82 : decode cX11_formOn 82 = .ok (.putfield 147, 3) := by decide +kernel
theorem dX11_formOn_85 : decode cX11_formOn 85 = .ok (.aload_n 0, 1) := by decide +kernel
theorem dX11_formOn_86 : decode cX11_formOn 86 = .ok (.lload 5, 2) := by decide +kernel
theorem dX11_formOn_88 : decode cX11_formOn 88 = .ok (.putfield 153, 3) := by decide +kernel
theorem dX11_formOn_91 : decode cX11_formOn 91 = .ok (.aload_n 0, 1) := by decide +kernel
theorem dX11_formOn_92 : decode cX11_formOn 92 = .ok (.lload 7, 2) := by decide +kernel
theorem dX11_formOn_94 : decode cX11_formOn 94 = .ok (.putfield 156, 3) := by decide +kernel
theorem dX11_formOn_97 : decode cX11_formOn 97 = .ok (.return_, 1) := by decide +kernel
theorem dX11_laysRound_0 : decode cX11_laysRound 0 = .ok (.aload_n 0, 1) := by decide +kernel
theorem dX11_laysRound_1 : decode cX11_laysRound 1 = .ok (.getfield 147, 3) := by decide +kernel
theorem dX11_laysRound_4 : decode cX11_laysRound 4 = .ok (.lstore_n 1, 1) := by decide +kernel
theorem dX11_laysRound_5 : decode cX11_laysRound 5 = .ok (.aload_n 0, 1) := by decide +kernel
theorem dX11_laysRound_6 : decode cX11_laysRound 6 = .ok (.getfield 153, 3) := by decide +kernel
theorem dX11_laysRound_9 : decode cX11_laysRound 9 = .ok (.lstore_n 3, 1) := by decide +kernel
theorem dX11_laysRound_10 : decode cX11_laysRound 10 = .ok (.aload_n 0, 1) := by decide +kernel
theorem dX11_laysRound_11 : decode cX11_laysRound 11 = .ok (.getfield 156, 3) := by decide +kernel
theorem dX11_laysRound_14 : decode cX11_laysRound 14 = .ok (.lstore 5, 2) := by decide +kernel
theorem dX11_laysRound_16 : decode cX11_laysRound 16 = .ok (.aload_n 0, 1) := by decide +kernel
theorem dX11_laysRound_17 : decode cX11_laysRound 17 = .ok (.getfield 147, 3) := by decide +kernel
theorem dX11_laysRound_20 : decode cX11_laysRound 20 = .ok (.lstore 7, 2) := by decide +kernel
theorem dX11_laysRound_22 : decode cX11_laysRound 22 = .ok (.aload_n 0, 1) := by decide +kernel
theorem dX11_laysRound_23 : decode cX11_laysRound 23 = .ok (.getfield 153, 3) := by decide +kernel
theorem dX11_laysRound_26 : decode cX11_laysRound 26 = .ok (.lstore 9, 2) := by decide +kernel
theorem dX11_laysRound_28 : decode cX11_laysRound 28 = .ok (.aload_n 0, 1) := by decide +kernel
theorem dX11_laysRound_29 : decode cX11_laysRound 29 = .ok (.getfield 156, 3) := by decide +kernel
theorem dX11_laysRound_32 : decode cX11_laysRound 32 = .ok (.lstore 11, 2) := by decide +kernel
theorem dX11_laysRound_34 : decode cX11_laysRound 34 = .ok (.aload_n 0, 1) := by decide +kernel
theorem dX11_laysRound_35 : decode cX11_laysRound 35 = .ok (.lload_n 1, 1) := by decide +kernel
theorem dX11_laysRound_36 : decode cX11_laysRound 36 = .ok (.putfield 147, 3) := by decide +kernel
theorem dX11_laysRound_39 : decode cX11_laysRound 39 = .ok (.aload_n 0, 1) := by decide +kernel
theorem dX11_laysRound_40 : decode cX11_laysRound 40 = .ok (.lload_n 3, 1) := by decide +kernel
theorem dX11_laysRound_41 : decode cX11_laysRound 41 = .ok (.putfield 153, 3) := by decide +kernel
theorem dX11_laysRound_44 : decode cX11_laysRound 44 = .ok (.aload_n 0, 1) := by decide +kernel
theorem dX11_laysRound_45 : decode cX11_laysRound 45 = .ok (.lload 5, 2) := by decide +kernel
theorem dX11_laysRound_47 : decode cX11_laysRound 47 = .ok (.putfield 156, 3) := by decide +kernel
theorem dX11_laysRound_50 : decode cX11_laysRound 50 = .ok (.aload_n 0, 1) := by decide +kernel
theorem dX11_laysRound_51 : decode cX11_laysRound 51 = .ok (.invokevirtual 183, 3) := by decide +kernel
theorem dX11_laysRound_54 : decode cX11_laysRound 54 = .ok (.aload_n 0, 1) := by decide +kernel
theorem dX11_laysRound_55 : decode cX11_laysRound 55 = .ok (.getfield 147, 3) := by decide +kernel
theorem dX11_laysRound_58 : decode cX11_laysRound 58 = .ok (.lstore_n 1, 1) := by decide +kernel
theorem dX11_laysRound_59 : decode cX11_laysRound 59 = .ok (.aload_n 0, 1) := by decide +kernel
theorem dX11_laysRound_60 : decode cX11_laysRound 60 = .ok (.getfield 153, 3) := by decide +kernel
theorem dX11_laysRound_63 : decode cX11_laysRound 63 = .ok (.lstore_n 3, 1) := by decide +kernel
theorem dX11_laysRound_64 : decode cX11_laysRound 64 = .ok (.aload_n 0, 1) := by decide +kernel
theorem dX11_laysRound_65 : decode cX11_laysRound 65 = .ok (.getfield 156, 3) := by decide +kernel
theorem dX11_laysRound_68 : decode cX11_laysRound 68 = .ok (.lstore 5, 2) := by decide +kernel
theorem dX11_laysRound_70 : decode cX11_laysRound 70 = .ok (.aload_n 0, 1) := by decide +kernel
theorem dX11_laysRound_71 : decode cX11_laysRound 71 = .ok (.lload 7, 2) := by decide +kernel
theorem dX11_laysRound_73 : decode cX11_laysRound 73 = .ok (.putfield 147, 3) := by decide +kernel
theorem dX11_laysRound_76 : decode cX11_laysRound 76 = .ok (.aload_n 0, 1) := by decide +kernel
theorem dX11_laysRound_77 : decode cX11_laysRound 77 = .ok (.lload 9, 2) := by decide +kernel
theorem dX11_laysRound_79 : decode cX11_laysRound 79 = .ok (.putfield 153, 3) := by decide +kernel
theorem dX11_laysRound_82 : decode cX11_laysRound 82 = .ok (.aload_n 0, 1) := by decide +kernel
theorem dX11_laysRound_83 : decode cX11_laysRound 83 = .ok (.lload 11, 2) := by decide +kernel
theorem dX11_laysRound_85 : decode cX11_laysRound 85 = .ok (.putfield 156, 3) := by decide +kernel
theorem dX11_laysRound_88 : decode cX11_laysRound 88 = .ok (.aload_n 0, 1) := by decide +kernel
theorem dX11_laysRound_89 : decode cX11_laysRound 89 = .ok (.invokevirtual 183, 3) := by decide +kernel
theorem dX11_laysRound_92 : decode cX11_laysRound 92 = .ok (.aload_n 0, 1) := by decide +kernel
theorem dX11_laysRound_93 : decode cX11_laysRound 93 = .ok (.invokevirtual 183, 3) := by decide +kernel
theorem dX11_laysRound_96 : decode cX11_laysRound 96 = .ok (.aload_n 0, 1) := by decide +kernel
theorem dX11_laysRound_97 : decode cX11_laysRound 97 = .ok (.getfield 147, 3) := by decide +kernel
theorem dX11_laysRound_100 : decode cX11_laysRound 100 = .ok (.lload_n 1, 1) := by decide +kernel
theorem dX11_laysRound_101 : decode cX11_laysRound 101 = .ok (.lcmp, 1) := by decide +kernel
theorem dX11_laysRound_102 : decode cX11_laysRound 102 = .ok (.ifCond .ne (-86), 3) := by decide +kernel
theorem dX11_laysRound_105 : decode cX11_laysRound 105 = .ok (.aload_n 0, 1) := by decide +kernel
theorem dX11_laysRound_106 : decode cX11_laysRound 106 = .ok (.getfield 153, 3) := by decide +kernel
theorem dX11_laysRound_109 : decode cX11_laysRound 109 = .ok (.lload_n 3, 1) := by decide +kernel
theorem dX11_laysRound_110 : decode cX11_laysRound 110 = .ok (.lcmp, 1) := by decide +kernel
theorem dX11_laysRound_111 : decode cX11_laysRound 111 = .ok (.ifCond .ne (-95), 3) := by decide +kernel
theorem dX11_laysRound_114 : decode cX11_laysRound 114 = .ok (.aload_n 0, 1) := by decide +kernel
theorem dX11_laysRound_115 : decode cX11_laysRound 115 = .ok (.getfield 156, 3) := by decide +kernel
theorem dX11_laysRound_118 : decode cX11_laysRound 118 = .ok (.lload 5, 2) := by decide +kernel
theorem dX11_laysRound_120 : decode cX11_laysRound 120 = .ok (.lcmp, 1) := by decide +kernel
theorem dX11_laysRound_121 : decode cX11_laysRound 121 = .ok (.ifCond .ne (-105), 3) := by decide +kernel
theorem dX11_laysRound_124 : decode cX11_laysRound 124 = .ok (.iconst 0, 1) := by decide +kernel
theorem dX11_laysRound_125 : decode cX11_laysRound 125 = .ok (.istore 7, 2) := by decide +kernel
theorem dX11_laysRound_127 : decode cX11_laysRound 127 = .ok (.aload_n 0, 1) := by decide +kernel
theorem dX11_laysRound_128 : decode cX11_laysRound 128 = .ok (.lconst 0, 1) := by decide +kernel
theorem dX11_laysRound_129 : decode cX11_laysRound 129 = .ok (.putfield 186, 3) := by decide +kernel
theorem dX11_laysRound_132 : decode cX11_laysRound 132 = .ok (.aload_n 0, 1) := by decide +kernel
theorem dX11_laysRound_133 : decode cX11_laysRound 133 = .ok (.getfield 147, 3) := by decide +kernel
theorem dX11_laysRound_136 : decode cX11_laysRound 136 = .ok (.lconst 0, 1) := by decide +kernel
theorem dX11_laysRound_137 : decode cX11_laysRound 137 = .ok (.lcmp, 1) := by decide +kernel
theorem dX11_laysRound_138 : decode cX11_laysRound 138 = .ok (.ifCond .ge 11, 3) := by decide +kernel
theorem dX11_laysRound_141 : decode cX11_laysRound 141 = .ok (.aload_n 0, 1) := by decide +kernel
theorem dX11_laysRound_142 : decode cX11_laysRound 142 = .ok (.getfield 147, 3) := by decide +kernel
theorem dX11_laysRound_145 : decode cX11_laysRound 145 = .ok (.lneg, 1) := by decide +kernel
theorem dX11_laysRound_146 : decode cX11_laysRound 146 = .ok (.goto 7, 3) := by decide +kernel
theorem dX11_laysRound_149 : decode cX11_laysRound 149 = .ok (.aload_n 0, 1) := by decide +kernel
theorem dX11_laysRound_150 : decode cX11_laysRound 150 = .ok (.getfield 147, 3) := by decide +kernel
theorem dX11_laysRound_153 : decode cX11_laysRound 153 = .ok (.lstore 8, 2) := by decide +kernel
theorem dX11_laysRound_155 : decode cX11_laysRound 155 = .ok (.iload 7, 2) := by decide +kernel
theorem dX11_laysRound_157 : decode cX11_laysRound 157 = .ok (.ifCond .eq 13, 3) := by decide +kernel
theorem dX11_laysRound_160 : decode cX11_laysRound 160 = .ok (.lload 8, 2) := by decide +kernel
theorem dX11_laysRound_162 : decode cX11_laysRound 162 = .ok (.aload_n 0, 1) := by decide +kernel
theorem dX11_laysRound_163 : decode cX11_laysRound 163 = .ok (.getfield 186, 3) := by decide +kernel
theorem dX11_laysRound_166 : decode cX11_laysRound 166 = .ok (.lcmp, 1) := by decide +kernel
theorem dX11_laysRound_167 : decode cX11_laysRound 167 = .ok (.ifCond .ge 9, 3) := by decide +kernel
theorem dX11_laysRound_170 : decode cX11_laysRound 170 = .ok (.aload_n 0, 1) := by decide +kernel
theorem dX11_laysRound_171 : decode cX11_laysRound 171 = .ok (.lload 8, 2) := by decide +kernel
theorem dX11_laysRound_173 : decode cX11_laysRound 173 = .ok (.putfield 186, 3) := by decide +kernel
theorem dX11_laysRound_176 : decode cX11_laysRound 176 = .ok (.iinc 7 1, 3) := by decide +kernel
theorem dX11_laysRound_179 : decode cX11_laysRound 179 = .ok (.aload_n 0, 1) := by decide +kernel
theorem dX11_laysRound_180 : decode cX11_laysRound 180 = .ok (.invokevirtual 183, 3) := by decide +kernel
theorem dX11_laysRound_183 : decode cX11_laysRound 183 = .ok (.aload_n 0, 1) := by decide +kernel
theorem dX11_laysRound_184 : decode cX11_laysRound 184 = .ok (.getfield 147, 3) := by decide +kernel
theorem dX11_laysRound_187 : decode cX11_laysRound 187 = .ok (.lload_n 1, 1) := by decide +kernel
theorem dX11_laysRound_188 : decode cX11_laysRound 188 = .ok (.lcmp, 1) := by decide +kernel
theorem dX11_laysRound_189 : decode cX11_laysRound 189 = .ok (.ifCond .ne (-57), 3) := by decide +kernel
theorem dX11_laysRound_192 : decode cX11_laysRound 192 = .ok (.aload_n 0, 1) := by decide +kernel
theorem dX11_laysRound_193 : decode cX11_laysRound 193 = .ok (.getfield 153, 3) := by decide +kernel
theorem dX11_laysRound_196 : decode cX11_laysRound 196 = .ok (.lload_n 3, 1) := by decide +kernel
theorem dX11_laysRound_197 : decode cX11_laysRound 197 = .ok (.lcmp, 1) := by decide +kernel
theorem dX11_laysRound_198 : decode cX11_laysRound 198 = .ok (.ifCond .ne (-66), 3) := by decide +kernel
theorem dX11_laysRound_201 : decode cX11_laysRound 201 = .ok (.aload_n 0, 1) := by decide +kernel
theorem dX11_laysRound_202 : decode cX11_laysRound 202 = .ok (.getfield 156, 3) := by decide +kernel
theorem dX11_laysRound_205 : decode cX11_laysRound 205 = .ok (.lload 5, 2) := by decide +kernel
theorem dX11_laysRound_207 : decode cX11_laysRound 207 = .ok (.lcmp, 1) := by decide +kernel
theorem dX11_laysRound_208 : decode cX11_laysRound 208 = .ok (.ifCond .ne (-76), 3) := by decide +kernel
theorem dX11_laysRound_211 : decode cX11_laysRound 211 = .ok (.iload 7, 2) := by decide +kernel
theorem dX11_laysRound_213 : decode cX11_laysRound 213 = .ok (.ireturn, 1) := by decide +kernel
theorem dX11_round_0 : decode cX11_round 0 = .ok (.aload_n 0, 1) := by decide +kernel
theorem dX11_round_1 : decode cX11_round 1 = .ok (.iconst 0, 1) := by decide +kernel
theorem dX11_round_2 : decode cX11_round 2 = .ok (.putfield 1, 3) := by decide +kernel
theorem dX11_round_5 : decode cX11_round 5 = .ok (.aload_n 0, 1) := by decide +kernel
theorem dX11_round_6 : decode cX11_round 6 = .ok (.invokevirtual 173, 3) := by decide +kernel
theorem dX11_round_9 : decode cX11_round 9 = .ok (.ifCond .eq 10, 3) := by decide +kernel
theorem dX11_round_12 : decode cX11_round 12 = .ok (.aload_n 0, 1) := by decide +kernel
theorem dX11_round_13 : decode cX11_round 13 = .ok (.invokevirtual 189, 3) := by decide +kernel
theorem dX11_round_16 : decode cX11_round 16 = .ok (.goto 4, 3) := by decide +kernel
theorem dX11_round_19 : decode cX11_round 19 = .ok (.iconst (-1), 1) := by decide +kernel
theorem dX11_round_20 : decode cX11_round 20 = .ok (.ireturn, 1) := by decide +kernel
theorem dX11_least_0 : decode cX11_least 0 = .ok (.aload_n 0, 1) := by decide +kernel
theorem dX11_least_1 : decode cX11_least 1 = .ok (.iconst 0, 1) := by decide +kernel
theorem dX11_least_2 : decode cX11_least 2 = .ok (.putfield 1, 3) := by decide +kernel
theorem dX11_least_5 : decode cX11_least 5 = .ok (.aload_n 0, 1) := by decide +kernel
theorem dX11_least_6 : decode cX11_least 6 = .ok (.invokevirtual 173, 3) := by decide +kernel
theorem dX11_least_9 : decode cX11_least 9 = .ok (.ifCond .ne 7, 3) := by decide +kernel
theorem dX11_least_12 : decode cX11_least 12 = .ok (.ldc2_w 192, 3) := by decide +kernel
theorem dX11_least_15 : decode cX11_least 15 = .ok (.lreturn, 1) := by decide +kernel
theorem dX11_least_16 : decode cX11_least 16 = .ok (.aload_n 0, 1) := by decide +kernel
theorem dX11_least_17 : decode cX11_least 17 = .ok (.invokevirtual 189, 3) := by decide +kernel
theorem dX11_least_20 : decode cX11_least 20 = .ok (.pop, 1) := by decide +kernel
theorem dX11_least_21 : decode cX11_least 21 = .ok (.aload_n 0, 1) := by decide +kernel
theorem dX11_least_22 : decode cX11_least 22 = .ok (.getfield 186, 3) := by decide +kernel
theorem dX11_least_25 : decode cX11_least 25 = .ok (.lreturn, 1) := by decide +kernel
theorem dX11_comes_0 : decode cX11_comes 0 = .ok (.iconst 0, 1) := by decide +kernel
theorem dX11_comes_1 : decode cX11_comes 1 = .ok (.istore_n 3, 1) := by decide +kernel
theorem dX11_comes_2 : decode cX11_comes 2 = .ok (.iload_n 3, 1) := by decide +kernel
theorem dX11_comes_3 : decode cX11_comes 3 = .ok (.aload_n 0, 1) := by decide +kernel
theorem dX11_comes_4 : decode cX11_comes 4 = .ok (.getfield 194, 3) := by decide +kernel
theorem dX11_comes_7 : decode cX11_comes 7 = .ok (.if_icmp .ge 20, 3) := by decide +kernel
theorem dX11_comes_10 : decode cX11_comes 10 = .ok (.aload_n 0, 1) := by decide +kernel
theorem dX11_comes_11 : decode cX11_comes 11 = .ok (.getfield 50, 3) := by decide +kernel
theorem dX11_comes_14 : decode cX11_comes 14 = .ok (.iload_n 3, 1) := by decide +kernel
theorem dX11_comes_15 : decode cX11_comes 15 = .ok (.laload, 1) := by decide +kernel
theorem dX11_comes_16 : decode cX11_comes 16 = .ok (.lload_n 1, 1) := by decide +kernel
theorem dX11_comes_17 : decode cX11_comes 17 = .ok (.lcmp, 1) := by decide +kernel
theorem dX11_comes_18 : decode cX11_comes 18 = .ok (.ifCond .ge 9, 3) := by decide +kernel
theorem dX11_comes_21 : decode cX11_comes 21 = .ok (.iinc 3 1, 3) := by decide +kernel
theorem dX11_comes_24 : decode cX11_comes 24 = .ok (.goto (-22), 3) := by decide +kernel
theorem dX11_comes_27 : decode cX11_comes 27 = .ok (.iload_n 3, 1) := by decide +kernel
theorem dX11_comes_28 : decode cX11_comes 28 = .ok (.aload_n 0, 1) := by decide +kernel
theorem dX11_comes_29 : decode cX11_comes 29 = .ok (.getfield 194, 3) := by decide +kernel
theorem dX11_comes_32 : decode cX11_comes 32 = .ok (.if_icmp .ge 15, 3) := by decide +kernel
theorem dX11_comes_35 : decode cX11_comes 35 = .ok (.aload_n 0, 1) := by decide +kernel
theorem dX11_comes_36 : decode cX11_comes 36 = .ok (.getfield 50, 3) := by decide +kernel
theorem dX11_comes_39 : decode cX11_comes 39 = .ok (.iload_n 3, 1) := by decide +kernel
theorem dX11_comes_40 : decode cX11_comes 40 = .ok (.laload, 1) := by decide +kernel
theorem dX11_comes_41 : decode cX11_comes 41 = .ok (.lload_n 1, 1) := by decide +kernel
theorem dX11_comes_42 : decode cX11_comes 42 = .ok (.lcmp, 1) := by decide +kernel
theorem dX11_comes_43 : decode cX11_comes 43 = .ok (.ifCond .ne 4, 3) := by decide +kernel
theorem dX11_comes_46 : decode cX11_comes 46 = .ok (.return_, 1) := by decide +kernel
theorem dX11_comes_47 : decode cX11_comes 47 = .ok (.aload_n 0, 1) := by decide +kernel
theorem dX11_comes_48 : decode cX11_comes 48 = .ok (.getfield 194, 3) := by decide +kernel
theorem dX11_comes_51 : decode cX11_comes 51 = .ok (.istore 4, 2) := by decide +kernel
theorem dX11_comes_53 : decode cX11_comes 53 = .ok (.iload 4, 2) := by decide +kernel
theorem dX11_comes_55 : decode cX11_comes 55 = .ok (.iload_n 3, 1) := by decide +kernel
theorem dX11_comes_56 : decode cX11_comes 56 = .ok (.if_icmp .le 25, 3) := by decide +kernel
theorem dX11_comes_59 : decode cX11_comes 59 = .ok (.aload_n 0, 1) := by decide +kernel
theorem dX11_comes_60 : decode cX11_comes 60 = .ok (.getfield 50, 3) := by decide +kernel
theorem dX11_comes_63 : decode cX11_comes 63 = .ok (.iload 4, 2) := by decide +kernel
theorem dX11_comes_65 : decode cX11_comes 65 = .ok (.aload_n 0, 1) := by decide +kernel
theorem dX11_comes_66 : decode cX11_comes 66 = .ok (.getfield 50, 3) := by decide +kernel
theorem dX11_comes_69 : decode cX11_comes 69 = .ok (.iload 4, 2) := by decide +kernel
theorem dX11_comes_71 : decode cX11_comes 71 = .ok (.iconst 1, 1) := by decide +kernel
theorem dX11_comes_72 : decode cX11_comes 72 = .ok (.isub, 1) := by decide +kernel
theorem dX11_comes_73 : decode cX11_comes 73 = .ok (.laload, 1) := by decide +kernel
theorem dX11_comes_74 : decode cX11_comes 74 = .ok (.lastore, 1) := by decide +kernel
theorem dX11_comes_75 : decode cX11_comes 75 = .ok (.iinc 4 (-1), 3) := by decide +kernel
theorem dX11_comes_78 : decode cX11_comes 78 = .ok (.goto (-25), 3) := by decide +kernel
theorem dX11_comes_81 : decode cX11_comes 81 = .ok (.aload_n 0, 1) := by decide +kernel
theorem dX11_comes_82 : decode cX11_comes 82 = .ok (.getfield 50, 3) := by decide +kernel
theorem dX11_comes_85 : decode cX11_comes 85 = .ok (.iload_n 3, 1) := by decide +kernel
theorem dX11_comes_86 : decode cX11_comes 86 = .ok (.lload_n 1, 1) := by decide +kernel
theorem dX11_comes_87 : decode cX11_comes 87 = .ok (.lastore, 1) := by decide +kernel
theorem dX11_comes_88 : decode cX11_comes 88 = .ok (.aload_n 0, 1) := by decide +kernel
theorem dX11_comes_89 : decode cX11_comes 89 = .ok (.dup, 1) := by decide +kernel
theorem dX11_comes_90 : decode cX11_comes 90 = .ok (.getfield 194, 3) := by decide +kernel
theorem dX11_comes_93 : decode cX11_comes 93 = .ok (.iconst 1, 1) := by decide +kernel
theorem dX11_comes_94 : decode cX11_comes 94 = .ok (.iadd, 1) := by decide +kernel
theorem dX11_comes_95 : decode cX11_comes 95 = .ok (.putfield 194, 3) := by decide +kernel
theorem dX11_comes_98 : decode cX11_comes 98 = .ok (.return_, 1) := by decide +kernel
theorem dX11_grows_0 : decode cX11_grows 0 = .ok (.aload_n 0, 1) := by decide +kernel
theorem dX11_grows_1 : decode cX11_grows 1 = .ok (.lload 5, 2) := by decide +kernel
theorem dX11_grows_3 : decode cX11_grows 3 = .ok (.invokevirtual 197, 3) := by decide +kernel
theorem dX11_grows_6 : decode cX11_grows 6 = .ok (.lload 5, 2) := by decide +kernel
theorem dX11_grows_8 : decode cX11_grows 8 = .ok (.aload_n 0, 1) := by decide +kernel
theorem dX11_grows_9 : decode cX11_grows 9 = .ok (.getfield 201, 3) := by decide +kernel
theorem dX11_grows_12 : decode cX11_grows 12 = .ok (.lcmp, 1) := by decide +kernel
theorem dX11_grows_13 : decode cX11_grows 13 = .ok (.ifCond .ne 39, 3) := by decide +kernel
theorem dX11_grows_16 : decode cX11_grows 16 = .ok (.aload_n 0, 1) := by decide +kernel
theorem dX11_grows_17 : decode cX11_grows 17 = .ok (.getfield 204, 3) := by decide +kernel
theorem dX11_grows_20 : decode cX11_grows 20 = .ok (.ifCond .eq 12, 3) := by decide +kernel
theorem dX11_grows_23 : decode cX11_grows 23 = .ok (.lload_n 1, 1) := by decide +kernel
theorem dX11_grows_24 : decode cX11_grows 24 = .ok (.aload_n 0, 1) := by decide +kernel
theorem dX11_grows_25 : decode cX11_grows 25 = .ok (.getfield 207, 3) := by decide +kernel
theorem dX11_grows_28 : decode cX11_grows 28 = .ok (.lcmp, 1) := by decide +kernel
theorem dX11_grows_29 : decode cX11_grows 29 = .ok (.ifCond .ge 13, 3) := by decide +kernel
theorem dX11_grows_32 : decode cX11_grows 32 = .ok (.aload_n 0, 1) := by decide +kernel
theorem dX11_grows_33 : decode cX11_grows 33 = .ok (.lload_n 1, 1) := by decide +kernel
theorem dX11_grows_34 : decode cX11_grows 34 = .ok (.putfield 207, 3) := by decide +kernel
theorem dX11_grows_37 : decode cX11_grows 37 = .ok (.aload_n 0, 1) := by decide +kernel
theorem dX11_grows_38 : decode cX11_grows 38 = .ok (.lload_n 3, 1) := by decide +kernel
theorem dX11_grows_39 : decode cX11_grows 39 = .ok (.putfield 210, 3) := by decide +kernel
theorem dX11_grows_42 : decode cX11_grows 42 = .ok (.aload_n 0, 1) := by decide +kernel
theorem dX11_grows_43 : decode cX11_grows 43 = .ok (.dup, 1) := by decide +kernel
theorem dX11_grows_44 : decode cX11_grows 44 = .ok (.getfield 204, 3) := by decide +kernel
theorem dX11_grows_47 : decode cX11_grows 47 = .ok (.iconst 1, 1) := by decide +kernel
theorem dX11_grows_48 : decode cX11_grows 48 = .ok (.iadd, 1) := by decide +kernel
theorem dX11_grows_49 : decode cX11_grows 49 = .ok (.putfield 204, 3) := by decide +kernel
theorem dX11_grows_52 : decode cX11_grows 52 = .ok (.lload 5, 2) := by decide +kernel
theorem dX11_grows_54 : decode cX11_grows 54 = .ok (.ldc2_w 213, 3) := by decide +kernel
theorem dX11_grows_57 : decode cX11_grows 57 = .ok (.lload_n 3, 1) := by decide +kernel
theorem dX11_grows_58 : decode cX11_grows 58 = .ok (.ladd, 1) := by decide +kernel
theorem dX11_grows_59 : decode cX11_grows 59 = .ok (.ldc2_w 151, 3) := by decide +kernel
theorem dX11_grows_62 : decode cX11_grows 62 = .ok (.lload_n 1, 1) := by decide +kernel
theorem dX11_grows_63 : decode cX11_grows 63 = .ok (.lmul, 1) := by decide +kernel
theorem dX11_grows_64 : decode cX11_grows 64 = .ok (.ldiv, 1) := by decide +kernel
theorem dX11_grows_65 : decode cX11_grows 65 = .ok (.lcmp, 1) := by decide +kernel
theorem dX11_grows_66 : decode cX11_grows 66 = .ok (.ifCond .gt 20, 3) := by decide +kernel
theorem dX11_grows_69 : decode cX11_grows 69 = .ok (.aload_n 0, 1) := by decide +kernel
theorem dX11_grows_70 : decode cX11_grows 70 = .ok (.lload_n 1, 1) := by decide +kernel
theorem dX11_grows_71 : decode cX11_grows 71 = .ok (.lload 5, 2) := by decide +kernel
theorem dX11_grows_73 : decode cX11_grows 73 = .ok (.ldc2_w 151, 3) := by decide +kernel
theorem dX11_grows_76 : decode cX11_grows 76 = .ok (.lload_n 1, 1) := by decide +kernel
theorem dX11_grows_77 : decode cX11_grows 77 = .ok (.lmul, 1) := by decide +kernel
theorem dX11_grows_78 : decode cX11_grows 78 = .ok (.lload 5, 2) := by decide +kernel
theorem dX11_grows_80 : decode cX11_grows 80 = .ok (.lmul, 1) := by decide +kernel
theorem dX11_grows_81 : decode cX11_grows 81 = .ok (.lload_n 3, 1) := by decide +kernel
theorem dX11_grows_82 : decode cX11_grows 82 = .ok (.lsub, 1) := by decide +kernel
theorem dX11_grows_83 : decode cX11_grows 83 = .ok (.invokevirtual 215, 3) := by decide +kernel
theorem dX11_grows_86 : decode cX11_grows 86 = .ok (.lload 5, 2) := by decide +kernel
theorem dX11_grows_88 : decode cX11_grows 88 = .ok (.ldc2_w 213, 3) := by decide +kernel
theorem dX11_grows_91 : decode cX11_grows 91 = .ok (.lload_n 1, 1) := by decide +kernel
theorem dX11_grows_92 : decode cX11_grows 92 = .ok (.ladd, 1) := by decide +kernel
theorem dX11_grows_93 : decode cX11_grows 93 = .ok (.ldc2_w 151, 3) := by decide +kernel
theorem dX11_grows_96 : decode cX11_grows 96 = .ok (.lload_n 3, 1) := by decide +kernel
theorem dX11_grows_97 : decode cX11_grows 97 = .ok (.lmul, 1) := by decide +kernel
theorem dX11_grows_98 : decode cX11_grows 98 = .ok (.ldiv, 1) := by decide +kernel
theorem dX11_grows_99 : decode cX11_grows 99 = .ok (.lcmp, 1) := by decide +kernel
theorem dX11_grows_100 : decode cX11_grows 100 = .ok (.ifCond .gt 20, 3) := by decide +kernel
theorem dX11_grows_103 : decode cX11_grows 103 = .ok (.aload_n 0, 1) := by decide +kernel
theorem dX11_grows_104 : decode cX11_grows 104 = .ok (.lload_n 3, 1) := by decide +kernel
theorem dX11_grows_105 : decode cX11_grows 105 = .ok (.lload 5, 2) := by decide +kernel
theorem dX11_grows_107 : decode cX11_grows 107 = .ok (.ldc2_w 151, 3) := by decide +kernel
theorem dX11_grows_110 : decode cX11_grows 110 = .ok (.lload_n 3, 1) := by decide +kernel
theorem dX11_grows_111 : decode cX11_grows 111 = .ok (.lmul, 1) := by decide +kernel
theorem dX11_grows_112 : decode cX11_grows 112 = .ok (.lload 5, 2) := by decide +kernel
theorem dX11_grows_114 : decode cX11_grows 114 = .ok (.lmul, 1) := by decide +kernel
theorem dX11_grows_115 : decode cX11_grows 115 = .ok (.lload_n 1, 1) := by decide +kernel
theorem dX11_grows_116 : decode cX11_grows 116 = .ok (.lsub, 1) := by decide +kernel
theorem dX11_grows_117 : decode cX11_grows 117 = .ok (.invokevirtual 215, 3) := by decide +kernel
theorem dX11_grows_120 : decode cX11_grows 120 = .ok (.return_, 1) := by decide +kernel
theorem dX11_laysNumbers_0 : decode cX11_laysNumbers 0 = .ok (.aload_n 0, 1) := by decide +kernel
theorem dX11_laysNumbers_1 : decode cX11_laysNumbers 1 = .ok (.lload_n 1, 1) := by decide +kernel
theorem dX11_laysNumbers_2 : decode cX11_laysNumbers 2 = .ok (.putfield 201, 3) := by decide +kernel
theorem dX11_laysNumbers_5 : decode cX11_laysNumbers 5 = .ok (.aload_n 0, 1) := by decide +kernel
theorem dX11_laysNumbers_6 : decode cX11_laysNumbers 6 = .ok (.iconst 0, 1) := by decide +kernel
theorem dX11_laysNumbers_7 : decode cX11_laysNumbers 7 = .ok (.putfield 194, 3) := by decide +kernel
theorem dX11_laysNumbers_10 : decode cX11_laysNumbers 10 = .ok (.aload_n 0, 1) := by decide +kernel
theorem dX11_laysNumbers_11 : decode cX11_laysNumbers 11 = .ok (.iconst 0, 1) := by decide +kernel
theorem dX11_laysNumbers_12 : decode cX11_laysNumbers 12 = .ok (.putfield 204, 3) := by decide +kernel
theorem dX11_laysNumbers_15 : decode cX11_laysNumbers 15 = .ok (.aload_n 0, 1) := by decide +kernel
theorem dX11_laysNumbers_16 : decode cX11_laysNumbers 16 = .ok (.lconst 1, 1) := by decide +kernel
theorem dX11_laysNumbers_17 : decode cX11_laysNumbers 17 = .ok (.invokevirtual 197, 3) := by decide +kernel
theorem dX11_laysNumbers_20 : decode cX11_laysNumbers 20 = .ok (.aload_n 0, 1) := by decide +kernel
theorem dX11_laysNumbers_21 : decode cX11_laysNumbers 21 = .ok (.ldc2_w 127, 3) := by decide +kernel
theorem dX11_laysNumbers_24 : decode cX11_laysNumbers 24 = .ok (.invokevirtual 197, 3) := by decide +kernel
theorem dX11_laysNumbers_27 : decode cX11_laysNumbers 27 = .ok (.aload_n 0, 1) := by decide +kernel
theorem dX11_laysNumbers_28 : decode cX11_laysNumbers 28 = .ok (.lconst 1, 1) := by decide +kernel
theorem dX11_laysNumbers_29 : decode cX11_laysNumbers 29 = .ok (.ldc2_w 127, 3) := by decide +kernel
theorem dX11_laysNumbers_32 : decode cX11_laysNumbers 32 = .ok (.ldc2_w 129, 3) := by decide +kernel
theorem dX11_laysNumbers_35 : decode cX11_laysNumbers 35 = .ok (.invokevirtual 215, 3) := by decide +kernel
theorem dX11_laysNumbers_38 : decode cX11_laysNumbers 38 = .ok (.return_, 1) := by decide +kernel
theorem dX11_upTo_0 : decode cX11_upTo 0 = .ok (.aload_n 0, 1) := by decide +kernel
theorem dX11_upTo_1 : decode cX11_upTo 1 = .ok (.iconst 0, 1) := by decide +kernel
theorem dX11_upTo_2 : decode cX11_upTo 2 = .ok (.putfield 1, 3) := by decide +kernel
theorem dX11_upTo_5 : decode cX11_upTo 5 = .ok (.lload_n 1, 1) := by decide +kernel
theorem dX11_upTo_6 : decode cX11_upTo 6 = .ok (.lconst 1, 1) := by decide +kernel
theorem dX11_upTo_7 : decode cX11_upTo 7 = .ok (.ldc2_w 213, 3) := by decide +kernel
theorem dX11_upTo_10 : decode cX11_upTo 10 = .ok (.invokestatic 91, 3) := by decide +kernel
theorem dX11_upTo_13 : decode cX11_upTo 13 = .ok (.ifCond .ne 5, 3) := by decide +kernel
theorem dX11_upTo_16 : decode cX11_upTo 16 = .ok (.iconst (-1), 1) := by decide +kernel
theorem dX11_upTo_17 : decode cX11_upTo 17 = .ok (.ireturn, 1) := by decide +kernel
theorem dX11_upTo_18 : decode cX11_upTo 18 = .ok (.aload_n 0, 1) := by decide +kernel
theorem dX11_upTo_19 : decode cX11_upTo 19 = .ok (.lconst 0, 1) := by decide +kernel
theorem dX11_upTo_20 : decode cX11_upTo 20 = .ok (.invokevirtual 219, 3) := by decide +kernel
theorem dX11_upTo_23 : decode cX11_upTo 23 = .ok (.iconst 0, 1) := by decide +kernel
theorem dX11_upTo_24 : decode cX11_upTo 24 = .ok (.istore_n 3, 1) := by decide +kernel
theorem dX11_upTo_25 : decode cX11_upTo 25 = .ok (.iload_n 3, 1) := by decide +kernel
theorem dX11_upTo_26 : decode cX11_upTo 26 = .ok (.aload_n 0, 1) := by decide +kernel
theorem dX11_upTo_27 : decode cX11_upTo 27 = .ok (.getfield 194, 3) := by decide +kernel
theorem dX11_upTo_30 : decode cX11_upTo 30 = .ok (.if_icmp .ge 20, 3) := by decide +kernel
theorem dX11_upTo_33 : decode cX11_upTo 33 = .ok (.aload_n 0, 1) := by decide +kernel
theorem dX11_upTo_34 : decode cX11_upTo 34 = .ok (.getfield 50, 3) := by decide +kernel
theorem dX11_upTo_37 : decode cX11_upTo 37 = .ok (.iload_n 3, 1) := by decide +kernel
theorem dX11_upTo_38 : decode cX11_upTo 38 = .ok (.laload, 1) := by decide +kernel
theorem dX11_upTo_39 : decode cX11_upTo 39 = .ok (.lload_n 1, 1) := by decide +kernel
theorem dX11_upTo_40 : decode cX11_upTo 40 = .ok (.lcmp, 1) := by decide +kernel
theorem dX11_upTo_41 : decode cX11_upTo 41 = .ok (.ifCond .gt 9, 3) := by decide +kernel
theorem dX11_upTo_44 : decode cX11_upTo 44 = .ok (.iinc 3 1, 3) := by decide +kernel
theorem dX11_upTo_47 : decode cX11_upTo 47 = .ok (.goto (-22), 3) := by decide +kernel
theorem dX11_upTo_50 : decode cX11_upTo 50 = .ok (.iload_n 3, 1) := by decide +kernel
theorem dX11_upTo_51 : decode cX11_upTo 51 = .ok (.ireturn, 1) := by decide +kernel
theorem dX11_markov_0 : decode cX11_markov 0 = .ok (.aload_n 0, 1) := by decide +kernel
theorem dX11_markov_1 : decode cX11_markov 1 = .ok (.iconst 0, 1) := by decide +kernel
theorem dX11_markov_2 : decode cX11_markov 2 = .ok (.putfield 1, 3) := by decide +kernel
theorem dX11_markov_5 : decode cX11_markov 5 = .ok (.aload_n 0, 1) := by decide +kernel
theorem dX11_markov_6 : decode cX11_markov 6 = .ok (.lconst 0, 1) := by decide +kernel
theorem dX11_markov_7 : decode cX11_markov 7 = .ok (.invokevirtual 219, 3) := by decide +kernel
theorem dX11_markov_10 : decode cX11_markov 10 = .ok (.iload_n 1, 1) := by decide +kernel
theorem dX11_markov_11 : decode cX11_markov 11 = .ok (.i2l, 1) := by decide +kernel
theorem dX11_markov_12 : decode cX11_markov 12 = .ok (.lconst 0, 1) := by decide +kernel
theorem dX11_markov_13 : decode cX11_markov 13 = .ok (.aload_n 0, 1) := by decide +kernel
theorem dX11_markov_14 : decode cX11_markov 14 = .ok (.getfield 194, 3) := by decide +kernel
theorem dX11_markov_17 : decode cX11_markov 17 = .ok (.iconst 1, 1) := by decide +kernel
theorem dX11_markov_18 : decode cX11_markov 18 = .ok (.isub, 1) := by decide +kernel
theorem dX11_markov_19 : decode cX11_markov 19 = .ok (.i2l, 1) := by decide +kernel
theorem dX11_markov_20 : decode cX11_markov 20 = .ok (.invokestatic 91, 3) := by decide +kernel
theorem dX11_markov_23 : decode cX11_markov 23 = .ok (.ifCond .eq 12, 3) := by decide +kernel
theorem dX11_markov_26 : decode cX11_markov 26 = .ok (.aload_n 0, 1) := by decide +kernel
theorem dX11_markov_27 : decode cX11_markov 27 = .ok (.getfield 50, 3) := by decide +kernel
theorem dX11_markov_30 : decode cX11_markov 30 = .ok (.iload_n 1, 1) := by decide +kernel
theorem dX11_markov_31 : decode cX11_markov 31 = .ok (.laload, 1) := by decide +kernel
theorem dX11_markov_32 : decode cX11_markov 32 = .ok (.goto 6, 3) := by decide +kernel
theorem dX11_markov_35 : decode cX11_markov 35 = .ok (.ldc2_w 192, 3) := by decide +kernel
theorem dX11_markov_38 : decode cX11_markov 38 = .ok (.lreturn, 1) := by decide +kernel
theorem dX11_rank_0 : decode cX11_rank 0 = .ok (.aload_n 0, 1) := by decide +kernel
theorem dX11_rank_1 : decode cX11_rank 1 = .ok (.iconst 0, 1) := by decide +kernel
theorem dX11_rank_2 : decode cX11_rank 2 = .ok (.putfield 1, 3) := by decide +kernel
theorem dX11_rank_5 : decode cX11_rank 5 = .ok (.aload_n 0, 1) := by decide +kernel
theorem dX11_rank_6 : decode cX11_rank 6 = .ok (.lconst 0, 1) := by decide +kernel
theorem dX11_rank_7 : decode cX11_rank 7 = .ok (.invokevirtual 219, 3) := by decide +kernel
theorem dX11_rank_10 : decode cX11_rank 10 = .ok (.iconst 0, 1) := by decide +kernel
theorem dX11_rank_11 : decode cX11_rank 11 = .ok (.istore_n 3, 1) := by decide +kernel
theorem dX11_rank_12 : decode cX11_rank 12 = .ok (.iload_n 3, 1) := by decide +kernel
theorem dX11_rank_13 : decode cX11_rank 13 = .ok (.aload_n 0, 1) := by decide +kernel
theorem dX11_rank_14 : decode cX11_rank 14 = .ok (.getfield 194, 3) := by decide +kernel
theorem dX11_rank_17 : decode cX11_rank 17 = .ok (.if_icmp .ge 22, 3) := by decide +kernel
theorem dX11_rank_20 : decode cX11_rank 20 = .ok (.aload_n 0, 1) := by decide +kernel
theorem dX11_rank_21 : decode cX11_rank 21 = .ok (.getfield 50, 3) := by decide +kernel
theorem dX11_rank_24 : decode cX11_rank 24 = .ok (.iload_n 3, 1) := by decide +kernel
theorem dX11_rank_25 : decode cX11_rank 25 = .ok (.laload, 1) := by decide +kernel
theorem dX11_rank_26 : decode cX11_rank 26 = .ok (.lload_n 1, 1) := by decide +kernel
theorem dX11_rank_27 : decode cX11_rank 27 = .ok (.lcmp, 1) := by decide +kernel
theorem dX11_rank_28 : decode cX11_rank 28 = .ok (.ifCond .ne 5, 3) := by decide +kernel
theorem dX11_rank_31 : decode cX11_rank 31 = .ok (.iload_n 3, 1) := by decide +kernel
theorem dX11_rank_32 : decode cX11_rank 32 = .ok (.ireturn, 1) := by decide +kernel
theorem dX11_rank_33 : decode cX11_rank 33 = .ok (.iinc 3 1, 3) := by decide +kernel
theorem dX11_rank_36 : decode cX11_rank 36 = .ok (.goto (-24), 3) := by decide +kernel
theorem dX11_rank_39 : decode cX11_rank 39 = .ok (.iconst (-1), 1) := by decide +kernel
theorem dX11_rank_40 : decode cX11_rank 40 = .ok (.ireturn, 1) := by decide +kernel
theorem dX11_triples_0 : decode cX11_triples 0 = .ok (.aload_n 0, 1) := by decide +kernel
theorem dX11_triples_1 : decode cX11_triples 1 = .ok (.iconst 0, 1) := by decide +kernel
theorem dX11_triples_2 : decode cX11_triples 2 = .ok (.putfield 1, 3) := by decide +kernel
theorem dX11_triples_5 : decode cX11_triples 5 = .ok (.lload_n 1, 1) := by decide +kernel
theorem dX11_triples_6 : decode cX11_triples 6 = .ok (.ldc2_w 129, 3) := by decide +kernel
theorem dX11_triples_9 : decode cX11_triples 9 = .ok (.ldc2_w 213, 3) := by decide +kernel
theorem dX11_triples_12 : decode cX11_triples 12 = .ok (.invokestatic 91, 3) := by decide +kernel
theorem dX11_triples_15 : decode cX11_triples 15 = .ok (.ifCond .ne 5, 3) := by decide +kernel
theorem dX11_triples_18 : decode cX11_triples 18 = .ok (.iconst (-1), 1) := by decide +kernel
theorem dX11_triples_19 : decode cX11_triples 19 = .ok (.ireturn, 1) := by decide +kernel
theorem dX11_triples_20 : decode cX11_triples 20 = .ok (.aload_n 0, 1) := by decide +kernel
theorem dX11_triples_21 : decode cX11_triples 21 = .ok (.lload_n 1, 1) := by decide +kernel
theorem dX11_triples_22 : decode cX11_triples 22 = .ok (.invokevirtual 219, 3) := by decide +kernel
theorem dX11_triples_25 : decode cX11_triples 25 = .ok (.aload_n 0, 1) := by decide +kernel
theorem dX11_triples_26 : decode cX11_triples 26 = .ok (.getfield 204, 3) := by decide +kernel
theorem dX11_triples_29 : decode cX11_triples 29 = .ok (.ifCond .ne 7, 3) := by decide +kernel
theorem dX11_triples_32 : decode cX11_triples 32 = .ok (.iconst (-1), 1) := by decide +kernel
theorem dX11_triples_33 : decode cX11_triples 33 = .ok (.goto 7, 3) := by decide +kernel
theorem dX11_triples_36 : decode cX11_triples 36 = .ok (.aload_n 0, 1) := by decide +kernel
theorem dX11_triples_37 : decode cX11_triples 37 = .ok (.getfield 204, 3) := by decide +kernel
theorem dX11_triples_40 : decode cX11_triples 40 = .ok (.ireturn, 1) := by decide +kernel
theorem dX11_down_0 : decode cX11_down 0 = .ok (.lload_n 0, 1) := by decide +kernel
theorem dX11_down_1 : decode cX11_down 1 = .ok (.lstore 6, 2) := by decide +kernel
theorem dX11_down_3 : decode cX11_down 3 = .ok (.lload_n 2, 1) := by decide +kernel
theorem dX11_down_4 : decode cX11_down 4 = .ok (.lstore 8, 2) := by decide +kernel
theorem dX11_down_6 : decode cX11_down 6 = .ok (.lload 4, 2) := by decide +kernel
theorem dX11_down_8 : decode cX11_down 8 = .ok (.lstore 10, 2) := by decide +kernel
theorem dX11_down_10 : decode cX11_down 10 = .ok (.iconst 0, 1) := by decide +kernel
theorem dX11_down_11 : decode cX11_down 11 = .ok (.istore 12, 2) := by decide +kernel
theorem dX11_down_13 : decode cX11_down 13 = .ok (.lload 6, 2) := by decide +kernel
theorem dX11_down_15 : decode cX11_down 15 = .ok (.lconst 1, 1) := by decide +kernel
theorem dX11_down_16 : decode cX11_down 16 = .ok (.lcmp, 1) := by decide +kernel
theorem dX11_down_17 : decode cX11_down 17 = .ok (.ifCond .ne 17, 3) := by decide +kernel
theorem dX11_down_20 : decode cX11_down 20 = .ok (.lload 8, 2) := by decide +kernel
theorem dX11_down_22 : decode cX11_down 22 = .ok (.lconst 1, 1) := by decide +kernel
theorem dX11_down_23 : decode cX11_down 23 = .ok (.lcmp, 1) := by decide +kernel
theorem dX11_down_24 : decode cX11_down 24 = .ok (.ifCond .ne 10, 3) := by decide +kernel
theorem dX11_down_27 : decode cX11_down 27 = .ok (.lload 10, 2) := by decide +kernel
theorem dX11_down_29 : decode cX11_down 29 = .ok (.lconst 1, 1) := by decide +kernel
theorem dX11_down_30 : decode cX11_down 30 = .ok (.lcmp, 1) := by decide +kernel
theorem dX11_down_31 : decode cX11_down 31 = .ok (.ifCond .eq 81, 3) := by decide +kernel
theorem dX11_down_34 : decode cX11_down 34 = .ok (.lload 10, 2) := by decide +kernel
theorem dX11_down_36 : decode cX11_down 36 = .ok (.lload 6, 2) := by decide +kernel
theorem dX11_down_38 : decode cX11_down 38 = .ok (.lcmp, 1) := by decide +kernel
theorem dX11_down_39 : decode cX11_down 39 = .ok (.ifCond .lt 28, 3) := by decide +kernel
theorem dX11_down_42 : decode cX11_down 42 = .ok (.lload 10, 2) := by decide +kernel
theorem dX11_down_44 : decode cX11_down 44 = .ok (.lload 8, 2) := by decide +kernel
theorem dX11_down_46 : decode cX11_down 46 = .ok (.lcmp, 1) := by decide +kernel
theorem dX11_down_47 : decode cX11_down 47 = .ok (.ifCond .lt 20, 3) := by decide +kernel
theorem dX11_down_50 : decode cX11_down 50 = .ok (.ldc2_w 151, 3) := by decide +kernel
theorem dX11_down_53 : decode cX11_down 53 = .ok (.lload 6, 2) := by decide +kernel
theorem dX11_down_55 : decode cX11_down 55 = .ok (.lmul, 1) := by decide +kernel
theorem dX11_down_56 : decode cX11_down 56 = .ok (.lload 8, 2) := by decide +kernel
theorem dX11_down_58 : decode cX11_down 58 = .ok (.lmul, 1) := by decide +kernel
theorem dX11_down_59 : decode cX11_down 59 = .ok (.lload 10, 2) := by decide +kernel
theorem dX11_down_61 : decode cX11_down 61 = .ok (.lsub, 1) := by decide +kernel
theorem dX11_down_62 : decode cX11_down 62 = .ok (.lstore 10, 2) := by decide +kernel
theorem dX11_down_64 : decode cX11_down 64 = .ok (.goto 42, 3) := by decide +kernel
theorem dX11_down_67 : decode cX11_down 67 = .ok (.lload 8, 2) := by decide +kernel
theorem dX11_down_69 : decode cX11_down 69 = .ok (.lload 6, 2) := by decide +kernel
theorem dX11_down_71 : decode cX11_down 71 = .ok (.lcmp, 1) := by decide +kernel
theorem dX11_down_72 : decode cX11_down 72 = .ok (.ifCond .lt 20, 3) := by decide +kernel
theorem dX11_down_75 : decode cX11_down 75 = .ok (.ldc2_w 151, 3) := by decide +kernel
theorem dX11_down_78 : decode cX11_down 78 = .ok (.lload 6, 2) := by decide +kernel
theorem dX11_down_80 : decode cX11_down 80 = .ok (.lmul, 1) := by decide +kernel
theorem dX11_down_81 : decode cX11_down 81 = .ok (.lload 10, 2) := by decide +kernel
theorem dX11_down_83 : decode cX11_down 83 = .ok (.lmul, 1) := by decide +kernel
theorem dX11_down_84 : decode cX11_down 84 = .ok (.lload 8, 2) := by decide +kernel
theorem dX11_down_86 : decode cX11_down 86 = .ok (.lsub, 1) := by decide +kernel
theorem dX11_down_87 : decode cX11_down 87 = .ok (.lstore 8, 2) := by decide +kernel
theorem dX11_down_89 : decode cX11_down 89 = .ok (.goto 17, 3) := by decide +kernel
theorem dX11_down_92 : decode cX11_down 92 = .ok (.ldc2_w 151, 3) := by decide +kernel
theorem dX11_down_95 : decode cX11_down 95 = .ok (.lload 8, 2) := by decide +kernel
theorem dX11_down_97 : decode cX11_down 97 = .ok (.lmul, 1) := by decide +kernel
theorem dX11_down_98 : decode cX11_down 98 = .ok (.lload 10, 2) := by decide +kernel
theorem dX11_down_100 : decode cX11_down 100 = .ok (.lmul, 1) := by decide +kernel
theorem dX11_down_101 : decode cX11_down 101 = .ok (.lload 6, 2) := by decide +kernel
theorem dX11_down_103 : decode cX11_down 103 = .ok (.lsub, 1) := by decide +kernel
theorem dX11_down_104 : decode cX11_down 104 = .ok (.lstore 6, 2) := by decide +kernel
theorem dX11_down_106 : decode cX11_down 106 = .ok (.iinc 12 1, 3) := by decide +kernel
theorem dX11_down_109 : decode cX11_down 109 = .ok (.goto (-96), 3) := by decide +kernel
theorem dX11_down_112 : decode cX11_down 112 = .ok (.iload 12, 2) := by decide +kernel
theorem dX11_down_114 : decode cX11_down 114 = .ok (.ireturn, 1) := by decide +kernel
theorem dX11_with_0 : decode cX11_with 0 = .ok (.aload_n 0, 1) := by decide +kernel
theorem dX11_with_1 : decode cX11_with 1 = .ok (.iconst 0, 1) := by decide +kernel
theorem dX11_with_2 : decode cX11_with 2 = .ok (.putfield 1, 3) := by decide +kernel
theorem dX11_with_5 : decode cX11_with 5 = .ok (.lload_n 1, 1) := by decide +kernel
theorem dX11_with_6 : decode cX11_with 6 = .ok (.ldc2_w 129, 3) := by decide +kernel
theorem dX11_with_9 : decode cX11_with 9 = .ok (.ldc2_w 213, 3) := by decide +kernel
theorem dX11_with_12 : decode cX11_with 12 = .ok (.invokestatic 91, 3) := by decide +kernel
theorem dX11_with_15 : decode cX11_with 15 = .ok (.ifCond .eq 15, 3) := by decide +kernel
theorem dX11_with_18 : decode cX11_with 18 = .ok (.iload_n 3, 1) := by decide +kernel
theorem dX11_with_19 : decode cX11_with 19 = .ok (.i2l, 1) := by decide +kernel
theorem dX11_with_20 : decode cX11_with 20 = .ok (.lconst 0, 1) := by decide +kernel
theorem dX11_with_21 : decode cX11_with 21 = .ok (.ldc2_w 127, 3) := by decide +kernel
theorem dX11_with_24 : decode cX11_with 24 = .ok (.invokestatic 91, 3) := by decide +kernel
theorem dX11_with_27 : decode cX11_with 27 = .ok (.ifCond .ne 7, 3) := by decide +kernel
theorem dX11_with_30 : decode cX11_with 30 = .ok (.ldc2_w 192, 3) := by decide +kernel
theorem dX11_with_33 : decode cX11_with 33 = .ok (.lreturn, 1) := by decide +kernel
theorem dX11_with_34 : decode cX11_with 34 = .ok (.aload_n 0, 1) := by decide +kernel
theorem dX11_with_35 : decode cX11_with 35 = .ok (.lload_n 1, 1) := by decide +kernel
theorem dX11_with_36 : decode cX11_with 36 = .ok (.invokevirtual 219, 3) := by decide +kernel
theorem dX11_with_39 : decode cX11_with 39 = .ok (.aload_n 0, 1) := by decide +kernel
theorem dX11_with_40 : decode cX11_with 40 = .ok (.getfield 204, 3) := by decide +kernel
theorem dX11_with_43 : decode cX11_with 43 = .ok (.ifCond .ne 7, 3) := by decide +kernel
theorem dX11_with_46 : decode cX11_with 46 = .ok (.ldc2_w 192, 3) := by decide +kernel
theorem dX11_with_49 : decode cX11_with 49 = .ok (.lreturn, 1) := by decide +kernel
theorem dX11_with_50 : decode cX11_with 50 = .ok (.iload_n 3, 1) := by decide +kernel
theorem dX11_with_51 : decode cX11_with 51 = .ok (.ifCond .ne 10, 3) := by decide +kernel
theorem dX11_with_54 : decode cX11_with 54 = .ok (.aload_n 0, 1) := by decide +kernel
theorem dX11_with_55 : decode cX11_with 55 = .ok (.getfield 207, 3) := by decide +kernel
theorem dX11_with_58 : decode cX11_with 58 = .ok (.goto 28, 3) := by decide +kernel
theorem dX11_with_61 : decode cX11_with 61 = .ok (.iload_n 3, 1) := by decide +kernel
theorem dX11_with_62 : decode cX11_with 62 = .ok (.iconst 1, 1) := by decide +kernel
theorem dX11_with_63 : decode cX11_with 63 = .ok (.if_icmp .ne 10, 3) := by decide +kernel
theorem dX11_with_66 : decode cX11_with 66 = .ok (.aload_n 0, 1) := by decide +kernel
theorem dX11_with_67 : decode cX11_with 67 = .ok (.getfield 210, 3) := by decide +kernel
theorem dX11_with_70 : decode cX11_with 70 = .ok (.goto 16, 3) := by decide +kernel
theorem dX11_with_73 : decode cX11_with 73 = .ok (.aload_n 0, 1) := by decide +kernel
theorem dX11_with_74 : decode cX11_with 74 = .ok (.getfield 207, 3) := by decide +kernel
theorem dX11_with_77 : decode cX11_with 77 = .ok (.aload_n 0, 1) := by decide +kernel
theorem dX11_with_78 : decode cX11_with 78 = .ok (.getfield 210, 3) := by decide +kernel
theorem dX11_with_81 : decode cX11_with 81 = .ok (.lload_n 1, 1) := by decide +kernel
theorem dX11_with_82 : decode cX11_with 82 = .ok (.invokestatic 222, 3) := by decide +kernel
theorem dX11_with_85 : decode cX11_with 85 = .ok (.i2l, 1) := by decide +kernel
theorem dX11_with_86 : decode cX11_with 86 = .ok (.lreturn, 1) := by decide +kernel
theorem dX11_spread_0 : decode cX11_spread 0 = .ok (.aload_n 0, 1) := by decide +kernel
theorem dX11_spread_1 : decode cX11_spread 1 = .ok (.iconst 0, 1) := by decide +kernel
theorem dX11_spread_2 : decode cX11_spread 2 = .ok (.putfield 1, 3) := by decide +kernel
theorem dX11_spread_5 : decode cX11_spread 5 = .ok (.aload_n 0, 1) := by decide +kernel
theorem dX11_spread_6 : decode cX11_spread 6 = .ok (.invokevirtual 138, 3) := by decide +kernel
theorem dX11_spread_9 : decode cX11_spread 9 = .ok (.l2f, 1) := by decide +kernel
theorem dX11_spread_10 : decode cX11_spread 10 = .ok (.fstore_n 1, 1) := by decide +kernel
theorem dX11_spread_11 : decode cX11_spread 11 = .ok (.ldc 226, 2) := by decide +kernel
theorem dX11_spread_13 : decode cX11_spread 13 = .ok (.ldc 227, 2) := by decide +kernel
theorem dX11_spread_15 : decode cX11_spread 15 = .ok (.fload_n 1, 1) := by decide +kernel
theorem dX11_spread_16 : decode cX11_spread 16 = .ok (.fload_n 1, 1) := by decide +kernel
theorem dX11_spread_17 : decode cX11_spread 17 = .ok (.fmul, 1) := by decide +kernel
theorem dX11_spread_18 : decode cX11_spread 18 = .ok (.fdiv, 1) := by decide +kernel
theorem dX11_spread_19 : decode cX11_spread 19 = .ok (.fsub, 1) := by decide +kernel
theorem dX11_spread_20 : decode cX11_spread 20 = .ok (.invokestatic 228, 3) := by decide +kernel
theorem dX11_spread_23 : decode cX11_spread 23 = .ok (.ireturn, 1) := by decide +kernel
theorem dX11_markP_0 : decode cX11_markP 0 = .ok (.aload_n 0, 1) := by decide +kernel
theorem dX11_markP_1 : decode cX11_markP 1 = .ok (.getfield 24, 3) := by decide +kernel
theorem dX11_markP_4 : decode cX11_markP 4 = .ok (.iconst 3, 1) := by decide +kernel
theorem dX11_markP_5 : decode cX11_markP 5 = .ok (.iconst 2, 1) := by decide +kernel
theorem dX11_markP_6 : decode cX11_markP 6 = .ok (.iload_n 1, 1) := by decide +kernel
theorem dX11_markP_7 : decode cX11_markP 7 = .ok (.imul, 1) := by decide +kernel
theorem dX11_markP_8 : decode cX11_markP 8 = .ok (.iadd, 1) := by decide +kernel
theorem dX11_markP_9 : decode cX11_markP 9 = .ok (.iaload, 1) := by decide +kernel
theorem dX11_markP_10 : decode cX11_markP 10 = .ok (.ireturn, 1) := by decide +kernel
theorem dX11_markQ_0 : decode cX11_markQ 0 = .ok (.aload_n 0, 1) := by decide +kernel
theorem dX11_markQ_1 : decode cX11_markQ 1 = .ok (.getfield 24, 3) := by decide +kernel
theorem dX11_markQ_4 : decode cX11_markQ 4 = .ok (.iconst 3, 1) := by decide +kernel
theorem dX11_markQ_5 : decode cX11_markQ 5 = .ok (.iconst 2, 1) := by decide +kernel
theorem dX11_markQ_6 : decode cX11_markQ 6 = .ok (.iload_n 1, 1) := by decide +kernel
theorem dX11_markQ_7 : decode cX11_markQ 7 = .ok (.imul, 1) := by decide +kernel
theorem dX11_markQ_8 : decode cX11_markQ 8 = .ok (.iadd, 1) := by decide +kernel
theorem dX11_markQ_9 : decode cX11_markQ 9 = .ok (.iconst 1, 1) := by decide +kernel
theorem dX11_markQ_10 : decode cX11_markQ 10 = .ok (.iadd, 1) := by decide +kernel
theorem dX11_markQ_11 : decode cX11_markQ 11 = .ok (.iaload, 1) := by decide +kernel
theorem dX11_markQ_12 : decode cX11_markQ 12 = .ok (.ireturn, 1) := by decide +kernel
theorem dX11_markNumber_0 : decode cX11_markNumber 0 = .ok (.aload_n 0, 1) := by decide +kernel
theorem dX11_markNumber_1 : decode cX11_markNumber 1 = .ok (.aload_n 0, 1) := by decide +kernel
theorem dX11_markNumber_2 : decode cX11_markNumber 2 = .ok (.iload_n 1, 1) := by decide +kernel
theorem dX11_markNumber_3 : decode cX11_markNumber 3 = .ok (.invokevirtual 234, 3) := by decide +kernel
theorem dX11_markNumber_6 : decode cX11_markNumber 6 = .ok (.aload_n 0, 1) := by decide +kernel
theorem dX11_markNumber_7 : decode cX11_markNumber 7 = .ok (.iload_n 1, 1) := by decide +kernel
theorem dX11_markNumber_8 : decode cX11_markNumber 8 = .ok (.invokevirtual 237, 3) := by decide +kernel
theorem dX11_markNumber_11 : decode cX11_markNumber 11 = .ok (.invokevirtual 134, 3) := by decide +kernel
theorem dX11_markNumber_14 : decode cX11_markNumber 14 = .ok (.lreturn, 1) := by decide +kernel
theorem dX11_markHere_0 : decode cX11_markHere 0 = .ok (.iconst 0, 1) := by decide +kernel
theorem dX11_markHere_1 : decode cX11_markHere 1 = .ok (.istore_n 1, 1) := by decide +kernel
theorem dX11_markHere_2 : decode cX11_markHere 2 = .ok (.iload_n 1, 1) := by decide +kernel
theorem dX11_markHere_3 : decode cX11_markHere 3 = .ok (.aload_n 0, 1) := by decide +kernel
theorem dX11_markHere_4 : decode cX11_markHere 4 = .ok (.getfield 24, 3) := by decide +kernel
theorem dX11_markHere_7 : decode cX11_markHere 7 = .ok (.iconst 2, 1) := by decide +kernel
theorem dX11_markHere_8 : decode cX11_markHere 8 = .ok (.iaload, 1) := by decide +kernel
theorem dX11_markHere_9 : decode cX11_markHere 9 = .ok (.if_icmp .ge 39, 3) := by decide +kernel
theorem dX11_markHere_12 : decode cX11_markHere 12 = .ok (.aload_n 0, 1) := by decide +kernel
theorem dX11_markHere_13 : decode cX11_markHere 13 = .ok (.iload_n 1, 1) := by decide +kernel
theorem dX11_markHere_14 : decode cX11_markHere 14 = .ok (.invokevirtual 234, 3) := by decide +kernel
theorem dX11_markHere_17 : decode cX11_markHere 17 = .ok (.aload_n 0, 1) := by decide +kernel
theorem dX11_markHere_18 : decode cX11_markHere 18 = .ok (.getfield 24, 3) := by decide +kernel
theorem dX11_markHere_21 : decode cX11_markHere 21 = .ok (.iconst 0, 1) := by decide +kernel
theorem dX11_markHere_22 : decode cX11_markHere 22 = .ok (.iaload, 1) := by decide +kernel
theorem dX11_markHere_23 : decode cX11_markHere 23 = .ok (.if_icmp .ne 19, 3) := by decide +kernel
theorem dX11_markHere_26 : decode cX11_markHere 26 = .ok (.aload_n 0, 1) := by decide +kernel
theorem dX11_markHere_27 : decode cX11_markHere 27 = .ok (.iload_n 1, 1) := by decide +kernel
theorem dX11_markHere_28 : decode cX11_markHere 28 = .ok (.invokevirtual 237, 3) := by decide +kernel
theorem dX11_markHere_31 : decode cX11_markHere 31 = .ok (.aload_n 0, 1) := by decide +kernel
theorem dX11_markHere_32 : decode cX11_markHere 32 = .ok (.getfield 24, 3) := by decide +kernel
theorem dX11_markHere_35 : decode cX11_markHere 35 = .ok (.iconst 1, 1) := by decide +kernel
theorem dX11_markHere_36 : decode cX11_markHere 36 = .ok (.iaload, 1) := by decide +kernel
theorem dX11_markHere_37 : decode cX11_markHere 37 = .ok (.if_icmp .ne 5, 3) := by decide +kernel
theorem dX11_markHere_40 : decode cX11_markHere 40 = .ok (.iload_n 1, 1) := by decide +kernel
theorem dX11_markHere_41 : decode cX11_markHere 41 = .ok (.ireturn, 1) := by decide +kernel
theorem dX11_markHere_42 : decode cX11_markHere 42 = .ok (.iinc 1 1, 3) := by decide +kernel
theorem dX11_markHere_45 : decode cX11_markHere 45 = .ok (.goto (-43), 3) := by decide +kernel
theorem dX11_markHere_48 : decode cX11_markHere 48 = .ok (.iconst (-1), 1) := by decide +kernel
theorem dX11_markHere_49 : decode cX11_markHere 49 = .ok (.ireturn, 1) := by decide +kernel
theorem dX11_marks_0 : decode cX11_marks 0 = .ok (.aload_n 0, 1) := by decide +kernel
theorem dX11_marks_1 : decode cX11_marks 1 = .ok (.getfield 24, 3) := by decide +kernel
theorem dX11_marks_4 : decode cX11_marks 4 = .ok (.iconst 2, 1) := by decide +kernel
theorem dX11_marks_5 : decode cX11_marks 5 = .ok (.iaload, 1) := by decide +kernel
theorem dX11_marks_6 : decode cX11_marks 6 = .ok (.istore_n 1, 1) := by decide +kernel
theorem dX11_marks_7 : decode cX11_marks 7 = .ok (.aload_n 0, 1) := by decide +kernel
theorem dX11_marks_8 : decode cX11_marks 8 = .ok (.invokevirtual 138, 3) := by decide +kernel
theorem dX11_marks_11 : decode cX11_marks 11 = .ok (.lstore_n 2, 1) := by decide +kernel
theorem dX11_marks_12 : decode cX11_marks 12 = .ok (.iload_n 1, 1) := by decide +kernel
theorem dX11_marks_13 : decode cX11_marks 13 = .ok (.ifCond .le 57, 3) := by decide +kernel
theorem dX11_marks_16 : decode cX11_marks 16 = .ok (.aload_n 0, 1) := by decide +kernel
theorem dX11_marks_17 : decode cX11_marks 17 = .ok (.iload_n 1, 1) := by decide +kernel
theorem dX11_marks_18 : decode cX11_marks 18 = .ok (.iconst 1, 1) := by decide +kernel
theorem dX11_marks_19 : decode cX11_marks 19 = .ok (.isub, 1) := by decide +kernel
theorem dX11_marks_20 : decode cX11_marks 20 = .ok (.invokevirtual 240, 3) := by decide +kernel
theorem dX11_marks_23 : decode cX11_marks 23 = .ok (.lload_n 2, 1) := by decide +kernel
theorem dX11_marks_24 : decode cX11_marks 24 = .ok (.lcmp, 1) := by decide +kernel
theorem dX11_marks_25 : decode cX11_marks 25 = .ok (.ifCond .le 45, 3) := by decide +kernel
theorem dX11_marks_28 : decode cX11_marks 28 = .ok (.aload_n 0, 1) := by decide +kernel
theorem dX11_marks_29 : decode cX11_marks 29 = .ok (.getfield 24, 3) := by decide +kernel
theorem dX11_marks_32 : decode cX11_marks 32 = .ok (.iconst 3, 1) := by decide +kernel
theorem dX11_marks_33 : decode cX11_marks 33 = .ok (.iconst 2, 1) := by decide +kernel
theorem dX11_marks_34 : decode cX11_marks 34 = .ok (.iload_n 1, 1) := by decide +kernel
theorem dX11_marks_35 : decode cX11_marks 35 = .ok (.imul, 1) := by decide +kernel
theorem dX11_marks_36 : decode cX11_marks 36 = .ok (.iadd, 1) := by decide +kernel
theorem dX11_marks_37 : decode cX11_marks 37 = .ok (.aload_n 0, 1) := by decide +kernel
theorem dX11_marks_38 : decode cX11_marks 38 = .ok (.iload_n 1, 1) := by decide +kernel
theorem dX11_marks_39 : decode cX11_marks 39 = .ok (.iconst 1, 1) := by decide +kernel
theorem dX11_marks_40 : decode cX11_marks 40 = .ok (.isub, 1) := by decide +kernel
theorem dX11_marks_41 : decode cX11_marks 41 = .ok (.invokevirtual 234, 3) := by decide +kernel
theorem dX11_marks_44 : decode cX11_marks 44 = .ok (.iastore, 1) := by decide +kernel
theorem dX11_marks_45 : decode cX11_marks 45 = .ok (.aload_n 0, 1) := by decide +kernel
theorem dX11_marks_46 : decode cX11_marks 46 = .ok (.getfield 24, 3) := by decide +kernel
theorem dX11_marks_49 : decode cX11_marks 49 = .ok (.iconst 3, 1) := by decide +kernel
theorem dX11_marks_50 : decode cX11_marks 50 = .ok (.iconst 2, 1) := by decide +kernel
theorem dX11_marks_51 : decode cX11_marks 51 = .ok (.iload_n 1, 1) := by decide +kernel
theorem dX11_marks_52 : decode cX11_marks 52 = .ok (.imul, 1) := by decide +kernel
theorem dX11_marks_53 : decode cX11_marks 53 = .ok (.iadd, 1) := by decide +kernel
theorem dX11_marks_54 : decode cX11_marks 54 = .ok (.iconst 1, 1) := by decide +kernel
theorem dX11_marks_55 : decode cX11_marks 55 = .ok (.iadd, 1) := by decide +kernel
theorem dX11_marks_56 : decode cX11_marks 56 = .ok (.aload_n 0, 1) := by decide +kernel
theorem dX11_marks_57 : decode cX11_marks 57 = .ok (.iload_n 1, 1) := by decide +kernel
theorem dX11_marks_58 : decode cX11_marks 58 = .ok (.iconst 1, 1) := by decide +kernel
theorem dX11_marks_59 : decode cX11_marks 59 = .ok (.isub, 1) := by decide +kernel
theorem dX11_marks_60 : decode cX11_marks 60 = .ok (.invokevirtual 237, 3) := by decide +kernel
theorem dX11_marks_63 : decode cX11_marks 63 = .ok (.iastore, 1) := by decide +kernel
theorem dX11_marks_64 : decode cX11_marks 64 = .ok (.iinc 1 (-1), 3) := by decide +kernel
theorem dX11_marks_67 : decode cX11_marks 67 = .ok (.goto (-55), 3) := by decide +kernel
theorem dX11_marks_70 : decode cX11_marks 70 = .ok (.aload_n 0, 1) := by decide +kernel
theorem dX11_marks_71 : decode cX11_marks 71 = .ok (.getfield 24, 3) := by decide +kernel
theorem dX11_marks_74 : decode cX11_marks 74 = .ok (.iconst 3, 1) := by decide +kernel
theorem dX11_marks_75 : decode cX11_marks 75 = .ok (.iconst 2, 1) := by decide +kernel
theorem dX11_marks_76 : decode cX11_marks 76 = .ok (.iload_n 1, 1) := by decide +kernel
theorem dX11_marks_77 : decode cX11_marks 77 = .ok (.imul, 1) := by decide +kernel
theorem dX11_marks_78 : decode cX11_marks 78 = .ok (.iadd, 1) := by decide +kernel
theorem dX11_marks_79 : decode cX11_marks 79 = .ok (.aload_n 0, 1) := by decide +kernel
theorem dX11_marks_80 : decode cX11_marks 80 = .ok (.getfield 24, 3) := by decide +kernel
theorem dX11_marks_83 : decode cX11_marks 83 = .ok (.iconst 0, 1) := by decide +kernel
theorem dX11_marks_84 : decode cX11_marks 84 = .ok (.iaload, 1) := by decide +kernel
theorem dX11_marks_85 : decode cX11_marks 85 = .ok (.iastore, 1) := by decide +kernel
theorem dX11_marks_86 : decode cX11_marks 86 = .ok (.aload_n 0, 1) := by decide +kernel
theorem dX11_marks_87 : decode cX11_marks 87 = .ok (.getfield 24, 3) := by decide +kernel
theorem dX11_marks_90 : decode cX11_marks 90 = .ok (.iconst 3, 1) := by decide +kernel
theorem dX11_marks_91 : decode cX11_marks 91 = .ok (.iconst 2, 1) := by decide +kernel
theorem dX11_marks_92 : decode cX11_marks 92 = .ok (.iload_n 1, 1) := by decide +kernel
theorem dX11_marks_93 : decode cX11_marks 93 = .ok (.imul, 1) := by decide +kernel
theorem dX11_marks_94 : decode cX11_marks 94 = .ok (.iadd, 1) := by decide +kernel
theorem dX11_marks_95 : decode cX11_marks 95 = .ok (.iconst 1, 1) := by decide +kernel
theorem dX11_marks_96 : decode cX11_marks 96 = .ok (.iadd, 1) := by decide +kernel
theorem dX11_marks_97 : decode cX11_marks 97 = .ok (.aload_n 0, 1) := by decide +kernel
theorem dX11_marks_98 : decode cX11_marks 98 = .ok (.getfield 24, 3) := by decide +kernel
theorem dX11_marks_101 : decode cX11_marks 101 = .ok (.iconst 1, 1) := by decide +kernel
theorem dX11_marks_102 : decode cX11_marks 102 = .ok (.iaload, 1) := by decide +kernel
theorem dX11_marks_103 : decode cX11_marks 103 = .ok (.iastore, 1) := by decide +kernel
theorem dX11_marks_104 : decode cX11_marks 104 = .ok (.aload_n 0, 1) := by decide +kernel
theorem dX11_marks_105 : decode cX11_marks 105 = .ok (.getfield 24, 3) := by decide +kernel
theorem dX11_marks_108 : decode cX11_marks 108 = .ok (.iconst 2, 1) := by decide +kernel
theorem dX11_marks_109 : decode cX11_marks 109 = .ok (.dup2, 1) := by decide +kernel
theorem dX11_marks_110 : decode cX11_marks 110 = .ok (.iaload, 1) := by decide +kernel
theorem dX11_marks_111 : decode cX11_marks 111 = .ok (.iconst 1, 1) := by decide +kernel
theorem dX11_marks_112 : decode cX11_marks 112 = .ok (.iadd, 1) := by decide +kernel
theorem dX11_marks_113 : decode cX11_marks 113 = .ok (.iastore, 1) := by decide +kernel
theorem dX11_marks_114 : decode cX11_marks 114 = .ok (.return_, 1) := by decide +kernel
theorem dX11_mark_0 : decode cX11_mark 0 = .ok (.aload_n 0, 1) := by decide +kernel
theorem dX11_mark_1 : decode cX11_mark 1 = .ok (.iconst 0, 1) := by decide +kernel
theorem dX11_mark_2 : decode cX11_mark 2 = .ok (.putfield 1, 3) := by decide +kernel
theorem dX11_mark_5 : decode cX11_mark 5 = .ok (.aload_n 0, 1) := by decide +kernel
theorem dX11_mark_6 : decode cX11_mark 6 = .ok (.invokevirtual 244, 3) := by decide +kernel
theorem dX11_mark_9 : decode cX11_mark 9 = .ok (.iconst (-1), 1) := by decide +kernel
theorem dX11_mark_10 : decode cX11_mark 10 = .ok (.if_icmp .eq 5, 3) := by decide +kernel
theorem dX11_mark_13 : decode cX11_mark 13 = .ok (.iconst 1, 1) := by decide +kernel
theorem dX11_mark_14 : decode cX11_mark 14 = .ok (.ireturn, 1) := by decide +kernel
theorem dX11_mark_15 : decode cX11_mark 15 = .ok (.aload_n 0, 1) := by decide +kernel
theorem dX11_mark_16 : decode cX11_mark 16 = .ok (.getfield 24, 3) := by decide +kernel
theorem dX11_mark_19 : decode cX11_mark 19 = .ok (.iconst 2, 1) := by decide +kernel
theorem dX11_mark_20 : decode cX11_mark 20 = .ok (.iaload, 1) := by decide +kernel
theorem dX11_mark_21 : decode cX11_mark 21 = .ok (.bipush 16, 2) := by decide +kernel
theorem dX11_mark_23 : decode cX11_mark 23 = .ok (.if_icmp .ne 5, 3) := by decide +kernel
theorem dX11_mark_26 : decode cX11_mark 26 = .ok (.iconst (-1), 1) := by decide +kernel
theorem dX11_mark_27 : decode cX11_mark 27 = .ok (.ireturn, 1) := by decide +kernel
theorem dX11_mark_28 : decode cX11_mark 28 = .ok (.aload_n 0, 1) := by decide +kernel
theorem dX11_mark_29 : decode cX11_mark 29 = .ok (.invokevirtual 63, 3) := by decide +kernel
theorem dX11_mark_32 : decode cX11_mark 32 = .ok (.aload_n 0, 1) := by decide +kernel
theorem dX11_mark_33 : decode cX11_mark 33 = .ok (.invokevirtual 247, 3) := by decide +kernel
theorem dX11_mark_36 : decode cX11_mark 36 = .ok (.iconst 0, 1) := by decide +kernel
theorem dX11_mark_37 : decode cX11_mark 37 = .ok (.ireturn, 1) := by decide +kernel
theorem dX11_unmark_0 : decode cX11_unmark 0 = .ok (.aload_n 0, 1) := by decide +kernel
theorem dX11_unmark_1 : decode cX11_unmark 1 = .ok (.iconst 0, 1) := by decide +kernel
theorem dX11_unmark_2 : decode cX11_unmark 2 = .ok (.putfield 1, 3) := by decide +kernel
theorem dX11_unmark_5 : decode cX11_unmark 5 = .ok (.aload_n 0, 1) := by decide +kernel
theorem dX11_unmark_6 : decode cX11_unmark 6 = .ok (.invokevirtual 244, 3) := by decide +kernel
theorem dX11_unmark_9 : decode cX11_unmark 9 = .ok (.istore_n 1, 1) := by decide +kernel
theorem dX11_unmark_10 : decode cX11_unmark 10 = .ok (.iload_n 1, 1) := by decide +kernel
theorem dX11_unmark_11 : decode cX11_unmark 11 = .ok (.iconst (-1), 1) := by decide +kernel
theorem dX11_unmark_12 : decode cX11_unmark 12 = .ok (.if_icmp .ne 5, 3) := by decide +kernel
theorem dX11_unmark_15 : decode cX11_unmark 15 = .ok (.iconst 1, 1) := by decide +kernel
theorem dX11_unmark_16 : decode cX11_unmark 16 = .ok (.ireturn, 1) := by decide +kernel
theorem dX11_unmark_17 : decode cX11_unmark 17 = .ok (.aload_n 0, 1) := by decide +kernel
theorem dX11_unmark_18 : decode cX11_unmark 18 = .ok (.invokevirtual 63, 3) := by decide +kernel
theorem dX11_unmark_21 : decode cX11_unmark 21 = .ok (.aload_n 0, 1) := by decide +kernel
theorem dX11_unmark_22 : decode cX11_unmark 22 = .ok (.getfield 24, 3) := by decide +kernel
theorem dX11_unmark_25 : decode cX11_unmark 25 = .ok (.iconst 2, 1) := by decide +kernel
theorem dX11_unmark_26 : decode cX11_unmark 26 = .ok (.dup2, 1) := by decide +kernel
theorem dX11_unmark_27 : decode cX11_unmark 27 = .ok (.iaload, 1) := by decide +kernel
theorem dX11_unmark_28 : decode cX11_unmark 28 = .ok (.iconst 1, 1) := by decide +kernel
theorem dX11_unmark_29 : decode cX11_unmark 29 = .ok (.isub, 1) := by decide +kernel
theorem dX11_unmark_30 : decode cX11_unmark 30 = .ok (.iastore, 1) := by decide +kernel
theorem dX11_unmark_31 : decode cX11_unmark 31 = .ok (.iconst 2, 1) := by decide +kernel
theorem dX11_unmark_32 : decode cX11_unmark 32 = .ok (.iload_n 1, 1) := by decide +kernel
theorem dX11_unmark_33 : decode cX11_unmark 33 = .ok (.imul, 1) := by decide +kernel
theorem dX11_unmark_34 : decode cX11_unmark 34 = .ok (.istore_n 2, 1) := by decide +kernel
theorem dX11_unmark_35 : decode cX11_unmark 35 = .ok (.iload_n 2, 1) := by decide +kernel
theorem dX11_unmark_36 : decode cX11_unmark 36 = .ok (.iconst 2, 1) := by decide +kernel
theorem dX11_unmark_37 : decode cX11_unmark 37 = .ok (.aload_n 0, 1) := by decide +kernel
theorem dX11_unmark_38 : decode cX11_unmark 38 = .ok (.getfield 24, 3) := by decide +kernel
theorem dX11_unmark_41 : decode cX11_unmark 41 = .ok (.iconst 2, 1) := by decide +kernel
theorem dX11_unmark_42 : decode cX11_unmark 42 = .ok (.iaload, 1) := by decide +kernel
theorem dX11_unmark_43 : decode cX11_unmark 43 = .ok (.imul, 1) := by decide +kernel
theorem dX11_unmark_44 : decode cX11_unmark 44 = .ok (.if_icmp .ge 27, 3) := by decide +kernel
theorem dX11_unmark_47 : decode cX11_unmark 47 = .ok (.aload_n 0, 1) := by decide +kernel
theorem dX11_unmark_48 : decode cX11_unmark 48 = .ok (.getfield 24, 3) := by decide +kernel
theorem dX11_unmark_51 : decode cX11_unmark 51 = .ok (.iconst 3, 1) := by decide +kernel
theorem dX11_unmark_52 : decode cX11_unmark 52 = .ok (.iload_n 2, 1) := by decide +kernel
theorem dX11_unmark_53 : decode cX11_unmark 53 = .ok (.iadd, 1) := by decide +kernel
theorem dX11_unmark_54 : decode cX11_unmark 54 = .ok (.aload_n 0, 1) := by decide +kernel
theorem dX11_unmark_55 : decode cX11_unmark 55 = .ok (.getfield 24, 3) := by decide +kernel
theorem dX11_unmark_58 : decode cX11_unmark 58 = .ok (.iconst 3, 1) := by decide +kernel
theorem dX11_unmark_59 : decode cX11_unmark 59 = .ok (.iload_n 2, 1) := by decide +kernel
theorem dX11_unmark_60 : decode cX11_unmark 60 = .ok (.iadd, 1) := by decide +kernel
theorem dX11_unmark_61 : decode cX11_unmark 61 = .ok (.iconst 2, 1) := by decide +kernel
theorem dX11_unmark_62 : decode cX11_unmark 62 = .ok (.iadd, 1) := by decide +kernel
theorem dX11_unmark_63 : decode cX11_unmark 63 = .ok (.iaload, 1) := by decide +kernel
theorem dX11_unmark_64 : decode cX11_unmark 64 = .ok (.iastore, 1) := by decide +kernel
theorem dX11_unmark_65 : decode cX11_unmark 65 = .ok (.iinc 2 1, 3) := by decide +kernel
theorem dX11_unmark_68 : decode cX11_unmark 68 = .ok (.goto (-33), 3) := by decide +kernel
theorem dX11_unmark_71 : decode cX11_unmark 71 = .ok (.iconst 0, 1) := by decide +kernel
theorem dX11_unmark_72 : decode cX11_unmark 72 = .ok (.ireturn, 1) := by decide +kernel
theorem dX11_marked_0 : decode cX11_marked 0 = .ok (.aload_n 0, 1) := by decide +kernel
theorem dX11_marked_1 : decode cX11_marked 1 = .ok (.iconst 0, 1) := by decide +kernel
theorem dX11_marked_2 : decode cX11_marked 2 = .ok (.putfield 1, 3) := by decide +kernel
theorem dX11_marked_5 : decode cX11_marked 5 = .ok (.iload_n 1, 1) := by decide +kernel
theorem dX11_marked_6 : decode cX11_marked 6 = .ok (.i2l, 1) := by decide +kernel
theorem dX11_marked_7 : decode cX11_marked 7 = .ok (.lconst 0, 1) := by decide +kernel
theorem dX11_marked_8 : decode cX11_marked 8 = .ok (.aload_n 0, 1) := by decide +kernel
theorem dX11_marked_9 : decode cX11_marked 9 = .ok (.getfield 24, 3) := by decide +kernel
theorem dX11_marked_12 : decode cX11_marked 12 = .ok (.iconst 2, 1) := by decide +kernel
theorem dX11_marked_13 : decode cX11_marked 13 = .ok (.iaload, 1) := by decide +kernel
theorem dX11_marked_14 : decode cX11_marked 14 = .ok (.iconst 1, 1) := by decide +kernel
theorem dX11_marked_15 : decode cX11_marked 15 = .ok (.isub, 1) := by decide +kernel
theorem dX11_marked_16 : decode cX11_marked 16 = .ok (.i2l, 1) := by decide +kernel
theorem dX11_marked_17 : decode cX11_marked 17 = .ok (.invokestatic 91, 3) := by decide +kernel
theorem dX11_marked_20 : decode cX11_marked 20 = .ok (.ifCond .ne 7, 3) := by decide +kernel
theorem dX11_marked_23 : decode cX11_marked 23 = .ok (.ldc2_w 192, 3) := by decide +kernel
theorem dX11_marked_26 : decode cX11_marked 26 = .ok (.lreturn, 1) := by decide +kernel
theorem dX11_marked_27 : decode cX11_marked 27 = .ok (.iload_n 2, 1) := by decide +kernel
theorem dX11_marked_28 : decode cX11_marked 28 = .ok (.tableswitch 48 0 2 #[28, 34, 41], 28) := by decide +kernel
theorem dX11_marked_56 : decode cX11_marked 56 = .ok (.aload_n 0, 1) := by decide +kernel
theorem dX11_marked_57 : decode cX11_marked 57 = .ok (.iload_n 1, 1) := by decide +kernel
theorem dX11_marked_58 : decode cX11_marked 58 = .ok (.invokevirtual 240, 3) := by decide +kernel
theorem dX11_marked_61 : decode cX11_marked 61 = .ok (.lreturn, 1) := by decide +kernel
theorem dX11_marked_62 : decode cX11_marked 62 = .ok (.aload_n 0, 1) := by decide +kernel
theorem dX11_marked_63 : decode cX11_marked 63 = .ok (.iload_n 1, 1) := by decide +kernel
theorem dX11_marked_64 : decode cX11_marked 64 = .ok (.invokevirtual 234, 3) := by decide +kernel
theorem dX11_marked_67 : decode cX11_marked 67 = .ok (.i2l, 1) := by decide +kernel
theorem dX11_marked_68 : decode cX11_marked 68 = .ok (.lreturn, 1) := by decide +kernel
theorem dX11_marked_69 : decode cX11_marked 69 = .ok (.aload_n 0, 1) := by decide +kernel
theorem dX11_marked_70 : decode cX11_marked 70 = .ok (.iload_n 1, 1) := by decide +kernel
theorem dX11_marked_71 : decode cX11_marked 71 = .ok (.invokevirtual 237, 3) := by decide +kernel
theorem dX11_marked_74 : decode cX11_marked 74 = .ok (.i2l, 1) := by decide +kernel
theorem dX11_marked_75 : decode cX11_marked 75 = .ok (.lreturn, 1) := by decide +kernel
theorem dX11_marked_76 : decode cX11_marked 76 = .ok (.ldc2_w 192, 3) := by decide +kernel
theorem dX11_marked_79 : decode cX11_marked 79 = .ok (.lreturn, 1) := by decide +kernel
theorem dX11_near_0 : decode cX11_near 0 = .ok (.aload_n 0, 1) := by decide +kernel
theorem dX11_near_1 : decode cX11_near 1 = .ok (.iconst 0, 1) := by decide +kernel
theorem dX11_near_2 : decode cX11_near 2 = .ok (.putfield 1, 3) := by decide +kernel
theorem dX11_near_5 : decode cX11_near 5 = .ok (.ldc2_w 192, 3) := by decide +kernel
theorem dX11_near_8 : decode cX11_near 8 = .ok (.lstore 4, 2) := by decide +kernel
theorem dX11_near_10 : decode cX11_near 10 = .ok (.iconst 0, 1) := by decide +kernel
theorem dX11_near_11 : decode cX11_near 11 = .ok (.istore 6, 2) := by decide +kernel
theorem dX11_near_13 : decode cX11_near 13 = .ok (.iload 6, 2) := by decide +kernel
theorem dX11_near_15 : decode cX11_near 15 = .ok (.aload_n 0, 1) := by decide +kernel
theorem dX11_near_16 : decode cX11_near 16 = .ok (.getfield 24, 3) := by decide +kernel
theorem dX11_near_19 : decode cX11_near 19 = .ok (.iconst 2, 1) := by decide +kernel
theorem dX11_near_20 : decode cX11_near 20 = .ok (.iaload, 1) := by decide +kernel
theorem dX11_near_21 : decode cX11_near 21 = .ok (.if_icmp .ge 51, 3) := by decide +kernel
theorem dX11_near_24 : decode cX11_near 24 = .ok (.aload_n 0, 1) := by decide +kernel
theorem dX11_near_25 : decode cX11_near 25 = .ok (.iload 6, 2) := by decide +kernel
theorem dX11_near_27 : decode cX11_near 27 = .ok (.invokevirtual 240, 3) := by decide +kernel
theorem dX11_near_30 : decode cX11_near 30 = .ok (.lstore 7, 2) := by decide +kernel
theorem dX11_near_32 : decode cX11_near 32 = .ok (.iload_n 3, 1) := by decide +kernel
theorem dX11_near_33 : decode cX11_near 33 = .ok (.ifCond .eq 22, 3) := by decide +kernel
theorem dX11_near_36 : decode cX11_near 36 = .ok (.lload 7, 2) := by decide +kernel
theorem dX11_near_38 : decode cX11_near 38 = .ok (.lload_n 1, 1) := by decide +kernel
theorem dX11_near_39 : decode cX11_near 39 = .ok (.lcmp, 1) := by decide +kernel
theorem dX11_near_40 : decode cX11_near 40 = .ok (.ifCond .lt 26, 3) := by decide +kernel
theorem dX11_near_43 : decode cX11_near 43 = .ok (.lload 4, 2) := by decide +kernel
theorem dX11_near_45 : decode cX11_near 45 = .ok (.ldc2_w 192, 3) := by decide +kernel
theorem dX11_near_48 : decode cX11_near 48 = .ok (.lcmp, 1) := by decide +kernel
theorem dX11_near_49 : decode cX11_near 49 = .ok (.ifCond .ne 17, 3) := by decide +kernel
theorem dX11_near_52 : decode cX11_near 52 = .ok (.goto 10, 3) := by decide +kernel
theorem dX11_near_55 : decode cX11_near 55 = .ok (.lload 7, 2) := by decide +kernel
theorem dX11_near_57 : decode cX11_near 57 = .ok (.lload_n 1, 1) := by decide +kernel
theorem dX11_near_58 : decode cX11_near 58 = .ok (.lcmp, 1) := by decide +kernel
theorem dX11_near_59 : decode cX11_near 59 = .ok (.ifCond .gt 7, 3) := by decide +kernel
theorem dX11_near_62 : decode cX11_near 62 = .ok (.lload 7, 2) := by decide +kernel
theorem dX11_near_64 : decode cX11_near 64 = .ok (.lstore 4, 2) := by decide +kernel
theorem dX11_near_66 : decode cX11_near 66 = .ok (.iinc 6 1, 3) := by decide +kernel
theorem dX11_near_69 : decode cX11_near 69 = .ok (.goto (-56), 3) := by decide +kernel
theorem dX11_near_72 : decode cX11_near 72 = .ok (.lload 4, 2) := by decide +kernel
theorem dX11_near_74 : decode cX11_near 74 = .ok (.lreturn, 1) := by decide +kernel
theorem dX11_jump_0 : decode cX11_jump 0 = .ok (.aload_n 0, 1) := by decide +kernel
theorem dX11_jump_1 : decode cX11_jump 1 = .ok (.iconst 0, 1) := by decide +kernel
theorem dX11_jump_2 : decode cX11_jump 2 = .ok (.putfield 1, 3) := by decide +kernel
theorem dX11_jump_5 : decode cX11_jump 5 = .ok (.iload_n 1, 1) := by decide +kernel
theorem dX11_jump_6 : decode cX11_jump 6 = .ok (.i2l, 1) := by decide +kernel
theorem dX11_jump_7 : decode cX11_jump 7 = .ok (.lconst 0, 1) := by decide +kernel
theorem dX11_jump_8 : decode cX11_jump 8 = .ok (.aload_n 0, 1) := by decide +kernel
theorem dX11_jump_9 : decode cX11_jump 9 = .ok (.getfield 24, 3) := by decide +kernel
theorem dX11_jump_12 : decode cX11_jump 12 = .ok (.iconst 2, 1) := by decide +kernel
theorem dX11_jump_13 : decode cX11_jump 13 = .ok (.iaload, 1) := by decide +kernel
theorem dX11_jump_14 : decode cX11_jump 14 = .ok (.iconst 1, 1) := by decide +kernel
theorem dX11_jump_15 : decode cX11_jump 15 = .ok (.isub, 1) := by decide +kernel
theorem dX11_jump_16 : decode cX11_jump 16 = .ok (.i2l, 1) := by decide +kernel
theorem dX11_jump_17 : decode cX11_jump 17 = .ok (.invokestatic 91, 3) := by decide +kernel
theorem dX11_jump_20 : decode cX11_jump 20 = .ok (.ifCond .eq 20, 3) := by decide +kernel
theorem dX11_jump_23 : decode cX11_jump 23 = .ok (.aload_n 0, 1) := by decide +kernel
theorem dX11_jump_24 : decode cX11_jump 24 = .ok (.aload_n 0, 1) := by decide +kernel
theorem dX11_jump_25 : decode cX11_jump 25 = .ok (.iload_n 1, 1) := by decide +kernel
theorem dX11_jump_26 : decode cX11_jump 26 = .ok (.invokevirtual 234, 3) := by decide +kernel
theorem dX11_jump_29 : decode cX11_jump 29 = .ok (.aload_n 0, 1) := by decide +kernel
theorem dX11_jump_30 : decode cX11_jump 30 = .ok (.iload_n 1, 1) := by decide +kernel
theorem dX11_jump_31 : decode cX11_jump 31 = .ok (.invokevirtual 237, 3) := by decide +kernel
theorem dX11_jump_34 : decode cX11_jump 34 = .ok (.invokevirtual 120, 3) := by decide +kernel
theorem dX11_jump_37 : decode cX11_jump 37 = .ok (.goto 4, 3) := by decide +kernel
theorem dX11_jump_40 : decode cX11_jump 40 = .ok (.iconst (-1), 1) := by decide +kernel
theorem dX11_jump_41 : decode cX11_jump 41 = .ok (.ireturn, 1) := by decide +kernel
theorem dX11_told_0 : decode cX11_told 0 = .ok (.aload_n 0, 1) := by decide +kernel
theorem dX11_told_1 : decode cX11_told 1 = .ok (.iconst 0, 1) := by decide +kernel
theorem dX11_told_2 : decode cX11_told 2 = .ok (.putfield 1, 3) := by decide +kernel
theorem dX11_told_5 : decode cX11_told 5 = .ok (.aload_n 0, 1) := by decide +kernel
theorem dX11_told_6 : decode cX11_told 6 = .ok (.invokevirtual 95, 3) := by decide +kernel
theorem dX11_told_9 : decode cX11_told 9 = .ok (.aload_n 0, 1) := by decide +kernel
theorem dX11_told_10 : decode cX11_told 10 = .ok (.iconst 0, 1) := by decide +kernel
theorem dX11_told_11 : decode cX11_told 11 = .ok (.putfield 250, 3) := by decide +kernel
theorem dX11_told_14 : decode cX11_told 14 = .ok (.iconst 0, 1) := by decide +kernel
theorem dX11_told_15 : decode cX11_told 15 = .ok (.istore_n 1, 1) := by decide +kernel
theorem dX11_told_16 : decode cX11_told 16 = .ok (.iload_n 1, 1) := by decide +kernel
theorem dX11_told_17 : decode cX11_told 17 = .ok (.aload_n 0, 1) := by decide +kernel
theorem dX11_told_18 : decode cX11_told 18 = .ok (.getfield 78, 3) := by decide +kernel
theorem dX11_told_21 : decode cX11_told 21 = .ok (.if_icmp .ge 128, 3) := by decide +kernel
theorem dX11_told_24 : decode cX11_told 24 = .ok (.iconst 1, 1) := by decide +kernel
theorem dX11_told_25 : decode cX11_told 25 = .ok (.istore_n 2, 1) := by decide +kernel
theorem dX11_told_26 : decode cX11_told 26 = .ok (.iload_n 1, 1) := by decide +kernel
theorem dX11_told_27 : decode cX11_told 27 = .ok (.iload_n 2, 1) := by decide +kernel
theorem dX11_told_28 : decode cX11_told 28 = .ok (.iadd, 1) := by decide +kernel
theorem dX11_told_29 : decode cX11_told 29 = .ok (.aload_n 0, 1) := by decide +kernel
theorem dX11_told_30 : decode cX11_told 30 = .ok (.getfield 78, 3) := by decide +kernel
theorem dX11_told_33 : decode cX11_told 33 = .ok (.if_icmp .ge 26, 3) := by decide +kernel
theorem dX11_told_36 : decode cX11_told 36 = .ok (.aload_n 0, 1) := by decide +kernel
theorem dX11_told_37 : decode cX11_told 37 = .ok (.getfield 43, 3) := by decide +kernel
theorem dX11_told_40 : decode cX11_told 40 = .ok (.iload_n 1, 1) := by decide +kernel
theorem dX11_told_41 : decode cX11_told 41 = .ok (.iload_n 2, 1) := by decide +kernel
theorem dX11_told_42 : decode cX11_told 42 = .ok (.iadd, 1) := by decide +kernel
theorem dX11_told_43 : decode cX11_told 43 = .ok (.iaload, 1) := by decide +kernel
theorem dX11_told_44 : decode cX11_told 44 = .ok (.aload_n 0, 1) := by decide +kernel
theorem dX11_told_45 : decode cX11_told 45 = .ok (.getfield 43, 3) := by decide +kernel
theorem dX11_told_48 : decode cX11_told 48 = .ok (.iload_n 1, 1) := by decide +kernel
theorem dX11_told_49 : decode cX11_told 49 = .ok (.iaload, 1) := by decide +kernel
theorem dX11_told_50 : decode cX11_told 50 = .ok (.if_icmp .ne 9, 3) := by decide +kernel
theorem dX11_told_53 : decode cX11_told 53 = .ok (.iinc 2 1, 3) := by decide +kernel
theorem dX11_told_56 : decode cX11_told 56 = .ok (.goto (-30), 3) := by decide +kernel
theorem dX11_told_59 : decode cX11_told 59 = .ok (.aload_n 0, 1) := by decide +kernel
theorem dX11_told_60 : decode cX11_told 60 = .ok (.getfield 53, 3) := by decide +kernel
theorem dX11_told_63 : decode cX11_told 63 = .ok (.aload_n 0, 1) := by decide +kernel
theorem dX11_told_64 : decode cX11_told 64 = .ok (.getfield 250, 3) := by decide +kernel
theorem dX11_told_67 : decode cX11_told 67 = .ok (.aload_n 0, 1) := by decide +kernel
theorem dX11_told_68 : decode cX11_told 68 = .ok (.getfield 43, 3) := by decide +kernel
theorem dX11_told_71 : decode cX11_told 71 = .ok (.iload_n 1, 1) := by decide +kernel
theorem dX11_told_72 : decode cX11_told 72 = .ok (.iaload, 1) := by decide +kernel
theorem dX11_told_73 : decode cX11_told 73 = .ok (.iastore, 1) := by decide +kernel
theorem dX11_told_74 : decode cX11_told 74 = .ok (.aload_n 0, 1) := by decide +kernel
theorem dX11_told_75 : decode cX11_told 75 = .ok (.dup, 1) := by decide +kernel
theorem dX11_told_76 : decode cX11_told 76 = .ok (.getfield 250, 3) := by decide +kernel
theorem dX11_told_79 : decode cX11_told 79 = .ok (.iconst 1, 1) := by decide +kernel
theorem dX11_told_80 : decode cX11_told 80 = .ok (.iadd, 1) := by decide +kernel
theorem dX11_told_81 : decode cX11_told 81 = .ok (.putfield 250, 3) := by decide +kernel
theorem dX11_told_84 : decode cX11_told 84 = .ok (.iload_n 2, 1) := by decide +kernel
theorem dX11_told_85 : decode cX11_told 85 = .ok (.bipush 9, 2) := by decide +kernel
theorem dX11_told_87 : decode cX11_told 87 = .ok (.if_icmp .le 8, 3) := by decide +kernel
theorem dX11_told_90 : decode cX11_told 90 = .ok (.bipush 10, 2) := by decide +kernel
theorem dX11_told_92 : decode cX11_told 92 = .ok (.goto 4, 3) := by decide +kernel
theorem dX11_told_95 : decode cX11_told 95 = .ok (.iconst 1, 1) := by decide +kernel
theorem dX11_told_96 : decode cX11_told 96 = .ok (.istore_n 3, 1) := by decide +kernel
theorem dX11_told_97 : decode cX11_told 97 = .ok (.iload_n 3, 1) := by decide +kernel
theorem dX11_told_98 : decode cX11_told 98 = .ok (.ifCond .le 44, 3) := by decide +kernel
theorem dX11_told_101 : decode cX11_told 101 = .ok (.iload_n 2, 1) := by decide +kernel
theorem dX11_told_102 : decode cX11_told 102 = .ok (.iconst 1, 1) := by decide +kernel
theorem dX11_told_103 : decode cX11_told 103 = .ok (.if_icmp .le 39, 3) := by decide +kernel
theorem dX11_told_106 : decode cX11_told 106 = .ok (.aload_n 0, 1) := by decide +kernel
theorem dX11_told_107 : decode cX11_told 107 = .ok (.getfield 53, 3) := by decide +kernel
theorem dX11_told_110 : decode cX11_told 110 = .ok (.aload_n 0, 1) := by decide +kernel
theorem dX11_told_111 : decode cX11_told 111 = .ok (.getfield 250, 3) := by decide +kernel
theorem dX11_told_114 : decode cX11_told 114 = .ok (.bipush 48, 2) := by decide +kernel
theorem dX11_told_116 : decode cX11_told 116 = .ok (.iload_n 2, 1) := by decide +kernel
theorem dX11_told_117 : decode cX11_told 117 = .ok (.iload_n 3, 1) := by decide +kernel
theorem dX11_told_118 : decode cX11_told 118 = .ok (.idiv, 1) := by decide +kernel
theorem dX11_told_119 : decode cX11_told 119 = .ok (.bipush 10, 2) := by decide +kernel
theorem dX11_told_121 : decode cX11_told 121 = .ok (.irem, 1) := by decide +kernel
theorem dX11_told_122 : decode cX11_told 122 = .ok (.iadd, 1) := by decide +kernel
theorem dX11_told_123 : decode cX11_told 123 = .ok (.iastore, 1) := by decide +kernel
theorem dX11_told_124 : decode cX11_told 124 = .ok (.aload_n 0, 1) := by decide +kernel
theorem dX11_told_125 : decode cX11_told 125 = .ok (.dup, 1) := by decide +kernel
theorem dX11_told_126 : decode cX11_told 126 = .ok (.getfield 250, 3) := by decide +kernel
theorem dX11_told_129 : decode cX11_told 129 = .ok (.iconst 1, 1) := by decide +kernel
theorem dX11_told_130 : decode cX11_told 130 = .ok (.iadd, 1) := by decide +kernel
theorem dX11_told_131 : decode cX11_told 131 = .ok (.putfield 250, 3) := by decide +kernel
theorem dX11_told_134 : decode cX11_told 134 = .ok (.iload_n 3, 1) := by decide +kernel
theorem dX11_told_135 : decode cX11_told 135 = .ok (.bipush 10, 2) := by decide +kernel
theorem dX11_told_137 : decode cX11_told 137 = .ok (.idiv, 1) := by decide +kernel
theorem dX11_told_138 : decode cX11_told 138 = .ok (.istore_n 3, 1) := by decide +kernel
theorem dX11_told_139 : decode cX11_told 139 = .ok (.goto (-42), 3) := by decide +kernel
theorem dX11_told_142 : decode cX11_told 142 = .ok (.iload_n 1, 1) := by decide +kernel
theorem dX11_told_143 : decode cX11_told 143 = .ok (.iload_n 2, 1) := by decide +kernel
theorem dX11_told_144 : decode cX11_told 144 = .ok (.iadd, 1) := by decide +kernel
theorem dX11_told_145 : decode cX11_told 145 = .ok (.istore_n 1, 1) := by decide +kernel
theorem dX11_told_146 : decode cX11_told 146 = .ok (.goto (-130), 3) := by decide +kernel
theorem dX11_told_149 : decode cX11_told 149 = .ok (.aload_n 0, 1) := by decide +kernel
theorem dX11_told_150 : decode cX11_told 150 = .ok (.getfield 250, 3) := by decide +kernel
theorem dX11_told_153 : decode cX11_told 153 = .ok (.ireturn, 1) := by decide +kernel
theorem dX11_byteAt_0 : decode cX11_byteAt 0 = .ok (.aload_n 0, 1) := by decide +kernel
theorem dX11_byteAt_1 : decode cX11_byteAt 1 = .ok (.iconst 0, 1) := by decide +kernel
theorem dX11_byteAt_2 : decode cX11_byteAt 2 = .ok (.putfield 1, 3) := by decide +kernel
theorem dX11_byteAt_5 : decode cX11_byteAt 5 = .ok (.iload_n 1, 1) := by decide +kernel
theorem dX11_byteAt_6 : decode cX11_byteAt 6 = .ok (.i2l, 1) := by decide +kernel
theorem dX11_byteAt_7 : decode cX11_byteAt 7 = .ok (.lconst 0, 1) := by decide +kernel
theorem dX11_byteAt_8 : decode cX11_byteAt 8 = .ok (.aload_n 0, 1) := by decide +kernel
theorem dX11_byteAt_9 : decode cX11_byteAt 9 = .ok (.getfield 250, 3) := by decide +kernel
theorem dX11_byteAt_12 : decode cX11_byteAt 12 = .ok (.iconst 1, 1) := by decide +kernel
theorem dX11_byteAt_13 : decode cX11_byteAt 13 = .ok (.isub, 1) := by decide +kernel
theorem dX11_byteAt_14 : decode cX11_byteAt 14 = .ok (.i2l, 1) := by decide +kernel
theorem dX11_byteAt_15 : decode cX11_byteAt 15 = .ok (.invokestatic 91, 3) := by decide +kernel
theorem dX11_byteAt_18 : decode cX11_byteAt 18 = .ok (.ifCond .eq 12, 3) := by decide +kernel
theorem dX11_byteAt_21 : decode cX11_byteAt 21 = .ok (.aload_n 0, 1) := by decide +kernel
theorem dX11_byteAt_22 : decode cX11_byteAt 22 = .ok (.getfield 53, 3) := by decide +kernel
theorem dX11_byteAt_25 : decode cX11_byteAt 25 = .ok (.iload_n 1, 1) := by decide +kernel
theorem dX11_byteAt_26 : decode cX11_byteAt 26 = .ok (.iaload, 1) := by decide +kernel
theorem dX11_byteAt_27 : decode cX11_byteAt 27 = .ok (.goto 4, 3) := by decide +kernel
theorem dX11_byteAt_30 : decode cX11_byteAt 30 = .ok (.iconst (-1), 1) := by decide +kernel
theorem dX11_byteAt_31 : decode cX11_byteAt 31 = .ok (.ireturn, 1) := by decide +kernel
theorem dX11_here_0 : decode cX11_here 0 = .ok (.aload_n 0, 1) := by decide +kernel
theorem dX11_here_1 : decode cX11_here 1 = .ok (.getfield 253, 3) := by decide +kernel
theorem dX11_here_4 : decode cX11_here 4 = .ok (.aload_n 0, 1) := by decide +kernel
theorem dX11_here_5 : decode cX11_here 5 = .ok (.getfield 256, 3) := by decide +kernel
theorem dX11_here_8 : decode cX11_here 8 = .ok (.if_icmp .ge 30, 3) := by decide +kernel
theorem dX11_here_11 : decode cX11_here 11 = .ok (.aload_n 0, 1) := by decide +kernel
theorem dX11_here_12 : decode cX11_here 12 = .ok (.getfield 7, 3) := by decide +kernel
theorem dX11_here_15 : decode cX11_here 15 = .ok (.aload_n 0, 1) := by decide +kernel
theorem dX11_here_16 : decode cX11_here 16 = .ok (.getfield 253, 3) := by decide +kernel
theorem dX11_here_19 : decode cX11_here 19 = .ok (.iaload, 1) := by decide +kernel
theorem dX11_here_20 : decode cX11_here 20 = .ok (.bipush 32, 2) := by decide +kernel
theorem dX11_here_22 : decode cX11_here 22 = .ok (.if_icmp .ne 16, 3) := by decide +kernel
theorem dX11_here_25 : decode cX11_here 25 = .ok (.aload_n 0, 1) := by decide +kernel
theorem dX11_here_26 : decode cX11_here 26 = .ok (.dup, 1) := by decide +kernel
theorem dX11_here_27 : decode cX11_here 27 = .ok (.getfield 253, 3) := by decide +kernel
theorem dX11_here_30 : decode cX11_here 30 = .ok (.iconst 1, 1) := by decide +kernel
theorem dX11_here_31 : decode cX11_here 31 = .ok (.iadd, 1) := by decide +kernel
theorem dX11_here_32 : decode cX11_here 32 = .ok (.putfield 253, 3) := by decide +kernel
theorem dX11_here_35 : decode cX11_here 35 = .ok (.goto (-35), 3) := by decide +kernel
theorem dX11_here_38 : decode cX11_here 38 = .ok (.aload_n 0, 1) := by decide +kernel
theorem dX11_here_39 : decode cX11_here 39 = .ok (.getfield 253, 3) := by decide +kernel
theorem dX11_here_42 : decode cX11_here 42 = .ok (.aload_n 0, 1) := by decide +kernel
theorem dX11_here_43 : decode cX11_here 43 = .ok (.getfield 256, 3) := by decide +kernel
theorem dX11_here_46 : decode cX11_here 46 = .ok (.if_icmp .ge 15, 3) := by decide +kernel
theorem dX11_here_49 : decode cX11_here 49 = .ok (.aload_n 0, 1) := by decide +kernel
theorem dX11_here_50 : decode cX11_here 50 = .ok (.getfield 7, 3) := by decide +kernel
theorem dX11_here_53 : decode cX11_here 53 = .ok (.aload_n 0, 1) := by decide +kernel
theorem dX11_here_54 : decode cX11_here 54 = .ok (.getfield 253, 3) := by decide +kernel
theorem dX11_here_57 : decode cX11_here 57 = .ok (.iaload, 1) := by decide +kernel
theorem dX11_here_58 : decode cX11_here 58 = .ok (.goto 4, 3) := by decide +kernel
theorem dX11_here_61 : decode cX11_here 61 = .ok (.iconst 0, 1) := by decide +kernel
theorem dX11_here_62 : decode cX11_here 62 = .ok (.ireturn, 1) := by decide +kernel
theorem dX11_bad_0 : decode cX11_bad 0 = .ok (.aload_n 0, 1) := by decide +kernel
theorem dX11_bad_1 : decode cX11_bad 1 = .ok (.getfield 259, 3) := by decide +kernel
theorem dX11_bad_4 : decode cX11_bad 4 = .ok (.ifCond .eq 4, 3) := by decide +kernel
theorem dX11_bad_7 : decode cX11_bad 7 = .ok (.return_, 1) := by decide +kernel
theorem dX11_bad_8 : decode cX11_bad 8 = .ok (.aload_n 0, 1) := by decide +kernel
theorem dX11_bad_9 : decode cX11_bad 9 = .ok (.iload_n 1, 1) := by decide +kernel
theorem dX11_bad_10 : decode cX11_bad 10 = .ok (.putfield 259, 3) := by decide +kernel
theorem dX11_bad_13 : decode cX11_bad 13 = .ok (.aload_n 0, 1) := by decide +kernel
theorem dX11_bad_14 : decode cX11_bad 14 = .ok (.iload_n 2, 1) := by decide +kernel
theorem dX11_bad_15 : decode cX11_bad 15 = .ok (.putfield 262, 3) := by decide +kernel
theorem dX11_bad_18 : decode cX11_bad 18 = .ok (.return_, 1) := by decide +kernel
theorem dX11_isDigit_0 : decode cX11_isDigit 0 = .ok (.iload_n 0, 1) := by decide +kernel
theorem dX11_isDigit_1 : decode cX11_isDigit 1 = .ok (.bipush 48, 2) := by decide +kernel
theorem dX11_isDigit_3 : decode cX11_isDigit 3 = .ok (.if_icmp .lt 13, 3) := by decide +kernel
theorem dX11_isDigit_6 : decode cX11_isDigit 6 = .ok (.iload_n 0, 1) := by decide +kernel
theorem dX11_isDigit_7 : decode cX11_isDigit 7 = .ok (.bipush 57, 2) := by decide +kernel
theorem dX11_isDigit_9 : decode cX11_isDigit 9 = .ok (.if_icmp .gt 7, 3) := by decide +kernel
theorem dX11_isDigit_12 : decode cX11_isDigit 12 = .ok (.iconst 1, 1) := by decide +kernel
theorem dX11_isDigit_13 : decode cX11_isDigit 13 = .ok (.goto 4, 3) := by decide +kernel
theorem dX11_isDigit_16 : decode cX11_isDigit 16 = .ok (.iconst 0, 1) := by decide +kernel
theorem dX11_isDigit_17 : decode cX11_isDigit 17 = .ok (.ireturn, 1) := by decide +kernel
theorem dX11_often_0 : decode cX11_often 0 = .ok (.aload_n 0, 1) := by decide +kernel
theorem dX11_often_1 : decode cX11_often 1 = .ok (.invokevirtual 265, 3) := by decide +kernel
theorem dX11_often_4 : decode cX11_often 4 = .ok (.invokestatic 268, 3) := by decide +kernel
theorem dX11_often_7 : decode cX11_often 7 = .ok (.ifCond .ne 5, 3) := by decide +kernel
theorem dX11_often_10 : decode cX11_often 10 = .ok (.iconst 1, 1) := by decide +kernel
theorem dX11_often_11 : decode cX11_often 11 = .ok (.ireturn, 1) := by decide +kernel
theorem dX11_often_12 : decode cX11_often 12 = .ok (.aload_n 0, 1) := by decide +kernel
theorem dX11_often_13 : decode cX11_often 13 = .ok (.getfield 253, 3) := by decide +kernel
theorem dX11_often_16 : decode cX11_often 16 = .ok (.istore_n 1, 1) := by decide +kernel
theorem dX11_often_17 : decode cX11_often 17 = .ok (.iconst 0, 1) := by decide +kernel
theorem dX11_often_18 : decode cX11_often 18 = .ok (.istore_n 2, 1) := by decide +kernel
theorem dX11_often_19 : decode cX11_often 19 = .ok (.aload_n 0, 1) := by decide +kernel
theorem dX11_often_20 : decode cX11_often 20 = .ok (.getfield 253, 3) := by decide +kernel
theorem dX11_often_23 : decode cX11_often 23 = .ok (.aload_n 0, 1) := by decide +kernel
theorem dX11_often_24 : decode cX11_often 24 = .ok (.getfield 256, 3) := by decide +kernel
theorem dX11_often_27 : decode cX11_often 27 = .ok (.if_icmp .ge 59, 3) := by decide +kernel
theorem dX11_often_30 : decode cX11_often 30 = .ok (.aload_n 0, 1) := by decide +kernel
theorem dX11_often_31 : decode cX11_often 31 = .ok (.getfield 7, 3) := by decide +kernel
theorem dX11_often_34 : decode cX11_often 34 = .ok (.aload_n 0, 1) := by decide +kernel
theorem dX11_often_35 : decode cX11_often 35 = .ok (.getfield 253, 3) := by decide +kernel
theorem dX11_often_38 : decode cX11_often 38 = .ok (.iaload, 1) := by decide +kernel
theorem dX11_often_39 : decode cX11_often 39 = .ok (.invokestatic 268, 3) := by decide +kernel
theorem dX11_often_42 : decode cX11_often 42 = .ok (.ifCond .eq 44, 3) := by decide +kernel
theorem dX11_often_45 : decode cX11_often 45 = .ok (.aload_n 0, 1) := by decide +kernel
theorem dX11_often_46 : decode cX11_often 46 = .ok (.getfield 253, 3) := by decide +kernel
theorem dX11_often_49 : decode cX11_often 49 = .ok (.iload_n 1, 1) := by decide +kernel
theorem dX11_often_50 : decode cX11_often 50 = .ok (.isub, 1) := by decide +kernel
theorem dX11_often_51 : decode cX11_often 51 = .ok (.iconst 2, 1) := by decide +kernel
theorem dX11_often_52 : decode cX11_often 52 = .ok (.if_icmp .ge 21, 3) := by decide +kernel
theorem dX11_often_55 : decode cX11_often 55 = .ok (.bipush 10, 2) := by decide +kernel
theorem dX11_often_57 : decode cX11_often 57 = .ok (.iload_n 2, 1) := by decide +kernel
theorem dX11_often_58 : decode cX11_often 58 = .ok (.imul, 1) := by decide +kernel
theorem dX11_often_59 : decode cX11_often 59 = .ok (.aload_n 0, 1) := by decide +kernel
theorem dX11_often_60 : decode cX11_often 60 = .ok (.getfield 7, 3) := by decide +kernel
theorem dX11_often_63 : decode cX11_often 63 = .ok (.aload_n 0, 1) := by decide +kernel
theorem dX11_often_64 : decode cX11_often 64 = .ok (.getfield 253, 3) := by decide +kernel
theorem dX11_often_67 : decode cX11_often 67 = .ok (.iaload, 1) := by decide +kernel
theorem dX11_often_68 : decode cX11_often 68 = .ok (.iadd, 1) := by decide +kernel
theorem dX11_often_69 : decode cX11_often 69 = .ok (.bipush 48, 2) := by decide +kernel
theorem dX11_often_71 : decode cX11_often 71 = .ok (.isub, 1) := by decide +kernel
theorem dX11_often_72 : decode cX11_often 72 = .ok (.istore_n 2, 1) := by decide +kernel
theorem dX11_often_73 : decode cX11_often 73 = .ok (.aload_n 0, 1) := by decide +kernel
theorem dX11_often_74 : decode cX11_often 74 = .ok (.dup, 1) := by decide +kernel
theorem dX11_often_75 : decode cX11_often 75 = .ok (.getfield 253, 3) := by decide +kernel
theorem dX11_often_78 : decode cX11_often 78 = .ok (.iconst 1, 1) := by decide +kernel
theorem dX11_often_79 : decode cX11_often 79 = .ok (.iadd, 1) := by decide +kernel
theorem dX11_often_80 : decode cX11_often 80 = .ok (.putfield 253, 3) := by decide +kernel
theorem dX11_often_83 : decode cX11_often 83 = .ok (.goto (-64), 3) := by decide +kernel
theorem dX11_often_86 : decode cX11_often 86 = .ok (.aload_n 0, 1) := by decide +kernel
theorem dX11_often_87 : decode cX11_often 87 = .ok (.getfield 253, 3) := by decide +kernel
theorem dX11_often_90 : decode cX11_often 90 = .ok (.iload_n 1, 1) := by decide +kernel
theorem dX11_often_91 : decode cX11_often 91 = .ok (.isub, 1) := by decide +kernel
theorem dX11_often_92 : decode cX11_often 92 = .ok (.iconst 2, 1) := by decide +kernel
theorem dX11_often_93 : decode cX11_often 93 = .ok (.if_icmp .gt 8, 3) := by decide +kernel
theorem dX11_often_96 : decode cX11_often 96 = .ok (.iload_n 2, 1) := by decide +kernel
theorem dX11_often_97 : decode cX11_often 97 = .ok (.iconst 1, 1) := by decide +kernel
theorem dX11_often_98 : decode cX11_often 98 = .ok (.if_icmp .ge 9, 3) := by decide +kernel
theorem dX11_often_101 : decode cX11_often 101 = .ok (.aload_n 0, 1) := by decide +kernel
theorem dX11_often_102 : decode cX11_often 102 = .ok (.iconst 2, 1) := by decide +kernel
theorem dX11_often_103 : decode cX11_often 103 = .ok (.iload_n 1, 1) := by decide +kernel
theorem dX11_often_104 : decode cX11_often 104 = .ok (.invokevirtual 271, 3) := by decide +kernel
theorem dX11_often_107 : decode cX11_often 107 = .ok (.iload_n 2, 1) := by decide +kernel
theorem dX11_often_108 : decode cX11_often 108 = .ok (.ireturn, 1) := by decide +kernel
theorem dX11_reads_0 : decode cX11_reads 0 = .ok (.aload_n 0, 1) := by decide +kernel
theorem dX11_reads_1 : decode cX11_reads 1 = .ok (.getfield 259, 3) := by decide +kernel
theorem dX11_reads_4 : decode cX11_reads 4 = .ok (.ifCond .ne 118, 3) := by decide +kernel
theorem dX11_reads_7 : decode cX11_reads 7 = .ok (.aload_n 0, 1) := by decide +kernel
theorem dX11_reads_8 : decode cX11_reads 8 = .ok (.invokevirtual 265, 3) := by decide +kernel
theorem dX11_reads_11 : decode cX11_reads 11 = .ok (.istore_n 2, 1) := by decide +kernel
theorem dX11_reads_12 : decode cX11_reads 12 = .ok (.aload_n 0, 1) := by decide +kernel
theorem dX11_reads_13 : decode cX11_reads 13 = .ok (.getfield 253, 3) := by decide +kernel
theorem dX11_reads_16 : decode cX11_reads 16 = .ok (.istore_n 3, 1) := by decide +kernel
theorem dX11_reads_17 : decode cX11_reads 17 = .ok (.iload_n 2, 1) := by decide +kernel
theorem dX11_reads_18 : decode cX11_reads 18 = .ok (.ifCond .ne 28, 3) := by decide +kernel
theorem dX11_reads_21 : decode cX11_reads 21 = .ok (.aload_n 0, 1) := by decide +kernel
theorem dX11_reads_22 : decode cX11_reads 22 = .ok (.getfield 253, 3) := by decide +kernel
theorem dX11_reads_25 : decode cX11_reads 25 = .ok (.aload_n 0, 1) := by decide +kernel
theorem dX11_reads_26 : decode cX11_reads 26 = .ok (.getfield 256, 3) := by decide +kernel
theorem dX11_reads_29 : decode cX11_reads 29 = .ok (.if_icmp .lt 17, 3) := by decide +kernel
theorem dX11_reads_32 : decode cX11_reads 32 = .ok (.iload_n 1, 1) := by decide +kernel
theorem dX11_reads_33 : decode cX11_reads 33 = .ok (.ifCond .eq 12, 3) := by decide +kernel
theorem dX11_reads_36 : decode cX11_reads 36 = .ok (.aload_n 0, 1) := by decide +kernel
theorem dX11_reads_37 : decode cX11_reads 37 = .ok (.iconst 1, 1) := by decide +kernel
theorem dX11_reads_38 : decode cX11_reads 38 = .ok (.aload_n 0, 1) := by decide +kernel
theorem dX11_reads_39 : decode cX11_reads 39 = .ok (.getfield 256, 3) := by decide +kernel
theorem dX11_reads_42 : decode cX11_reads 42 = .ok (.invokevirtual 271, 3) := by decide +kernel
theorem dX11_reads_45 : decode cX11_reads 45 = .ok (.return_, 1) := by decide +kernel
theorem dX11_reads_46 : decode cX11_reads 46 = .ok (.iload_n 2, 1) := by decide +kernel
theorem dX11_reads_47 : decode cX11_reads 47 = .ok (.bipush 93, 2) := by decide +kernel
theorem dX11_reads_49 : decode cX11_reads 49 = .ok (.if_icmp .ne 8, 3) := by decide +kernel
theorem dX11_reads_52 : decode cX11_reads 52 = .ok (.iload_n 1, 1) := by decide +kernel
theorem dX11_reads_53 : decode cX11_reads 53 = .ok (.ifCond .eq 4, 3) := by decide +kernel
theorem dX11_reads_56 : decode cX11_reads 56 = .ok (.return_, 1) := by decide +kernel
theorem dX11_reads_57 : decode cX11_reads 57 = .ok (.aload_n 0, 1) := by decide +kernel
theorem dX11_reads_58 : decode cX11_reads 58 = .ok (.dup, 1) := by decide +kernel
theorem dX11_reads_59 : decode cX11_reads 59 = .ok (.getfield 253, 3) := by decide +kernel
theorem dX11_reads_62 : decode cX11_reads 62 = .ok (.iconst 1, 1) := by decide +kernel
theorem dX11_reads_63 : decode cX11_reads 63 = .ok (.iadd, 1) := by decide +kernel
theorem dX11_reads_64 : decode cX11_reads 64 = .ok (.putfield 253, 3) := by decide +kernel
theorem dX11_reads_67 : decode cX11_reads 67 = .ok (.iload_n 2, 1) := by decide +kernel
theorem dX11_reads_68 : decode cX11_reads 68 = .ok (.bipush 108, 2) := by decide +kernel
theorem dX11_reads_70 : decode cX11_reads 70 = .ok (.if_icmp .eq 15, 3) := by decide +kernel
theorem dX11_reads_73 : decode cX11_reads 73 = .ok (.iload_n 2, 1) := by decide +kernel
theorem dX11_reads_74 : decode cX11_reads 74 = .ok (.bipush 114, 2) := by decide +kernel
theorem dX11_reads_76 : decode cX11_reads 76 = .ok (.if_icmp .eq 9, 3) := by decide +kernel
theorem dX11_reads_79 : decode cX11_reads 79 = .ok (.iload_n 2, 1) := by decide +kernel
theorem dX11_reads_80 : decode cX11_reads 80 = .ok (.bipush 117, 2) := by decide +kernel
theorem dX11_reads_82 : decode cX11_reads 82 = .ok (.if_icmp .ne 11, 3) := by decide +kernel
theorem dX11_reads_85 : decode cX11_reads 85 = .ok (.aload_n 0, 1) := by decide +kernel
theorem dX11_reads_86 : decode cX11_reads 86 = .ok (.invokevirtual 274, 3) := by decide +kernel
theorem dX11_reads_89 : decode cX11_reads 89 = .ok (.pop, 1) := by decide +kernel
theorem dX11_reads_90 : decode cX11_reads 90 = .ok (.goto 29, 3) := by decide +kernel
theorem dX11_reads_93 : decode cX11_reads 93 = .ok (.iload_n 2, 1) := by decide +kernel
theorem dX11_reads_94 : decode cX11_reads 94 = .ok (.bipush 91, 2) := by decide +kernel
theorem dX11_reads_96 : decode cX11_reads 96 = .ok (.if_icmp .ne 11, 3) := by decide +kernel
theorem dX11_reads_99 : decode cX11_reads 99 = .ok (.aload_n 0, 1) := by decide +kernel
theorem dX11_reads_100 : decode cX11_reads 100 = .ok (.iload_n 3, 1) := by decide +kernel
theorem dX11_reads_101 : decode cX11_reads 101 = .ok (.invokevirtual 277, 3) := by decide +kernel
theorem dX11_reads_104 : decode cX11_reads 104 = .ok (.goto 15, 3) := by decide +kernel
theorem dX11_reads_107 : decode cX11_reads 107 = .ok (.iload_n 2, 1) := by decide +kernel
theorem dX11_reads_108 : decode cX11_reads 108 = .ok (.bipush 104, 2) := by decide +kernel
theorem dX11_reads_110 : decode cX11_reads 110 = .ok (.if_icmp .eq 9, 3) := by decide +kernel
theorem dX11_reads_113 : decode cX11_reads 113 = .ok (.aload_n 0, 1) := by decide +kernel
theorem dX11_reads_114 : decode cX11_reads 114 = .ok (.iconst 1, 1) := by decide +kernel
theorem dX11_reads_115 : decode cX11_reads 115 = .ok (.iload_n 3, 1) := by decide +kernel
theorem dX11_reads_116 : decode cX11_reads 116 = .ok (.invokevirtual 271, 3) := by decide +kernel
theorem dX11_reads_119 : decode cX11_reads 119 = .ok (.goto (-119), 3) := by decide +kernel
theorem dX11_reads_122 : decode cX11_reads 122 = .ok (.return_, 1) := by decide +kernel
theorem dX11_readsBracket_0 : decode cX11_readsBracket 0 = .ok (.aload_n 0, 1) := by decide +kernel
theorem dX11_readsBracket_1 : decode cX11_readsBracket 1 = .ok (.getfield 280, 3) := by decide +kernel
theorem dX11_readsBracket_4 : decode cX11_readsBracket 4 = .ok (.iconst 3, 1) := by decide +kernel
theorem dX11_readsBracket_5 : decode cX11_readsBracket 5 = .ok (.if_icmp .ne 10, 3) := by decide +kernel
theorem dX11_readsBracket_8 : decode cX11_readsBracket 8 = .ok (.aload_n 0, 1) := by decide +kernel
theorem dX11_readsBracket_9 : decode cX11_readsBracket 9 = .ok (.iconst 3, 1) := by decide +kernel
theorem dX11_readsBracket_10 : decode cX11_readsBracket 10 = .ok (.iload_n 1, 1) := by decide +kernel
theorem dX11_readsBracket_11 : decode cX11_readsBracket 11 = .ok (.invokevirtual 271, 3) := by decide +kernel
theorem dX11_readsBracket_14 : decode cX11_readsBracket 14 = .ok (.return_, 1) := by decide +kernel
theorem dX11_readsBracket_15 : decode cX11_readsBracket 15 = .ok (.aload_n 0, 1) := by decide +kernel
theorem dX11_readsBracket_16 : decode cX11_readsBracket 16 = .ok (.dup, 1) := by decide +kernel
theorem dX11_readsBracket_17 : decode cX11_readsBracket 17 = .ok (.getfield 280, 3) := by decide +kernel
theorem dX11_readsBracket_20 : decode cX11_readsBracket 20 = .ok (.iconst 1, 1) := by decide +kernel
theorem dX11_readsBracket_21 : decode cX11_readsBracket 21 = .ok (.iadd, 1) := by decide +kernel
theorem dX11_readsBracket_22 : decode cX11_readsBracket 22 = .ok (.putfield 280, 3) := by decide +kernel
theorem dX11_readsBracket_25 : decode cX11_readsBracket 25 = .ok (.aload_n 0, 1) := by decide +kernel
theorem dX11_readsBracket_26 : decode cX11_readsBracket 26 = .ok (.iconst 1, 1) := by decide +kernel
theorem dX11_readsBracket_27 : decode cX11_readsBracket 27 = .ok (.invokevirtual 283, 3) := by decide +kernel
theorem dX11_readsBracket_30 : decode cX11_readsBracket 30 = .ok (.aload_n 0, 1) := by decide +kernel
theorem dX11_readsBracket_31 : decode cX11_readsBracket 31 = .ok (.dup, 1) := by decide +kernel
theorem dX11_readsBracket_32 : decode cX11_readsBracket 32 = .ok (.getfield 280, 3) := by decide +kernel
theorem dX11_readsBracket_35 : decode cX11_readsBracket 35 = .ok (.iconst 1, 1) := by decide +kernel
theorem dX11_readsBracket_36 : decode cX11_readsBracket 36 = .ok (.isub, 1) := by decide +kernel
theorem dX11_readsBracket_37 : decode cX11_readsBracket 37 = .ok (.putfield 280, 3) := by decide +kernel
theorem dX11_readsBracket_40 : decode cX11_readsBracket 40 = .ok (.aload_n 0, 1) := by decide +kernel
theorem dX11_readsBracket_41 : decode cX11_readsBracket 41 = .ok (.getfield 259, 3) := by decide +kernel
theorem dX11_readsBracket_44 : decode cX11_readsBracket 44 = .ok (.ifCond .eq 4, 3) := by decide +kernel
theorem dX11_readsBracket_47 : decode cX11_readsBracket 47 = .ok (.return_, 1) := by decide +kernel
theorem dX11_readsBracket_48 : decode cX11_readsBracket 48 = .ok (.aload_n 0, 1) := by decide +kernel
theorem dX11_readsBracket_49 : decode cX11_readsBracket 49 = .ok (.dup, 1) := by decide +kernel
theorem dX11_readsBracket_50 : decode cX11_readsBracket 50 = .ok (.getfield 253, 3) := by decide +kernel
theorem dX11_readsBracket_53 : decode cX11_readsBracket 53 = .ok (.iconst 1, 1) := by decide +kernel
theorem dX11_readsBracket_54 : decode cX11_readsBracket 54 = .ok (.iadd, 1) := by decide +kernel
theorem dX11_readsBracket_55 : decode cX11_readsBracket 55 = .ok (.putfield 253, 3) := by decide +kernel
theorem dX11_readsBracket_58 : decode cX11_readsBracket 58 = .ok (.aload_n 0, 1) := by decide +kernel
theorem dX11_readsBracket_59 : decode cX11_readsBracket 59 = .ok (.invokevirtual 274, 3) := by decide +kernel
theorem dX11_readsBracket_62 : decode cX11_readsBracket 62 = .ok (.pop, 1) := by decide +kernel
theorem dX11_readsBracket_63 : decode cX11_readsBracket 63 = .ok (.return_, 1) := by decide +kernel
theorem dX11_skips_0 : decode cX11_skips 0 = .ok (.iconst 1, 1) := by decide +kernel
theorem dX11_skips_1 : decode cX11_skips 1 = .ok (.istore_n 1, 1) := by decide +kernel
theorem dX11_skips_2 : decode cX11_skips 2 = .ok (.iload_n 1, 1) := by decide +kernel
theorem dX11_skips_3 : decode cX11_skips 3 = .ok (.ifCond .le 50, 3) := by decide +kernel
theorem dX11_skips_6 : decode cX11_skips 6 = .ok (.aload_n 0, 1) := by decide +kernel
theorem dX11_skips_7 : decode cX11_skips 7 = .ok (.getfield 7, 3) := by decide +kernel
theorem dX11_skips_10 : decode cX11_skips 10 = .ok (.aload_n 0, 1) := by decide +kernel
theorem dX11_skips_11 : decode cX11_skips 11 = .ok (.getfield 253, 3) := by decide +kernel
theorem dX11_skips_14 : decode cX11_skips 14 = .ok (.iaload, 1) := by decide +kernel
theorem dX11_skips_15 : decode cX11_skips 15 = .ok (.bipush 91, 2) := by decide +kernel
theorem dX11_skips_17 : decode cX11_skips 17 = .ok (.if_icmp .ne 6, 3) := by decide +kernel
theorem dX11_skips_20 : decode cX11_skips 20 = .ok (.iinc 1 1, 3) := by decide +kernel
theorem dX11_skips_23 : decode cX11_skips 23 = .ok (.aload_n 0, 1) := by decide +kernel
theorem dX11_skips_24 : decode cX11_skips 24 = .ok (.getfield 7, 3) := by decide +kernel
theorem dX11_skips_27 : decode cX11_skips 27 = .ok (.aload_n 0, 1) := by decide +kernel
theorem dX11_skips_28 : decode cX11_skips 28 = .ok (.getfield 253, 3) := by decide +kernel
theorem dX11_skips_31 : decode cX11_skips 31 = .ok (.iaload, 1) := by decide +kernel
theorem dX11_skips_32 : decode cX11_skips 32 = .ok (.bipush 93, 2) := by decide +kernel
theorem dX11_skips_34 : decode cX11_skips 34 = .ok (.if_icmp .ne 6, 3) := by decide +kernel
theorem dX11_skips_37 : decode cX11_skips 37 = .ok (.iinc 1 (-1), 3) := by decide +kernel
theorem dX11_skips_40 : decode cX11_skips 40 = .ok (.aload_n 0, 1) := by decide +kernel
theorem dX11_skips_41 : decode cX11_skips 41 = .ok (.dup, 1) := by decide +kernel
theorem dX11_skips_42 : decode cX11_skips 42 = .ok (.getfield 253, 3) := by decide +kernel
theorem dX11_skips_45 : decode cX11_skips 45 = .ok (.iconst 1, 1) := by decide +kernel
theorem dX11_skips_46 : decode cX11_skips 46 = .ok (.iadd, 1) := by decide +kernel
theorem dX11_skips_47 : decode cX11_skips 47 = .ok (.putfield 253, 3) := by decide +kernel
theorem dX11_skips_50 : decode cX11_skips 50 = .ok (.goto (-48), 3) := by decide +kernel
theorem dX11_skips_53 : decode cX11_skips 53 = .ok (.return_, 1) := by decide +kernel
theorem dX11_does_0 : decode cX11_does 0 = .ok (.iconst 0, 1) := by decide +kernel
theorem dX11_does_1 : decode cX11_does 1 = .ok (.istore_n 3, 1) := by decide +kernel
theorem dX11_does_2 : decode cX11_does 2 = .ok (.iload_n 3, 1) := by decide +kernel
theorem dX11_does_3 : decode cX11_does 3 = .ok (.iload_n 2, 1) := by decide +kernel
theorem dX11_does_4 : decode cX11_does 4 = .ok (.if_icmp .ge 52, 3) := by decide +kernel
theorem dX11_does_7 : decode cX11_does 7 = .ok (.aload_n 0, 1) := by decide +kernel
theorem dX11_does_8 : decode cX11_does 8 = .ok (.getfield 287, 3) := by decide +kernel
theorem dX11_does_11 : decode cX11_does 11 = .ok (.ifCond .ne 45, 3) := by decide +kernel
theorem dX11_does_14 : decode cX11_does 14 = .ok (.aload_n 0, 1) := by decide +kernel
theorem dX11_does_15 : decode cX11_does 15 = .ok (.getfield 291, 3) := by decide +kernel
theorem dX11_does_18 : decode cX11_does 18 = .ok (.sipush 500, 3) := by decide +kernel
theorem dX11_does_21 : decode cX11_does 21 = .ok (.if_icmp .eq 11, 3) := by decide +kernel
theorem dX11_does_24 : decode cX11_does 24 = .ok (.aload_n 0, 1) := by decide +kernel
theorem dX11_does_25 : decode cX11_does 25 = .ok (.iload_n 1, 1) := by decide +kernel
theorem dX11_does_26 : decode cX11_does 26 = .ok (.invokevirtual 101, 3) := by decide +kernel
theorem dX11_does_29 : decode cX11_does 29 = .ok (.ifCond .ne 11, 3) := by decide +kernel
theorem dX11_does_32 : decode cX11_does 32 = .ok (.aload_n 0, 1) := by decide +kernel
theorem dX11_does_33 : decode cX11_does 33 = .ok (.iconst 1, 1) := by decide +kernel
theorem dX11_does_34 : decode cX11_does 34 = .ok (.putfield 287, 3) := by decide +kernel
theorem dX11_does_37 : decode cX11_does 37 = .ok (.goto 13, 3) := by decide +kernel
theorem dX11_does_40 : decode cX11_does 40 = .ok (.aload_n 0, 1) := by decide +kernel
theorem dX11_does_41 : decode cX11_does 41 = .ok (.dup, 1) := by decide +kernel
theorem dX11_does_42 : decode cX11_does 42 = .ok (.getfield 291, 3) := by decide +kernel
theorem dX11_does_45 : decode cX11_does 45 = .ok (.iconst 1, 1) := by decide +kernel
theorem dX11_does_46 : decode cX11_does 46 = .ok (.iadd, 1) := by decide +kernel
theorem dX11_does_47 : decode cX11_does 47 = .ok (.putfield 291, 3) := by decide +kernel
theorem dX11_does_50 : decode cX11_does 50 = .ok (.iinc 3 1, 3) := by decide +kernel
theorem dX11_does_53 : decode cX11_does 53 = .ok (.goto (-51), 3) := by decide +kernel
theorem dX11_does_56 : decode cX11_does 56 = .ok (.return_, 1) := by decide +kernel
theorem dX11_goes_0 : decode cX11_goes 0 = .ok (.aload_n 0, 1) := by decide +kernel
theorem dX11_goes_1 : decode cX11_goes 1 = .ok (.getfield 287, 3) := by decide +kernel
theorem dX11_goes_4 : decode cX11_goes 4 = .ok (.ifCond .ne 137, 3) := by decide +kernel
theorem dX11_goes_7 : decode cX11_goes 7 = .ok (.aload_n 0, 1) := by decide +kernel
theorem dX11_goes_8 : decode cX11_goes 8 = .ok (.invokevirtual 265, 3) := by decide +kernel
theorem dX11_goes_11 : decode cX11_goes 11 = .ok (.istore_n 2, 1) := by decide +kernel
theorem dX11_goes_12 : decode cX11_goes 12 = .ok (.aload_n 0, 1) := by decide +kernel
theorem dX11_goes_13 : decode cX11_goes 13 = .ok (.getfield 253, 3) := by decide +kernel
theorem dX11_goes_16 : decode cX11_goes 16 = .ok (.aload_n 0, 1) := by decide +kernel
theorem dX11_goes_17 : decode cX11_goes 17 = .ok (.getfield 256, 3) := by decide +kernel
theorem dX11_goes_20 : decode cX11_goes 20 = .ok (.if_icmp .ge 13, 3) := by decide +kernel
theorem dX11_goes_23 : decode cX11_goes 23 = .ok (.iload_n 2, 1) := by decide +kernel
theorem dX11_goes_24 : decode cX11_goes 24 = .ok (.bipush 93, 2) := by decide +kernel
theorem dX11_goes_26 : decode cX11_goes 26 = .ok (.if_icmp .ne 8, 3) := by decide +kernel
theorem dX11_goes_29 : decode cX11_goes 29 = .ok (.iload_n 1, 1) := by decide +kernel
theorem dX11_goes_30 : decode cX11_goes 30 = .ok (.ifCond .eq 4, 3) := by decide +kernel
theorem dX11_goes_33 : decode cX11_goes 33 = .ok (.return_, 1) := by decide +kernel
theorem dX11_goes_34 : decode cX11_goes 34 = .ok (.aload_n 0, 1) := by decide +kernel
theorem dX11_goes_35 : decode cX11_goes 35 = .ok (.dup, 1) := by decide +kernel
theorem dX11_goes_36 : decode cX11_goes 36 = .ok (.getfield 253, 3) := by decide +kernel
theorem dX11_goes_39 : decode cX11_goes 39 = .ok (.iconst 1, 1) := by decide +kernel
theorem dX11_goes_40 : decode cX11_goes 40 = .ok (.iadd, 1) := by decide +kernel
theorem dX11_goes_41 : decode cX11_goes 41 = .ok (.putfield 253, 3) := by decide +kernel
theorem dX11_goes_44 : decode cX11_goes 44 = .ok (.iload_n 2, 1) := by decide +kernel
theorem dX11_goes_45 : decode cX11_goes 45 = .ok (.bipush 104, 2) := by decide +kernel
theorem dX11_goes_47 : decode cX11_goes 47 = .ok (.if_icmp .ne 13, 3) := by decide +kernel
theorem dX11_goes_50 : decode cX11_goes 50 = .ok (.aload_n 0, 1) := by decide +kernel
theorem dX11_goes_51 : decode cX11_goes 51 = .ok (.bipush 104, 2) := by decide +kernel
theorem dX11_goes_53 : decode cX11_goes 53 = .ok (.iconst 1, 1) := by decide +kernel
theorem dX11_goes_54 : decode cX11_goes 54 = .ok (.invokevirtual 294, 3) := by decide +kernel
theorem dX11_goes_57 : decode cX11_goes 57 = .ok (.goto 81, 3) := by decide +kernel
theorem dX11_goes_60 : decode cX11_goes 60 = .ok (.iload_n 2, 1) := by decide +kernel
theorem dX11_goes_61 : decode cX11_goes 61 = .ok (.bipush 91, 2) := by decide +kernel
theorem dX11_goes_63 : decode cX11_goes 63 = .ok (.if_icmp .ne 66, 3) := by decide +kernel
theorem dX11_goes_66 : decode cX11_goes 66 = .ok (.aload_n 0, 1) := by decide +kernel
theorem dX11_goes_67 : decode cX11_goes 67 = .ok (.getfield 253, 3) := by decide +kernel
theorem dX11_goes_70 : decode cX11_goes 70 = .ok (.istore_n 3, 1) := by decide +kernel
theorem dX11_goes_71 : decode cX11_goes 71 = .ok (.aload_n 0, 1) := by decide +kernel
theorem dX11_goes_72 : decode cX11_goes 72 = .ok (.invokevirtual 297, 3) := by decide +kernel
theorem dX11_goes_75 : decode cX11_goes 75 = .ok (.aload_n 0, 1) := by decide +kernel
theorem dX11_goes_76 : decode cX11_goes 76 = .ok (.invokevirtual 274, 3) := by decide +kernel
theorem dX11_goes_79 : decode cX11_goes 79 = .ok (.istore 4, 2) := by decide +kernel
theorem dX11_goes_81 : decode cX11_goes 81 = .ok (.aload_n 0, 1) := by decide +kernel
theorem dX11_goes_82 : decode cX11_goes 82 = .ok (.getfield 253, 3) := by decide +kernel
theorem dX11_goes_85 : decode cX11_goes 85 = .ok (.istore 5, 2) := by decide +kernel
theorem dX11_goes_87 : decode cX11_goes 87 = .ok (.iconst 0, 1) := by decide +kernel
theorem dX11_goes_88 : decode cX11_goes 88 = .ok (.istore 6, 2) := by decide +kernel
theorem dX11_goes_90 : decode cX11_goes 90 = .ok (.iload 6, 2) := by decide +kernel
theorem dX11_goes_92 : decode cX11_goes 92 = .ok (.iload 4, 2) := by decide +kernel
theorem dX11_goes_94 : decode cX11_goes 94 = .ok (.if_icmp .ge 26, 3) := by decide +kernel
theorem dX11_goes_97 : decode cX11_goes 97 = .ok (.aload_n 0, 1) := by decide +kernel
theorem dX11_goes_98 : decode cX11_goes 98 = .ok (.getfield 287, 3) := by decide +kernel
theorem dX11_goes_101 : decode cX11_goes 101 = .ok (.ifCond .ne 19, 3) := by decide +kernel
theorem dX11_goes_104 : decode cX11_goes 104 = .ok (.aload_n 0, 1) := by decide +kernel
theorem dX11_goes_105 : decode cX11_goes 105 = .ok (.iload_n 3, 1) := by decide +kernel
theorem dX11_goes_106 : decode cX11_goes 106 = .ok (.putfield 253, 3) := by decide +kernel
theorem dX11_goes_109 : decode cX11_goes 109 = .ok (.aload_n 0, 1) := by decide +kernel
theorem dX11_goes_110 : decode cX11_goes 110 = .ok (.iconst 1, 1) := by decide +kernel
theorem dX11_goes_111 : decode cX11_goes 111 = .ok (.invokevirtual 300, 3) := by decide +kernel
theorem dX11_goes_114 : decode cX11_goes 114 = .ok (.iinc 6 1, 3) := by decide +kernel
theorem dX11_goes_117 : decode cX11_goes 117 = .ok (.goto (-27), 3) := by decide +kernel
theorem dX11_goes_120 : decode cX11_goes 120 = .ok (.aload_n 0, 1) := by decide +kernel
theorem dX11_goes_121 : decode cX11_goes 121 = .ok (.iload 5, 2) := by decide +kernel
theorem dX11_goes_123 : decode cX11_goes 123 = .ok (.putfield 253, 3) := by decide +kernel
theorem dX11_goes_126 : decode cX11_goes 126 = .ok (.goto 12, 3) := by decide +kernel
theorem dX11_goes_129 : decode cX11_goes 129 = .ok (.aload_n 0, 1) := by decide +kernel
theorem dX11_goes_130 : decode cX11_goes 130 = .ok (.iload_n 2, 1) := by decide +kernel
theorem dX11_goes_131 : decode cX11_goes 131 = .ok (.aload_n 0, 1) := by decide +kernel
theorem dX11_goes_132 : decode cX11_goes 132 = .ok (.invokevirtual 274, 3) := by decide +kernel
theorem dX11_goes_135 : decode cX11_goes 135 = .ok (.invokevirtual 294, 3) := by decide +kernel
theorem dX11_goes_138 : decode cX11_goes 138 = .ok (.goto (-138), 3) := by decide +kernel
theorem dX11_goes_141 : decode cX11_goes 141 = .ok (.return_, 1) := by decide +kernel
theorem dX11_path_0 : decode cX11_path 0 = .ok (.aload_n 0, 1) := by decide +kernel
theorem dX11_path_1 : decode cX11_path 1 = .ok (.iconst 0, 1) := by decide +kernel
theorem dX11_path_2 : decode cX11_path 2 = .ok (.putfield 1, 3) := by decide +kernel
theorem dX11_path_5 : decode cX11_path 5 = .ok (.aload_n 0, 1) := by decide +kernel
theorem dX11_path_6 : decode cX11_path 6 = .ok (.aload_n 0, 1) := by decide +kernel
theorem dX11_path_7 : decode cX11_path 7 = .ok (.getfield 11, 3) := by decide +kernel
theorem dX11_path_10 : decode cX11_path 10 = .ok (.putfield 256, 3) := by decide +kernel
theorem dX11_path_13 : decode cX11_path 13 = .ok (.aload_n 0, 1) := by decide +kernel
theorem dX11_path_14 : decode cX11_path 14 = .ok (.iconst 0, 1) := by decide +kernel
theorem dX11_path_15 : decode cX11_path 15 = .ok (.putfield 11, 3) := by decide +kernel
theorem dX11_path_18 : decode cX11_path 18 = .ok (.aload_n 0, 1) := by decide +kernel
theorem dX11_path_19 : decode cX11_path 19 = .ok (.iconst 0, 1) := by decide +kernel
theorem dX11_path_20 : decode cX11_path 20 = .ok (.putfield 259, 3) := by decide +kernel
theorem dX11_path_23 : decode cX11_path 23 = .ok (.aload_n 0, 1) := by decide +kernel
theorem dX11_path_24 : decode cX11_path 24 = .ok (.iconst 0, 1) := by decide +kernel
theorem dX11_path_25 : decode cX11_path 25 = .ok (.putfield 253, 3) := by decide +kernel
theorem dX11_path_28 : decode cX11_path 28 = .ok (.aload_n 0, 1) := by decide +kernel
theorem dX11_path_29 : decode cX11_path 29 = .ok (.iconst 0, 1) := by decide +kernel
theorem dX11_path_30 : decode cX11_path 30 = .ok (.putfield 280, 3) := by decide +kernel
theorem dX11_path_33 : decode cX11_path 33 = .ok (.aload_n 0, 1) := by decide +kernel
theorem dX11_path_34 : decode cX11_path 34 = .ok (.getfield 256, 3) := by decide +kernel
theorem dX11_path_37 : decode cX11_path 37 = .ok (.sipush 200, 3) := by decide +kernel
theorem dX11_path_40 : decode cX11_path 40 = .ok (.if_icmp .le 11, 3) := by decide +kernel
theorem dX11_path_43 : decode cX11_path 43 = .ok (.aload_n 0, 1) := by decide +kernel
theorem dX11_path_44 : decode cX11_path 44 = .ok (.iconst 1, 1) := by decide +kernel
theorem dX11_path_45 : decode cX11_path 45 = .ok (.sipush 200, 3) := by decide +kernel
theorem dX11_path_48 : decode cX11_path 48 = .ok (.invokevirtual 271, 3) := by decide +kernel
theorem dX11_path_51 : decode cX11_path 51 = .ok (.aload_n 0, 1) := by decide +kernel
theorem dX11_path_52 : decode cX11_path 52 = .ok (.iconst 0, 1) := by decide +kernel
theorem dX11_path_53 : decode cX11_path 53 = .ok (.invokevirtual 283, 3) := by decide +kernel
theorem dX11_path_56 : decode cX11_path 56 = .ok (.aload_n 0, 1) := by decide +kernel
theorem dX11_path_57 : decode cX11_path 57 = .ok (.getfield 259, 3) := by decide +kernel
theorem dX11_path_60 : decode cX11_path 60 = .ok (.ifCond .eq 12, 3) := by decide +kernel
theorem dX11_path_63 : decode cX11_path 63 = .ok (.sipush (-1000), 3) := by decide +kernel
theorem dX11_path_66 : decode cX11_path 66 = .ok (.aload_n 0, 1) := by decide +kernel
theorem dX11_path_67 : decode cX11_path 67 = .ok (.getfield 262, 3) := by decide +kernel
theorem dX11_path_70 : decode cX11_path 70 = .ok (.isub, 1) := by decide +kernel
theorem dX11_path_71 : decode cX11_path 71 = .ok (.ireturn, 1) := by decide +kernel
theorem dX11_path_72 : decode cX11_path 72 = .ok (.aload_n 0, 1) := by decide +kernel
theorem dX11_path_73 : decode cX11_path 73 = .ok (.getfield 24, 3) := by decide +kernel
theorem dX11_path_76 : decode cX11_path 76 = .ok (.iconst 0, 1) := by decide +kernel
theorem dX11_path_77 : decode cX11_path 77 = .ok (.aload_n 0, 1) := by decide +kernel
theorem dX11_path_78 : decode cX11_path 78 = .ok (.getfield 33, 3) := by decide +kernel
theorem dX11_path_81 : decode cX11_path 81 = .ok (.iconst 0, 1) := by decide +kernel
theorem dX11_path_82 : decode cX11_path 82 = .ok (.invokestatic 59, 3) := by decide +kernel
theorem dX11_path_85 : decode cX11_path 85 = .ok (.aload_n 0, 1) := by decide +kernel
theorem dX11_path_86 : decode cX11_path 86 = .ok (.iconst 0, 1) := by decide +kernel
theorem dX11_path_87 : decode cX11_path 87 = .ok (.putfield 253, 3) := by decide +kernel
theorem dX11_path_90 : decode cX11_path 90 = .ok (.aload_n 0, 1) := by decide +kernel
theorem dX11_path_91 : decode cX11_path 91 = .ok (.iconst 0, 1) := by decide +kernel
theorem dX11_path_92 : decode cX11_path 92 = .ok (.putfield 291, 3) := by decide +kernel
theorem dX11_path_95 : decode cX11_path 95 = .ok (.aload_n 0, 1) := by decide +kernel
theorem dX11_path_96 : decode cX11_path 96 = .ok (.iconst 0, 1) := by decide +kernel
theorem dX11_path_97 : decode cX11_path 97 = .ok (.putfield 287, 3) := by decide +kernel
theorem dX11_path_100 : decode cX11_path 100 = .ok (.aload_n 0, 1) := by decide +kernel
theorem dX11_path_101 : decode cX11_path 101 = .ok (.iconst 0, 1) := by decide +kernel
theorem dX11_path_102 : decode cX11_path 102 = .ok (.invokevirtual 300, 3) := by decide +kernel
theorem dX11_path_105 : decode cX11_path 105 = .ok (.aload_n 0, 1) := by decide +kernel
theorem dX11_path_106 : decode cX11_path 106 = .ok (.getfield 291, 3) := by decide +kernel
theorem dX11_path_109 : decode cX11_path 109 = .ok (.ifCond .le 7, 3) := by decide +kernel
theorem dX11_path_112 : decode cX11_path 112 = .ok (.aload_n 0, 1) := by decide +kernel
theorem dX11_path_113 : decode cX11_path 113 = .ok (.invokevirtual 105, 3) := by decide +kernel
theorem dX11_path_116 : decode cX11_path 116 = .ok (.aload_n 0, 1) := by decide +kernel
theorem dX11_path_117 : decode cX11_path 117 = .ok (.getfield 291, 3) := by decide +kernel
theorem dX11_path_120 : decode cX11_path 120 = .ok (.ireturn, 1) := by decide +kernel
theorem dX11_fault_0 : decode cX11_fault 0 = .ok (.aload_n 0, 1) := by decide +kernel
theorem dX11_fault_1 : decode cX11_fault 1 = .ok (.iconst 0, 1) := by decide +kernel
theorem dX11_fault_2 : decode cX11_fault 2 = .ok (.putfield 1, 3) := by decide +kernel
theorem dX11_fault_5 : decode cX11_fault 5 = .ok (.aload_n 0, 1) := by decide +kernel
theorem dX11_fault_6 : decode cX11_fault 6 = .ok (.getfield 259, 3) := by decide +kernel
theorem dX11_fault_9 : decode cX11_fault 9 = .ok (.ireturn, 1) := by decide +kernel
theorem dX11_draw_0 : decode cX11_draw 0 = .ok (.aload_n 0, 1) := by decide +kernel
theorem dX11_draw_1 : decode cX11_draw 1 = .ok (.aload_n 0, 1) := by decide +kernel
theorem dX11_draw_2 : decode cX11_draw 2 = .ok (.getfield 303, 3) := by decide +kernel
theorem dX11_draw_5 : decode cX11_draw 5 = .ok (.ldc_w 306, 3) := by decide +kernel
theorem dX11_draw_8 : decode cX11_draw 8 = .ok (.imul, 1) := by decide +kernel
theorem dX11_draw_9 : decode cX11_draw 9 = .ok (.sipush 12345, 3) := by decide +kernel
theorem dX11_draw_12 : decode cX11_draw 12 = .ok (.iadd, 1) := by decide +kernel
theorem dX11_draw_13 : decode cX11_draw 13 = .ok (.putfield 303, 3) := by decide +kernel
theorem dX11_draw_16 : decode cX11_draw 16 = .ok (.aload_n 0, 1) := by decide +kernel
theorem dX11_draw_17 : decode cX11_draw 17 = .ok (.getfield 303, 3) := by decide +kernel
theorem dX11_draw_20 : decode cX11_draw 20 = .ok (.bipush 8, 2) := by decide +kernel
theorem dX11_draw_22 : decode cX11_draw 22 = .ok (.iushr, 1) := by decide +kernel
theorem dX11_draw_23 : decode cX11_draw 23 = .ok (.iload_n 1, 1) := by decide +kernel
theorem dX11_draw_24 : decode cX11_draw 24 = .ok (.irem, 1) := by decide +kernel
theorem dX11_draw_25 : decode cX11_draw 25 = .ok (.ireturn, 1) := by decide +kernel
theorem dX11_draws_0 : decode cX11_draws 0 = .ok (.aload_n 0, 1) := by decide +kernel
theorem dX11_draws_1 : decode cX11_draws 1 = .ok (.bipush 8, 2) := by decide +kernel
theorem dX11_draws_3 : decode cX11_draws 3 = .ok (.invokevirtual 307, 3) := by decide +kernel
theorem dX11_draws_6 : decode cX11_draws 6 = .ok (.istore_n 1, 1) := by decide +kernel
theorem dX11_draws_7 : decode cX11_draws 7 = .ok (.iload_n 1, 1) := by decide +kernel
theorem dX11_draws_8 : decode cX11_draws 8 = .ok (.bipush 7, 2) := by decide +kernel
theorem dX11_draws_10 : decode cX11_draws 10 = .ok (.if_icmp .ge 29, 3) := by decide +kernel
theorem dX11_draws_13 : decode cX11_draws 13 = .ok (.aload_n 0, 1) := by decide +kernel
theorem dX11_draws_14 : decode cX11_draws 14 = .ok (.iload_n 1, 1) := by decide +kernel
theorem dX11_draws_15 : decode cX11_draws 15 = .ok (.ifCond .ne 8, 3) := by decide +kernel
theorem dX11_draws_18 : decode cX11_draws 18 = .ok (.bipush 117, 2) := by decide +kernel
theorem dX11_draws_20 : decode cX11_draws 20 = .ok (.goto 15, 3) := by decide +kernel
theorem dX11_draws_23 : decode cX11_draws 23 = .ok (.iload_n 1, 1) := by decide +kernel
theorem dX11_draws_24 : decode cX11_draws 24 = .ok (.iconst 4, 1) := by decide +kernel
theorem dX11_draws_25 : decode cX11_draws 25 = .ok (.if_icmp .ge 8, 3) := by decide +kernel
theorem dX11_draws_28 : decode cX11_draws 28 = .ok (.bipush 108, 2) := by decide +kernel
theorem dX11_draws_30 : decode cX11_draws 30 = .ok (.goto 5, 3) := by decide +kernel
theorem dX11_draws_33 : decode cX11_draws 33 = .ok (.bipush 114, 2) := by decide +kernel
theorem dX11_draws_35 : decode cX11_draws 35 = .ok (.invokevirtual 101, 3) := by decide +kernel
theorem dX11_draws_38 : decode cX11_draws 38 = .ok (.ireturn, 1) := by decide +kernel
theorem dX11_draws_39 : decode cX11_draws 39 = .ok (.aload_n 0, 1) := by decide +kernel
theorem dX11_draws_40 : decode cX11_draws 40 = .ok (.invokevirtual 244, 3) := by decide +kernel
theorem dX11_draws_43 : decode cX11_draws 43 = .ok (.iconst (-1), 1) := by decide +kernel
theorem dX11_draws_44 : decode cX11_draws 44 = .ok (.if_icmp .ne 14, 3) := by decide +kernel
theorem dX11_draws_47 : decode cX11_draws 47 = .ok (.aload_n 0, 1) := by decide +kernel
theorem dX11_draws_48 : decode cX11_draws 48 = .ok (.getfield 24, 3) := by decide +kernel
theorem dX11_draws_51 : decode cX11_draws 51 = .ok (.iconst 2, 1) := by decide +kernel
theorem dX11_draws_52 : decode cX11_draws 52 = .ok (.iaload, 1) := by decide +kernel
theorem dX11_draws_53 : decode cX11_draws 53 = .ok (.bipush 16, 2) := by decide +kernel
theorem dX11_draws_55 : decode cX11_draws 55 = .ok (.if_icmp .ne 5, 3) := by decide +kernel
theorem dX11_draws_58 : decode cX11_draws 58 = .ok (.iconst 0, 1) := by decide +kernel
theorem dX11_draws_59 : decode cX11_draws 59 = .ok (.ireturn, 1) := by decide +kernel
theorem dX11_draws_60 : decode cX11_draws 60 = .ok (.aload_n 0, 1) := by decide +kernel
theorem dX11_draws_61 : decode cX11_draws 61 = .ok (.invokevirtual 247, 3) := by decide +kernel
theorem dX11_draws_64 : decode cX11_draws 64 = .ok (.iconst 1, 1) := by decide +kernel
theorem dX11_draws_65 : decode cX11_draws 65 = .ok (.ireturn, 1) := by decide +kernel
theorem dX11_drawn_0 : decode cX11_drawn 0 = .ok (.aload_n 0, 1) := by decide +kernel
theorem dX11_drawn_1 : decode cX11_drawn 1 = .ok (.iconst 0, 1) := by decide +kernel
theorem dX11_drawn_2 : decode cX11_drawn 2 = .ok (.putfield 1, 3) := by decide +kernel
theorem dX11_drawn_5 : decode cX11_drawn 5 = .ok (.iload_n 1, 1) := by decide +kernel
theorem dX11_drawn_6 : decode cX11_drawn 6 = .ok (.i2l, 1) := by decide +kernel
theorem dX11_drawn_7 : decode cX11_drawn 7 = .ok (.lconst 1, 1) := by decide +kernel
theorem dX11_drawn_8 : decode cX11_drawn 8 = .ok (.ldc2_w 310, 3) := by decide +kernel
theorem dX11_drawn_11 : decode cX11_drawn 11 = .ok (.invokestatic 91, 3) := by decide +kernel
theorem dX11_drawn_14 : decode cX11_drawn 14 = .ok (.ifCond .ne 5, 3) := by decide +kernel
theorem dX11_drawn_17 : decode cX11_drawn 17 = .ok (.iconst (-1), 1) := by decide +kernel
theorem dX11_drawn_18 : decode cX11_drawn 18 = .ok (.ireturn, 1) := by decide +kernel
theorem dX11_drawn_19 : decode cX11_drawn 19 = .ok (.aload_n 0, 1) := by decide +kernel
theorem dX11_drawn_20 : decode cX11_drawn 20 = .ok (.getfield 24, 3) := by decide +kernel
theorem dX11_drawn_23 : decode cX11_drawn 23 = .ok (.iconst 0, 1) := by decide +kernel
theorem dX11_drawn_24 : decode cX11_drawn 24 = .ok (.aload_n 0, 1) := by decide +kernel
theorem dX11_drawn_25 : decode cX11_drawn 25 = .ok (.getfield 33, 3) := by decide +kernel
theorem dX11_drawn_28 : decode cX11_drawn 28 = .ok (.iconst 0, 1) := by decide +kernel
theorem dX11_drawn_29 : decode cX11_drawn 29 = .ok (.invokestatic 59, 3) := by decide +kernel
theorem dX11_drawn_32 : decode cX11_drawn 32 = .ok (.aload_n 0, 1) := by decide +kernel
theorem dX11_drawn_33 : decode cX11_drawn 33 = .ok (.iload_n 2, 1) := by decide +kernel
theorem dX11_drawn_34 : decode cX11_drawn 34 = .ok (.putfield 303, 3) := by decide +kernel
theorem dX11_drawn_37 : decode cX11_drawn 37 = .ok (.iconst 0, 1) := by decide +kernel
theorem dX11_drawn_38 : decode cX11_drawn 38 = .ok (.istore_n 3, 1) := by decide +kernel
theorem dX11_drawn_39 : decode cX11_drawn 39 = .ok (.iconst 0, 1) := by decide +kernel
theorem dX11_drawn_40 : decode cX11_drawn 40 = .ok (.istore 4, 2) := by decide +kernel
theorem dX11_drawn_42 : decode cX11_drawn 42 = .ok (.iload 4, 2) := by decide +kernel
theorem dX11_drawn_44 : decode cX11_drawn 44 = .ok (.iload_n 1, 1) := by decide +kernel
theorem dX11_drawn_45 : decode cX11_drawn 45 = .ok (.if_icmp .ge 19, 3) := by decide +kernel
theorem dX11_drawn_48 : decode cX11_drawn 48 = .ok (.aload_n 0, 1) := by decide +kernel
theorem dX11_drawn_49 : decode cX11_drawn 49 = .ok (.invokevirtual 312, 3) := by decide +kernel
theorem dX11_drawn_52 : decode cX11_drawn 52 = .ok (.ifCond .eq 6, 3) := by decide +kernel
theorem dX11_drawn_55 : decode cX11_drawn 55 = .ok (.iinc 3 1, 3) := by decide +kernel
theorem dX11_drawn_58 : decode cX11_drawn 58 = .ok (.iinc 4 1, 3) := by decide +kernel
theorem dX11_drawn_61 : decode cX11_drawn 61 = .ok (.goto (-19), 3) := by decide +kernel
theorem dX11_drawn_64 : decode cX11_drawn 64 = .ok (.iload_n 3, 1) := by decide +kernel
theorem dX11_drawn_65 : decode cX11_drawn 65 = .ok (.ifCond .le 7, 3) := by decide +kernel
theorem dX11_drawn_68 : decode cX11_drawn 68 = .ok (.aload_n 0, 1) := by decide +kernel
theorem dX11_drawn_69 : decode cX11_drawn 69 = .ok (.invokevirtual 105, 3) := by decide +kernel
theorem dX11_drawn_72 : decode cX11_drawn 72 = .ok (.iload_n 3, 1) := by decide +kernel
theorem dX11_drawn_73 : decode cX11_drawn 73 = .ok (.ireturn, 1) := by decide +kernel
theorem dX11_now_0 : decode cX11_now 0 = .ok (.aload_n 0, 1) := by decide +kernel
theorem dX11_now_1 : decode cX11_now 1 = .ok (.iconst 0, 1) := by decide +kernel
theorem dX11_now_2 : decode cX11_now 2 = .ok (.putfield 1, 3) := by decide +kernel
theorem dX11_now_5 : decode cX11_now 5 = .ok (.aload_n 0, 1) := by decide +kernel
theorem dX11_now_6 : decode cX11_now 6 = .ok (.invokevirtual 95, 3) := by decide +kernel
theorem dX11_now_9 : decode cX11_now 9 = .ok (.iload_n 1, 1) := by decide +kernel
theorem dX11_now_10 : decode cX11_now 10 = .ok (.tableswitch 110 0 9 #[54, 61, 68, 73, 78, 83, 88, 93, 100, 105], 54) := by decide +kernel
theorem dX11_now_64 : decode cX11_now 64 = .ok (.aload_n 0, 1) := by decide +kernel
theorem dX11_now_65 : decode cX11_now 65 = .ok (.getfield 24, 3) := by decide +kernel
theorem dX11_now_68 : decode cX11_now 68 = .ok (.iconst 0, 1) := by decide +kernel
theorem dX11_now_69 : decode cX11_now 69 = .ok (.iaload, 1) := by decide +kernel
theorem dX11_now_70 : decode cX11_now 70 = .ok (.ireturn, 1) := by decide +kernel
theorem dX11_now_71 : decode cX11_now 71 = .ok (.aload_n 0, 1) := by decide +kernel
theorem dX11_now_72 : decode cX11_now 72 = .ok (.getfield 24, 3) := by decide +kernel
theorem dX11_now_75 : decode cX11_now 75 = .ok (.iconst 1, 1) := by decide +kernel
theorem dX11_now_76 : decode cX11_now 76 = .ok (.iaload, 1) := by decide +kernel
theorem dX11_now_77 : decode cX11_now 77 = .ok (.ireturn, 1) := by decide +kernel
theorem dX11_now_78 : decode cX11_now 78 = .ok (.aload_n 0, 1) := by decide +kernel
theorem dX11_now_79 : decode cX11_now 79 = .ok (.getfield 66, 3) := by decide +kernel
theorem dX11_now_82 : decode cX11_now 82 = .ok (.ireturn, 1) := by decide +kernel
theorem dX11_now_83 : decode cX11_now 83 = .ok (.aload_n 0, 1) := by decide +kernel
theorem dX11_now_84 : decode cX11_now 84 = .ok (.getfield 69, 3) := by decide +kernel
theorem dX11_now_87 : decode cX11_now 87 = .ok (.ireturn, 1) := by decide +kernel
theorem dX11_now_88 : decode cX11_now 88 = .ok (.aload_n 0, 1) := by decide +kernel
theorem dX11_now_89 : decode cX11_now 89 = .ok (.getfield 72, 3) := by decide +kernel
theorem dX11_now_92 : decode cX11_now 92 = .ok (.ireturn, 1) := by decide +kernel
theorem dX11_now_93 : decode cX11_now 93 = .ok (.aload_n 0, 1) := by decide +kernel
theorem dX11_now_94 : decode cX11_now 94 = .ok (.getfield 75, 3) := by decide +kernel
theorem dX11_now_97 : decode cX11_now 97 = .ok (.ireturn, 1) := by decide +kernel
theorem dX11_now_98 : decode cX11_now 98 = .ok (.aload_n 0, 1) := by decide +kernel
theorem dX11_now_99 : decode cX11_now 99 = .ok (.getfield 78, 3) := by decide +kernel
theorem dX11_now_102 : decode cX11_now 102 = .ok (.ireturn, 1) := by decide +kernel
theorem dX11_now_103 : decode cX11_now 103 = .ok (.aload_n 0, 1) := by decide +kernel
theorem dX11_now_104 : decode cX11_now 104 = .ok (.getfield 24, 3) := by decide +kernel
theorem dX11_now_107 : decode cX11_now 107 = .ok (.iconst 2, 1) := by decide +kernel
theorem dX11_now_108 : decode cX11_now 108 = .ok (.iaload, 1) := by decide +kernel
theorem dX11_now_109 : decode cX11_now 109 = .ok (.ireturn, 1) := by decide +kernel
theorem dX11_now_110 : decode cX11_now 110 = .ok (.aload_n 0, 1) := by decide +kernel
theorem dX11_now_111 : decode cX11_now 111 = .ok (.getfield 56, 3) := by decide +kernel
theorem dX11_now_114 : decode cX11_now 114 = .ok (.ireturn, 1) := by decide +kernel
theorem dX11_now_115 : decode cX11_now 115 = .ok (.aload_n 0, 1) := by decide +kernel
theorem dX11_now_116 : decode cX11_now 116 = .ok (.getfield 11, 3) := by decide +kernel
theorem dX11_now_119 : decode cX11_now 119 = .ok (.ireturn, 1) := by decide +kernel
theorem dX11_now_120 : decode cX11_now 120 = .ok (.iconst (-1), 1) := by decide +kernel
theorem dX11_now_121 : decode cX11_now 121 = .ok (.ireturn, 1) := by decide +kernel
theorem dX11_undo_0 : decode cX11_undo 0 = .ok (.aload_n 0, 1) := by decide +kernel
theorem dX11_undo_1 : decode cX11_undo 1 = .ok (.iconst 0, 1) := by decide +kernel
theorem dX11_undo_2 : decode cX11_undo 2 = .ok (.putfield 1, 3) := by decide +kernel
theorem dX11_undo_5 : decode cX11_undo 5 = .ok (.aload_n 0, 1) := by decide +kernel
theorem dX11_undo_6 : decode cX11_undo 6 = .ok (.getfield 56, 3) := by decide +kernel
theorem dX11_undo_9 : decode cX11_undo 9 = .ok (.ifCond .ne 5, 3) := by decide +kernel
theorem dX11_undo_12 : decode cX11_undo 12 = .ok (.iconst (-1), 1) := by decide +kernel
theorem dX11_undo_13 : decode cX11_undo 13 = .ok (.ireturn, 1) := by decide +kernel
theorem dX11_undo_14 : decode cX11_undo 14 = .ok (.aload_n 0, 1) := by decide +kernel
theorem dX11_undo_15 : decode cX11_undo 15 = .ok (.dup, 1) := by decide +kernel
theorem dX11_undo_16 : decode cX11_undo 16 = .ok (.getfield 56, 3) := by decide +kernel
theorem dX11_undo_19 : decode cX11_undo 19 = .ok (.iconst 1, 1) := by decide +kernel
theorem dX11_undo_20 : decode cX11_undo 20 = .ok (.isub, 1) := by decide +kernel
theorem dX11_undo_21 : decode cX11_undo 21 = .ok (.putfield 56, 3) := by decide +kernel
theorem dX11_undo_24 : decode cX11_undo 24 = .ok (.aload_n 0, 1) := by decide +kernel
theorem dX11_undo_25 : decode cX11_undo 25 = .ok (.getfield 30, 3) := by decide +kernel
theorem dX11_undo_28 : decode cX11_undo 28 = .ok (.bipush 35, 2) := by decide +kernel
theorem dX11_undo_30 : decode cX11_undo 30 = .ok (.aload_n 0, 1) := by decide +kernel
theorem dX11_undo_31 : decode cX11_undo 31 = .ok (.getfield 56, 3) := by decide +kernel
theorem dX11_undo_34 : decode cX11_undo 34 = .ok (.imul, 1) := by decide +kernel
theorem dX11_undo_35 : decode cX11_undo 35 = .ok (.aload_n 0, 1) := by decide +kernel
theorem dX11_undo_36 : decode cX11_undo 36 = .ok (.getfield 24, 3) := by decide +kernel
theorem dX11_undo_39 : decode cX11_undo 39 = .ok (.iconst 0, 1) := by decide +kernel
theorem dX11_undo_40 : decode cX11_undo 40 = .ok (.invokestatic 59, 3) := by decide +kernel
theorem dX11_undo_43 : decode cX11_undo 43 = .ok (.aload_n 0, 1) := by decide +kernel
theorem dX11_undo_44 : decode cX11_undo 44 = .ok (.getfield 56, 3) := by decide +kernel
theorem dX11_undo_47 : decode cX11_undo 47 = .ok (.ireturn, 1) := by decide +kernel
theorem dX11_image_0 : decode cX11_image 0 = .ok (.aload_n 0, 1) := by decide +kernel
theorem dX11_image_1 : decode cX11_image 1 = .ok (.iconst 0, 1) := by decide +kernel
theorem dX11_image_2 : decode cX11_image 2 = .ok (.putfield 1, 3) := by decide +kernel
theorem dX11_image_5 : decode cX11_image 5 = .ok (.iload_n 1, 1) := by decide +kernel
theorem dX11_image_6 : decode cX11_image 6 = .ok (.i2l, 1) := by decide +kernel
theorem dX11_image_7 : decode cX11_image 7 = .ok (.lconst 0, 1) := by decide +kernel
theorem dX11_image_8 : decode cX11_image 8 = .ok (.lconst 1, 1) := by decide +kernel
theorem dX11_image_9 : decode cX11_image 9 = .ok (.invokestatic 91, 3) := by decide +kernel
theorem dX11_image_12 : decode cX11_image 12 = .ok (.ifCond .ne 5, 3) := by decide +kernel
theorem dX11_image_15 : decode cX11_image 15 = .ok (.iconst 0, 1) := by decide +kernel
theorem dX11_image_16 : decode cX11_image 16 = .ok (.ireturn, 1) := by decide +kernel
theorem dX11_image_17 : decode cX11_image 17 = .ok (.aload_n 0, 1) := by decide +kernel
theorem dX11_image_18 : decode cX11_image 18 = .ok (.getfield 24, 3) := by decide +kernel
theorem dX11_image_21 : decode cX11_image 21 = .ok (.iconst 0, 1) := by decide +kernel
theorem dX11_image_22 : decode cX11_image 22 = .ok (.aload_n 0, 1) := by decide +kernel
theorem dX11_image_23 : decode cX11_image 23 = .ok (.getfield 27, 3) := by decide +kernel
theorem dX11_image_26 : decode cX11_image 26 = .ok (.bipush 35, 2) := by decide +kernel
theorem dX11_image_28 : decode cX11_image 28 = .ok (.iload_n 1, 1) := by decide +kernel
theorem dX11_image_29 : decode cX11_image 29 = .ok (.imul, 1) := by decide +kernel
theorem dX11_image_30 : decode cX11_image 30 = .ok (.invokestatic 59, 3) := by decide +kernel
theorem dX11_image_33 : decode cX11_image 33 = .ok (.aload_n 0, 1) := by decide +kernel
theorem dX11_image_34 : decode cX11_image 34 = .ok (.getfield 39, 3) := by decide +kernel
theorem dX11_image_37 : decode cX11_image 37 = .ok (.iload_n 1, 1) := by decide +kernel
theorem dX11_image_38 : decode cX11_image 38 = .ok (.iconst 1, 1) := by decide +kernel
theorem dX11_image_39 : decode cX11_image 39 = .ok (.bastore, 1) := by decide +kernel
theorem dX11_image_40 : decode cX11_image 40 = .ok (.iconst 1, 1) := by decide +kernel
theorem dX11_image_41 : decode cX11_image 41 = .ok (.ireturn, 1) := by decide +kernel
theorem dX11_restore_0 : decode cX11_restore 0 = .ok (.aload_n 0, 1) := by decide +kernel
theorem dX11_restore_1 : decode cX11_restore 1 = .ok (.iconst 0, 1) := by decide +kernel
theorem dX11_restore_2 : decode cX11_restore 2 = .ok (.putfield 1, 3) := by decide +kernel
theorem dX11_restore_5 : decode cX11_restore 5 = .ok (.iload_n 1, 1) := by decide +kernel
theorem dX11_restore_6 : decode cX11_restore 6 = .ok (.i2l, 1) := by decide +kernel
theorem dX11_restore_7 : decode cX11_restore 7 = .ok (.lconst 0, 1) := by decide +kernel
theorem dX11_restore_8 : decode cX11_restore 8 = .ok (.lconst 1, 1) := by decide +kernel
theorem dX11_restore_9 : decode cX11_restore 9 = .ok (.invokestatic 91, 3) := by decide +kernel
theorem dX11_restore_12 : decode cX11_restore 12 = .ok (.ifCond .eq 12, 3) := by decide +kernel
theorem dX11_restore_15 : decode cX11_restore 15 = .ok (.aload_n 0, 1) := by decide +kernel
theorem dX11_restore_16 : decode cX11_restore 16 = .ok (.getfield 39, 3) := by decide +kernel
theorem dX11_restore_19 : decode cX11_restore 19 = .ok (.iload_n 1, 1) := by decide +kernel
theorem dX11_restore_20 : decode cX11_restore 20 = .ok (.baload, 1) := by decide +kernel
theorem dX11_restore_21 : decode cX11_restore 21 = .ok (.ifCond .ne 5, 3) := by decide +kernel
theorem dX11_restore_24 : decode cX11_restore 24 = .ok (.iconst 0, 1) := by decide +kernel
theorem dX11_restore_25 : decode cX11_restore 25 = .ok (.ireturn, 1) := by decide +kernel
theorem dX11_restore_26 : decode cX11_restore 26 = .ok (.aload_n 0, 1) := by decide +kernel
theorem dX11_restore_27 : decode cX11_restore 27 = .ok (.getfield 27, 3) := by decide +kernel
theorem dX11_restore_30 : decode cX11_restore 30 = .ok (.bipush 35, 2) := by decide +kernel
theorem dX11_restore_32 : decode cX11_restore 32 = .ok (.iload_n 1, 1) := by decide +kernel
theorem dX11_restore_33 : decode cX11_restore 33 = .ok (.imul, 1) := by decide +kernel
theorem dX11_restore_34 : decode cX11_restore 34 = .ok (.aload_n 0, 1) := by decide +kernel
theorem dX11_restore_35 : decode cX11_restore 35 = .ok (.getfield 24, 3) := by decide +kernel
theorem dX11_restore_38 : decode cX11_restore 38 = .ok (.iconst 0, 1) := by decide +kernel
theorem dX11_restore_39 : decode cX11_restore 39 = .ok (.invokestatic 59, 3) := by decide +kernel
theorem dX11_restore_42 : decode cX11_restore 42 = .ok (.aload_n 0, 1) := by decide +kernel
theorem dX11_restore_43 : decode cX11_restore 43 = .ok (.iconst 0, 1) := by decide +kernel
theorem dX11_restore_44 : decode cX11_restore 44 = .ok (.putfield 56, 3) := by decide +kernel
theorem dX11_restore_47 : decode cX11_restore 47 = .ok (.iconst 1, 1) := by decide +kernel
theorem dX11_restore_48 : decode cX11_restore 48 = .ok (.ireturn, 1) := by decide +kernel
end
section
theorem dL_triple_0 : decode cL_triple 0 = .ok (.aload_n 2, 1) := by decide +kernel
theorem dL_triple_1 : decode cL_triple 1 = .ok (.iconst 0, 1) := by decide +kernel
theorem dL_triple_2 : decode cL_triple 2 = .ok (.aload_n 0, 1) := by decide +kernel
theorem dL_triple_3 : decode cL_triple 3 = .ok (.iload_n 1, 1) := by decide +kernel
theorem dL_triple_4 : decode cL_triple 4 = .ok (.invokevirtual 7, 3) := by decide +kernel
theorem dL_triple_7 : decode cL_triple 7 = .ok (.lastore, 1) := by decide +kernel
theorem dL_triple_8 : decode cL_triple 8 = .ok (.goto 6, 3) := by decide +kernel
theorem dL_triple_11 : decode cL_triple 11 = .ok (.astore_n 3, 1) := by decide +kernel
theorem dL_triple_12 : decode cL_triple 12 = .ok (.iconst 1, 1) := by decide +kernel
theorem dL_triple_13 : decode cL_triple 13 = .ok (.ireturn, 1) := by decide +kernel
theorem dL_triple_14 : decode cL_triple 14 = .ok (.iconst 0, 1) := by decide +kernel
theorem dL_triple_15 : decode cL_triple 15 = .ok (.ireturn, 1) := by decide +kernel
theorem dL_matrix_0 : decode cL_matrix 0 = .ok (.aload_n 3, 1) := by decide +kernel
theorem dL_matrix_1 : decode cL_matrix 1 = .ok (.iconst 0, 1) := by decide +kernel
theorem dL_matrix_2 : decode cL_matrix 2 = .ok (.aload_n 0, 1) := by decide +kernel
theorem dL_matrix_3 : decode cL_matrix 3 = .ok (.iload_n 1, 1) := by decide +kernel
theorem dL_matrix_4 : decode cL_matrix 4 = .ok (.iload_n 2, 1) := by decide +kernel
theorem dL_matrix_5 : decode cL_matrix 5 = .ok (.invokevirtual 15, 3) := by decide +kernel
theorem dL_matrix_8 : decode cL_matrix 8 = .ok (.lastore, 1) := by decide +kernel
theorem dL_matrix_9 : decode cL_matrix 9 = .ok (.goto 7, 3) := by decide +kernel
theorem dL_matrix_12 : decode cL_matrix 12 = .ok (.astore 4, 2) := by decide +kernel
theorem dL_matrix_14 : decode cL_matrix 14 = .ok (.iconst 1, 1) := by decide +kernel
theorem dL_matrix_15 : decode cL_matrix 15 = .ok (.ireturn, 1) := by decide +kernel
theorem dL_matrix_16 : decode cL_matrix 16 = .ok (.iconst 0, 1) := by decide +kernel
theorem dL_matrix_17 : decode cL_matrix 17 = .ok (.ireturn, 1) := by decide +kernel
theorem dL_form_0 : decode cL_form 0 = .ok (.aload_n 2, 1) := by decide +kernel
theorem dL_form_1 : decode cL_form 1 = .ok (.iconst 0, 1) := by decide +kernel
theorem dL_form_2 : decode cL_form 2 = .ok (.aload_n 0, 1) := by decide +kernel
theorem dL_form_3 : decode cL_form 3 = .ok (.iload_n 1, 1) := by decide +kernel
theorem dL_form_4 : decode cL_form 4 = .ok (.invokevirtual 19, 3) := by decide +kernel
theorem dL_form_7 : decode cL_form 7 = .ok (.lastore, 1) := by decide +kernel
theorem dL_form_8 : decode cL_form 8 = .ok (.goto 6, 3) := by decide +kernel
theorem dL_form_11 : decode cL_form 11 = .ok (.astore_n 3, 1) := by decide +kernel
theorem dL_form_12 : decode cL_form 12 = .ok (.iconst 1, 1) := by decide +kernel
theorem dL_form_13 : decode cL_form 13 = .ok (.ireturn, 1) := by decide +kernel
theorem dL_form_14 : decode cL_form 14 = .ok (.iconst 0, 1) := by decide +kernel
theorem dL_form_15 : decode cL_form 15 = .ok (.ireturn, 1) := by decide +kernel
theorem dL_law_0 : decode cL_law 0 = .ok (.new 8, 3) := by decide +kernel
theorem dL_law_3 : decode cL_law 3 = .ok (.dup, 1) := by decide +kernel
theorem dL_law_4 : decode cL_law 4 = .ok (.invokespecial 22, 3) := by decide +kernel
theorem dL_law_7 : decode cL_law 7 = .ok (.astore_n 1, 1) := by decide +kernel
theorem dL_law_8 : decode cL_law 8 = .ok (.new 23, 3) := by decide +kernel
theorem dL_law_11 : decode cL_law 11 = .ok (.dup, 1) := by decide +kernel
theorem dL_law_12 : decode cL_law 12 = .ok (.invokespecial 25, 3) := by decide +kernel
theorem dL_law_15 : decode cL_law 15 = .ok (.astore_n 2, 1) := by decide +kernel
theorem dL_law_16 : decode cL_law 16 = .ok (.iconst 1, 1) := by decide +kernel
theorem dL_law_17 : decode cL_law 17 = .ok (.newarray .long, 2) := by decide +kernel
theorem dL_law_19 : decode cL_law 19 = .ok (.astore_n 3, 1) := by decide +kernel
theorem dL_law_20 : decode cL_law 20 = .ok (.iconst 0, 1) := by decide +kernel
theorem dL_law_21 : decode cL_law 21 = .ok (.istore 4, 2) := by decide +kernel
theorem dL_law_23 : decode cL_law 23 = .ok (.iload 4, 2) := by decide +kernel
theorem dL_law_25 : decode cL_law 25 = .ok (.aload_n 0, 1) := by decide +kernel
theorem dL_law_26 : decode cL_law 26 = .ok (.arraylength, 1) := by decide +kernel
theorem dL_law_27 : decode cL_law 27 = .ok (.bipush 6, 2) := by decide +kernel
theorem dL_law_29 : decode cL_law 29 = .ok (.isub, 1) := by decide +kernel
theorem dL_law_30 : decode cL_law 30 = .ok (.if_icmp .gt 1266, 3) := by decide +kernel
theorem dL_law_33 : decode cL_law 33 = .ok (.aload_n 0, 1) := by decide +kernel
theorem dL_law_34 : decode cL_law 34 = .ok (.iload 4, 2) := by decide +kernel
theorem dL_law_36 : decode cL_law 36 = .ok (.iaload, 1) := by decide +kernel
theorem dL_law_37 : decode cL_law 37 = .ok (.bipush 63, 2) := by decide +kernel
theorem dL_law_39 : decode cL_law 39 = .ok (.iand, 1) := by decide +kernel
theorem dL_law_40 : decode cL_law 40 = .ok (.tableswitch 1250 0 33 #[152, 225, 250, 263, 276, 301, 314, 327, 340, 377, 432, 457, 470, 537, 592, 630, 643, 657, 714, 740, 797, 854, 924, 937, 950, 963, 1001, 1087, 1112, 1125, 1150, 1187, 1200, 1225], 152) := by decide +kernel
theorem dL_law_192 : decode cL_law 192 = .ok (.aload_n 1, 1) := by decide +kernel
theorem dL_law_193 : decode cL_law 193 = .ok (.aload_n 0, 1) := by decide +kernel
theorem dL_law_194 : decode cL_law 194 = .ok (.iload 4, 2) := by decide +kernel
theorem dL_law_196 : decode cL_law 196 = .ok (.iconst 1, 1) := by decide +kernel
theorem dL_law_197 : decode cL_law 197 = .ok (.iadd, 1) := by decide +kernel
theorem dL_law_198 : decode cL_law 198 = .ok (.iaload, 1) := by decide +kernel
theorem dL_law_199 : decode cL_law 199 = .ok (.aload_n 0, 1) := by decide +kernel
theorem dL_law_200 : decode cL_law 200 = .ok (.iload 4, 2) := by decide +kernel
theorem dL_law_202 : decode cL_law 202 = .ok (.iconst 2, 1) := by decide +kernel
theorem dL_law_203 : decode cL_law 203 = .ok (.iadd, 1) := by decide +kernel
theorem dL_law_204 : decode cL_law 204 = .ok (.iaload, 1) := by decide +kernel
theorem dL_law_205 : decode cL_law 205 = .ok (.aload_n 0, 1) := by decide +kernel
theorem dL_law_206 : decode cL_law 206 = .ok (.iload 4, 2) := by decide +kernel
theorem dL_law_208 : decode cL_law 208 = .ok (.iconst 3, 1) := by decide +kernel
theorem dL_law_209 : decode cL_law 209 = .ok (.iadd, 1) := by decide +kernel
theorem dL_law_210 : decode cL_law 210 = .ok (.iaload, 1) := by decide +kernel
theorem dL_law_211 : decode cL_law 211 = .ok (.aload_n 0, 1) := by decide +kernel
theorem dL_law_212 : decode cL_law 212 = .ok (.iload 4, 2) := by decide +kernel
theorem dL_law_214 : decode cL_law 214 = .ok (.iconst 4, 1) := by decide +kernel
theorem dL_law_215 : decode cL_law 215 = .ok (.iadd, 1) := by decide +kernel
theorem dL_law_216 : decode cL_law 216 = .ok (.iaload, 1) := by decide +kernel
theorem dL_law_217 : decode cL_law 217 = .ok (.aload_n 0, 1) := by decide +kernel
theorem dL_law_218 : decode cL_law 218 = .ok (.iload 4, 2) := by decide +kernel
theorem dL_law_220 : decode cL_law 220 = .ok (.iconst 5, 1) := by decide +kernel
theorem dL_law_221 : decode cL_law 221 = .ok (.iadd, 1) := by decide +kernel
theorem dL_law_222 : decode cL_law 222 = .ok (.iaload, 1) := by decide +kernel
theorem dL_law_223 : decode cL_law 223 = .ok (.invokevirtual 26, 3) := by decide +kernel
theorem dL_law_226 : decode cL_law 226 = .ok (.aload_n 2, 1) := by decide +kernel
theorem dL_law_227 : decode cL_law 227 = .ok (.aload_n 0, 1) := by decide +kernel
theorem dL_law_228 : decode cL_law 228 = .ok (.iload 4, 2) := by decide +kernel
theorem dL_law_230 : decode cL_law 230 = .ok (.iconst 1, 1) := by decide +kernel
theorem dL_law_231 : decode cL_law 231 = .ok (.iadd, 1) := by decide +kernel
theorem dL_law_232 : decode cL_law 232 = .ok (.iaload, 1) := by decide +kernel
theorem dL_law_233 : decode cL_law 233 = .ok (.aload_n 0, 1) := by decide +kernel
theorem dL_law_234 : decode cL_law 234 = .ok (.iload 4, 2) := by decide +kernel
theorem dL_law_236 : decode cL_law 236 = .ok (.iconst 2, 1) := by decide +kernel
theorem dL_law_237 : decode cL_law 237 = .ok (.iadd, 1) := by decide +kernel
theorem dL_law_238 : decode cL_law 238 = .ok (.iaload, 1) := by decide +kernel
theorem dL_law_239 : decode cL_law 239 = .ok (.aload_n 0, 1) := by decide +kernel
theorem dL_law_240 : decode cL_law 240 = .ok (.iload 4, 2) := by decide +kernel
theorem dL_law_242 : decode cL_law 242 = .ok (.iconst 3, 1) := by decide +kernel
theorem dL_law_243 : decode cL_law 243 = .ok (.iadd, 1) := by decide +kernel
theorem dL_law_244 : decode cL_law 244 = .ok (.iaload, 1) := by decide +kernel
theorem dL_law_245 : decode cL_law 245 = .ok (.aload_n 0, 1) := by decide +kernel
theorem dL_law_246 : decode cL_law 246 = .ok (.iload 4, 2) := by decide +kernel
theorem dL_law_248 : decode cL_law 248 = .ok (.iconst 4, 1) := by decide +kernel
theorem dL_law_249 : decode cL_law 249 = .ok (.iadd, 1) := by decide +kernel
theorem dL_law_250 : decode cL_law 250 = .ok (.iaload, 1) := by decide +kernel
theorem dL_law_251 : decode cL_law 251 = .ok (.aload_n 0, 1) := by decide +kernel
theorem dL_law_252 : decode cL_law 252 = .ok (.iload 4, 2) := by decide +kernel
theorem dL_law_254 : decode cL_law 254 = .ok (.iconst 5, 1) := by decide +kernel
theorem dL_law_255 : decode cL_law 255 = .ok (.iadd, 1) := by decide +kernel
theorem dL_law_256 : decode cL_law 256 = .ok (.iaload, 1) := by decide +kernel
theorem dL_law_257 : decode cL_law 257 = .ok (.invokevirtual 30, 3) := by decide +kernel
theorem dL_law_260 : decode cL_law 260 = .ok (.if_icmp .eq 1030, 3) := by decide +kernel
theorem dL_law_263 : decode cL_law 263 = .ok (.iconst 0, 1) := by decide +kernel
theorem dL_law_264 : decode cL_law 264 = .ok (.ireturn, 1) := by decide +kernel
theorem dL_law_265 : decode cL_law 265 = .ok (.aload_n 1, 1) := by decide +kernel
theorem dL_law_266 : decode cL_law 266 = .ok (.aload_n 0, 1) := by decide +kernel
theorem dL_law_267 : decode cL_law 267 = .ok (.iload 4, 2) := by decide +kernel
theorem dL_law_269 : decode cL_law 269 = .ok (.iconst 1, 1) := by decide +kernel
theorem dL_law_270 : decode cL_law 270 = .ok (.iadd, 1) := by decide +kernel
theorem dL_law_271 : decode cL_law 271 = .ok (.iaload, 1) := by decide +kernel
theorem dL_law_272 : decode cL_law 272 = .ok (.invokevirtual 31, 3) := by decide +kernel
theorem dL_law_275 : decode cL_law 275 = .ok (.aload_n 2, 1) := by decide +kernel
theorem dL_law_276 : decode cL_law 276 = .ok (.aload_n 0, 1) := by decide +kernel
theorem dL_law_277 : decode cL_law 277 = .ok (.iload 4, 2) := by decide +kernel
theorem dL_law_279 : decode cL_law 279 = .ok (.iconst 1, 1) := by decide +kernel
theorem dL_law_280 : decode cL_law 280 = .ok (.iadd, 1) := by decide +kernel
theorem dL_law_281 : decode cL_law 281 = .ok (.iaload, 1) := by decide +kernel
theorem dL_law_282 : decode cL_law 282 = .ok (.invokevirtual 35, 3) := by decide +kernel
theorem dL_law_285 : decode cL_law 285 = .ok (.if_icmp .eq 1005, 3) := by decide +kernel
theorem dL_law_288 : decode cL_law 288 = .ok (.iconst 0, 1) := by decide +kernel
theorem dL_law_289 : decode cL_law 289 = .ok (.ireturn, 1) := by decide +kernel
theorem dL_law_290 : decode cL_law 290 = .ok (.aload_n 1, 1) := by decide +kernel
theorem dL_law_291 : decode cL_law 291 = .ok (.invokevirtual 36, 3) := by decide +kernel
theorem dL_law_294 : decode cL_law 294 = .ok (.aload_n 2, 1) := by decide +kernel
theorem dL_law_295 : decode cL_law 295 = .ok (.invokevirtual 40, 3) := by decide +kernel
theorem dL_law_298 : decode cL_law 298 = .ok (.if_icmp .eq 992, 3) := by decide +kernel
theorem dL_law_301 : decode cL_law 301 = .ok (.iconst 0, 1) := by decide +kernel
theorem dL_law_302 : decode cL_law 302 = .ok (.ireturn, 1) := by decide +kernel
theorem dL_law_303 : decode cL_law 303 = .ok (.aload_n 1, 1) := by decide +kernel
theorem dL_law_304 : decode cL_law 304 = .ok (.invokevirtual 41, 3) := by decide +kernel
theorem dL_law_307 : decode cL_law 307 = .ok (.aload_n 2, 1) := by decide +kernel
theorem dL_law_308 : decode cL_law 308 = .ok (.invokevirtual 44, 3) := by decide +kernel
theorem dL_law_311 : decode cL_law 311 = .ok (.if_icmp .eq 979, 3) := by decide +kernel
theorem dL_law_314 : decode cL_law 314 = .ok (.iconst 0, 1) := by decide +kernel
theorem dL_law_315 : decode cL_law 315 = .ok (.ireturn, 1) := by decide +kernel
theorem dL_law_316 : decode cL_law 316 = .ok (.aload_n 1, 1) := by decide +kernel
theorem dL_law_317 : decode cL_law 317 = .ok (.aload_n 0, 1) := by decide +kernel
theorem dL_law_318 : decode cL_law 318 = .ok (.iload 4, 2) := by decide +kernel
theorem dL_law_320 : decode cL_law 320 = .ok (.iconst 1, 1) := by decide +kernel
theorem dL_law_321 : decode cL_law 321 = .ok (.iadd, 1) := by decide +kernel
theorem dL_law_322 : decode cL_law 322 = .ok (.iaload, 1) := by decide +kernel
theorem dL_law_323 : decode cL_law 323 = .ok (.invokevirtual 45, 3) := by decide +kernel
theorem dL_law_326 : decode cL_law 326 = .ok (.aload_n 2, 1) := by decide +kernel
theorem dL_law_327 : decode cL_law 327 = .ok (.aload_n 0, 1) := by decide +kernel
theorem dL_law_328 : decode cL_law 328 = .ok (.iload 4, 2) := by decide +kernel
theorem dL_law_330 : decode cL_law 330 = .ok (.iconst 1, 1) := by decide +kernel
theorem dL_law_331 : decode cL_law 331 = .ok (.iadd, 1) := by decide +kernel
theorem dL_law_332 : decode cL_law 332 = .ok (.iaload, 1) := by decide +kernel
theorem dL_law_333 : decode cL_law 333 = .ok (.invokevirtual 49, 3) := by decide +kernel
theorem dL_law_336 : decode cL_law 336 = .ok (.if_icmp .eq 954, 3) := by decide +kernel
theorem dL_law_339 : decode cL_law 339 = .ok (.iconst 0, 1) := by decide +kernel
theorem dL_law_340 : decode cL_law 340 = .ok (.ireturn, 1) := by decide +kernel
theorem dL_law_341 : decode cL_law 341 = .ok (.aload_n 1, 1) := by decide +kernel
theorem dL_law_342 : decode cL_law 342 = .ok (.invokevirtual 50, 3) := by decide +kernel
theorem dL_law_345 : decode cL_law 345 = .ok (.aload_n 2, 1) := by decide +kernel
theorem dL_law_346 : decode cL_law 346 = .ok (.invokevirtual 53, 3) := by decide +kernel
theorem dL_law_349 : decode cL_law 349 = .ok (.if_icmp .eq 941, 3) := by decide +kernel
theorem dL_law_352 : decode cL_law 352 = .ok (.iconst 0, 1) := by decide +kernel
theorem dL_law_353 : decode cL_law 353 = .ok (.ireturn, 1) := by decide +kernel
theorem dL_law_354 : decode cL_law 354 = .ok (.aload_n 1, 1) := by decide +kernel
theorem dL_law_355 : decode cL_law 355 = .ok (.invokevirtual 54, 3) := by decide +kernel
theorem dL_law_358 : decode cL_law 358 = .ok (.aload_n 2, 1) := by decide +kernel
theorem dL_law_359 : decode cL_law 359 = .ok (.invokevirtual 57, 3) := by decide +kernel
theorem dL_law_362 : decode cL_law 362 = .ok (.if_icmp .eq 928, 3) := by decide +kernel
theorem dL_law_365 : decode cL_law 365 = .ok (.iconst 0, 1) := by decide +kernel
theorem dL_law_366 : decode cL_law 366 = .ok (.ireturn, 1) := by decide +kernel
theorem dL_law_367 : decode cL_law 367 = .ok (.aload_n 1, 1) := by decide +kernel
theorem dL_law_368 : decode cL_law 368 = .ok (.invokevirtual 58, 3) := by decide +kernel
theorem dL_law_371 : decode cL_law 371 = .ok (.aload_n 2, 1) := by decide +kernel
theorem dL_law_372 : decode cL_law 372 = .ok (.invokevirtual 61, 3) := by decide +kernel
theorem dL_law_375 : decode cL_law 375 = .ok (.if_icmp .eq 915, 3) := by decide +kernel
theorem dL_law_378 : decode cL_law 378 = .ok (.iconst 0, 1) := by decide +kernel
theorem dL_law_379 : decode cL_law 379 = .ok (.ireturn, 1) := by decide +kernel
theorem dL_law_380 : decode cL_law 380 = .ok (.aload_n 1, 1) := by decide +kernel
theorem dL_law_381 : decode cL_law 381 = .ok (.aload_n 0, 1) := by decide +kernel
theorem dL_law_382 : decode cL_law 382 = .ok (.iload 4, 2) := by decide +kernel
theorem dL_law_384 : decode cL_law 384 = .ok (.iconst 1, 1) := by decide +kernel
theorem dL_law_385 : decode cL_law 385 = .ok (.iadd, 1) := by decide +kernel
theorem dL_law_386 : decode cL_law 386 = .ok (.iaload, 1) := by decide +kernel
theorem dL_law_387 : decode cL_law 387 = .ok (.aload_n 0, 1) := by decide +kernel
theorem dL_law_388 : decode cL_law 388 = .ok (.iload 4, 2) := by decide +kernel
theorem dL_law_390 : decode cL_law 390 = .ok (.iconst 2, 1) := by decide +kernel
theorem dL_law_391 : decode cL_law 391 = .ok (.iadd, 1) := by decide +kernel
theorem dL_law_392 : decode cL_law 392 = .ok (.iaload, 1) := by decide +kernel
theorem dL_law_393 : decode cL_law 393 = .ok (.invokevirtual 62, 3) := by decide +kernel
theorem dL_law_396 : decode cL_law 396 = .ok (.aload_n 2, 1) := by decide +kernel
theorem dL_law_397 : decode cL_law 397 = .ok (.aload_n 0, 1) := by decide +kernel
theorem dL_law_398 : decode cL_law 398 = .ok (.iload 4, 2) := by decide +kernel
theorem dL_law_400 : decode cL_law 400 = .ok (.iconst 1, 1) := by decide +kernel
theorem dL_law_401 : decode cL_law 401 = .ok (.iadd, 1) := by decide +kernel
theorem dL_law_402 : decode cL_law 402 = .ok (.iaload, 1) := by decide +kernel
theorem dL_law_403 : decode cL_law 403 = .ok (.aload_n 0, 1) := by decide +kernel
theorem dL_law_404 : decode cL_law 404 = .ok (.iload 4, 2) := by decide +kernel
theorem dL_law_406 : decode cL_law 406 = .ok (.iconst 2, 1) := by decide +kernel
theorem dL_law_407 : decode cL_law 407 = .ok (.iadd, 1) := by decide +kernel
theorem dL_law_408 : decode cL_law 408 = .ok (.iaload, 1) := by decide +kernel
theorem dL_law_409 : decode cL_law 409 = .ok (.invokevirtual 66, 3) := by decide +kernel
theorem dL_law_412 : decode cL_law 412 = .ok (.if_icmp .eq 878, 3) := by decide +kernel
theorem dL_law_415 : decode cL_law 415 = .ok (.iconst 0, 1) := by decide +kernel
theorem dL_law_416 : decode cL_law 416 = .ok (.ireturn, 1) := by decide +kernel
theorem dL_law_417 : decode cL_law 417 = .ok (.aload_n 1, 1) := by decide +kernel
theorem dL_law_418 : decode cL_law 418 = .ok (.aload_n 0, 1) := by decide +kernel
theorem dL_law_419 : decode cL_law 419 = .ok (.iload 4, 2) := by decide +kernel
theorem dL_law_421 : decode cL_law 421 = .ok (.iconst 1, 1) := by decide +kernel
theorem dL_law_422 : decode cL_law 422 = .ok (.iadd, 1) := by decide +kernel
theorem dL_law_423 : decode cL_law 423 = .ok (.iaload, 1) := by decide +kernel
theorem dL_law_424 : decode cL_law 424 = .ok (.aload_n 3, 1) := by decide +kernel
theorem dL_law_425 : decode cL_law 425 = .ok (.invokestatic 67, 3) := by decide +kernel
theorem dL_law_428 : decode cL_law 428 = .ok (.istore 5, 2) := by decide +kernel
theorem dL_law_430 : decode cL_law 430 = .ok (.aload_n 2, 1) := by decide +kernel
theorem dL_law_431 : decode cL_law 431 = .ok (.aload_n 0, 1) := by decide +kernel
theorem dL_law_432 : decode cL_law 432 = .ok (.iload 4, 2) := by decide +kernel
theorem dL_law_434 : decode cL_law 434 = .ok (.iconst 1, 1) := by decide +kernel
theorem dL_law_435 : decode cL_law 435 = .ok (.iadd, 1) := by decide +kernel
theorem dL_law_436 : decode cL_law 436 = .ok (.iaload, 1) := by decide +kernel
theorem dL_law_437 : decode cL_law 437 = .ok (.invokevirtual 72, 3) := by decide +kernel
theorem dL_law_440 : decode cL_law 440 = .ok (.lstore 6, 2) := by decide +kernel
theorem dL_law_442 : decode cL_law 442 = .ok (.aload_n 2, 1) := by decide +kernel
theorem dL_law_443 : decode cL_law 443 = .ok (.invokevirtual 73, 3) := by decide +kernel
theorem dL_law_446 : decode cL_law 446 = .ok (.iload 5, 2) := by decide +kernel
theorem dL_law_448 : decode cL_law 448 = .ok (.if_icmp .eq 5, 3) := by decide +kernel
theorem dL_law_451 : decode cL_law 451 = .ok (.iconst 0, 1) := by decide +kernel
theorem dL_law_452 : decode cL_law 452 = .ok (.ireturn, 1) := by decide +kernel
theorem dL_law_453 : decode cL_law 453 = .ok (.iload 5, 2) := by decide +kernel
theorem dL_law_455 : decode cL_law 455 = .ok (.ifCond .ne 14, 3) := by decide +kernel
theorem dL_law_458 : decode cL_law 458 = .ok (.aload_n 3, 1) := by decide +kernel
theorem dL_law_459 : decode cL_law 459 = .ok (.iconst 0, 1) := by decide +kernel
theorem dL_law_460 : decode cL_law 460 = .ok (.laload, 1) := by decide +kernel
theorem dL_law_461 : decode cL_law 461 = .ok (.lload 6, 2) := by decide +kernel
theorem dL_law_463 : decode cL_law 463 = .ok (.lcmp, 1) := by decide +kernel
theorem dL_law_464 : decode cL_law 464 = .ok (.ifCond .eq 5, 3) := by decide +kernel
theorem dL_law_467 : decode cL_law 467 = .ok (.iconst 0, 1) := by decide +kernel
theorem dL_law_468 : decode cL_law 468 = .ok (.ireturn, 1) := by decide +kernel
theorem dL_law_469 : decode cL_law 469 = .ok (.goto 821, 3) := by decide +kernel
theorem dL_law_472 : decode cL_law 472 = .ok (.aload_n 1, 1) := by decide +kernel
theorem dL_law_473 : decode cL_law 473 = .ok (.aload_n 0, 1) := by decide +kernel
theorem dL_law_474 : decode cL_law 474 = .ok (.iload 4, 2) := by decide +kernel
theorem dL_law_476 : decode cL_law 476 = .ok (.iconst 1, 1) := by decide +kernel
theorem dL_law_477 : decode cL_law 477 = .ok (.iadd, 1) := by decide +kernel
theorem dL_law_478 : decode cL_law 478 = .ok (.iaload, 1) := by decide +kernel
theorem dL_law_479 : decode cL_law 479 = .ok (.invokevirtual 76, 3) := by decide +kernel
theorem dL_law_482 : decode cL_law 482 = .ok (.aload_n 2, 1) := by decide +kernel
theorem dL_law_483 : decode cL_law 483 = .ok (.aload_n 0, 1) := by decide +kernel
theorem dL_law_484 : decode cL_law 484 = .ok (.iload 4, 2) := by decide +kernel
theorem dL_law_486 : decode cL_law 486 = .ok (.iconst 1, 1) := by decide +kernel
theorem dL_law_487 : decode cL_law 487 = .ok (.iadd, 1) := by decide +kernel
theorem dL_law_488 : decode cL_law 488 = .ok (.iaload, 1) := by decide +kernel
theorem dL_law_489 : decode cL_law 489 = .ok (.invokevirtual 79, 3) := by decide +kernel
theorem dL_law_492 : decode cL_law 492 = .ok (.if_icmp .eq 798, 3) := by decide +kernel
theorem dL_law_495 : decode cL_law 495 = .ok (.iconst 0, 1) := by decide +kernel
theorem dL_law_496 : decode cL_law 496 = .ok (.ireturn, 1) := by decide +kernel
theorem dL_law_497 : decode cL_law 497 = .ok (.aload_n 1, 1) := by decide +kernel
theorem dL_law_498 : decode cL_law 498 = .ok (.invokevirtual 80, 3) := by decide +kernel
theorem dL_law_501 : decode cL_law 501 = .ok (.aload_n 2, 1) := by decide +kernel
theorem dL_law_502 : decode cL_law 502 = .ok (.invokevirtual 83, 3) := by decide +kernel
theorem dL_law_505 : decode cL_law 505 = .ok (.if_icmp .eq 785, 3) := by decide +kernel
theorem dL_law_508 : decode cL_law 508 = .ok (.iconst 0, 1) := by decide +kernel
theorem dL_law_509 : decode cL_law 509 = .ok (.ireturn, 1) := by decide +kernel
theorem dL_law_510 : decode cL_law 510 = .ok (.aload_n 1, 1) := by decide +kernel
theorem dL_law_511 : decode cL_law 511 = .ok (.aload_n 0, 1) := by decide +kernel
theorem dL_law_512 : decode cL_law 512 = .ok (.iload 4, 2) := by decide +kernel
theorem dL_law_514 : decode cL_law 514 = .ok (.iconst 1, 1) := by decide +kernel
theorem dL_law_515 : decode cL_law 515 = .ok (.iadd, 1) := by decide +kernel
theorem dL_law_516 : decode cL_law 516 = .ok (.iaload, 1) := by decide +kernel
theorem dL_law_517 : decode cL_law 517 = .ok (.aload_n 0, 1) := by decide +kernel
theorem dL_law_518 : decode cL_law 518 = .ok (.iload 4, 2) := by decide +kernel
theorem dL_law_520 : decode cL_law 520 = .ok (.iconst 2, 1) := by decide +kernel
theorem dL_law_521 : decode cL_law 521 = .ok (.iadd, 1) := by decide +kernel
theorem dL_law_522 : decode cL_law 522 = .ok (.iaload, 1) := by decide +kernel
theorem dL_law_523 : decode cL_law 523 = .ok (.aload_n 3, 1) := by decide +kernel
theorem dL_law_524 : decode cL_law 524 = .ok (.invokestatic 84, 3) := by decide +kernel
theorem dL_law_527 : decode cL_law 527 = .ok (.istore 5, 2) := by decide +kernel
theorem dL_law_529 : decode cL_law 529 = .ok (.aload_n 2, 1) := by decide +kernel
theorem dL_law_530 : decode cL_law 530 = .ok (.aload_n 0, 1) := by decide +kernel
theorem dL_law_531 : decode cL_law 531 = .ok (.iload 4, 2) := by decide +kernel
theorem dL_law_533 : decode cL_law 533 = .ok (.iconst 1, 1) := by decide +kernel
theorem dL_law_534 : decode cL_law 534 = .ok (.iadd, 1) := by decide +kernel
theorem dL_law_535 : decode cL_law 535 = .ok (.iaload, 1) := by decide +kernel
theorem dL_law_536 : decode cL_law 536 = .ok (.aload_n 0, 1) := by decide +kernel
theorem dL_law_537 : decode cL_law 537 = .ok (.iload 4, 2) := by decide +kernel
theorem dL_law_539 : decode cL_law 539 = .ok (.iconst 2, 1) := by decide +kernel
theorem dL_law_540 : decode cL_law 540 = .ok (.iadd, 1) := by decide +kernel
theorem dL_law_541 : decode cL_law 541 = .ok (.iaload, 1) := by decide +kernel
theorem dL_law_542 : decode cL_law 542 = .ok (.invokevirtual 87, 3) := by decide +kernel
theorem dL_law_545 : decode cL_law 545 = .ok (.lstore 6, 2) := by decide +kernel
theorem dL_law_547 : decode cL_law 547 = .ok (.aload_n 2, 1) := by decide +kernel
theorem dL_law_548 : decode cL_law 548 = .ok (.invokevirtual 73, 3) := by decide +kernel
theorem dL_law_551 : decode cL_law 551 = .ok (.iload 5, 2) := by decide +kernel
theorem dL_law_553 : decode cL_law 553 = .ok (.if_icmp .eq 5, 3) := by decide +kernel
theorem dL_law_556 : decode cL_law 556 = .ok (.iconst 0, 1) := by decide +kernel
theorem dL_law_557 : decode cL_law 557 = .ok (.ireturn, 1) := by decide +kernel
theorem dL_law_558 : decode cL_law 558 = .ok (.iload 5, 2) := by decide +kernel
theorem dL_law_560 : decode cL_law 560 = .ok (.ifCond .ne 14, 3) := by decide +kernel
theorem dL_law_563 : decode cL_law 563 = .ok (.aload_n 3, 1) := by decide +kernel
theorem dL_law_564 : decode cL_law 564 = .ok (.iconst 0, 1) := by decide +kernel
theorem dL_law_565 : decode cL_law 565 = .ok (.laload, 1) := by decide +kernel
theorem dL_law_566 : decode cL_law 566 = .ok (.lload 6, 2) := by decide +kernel
theorem dL_law_568 : decode cL_law 568 = .ok (.lcmp, 1) := by decide +kernel
theorem dL_law_569 : decode cL_law 569 = .ok (.ifCond .eq 5, 3) := by decide +kernel
theorem dL_law_572 : decode cL_law 572 = .ok (.iconst 0, 1) := by decide +kernel
theorem dL_law_573 : decode cL_law 573 = .ok (.ireturn, 1) := by decide +kernel
theorem dL_law_574 : decode cL_law 574 = .ok (.goto 716, 3) := by decide +kernel
theorem dL_law_577 : decode cL_law 577 = .ok (.aload_n 1, 1) := by decide +kernel
theorem dL_law_578 : decode cL_law 578 = .ok (.aload_n 0, 1) := by decide +kernel
theorem dL_law_579 : decode cL_law 579 = .ok (.iload 4, 2) := by decide +kernel
theorem dL_law_581 : decode cL_law 581 = .ok (.iconst 1, 1) := by decide +kernel
theorem dL_law_582 : decode cL_law 582 = .ok (.iadd, 1) := by decide +kernel
theorem dL_law_583 : decode cL_law 583 = .ok (.iaload, 1) := by decide +kernel
theorem dL_law_584 : decode cL_law 584 = .ok (.aload_n 3, 1) := by decide +kernel
theorem dL_law_585 : decode cL_law 585 = .ok (.invokestatic 88, 3) := by decide +kernel
theorem dL_law_588 : decode cL_law 588 = .ok (.istore 5, 2) := by decide +kernel
theorem dL_law_590 : decode cL_law 590 = .ok (.aload_n 2, 1) := by decide +kernel
theorem dL_law_591 : decode cL_law 591 = .ok (.aload_n 0, 1) := by decide +kernel
theorem dL_law_592 : decode cL_law 592 = .ok (.iload 4, 2) := by decide +kernel
theorem dL_law_594 : decode cL_law 594 = .ok (.iconst 1, 1) := by decide +kernel
theorem dL_law_595 : decode cL_law 595 = .ok (.iadd, 1) := by decide +kernel
theorem dL_law_596 : decode cL_law 596 = .ok (.iaload, 1) := by decide +kernel
theorem dL_law_597 : decode cL_law 597 = .ok (.invokevirtual 90, 3) := by decide +kernel
theorem dL_law_600 : decode cL_law 600 = .ok (.lstore 6, 2) := by decide +kernel
theorem dL_law_602 : decode cL_law 602 = .ok (.aload_n 2, 1) := by decide +kernel
theorem dL_law_603 : decode cL_law 603 = .ok (.invokevirtual 73, 3) := by decide +kernel
theorem dL_law_606 : decode cL_law 606 = .ok (.iload 5, 2) := by decide +kernel
theorem dL_law_608 : decode cL_law 608 = .ok (.if_icmp .eq 5, 3) := by decide +kernel
theorem dL_law_611 : decode cL_law 611 = .ok (.iconst 0, 1) := by decide +kernel
theorem dL_law_612 : decode cL_law 612 = .ok (.ireturn, 1) := by decide +kernel
theorem dL_law_613 : decode cL_law 613 = .ok (.iload 5, 2) := by decide +kernel
theorem dL_law_615 : decode cL_law 615 = .ok (.ifCond .ne 14, 3) := by decide +kernel
theorem dL_law_618 : decode cL_law 618 = .ok (.aload_n 3, 1) := by decide +kernel
theorem dL_law_619 : decode cL_law 619 = .ok (.iconst 0, 1) := by decide +kernel
theorem dL_law_620 : decode cL_law 620 = .ok (.laload, 1) := by decide +kernel
theorem dL_law_621 : decode cL_law 621 = .ok (.lload 6, 2) := by decide +kernel
theorem dL_law_623 : decode cL_law 623 = .ok (.lcmp, 1) := by decide +kernel
theorem dL_law_624 : decode cL_law 624 = .ok (.ifCond .eq 5, 3) := by decide +kernel
theorem dL_law_627 : decode cL_law 627 = .ok (.iconst 0, 1) := by decide +kernel
theorem dL_law_628 : decode cL_law 628 = .ok (.ireturn, 1) := by decide +kernel
theorem dL_law_629 : decode cL_law 629 = .ok (.goto 661, 3) := by decide +kernel
theorem dL_law_632 : decode cL_law 632 = .ok (.aload_n 1, 1) := by decide +kernel
theorem dL_law_633 : decode cL_law 633 = .ok (.aload_n 0, 1) := by decide +kernel
theorem dL_law_634 : decode cL_law 634 = .ok (.iload 4, 2) := by decide +kernel
theorem dL_law_636 : decode cL_law 636 = .ok (.iconst 1, 1) := by decide +kernel
theorem dL_law_637 : decode cL_law 637 = .ok (.iadd, 1) := by decide +kernel
theorem dL_law_638 : decode cL_law 638 = .ok (.iaload, 1) := by decide +kernel
theorem dL_law_639 : decode cL_law 639 = .ok (.aload_n 0, 1) := by decide +kernel
theorem dL_law_640 : decode cL_law 640 = .ok (.iload 4, 2) := by decide +kernel
theorem dL_law_642 : decode cL_law 642 = .ok (.iconst 2, 1) := by decide +kernel
theorem dL_law_643 : decode cL_law 643 = .ok (.iadd, 1) := by decide +kernel
theorem dL_law_644 : decode cL_law 644 = .ok (.iaload, 1) := by decide +kernel
theorem dL_law_645 : decode cL_law 645 = .ok (.invokevirtual 91, 3) := by decide +kernel
theorem dL_law_648 : decode cL_law 648 = .ok (.aload_n 2, 1) := by decide +kernel
theorem dL_law_649 : decode cL_law 649 = .ok (.aload_n 0, 1) := by decide +kernel
theorem dL_law_650 : decode cL_law 650 = .ok (.iload 4, 2) := by decide +kernel
theorem dL_law_652 : decode cL_law 652 = .ok (.iconst 1, 1) := by decide +kernel
theorem dL_law_653 : decode cL_law 653 = .ok (.iadd, 1) := by decide +kernel
theorem dL_law_654 : decode cL_law 654 = .ok (.iaload, 1) := by decide +kernel
theorem dL_law_655 : decode cL_law 655 = .ok (.aload_n 0, 1) := by decide +kernel
theorem dL_law_656 : decode cL_law 656 = .ok (.iload 4, 2) := by decide +kernel
theorem dL_law_658 : decode cL_law 658 = .ok (.iconst 2, 1) := by decide +kernel
theorem dL_law_659 : decode cL_law 659 = .ok (.iadd, 1) := by decide +kernel
theorem dL_law_660 : decode cL_law 660 = .ok (.iaload, 1) := by decide +kernel
theorem dL_law_661 : decode cL_law 661 = .ok (.invokevirtual 94, 3) := by decide +kernel
theorem dL_law_664 : decode cL_law 664 = .ok (.lcmp, 1) := by decide +kernel
theorem dL_law_665 : decode cL_law 665 = .ok (.ifCond .eq 625, 3) := by decide +kernel
theorem dL_law_668 : decode cL_law 668 = .ok (.iconst 0, 1) := by decide +kernel
theorem dL_law_669 : decode cL_law 669 = .ok (.ireturn, 1) := by decide +kernel
theorem dL_law_670 : decode cL_law 670 = .ok (.aload_n 1, 1) := by decide +kernel
theorem dL_law_671 : decode cL_law 671 = .ok (.invokevirtual 95, 3) := by decide +kernel
theorem dL_law_674 : decode cL_law 674 = .ok (.aload_n 2, 1) := by decide +kernel
theorem dL_law_675 : decode cL_law 675 = .ok (.invokevirtual 98, 3) := by decide +kernel
theorem dL_law_678 : decode cL_law 678 = .ok (.if_icmp .eq 612, 3) := by decide +kernel
theorem dL_law_681 : decode cL_law 681 = .ok (.iconst 0, 1) := by decide +kernel
theorem dL_law_682 : decode cL_law 682 = .ok (.ireturn, 1) := by decide +kernel
theorem dL_law_683 : decode cL_law 683 = .ok (.aload_n 1, 1) := by decide +kernel
theorem dL_law_684 : decode cL_law 684 = .ok (.invokevirtual 99, 3) := by decide +kernel
theorem dL_law_687 : decode cL_law 687 = .ok (.aload_n 2, 1) := by decide +kernel
theorem dL_law_688 : decode cL_law 688 = .ok (.invokevirtual 103, 3) := by decide +kernel
theorem dL_law_691 : decode cL_law 691 = .ok (.lcmp, 1) := by decide +kernel
theorem dL_law_692 : decode cL_law 692 = .ok (.ifCond .eq 598, 3) := by decide +kernel
theorem dL_law_695 : decode cL_law 695 = .ok (.iconst 0, 1) := by decide +kernel
theorem dL_law_696 : decode cL_law 696 = .ok (.ireturn, 1) := by decide +kernel
theorem dL_law_697 : decode cL_law 697 = .ok (.aload_n 1, 1) := by decide +kernel
theorem dL_law_698 : decode cL_law 698 = .ok (.aload_n 0, 1) := by decide +kernel
theorem dL_law_699 : decode cL_law 699 = .ok (.iload 4, 2) := by decide +kernel
theorem dL_law_701 : decode cL_law 701 = .ok (.iconst 1, 1) := by decide +kernel
theorem dL_law_702 : decode cL_law 702 = .ok (.iadd, 1) := by decide +kernel
theorem dL_law_703 : decode cL_law 703 = .ok (.iaload, 1) := by decide +kernel
theorem dL_law_704 : decode cL_law 704 = .ok (.i2l, 1) := by decide +kernel
theorem dL_law_705 : decode cL_law 705 = .ok (.bipush 32, 2) := by decide +kernel
theorem dL_law_707 : decode cL_law 707 = .ok (.lshl, 1) := by decide +kernel
theorem dL_law_708 : decode cL_law 708 = .ok (.aload_n 0, 1) := by decide +kernel
theorem dL_law_709 : decode cL_law 709 = .ok (.iload 4, 2) := by decide +kernel
theorem dL_law_711 : decode cL_law 711 = .ok (.iconst 2, 1) := by decide +kernel
theorem dL_law_712 : decode cL_law 712 = .ok (.iadd, 1) := by decide +kernel
theorem dL_law_713 : decode cL_law 713 = .ok (.iaload, 1) := by decide +kernel
theorem dL_law_714 : decode cL_law 714 = .ok (.i2l, 1) := by decide +kernel
theorem dL_law_715 : decode cL_law 715 = .ok (.ldc2_w 104, 3) := by decide +kernel
theorem dL_law_718 : decode cL_law 718 = .ok (.land, 1) := by decide +kernel
theorem dL_law_719 : decode cL_law 719 = .ok (.lor, 1) := by decide +kernel
theorem dL_law_720 : decode cL_law 720 = .ok (.invokevirtual 106, 3) := by decide +kernel
theorem dL_law_723 : decode cL_law 723 = .ok (.aload_n 2, 1) := by decide +kernel
theorem dL_law_724 : decode cL_law 724 = .ok (.aload_n 0, 1) := by decide +kernel
theorem dL_law_725 : decode cL_law 725 = .ok (.iload 4, 2) := by decide +kernel
theorem dL_law_727 : decode cL_law 727 = .ok (.iconst 1, 1) := by decide +kernel
theorem dL_law_728 : decode cL_law 728 = .ok (.iadd, 1) := by decide +kernel
theorem dL_law_729 : decode cL_law 729 = .ok (.iaload, 1) := by decide +kernel
theorem dL_law_730 : decode cL_law 730 = .ok (.i2l, 1) := by decide +kernel
theorem dL_law_731 : decode cL_law 731 = .ok (.bipush 32, 2) := by decide +kernel
theorem dL_law_733 : decode cL_law 733 = .ok (.lshl, 1) := by decide +kernel
theorem dL_law_734 : decode cL_law 734 = .ok (.aload_n 0, 1) := by decide +kernel
theorem dL_law_735 : decode cL_law 735 = .ok (.iload 4, 2) := by decide +kernel
theorem dL_law_737 : decode cL_law 737 = .ok (.iconst 2, 1) := by decide +kernel
theorem dL_law_738 : decode cL_law 738 = .ok (.iadd, 1) := by decide +kernel
theorem dL_law_739 : decode cL_law 739 = .ok (.iaload, 1) := by decide +kernel
theorem dL_law_740 : decode cL_law 740 = .ok (.i2l, 1) := by decide +kernel
theorem dL_law_741 : decode cL_law 741 = .ok (.ldc2_w 104, 3) := by decide +kernel
theorem dL_law_744 : decode cL_law 744 = .ok (.land, 1) := by decide +kernel
theorem dL_law_745 : decode cL_law 745 = .ok (.lor, 1) := by decide +kernel
theorem dL_law_746 : decode cL_law 746 = .ok (.invokevirtual 110, 3) := by decide +kernel
theorem dL_law_749 : decode cL_law 749 = .ok (.if_icmp .eq 541, 3) := by decide +kernel
theorem dL_law_752 : decode cL_law 752 = .ok (.iconst 0, 1) := by decide +kernel
theorem dL_law_753 : decode cL_law 753 = .ok (.ireturn, 1) := by decide +kernel
theorem dL_law_754 : decode cL_law 754 = .ok (.aload_n 1, 1) := by decide +kernel
theorem dL_law_755 : decode cL_law 755 = .ok (.aload_n 0, 1) := by decide +kernel
theorem dL_law_756 : decode cL_law 756 = .ok (.iload 4, 2) := by decide +kernel
theorem dL_law_758 : decode cL_law 758 = .ok (.iconst 1, 1) := by decide +kernel
theorem dL_law_759 : decode cL_law 759 = .ok (.iadd, 1) := by decide +kernel
theorem dL_law_760 : decode cL_law 760 = .ok (.iaload, 1) := by decide +kernel
theorem dL_law_761 : decode cL_law 761 = .ok (.invokevirtual 111, 3) := by decide +kernel
theorem dL_law_764 : decode cL_law 764 = .ok (.aload_n 2, 1) := by decide +kernel
theorem dL_law_765 : decode cL_law 765 = .ok (.aload_n 0, 1) := by decide +kernel
theorem dL_law_766 : decode cL_law 766 = .ok (.iload 4, 2) := by decide +kernel
theorem dL_law_768 : decode cL_law 768 = .ok (.iconst 1, 1) := by decide +kernel
theorem dL_law_769 : decode cL_law 769 = .ok (.iadd, 1) := by decide +kernel
theorem dL_law_770 : decode cL_law 770 = .ok (.iaload, 1) := by decide +kernel
theorem dL_law_771 : decode cL_law 771 = .ok (.invokevirtual 114, 3) := by decide +kernel
theorem dL_law_774 : decode cL_law 774 = .ok (.lcmp, 1) := by decide +kernel
theorem dL_law_775 : decode cL_law 775 = .ok (.ifCond .eq 515, 3) := by decide +kernel
theorem dL_law_778 : decode cL_law 778 = .ok (.iconst 0, 1) := by decide +kernel
theorem dL_law_779 : decode cL_law 779 = .ok (.ireturn, 1) := by decide +kernel
theorem dL_law_780 : decode cL_law 780 = .ok (.aload_n 1, 1) := by decide +kernel
theorem dL_law_781 : decode cL_law 781 = .ok (.aload_n 0, 1) := by decide +kernel
theorem dL_law_782 : decode cL_law 782 = .ok (.iload 4, 2) := by decide +kernel
theorem dL_law_784 : decode cL_law 784 = .ok (.iconst 1, 1) := by decide +kernel
theorem dL_law_785 : decode cL_law 785 = .ok (.iadd, 1) := by decide +kernel
theorem dL_law_786 : decode cL_law 786 = .ok (.iaload, 1) := by decide +kernel
theorem dL_law_787 : decode cL_law 787 = .ok (.i2l, 1) := by decide +kernel
theorem dL_law_788 : decode cL_law 788 = .ok (.bipush 32, 2) := by decide +kernel
theorem dL_law_790 : decode cL_law 790 = .ok (.lshl, 1) := by decide +kernel
theorem dL_law_791 : decode cL_law 791 = .ok (.aload_n 0, 1) := by decide +kernel
theorem dL_law_792 : decode cL_law 792 = .ok (.iload 4, 2) := by decide +kernel
theorem dL_law_794 : decode cL_law 794 = .ok (.iconst 2, 1) := by decide +kernel
theorem dL_law_795 : decode cL_law 795 = .ok (.iadd, 1) := by decide +kernel
theorem dL_law_796 : decode cL_law 796 = .ok (.iaload, 1) := by decide +kernel
theorem dL_law_797 : decode cL_law 797 = .ok (.i2l, 1) := by decide +kernel
theorem dL_law_798 : decode cL_law 798 = .ok (.ldc2_w 104, 3) := by decide +kernel
theorem dL_law_801 : decode cL_law 801 = .ok (.land, 1) := by decide +kernel
theorem dL_law_802 : decode cL_law 802 = .ok (.lor, 1) := by decide +kernel
theorem dL_law_803 : decode cL_law 803 = .ok (.invokevirtual 115, 3) := by decide +kernel
theorem dL_law_806 : decode cL_law 806 = .ok (.aload_n 2, 1) := by decide +kernel
theorem dL_law_807 : decode cL_law 807 = .ok (.aload_n 0, 1) := by decide +kernel
theorem dL_law_808 : decode cL_law 808 = .ok (.iload 4, 2) := by decide +kernel
theorem dL_law_810 : decode cL_law 810 = .ok (.iconst 1, 1) := by decide +kernel
theorem dL_law_811 : decode cL_law 811 = .ok (.iadd, 1) := by decide +kernel
theorem dL_law_812 : decode cL_law 812 = .ok (.iaload, 1) := by decide +kernel
theorem dL_law_813 : decode cL_law 813 = .ok (.i2l, 1) := by decide +kernel
theorem dL_law_814 : decode cL_law 814 = .ok (.bipush 32, 2) := by decide +kernel
theorem dL_law_816 : decode cL_law 816 = .ok (.lshl, 1) := by decide +kernel
theorem dL_law_817 : decode cL_law 817 = .ok (.aload_n 0, 1) := by decide +kernel
theorem dL_law_818 : decode cL_law 818 = .ok (.iload 4, 2) := by decide +kernel
theorem dL_law_820 : decode cL_law 820 = .ok (.iconst 2, 1) := by decide +kernel
theorem dL_law_821 : decode cL_law 821 = .ok (.iadd, 1) := by decide +kernel
theorem dL_law_822 : decode cL_law 822 = .ok (.iaload, 1) := by decide +kernel
theorem dL_law_823 : decode cL_law 823 = .ok (.i2l, 1) := by decide +kernel
theorem dL_law_824 : decode cL_law 824 = .ok (.ldc2_w 104, 3) := by decide +kernel
theorem dL_law_827 : decode cL_law 827 = .ok (.land, 1) := by decide +kernel
theorem dL_law_828 : decode cL_law 828 = .ok (.lor, 1) := by decide +kernel
theorem dL_law_829 : decode cL_law 829 = .ok (.invokevirtual 118, 3) := by decide +kernel
theorem dL_law_832 : decode cL_law 832 = .ok (.if_icmp .eq 458, 3) := by decide +kernel
theorem dL_law_835 : decode cL_law 835 = .ok (.iconst 0, 1) := by decide +kernel
theorem dL_law_836 : decode cL_law 836 = .ok (.ireturn, 1) := by decide +kernel
theorem dL_law_837 : decode cL_law 837 = .ok (.aload_n 1, 1) := by decide +kernel
theorem dL_law_838 : decode cL_law 838 = .ok (.aload_n 0, 1) := by decide +kernel
theorem dL_law_839 : decode cL_law 839 = .ok (.iload 4, 2) := by decide +kernel
theorem dL_law_841 : decode cL_law 841 = .ok (.iconst 1, 1) := by decide +kernel
theorem dL_law_842 : decode cL_law 842 = .ok (.iadd, 1) := by decide +kernel
theorem dL_law_843 : decode cL_law 843 = .ok (.iaload, 1) := by decide +kernel
theorem dL_law_844 : decode cL_law 844 = .ok (.i2l, 1) := by decide +kernel
theorem dL_law_845 : decode cL_law 845 = .ok (.bipush 32, 2) := by decide +kernel
theorem dL_law_847 : decode cL_law 847 = .ok (.lshl, 1) := by decide +kernel
theorem dL_law_848 : decode cL_law 848 = .ok (.aload_n 0, 1) := by decide +kernel
theorem dL_law_849 : decode cL_law 849 = .ok (.iload 4, 2) := by decide +kernel
theorem dL_law_851 : decode cL_law 851 = .ok (.iconst 2, 1) := by decide +kernel
theorem dL_law_852 : decode cL_law 852 = .ok (.iadd, 1) := by decide +kernel
theorem dL_law_853 : decode cL_law 853 = .ok (.iaload, 1) := by decide +kernel
theorem dL_law_854 : decode cL_law 854 = .ok (.i2l, 1) := by decide +kernel
theorem dL_law_855 : decode cL_law 855 = .ok (.ldc2_w 104, 3) := by decide +kernel
theorem dL_law_858 : decode cL_law 858 = .ok (.land, 1) := by decide +kernel
theorem dL_law_859 : decode cL_law 859 = .ok (.lor, 1) := by decide +kernel
theorem dL_law_860 : decode cL_law 860 = .ok (.invokevirtual 119, 3) := by decide +kernel
theorem dL_law_863 : decode cL_law 863 = .ok (.aload_n 2, 1) := by decide +kernel
theorem dL_law_864 : decode cL_law 864 = .ok (.aload_n 0, 1) := by decide +kernel
theorem dL_law_865 : decode cL_law 865 = .ok (.iload 4, 2) := by decide +kernel
theorem dL_law_867 : decode cL_law 867 = .ok (.iconst 1, 1) := by decide +kernel
theorem dL_law_868 : decode cL_law 868 = .ok (.iadd, 1) := by decide +kernel
theorem dL_law_869 : decode cL_law 869 = .ok (.iaload, 1) := by decide +kernel
theorem dL_law_870 : decode cL_law 870 = .ok (.i2l, 1) := by decide +kernel
theorem dL_law_871 : decode cL_law 871 = .ok (.bipush 32, 2) := by decide +kernel
theorem dL_law_873 : decode cL_law 873 = .ok (.lshl, 1) := by decide +kernel
theorem dL_law_874 : decode cL_law 874 = .ok (.aload_n 0, 1) := by decide +kernel
theorem dL_law_875 : decode cL_law 875 = .ok (.iload 4, 2) := by decide +kernel
theorem dL_law_877 : decode cL_law 877 = .ok (.iconst 2, 1) := by decide +kernel
theorem dL_law_878 : decode cL_law 878 = .ok (.iadd, 1) := by decide +kernel
theorem dL_law_879 : decode cL_law 879 = .ok (.iaload, 1) := by decide +kernel
theorem dL_law_880 : decode cL_law 880 = .ok (.i2l, 1) := by decide +kernel
theorem dL_law_881 : decode cL_law 881 = .ok (.ldc2_w 104, 3) := by decide +kernel
theorem dL_law_884 : decode cL_law 884 = .ok (.land, 1) := by decide +kernel
theorem dL_law_885 : decode cL_law 885 = .ok (.lor, 1) := by decide +kernel
theorem dL_law_886 : decode cL_law 886 = .ok (.invokevirtual 122, 3) := by decide +kernel
theorem dL_law_889 : decode cL_law 889 = .ok (.if_icmp .eq 401, 3) := by decide +kernel
theorem dL_law_892 : decode cL_law 892 = .ok (.iconst 0, 1) := by decide +kernel
theorem dL_law_893 : decode cL_law 893 = .ok (.ireturn, 1) := by decide +kernel
theorem dL_law_894 : decode cL_law 894 = .ok (.aload_n 1, 1) := by decide +kernel
theorem dL_law_895 : decode cL_law 895 = .ok (.aload_n 0, 1) := by decide +kernel
theorem dL_law_896 : decode cL_law 896 = .ok (.iload 4, 2) := by decide +kernel
theorem dL_law_898 : decode cL_law 898 = .ok (.iconst 1, 1) := by decide +kernel
theorem dL_law_899 : decode cL_law 899 = .ok (.iadd, 1) := by decide +kernel
theorem dL_law_900 : decode cL_law 900 = .ok (.iaload, 1) := by decide +kernel
theorem dL_law_901 : decode cL_law 901 = .ok (.i2l, 1) := by decide +kernel
theorem dL_law_902 : decode cL_law 902 = .ok (.bipush 32, 2) := by decide +kernel
theorem dL_law_904 : decode cL_law 904 = .ok (.lshl, 1) := by decide +kernel
theorem dL_law_905 : decode cL_law 905 = .ok (.aload_n 0, 1) := by decide +kernel
theorem dL_law_906 : decode cL_law 906 = .ok (.iload 4, 2) := by decide +kernel
theorem dL_law_908 : decode cL_law 908 = .ok (.iconst 2, 1) := by decide +kernel
theorem dL_law_909 : decode cL_law 909 = .ok (.iadd, 1) := by decide +kernel
theorem dL_law_910 : decode cL_law 910 = .ok (.iaload, 1) := by decide +kernel
theorem dL_law_911 : decode cL_law 911 = .ok (.i2l, 1) := by decide +kernel
theorem dL_law_912 : decode cL_law 912 = .ok (.ldc2_w 104, 3) := by decide +kernel
theorem dL_law_915 : decode cL_law 915 = .ok (.land, 1) := by decide +kernel
theorem dL_law_916 : decode cL_law 916 = .ok (.lor, 1) := by decide +kernel
theorem dL_law_917 : decode cL_law 917 = .ok (.aload_n 0, 1) := by decide +kernel
theorem dL_law_918 : decode cL_law 918 = .ok (.iload 4, 2) := by decide +kernel
theorem dL_law_920 : decode cL_law 920 = .ok (.iconst 3, 1) := by decide +kernel
theorem dL_law_921 : decode cL_law 921 = .ok (.iadd, 1) := by decide +kernel
theorem dL_law_922 : decode cL_law 922 = .ok (.iaload, 1) := by decide +kernel
theorem dL_law_923 : decode cL_law 923 = .ok (.invokevirtual 123, 3) := by decide +kernel
theorem dL_law_926 : decode cL_law 926 = .ok (.aload_n 2, 1) := by decide +kernel
theorem dL_law_927 : decode cL_law 927 = .ok (.aload_n 0, 1) := by decide +kernel
theorem dL_law_928 : decode cL_law 928 = .ok (.iload 4, 2) := by decide +kernel
theorem dL_law_930 : decode cL_law 930 = .ok (.iconst 1, 1) := by decide +kernel
theorem dL_law_931 : decode cL_law 931 = .ok (.iadd, 1) := by decide +kernel
theorem dL_law_932 : decode cL_law 932 = .ok (.iaload, 1) := by decide +kernel
theorem dL_law_933 : decode cL_law 933 = .ok (.i2l, 1) := by decide +kernel
theorem dL_law_934 : decode cL_law 934 = .ok (.bipush 32, 2) := by decide +kernel
theorem dL_law_936 : decode cL_law 936 = .ok (.lshl, 1) := by decide +kernel
theorem dL_law_937 : decode cL_law 937 = .ok (.aload_n 0, 1) := by decide +kernel
theorem dL_law_938 : decode cL_law 938 = .ok (.iload 4, 2) := by decide +kernel
theorem dL_law_940 : decode cL_law 940 = .ok (.iconst 2, 1) := by decide +kernel
theorem dL_law_941 : decode cL_law 941 = .ok (.iadd, 1) := by decide +kernel
theorem dL_law_942 : decode cL_law 942 = .ok (.iaload, 1) := by decide +kernel
theorem dL_law_943 : decode cL_law 943 = .ok (.i2l, 1) := by decide +kernel
theorem dL_law_944 : decode cL_law 944 = .ok (.ldc2_w 104, 3) := by decide +kernel
theorem dL_law_947 : decode cL_law 947 = .ok (.land, 1) := by decide +kernel
theorem dL_law_948 : decode cL_law 948 = .ok (.lor, 1) := by decide +kernel
theorem dL_law_949 : decode cL_law 949 = .ok (.aload_n 0, 1) := by decide +kernel
theorem dL_law_950 : decode cL_law 950 = .ok (.iload 4, 2) := by decide +kernel
theorem dL_law_952 : decode cL_law 952 = .ok (.iconst 3, 1) := by decide +kernel
theorem dL_law_953 : decode cL_law 953 = .ok (.iadd, 1) := by decide +kernel
theorem dL_law_954 : decode cL_law 954 = .ok (.iaload, 1) := by decide +kernel
theorem dL_law_955 : decode cL_law 955 = .ok (.invokevirtual 127, 3) := by decide +kernel
theorem dL_law_958 : decode cL_law 958 = .ok (.lcmp, 1) := by decide +kernel
theorem dL_law_959 : decode cL_law 959 = .ok (.ifCond .eq 331, 3) := by decide +kernel
theorem dL_law_962 : decode cL_law 962 = .ok (.iconst 0, 1) := by decide +kernel
theorem dL_law_963 : decode cL_law 963 = .ok (.ireturn, 1) := by decide +kernel
theorem dL_law_964 : decode cL_law 964 = .ok (.aload_n 1, 1) := by decide +kernel
theorem dL_law_965 : decode cL_law 965 = .ok (.invokevirtual 128, 3) := by decide +kernel
theorem dL_law_968 : decode cL_law 968 = .ok (.aload_n 2, 1) := by decide +kernel
theorem dL_law_969 : decode cL_law 969 = .ok (.invokevirtual 131, 3) := by decide +kernel
theorem dL_law_972 : decode cL_law 972 = .ok (.if_icmp .eq 318, 3) := by decide +kernel
theorem dL_law_975 : decode cL_law 975 = .ok (.iconst 0, 1) := by decide +kernel
theorem dL_law_976 : decode cL_law 976 = .ok (.ireturn, 1) := by decide +kernel
theorem dL_law_977 : decode cL_law 977 = .ok (.aload_n 1, 1) := by decide +kernel
theorem dL_law_978 : decode cL_law 978 = .ok (.invokevirtual 132, 3) := by decide +kernel
theorem dL_law_981 : decode cL_law 981 = .ok (.aload_n 2, 1) := by decide +kernel
theorem dL_law_982 : decode cL_law 982 = .ok (.invokevirtual 135, 3) := by decide +kernel
theorem dL_law_985 : decode cL_law 985 = .ok (.if_icmp .eq 305, 3) := by decide +kernel
theorem dL_law_988 : decode cL_law 988 = .ok (.iconst 0, 1) := by decide +kernel
theorem dL_law_989 : decode cL_law 989 = .ok (.ireturn, 1) := by decide +kernel
theorem dL_law_990 : decode cL_law 990 = .ok (.aload_n 1, 1) := by decide +kernel
theorem dL_law_991 : decode cL_law 991 = .ok (.invokevirtual 136, 3) := by decide +kernel
theorem dL_law_994 : decode cL_law 994 = .ok (.aload_n 2, 1) := by decide +kernel
theorem dL_law_995 : decode cL_law 995 = .ok (.invokevirtual 139, 3) := by decide +kernel
theorem dL_law_998 : decode cL_law 998 = .ok (.if_icmp .eq 292, 3) := by decide +kernel
theorem dL_law_1001 : decode cL_law 1001 = .ok (.iconst 0, 1) := by decide +kernel
theorem dL_law_1002 : decode cL_law 1002 = .ok (.ireturn, 1) := by decide +kernel
theorem dL_law_1003 : decode cL_law 1003 = .ok (.aload_n 1, 1) := by decide +kernel
theorem dL_law_1004 : decode cL_law 1004 = .ok (.aload_n 0, 1) := by decide +kernel
theorem dL_law_1005 : decode cL_law 1005 = .ok (.iload 4, 2) := by decide +kernel
theorem dL_law_1007 : decode cL_law 1007 = .ok (.iconst 1, 1) := by decide +kernel
theorem dL_law_1008 : decode cL_law 1008 = .ok (.iadd, 1) := by decide +kernel
theorem dL_law_1009 : decode cL_law 1009 = .ok (.iaload, 1) := by decide +kernel
theorem dL_law_1010 : decode cL_law 1010 = .ok (.aload_n 0, 1) := by decide +kernel
theorem dL_law_1011 : decode cL_law 1011 = .ok (.iload 4, 2) := by decide +kernel
theorem dL_law_1013 : decode cL_law 1013 = .ok (.iconst 2, 1) := by decide +kernel
theorem dL_law_1014 : decode cL_law 1014 = .ok (.iadd, 1) := by decide +kernel
theorem dL_law_1015 : decode cL_law 1015 = .ok (.iaload, 1) := by decide +kernel
theorem dL_law_1016 : decode cL_law 1016 = .ok (.invokevirtual 140, 3) := by decide +kernel
theorem dL_law_1019 : decode cL_law 1019 = .ok (.aload_n 2, 1) := by decide +kernel
theorem dL_law_1020 : decode cL_law 1020 = .ok (.aload_n 0, 1) := by decide +kernel
theorem dL_law_1021 : decode cL_law 1021 = .ok (.iload 4, 2) := by decide +kernel
theorem dL_law_1023 : decode cL_law 1023 = .ok (.iconst 1, 1) := by decide +kernel
theorem dL_law_1024 : decode cL_law 1024 = .ok (.iadd, 1) := by decide +kernel
theorem dL_law_1025 : decode cL_law 1025 = .ok (.iaload, 1) := by decide +kernel
theorem dL_law_1026 : decode cL_law 1026 = .ok (.aload_n 0, 1) := by decide +kernel
theorem dL_law_1027 : decode cL_law 1027 = .ok (.iload 4, 2) := by decide +kernel
theorem dL_law_1029 : decode cL_law 1029 = .ok (.iconst 2, 1) := by decide +kernel
theorem dL_law_1030 : decode cL_law 1030 = .ok (.iadd, 1) := by decide +kernel
theorem dL_law_1031 : decode cL_law 1031 = .ok (.iaload, 1) := by decide +kernel
theorem dL_law_1032 : decode cL_law 1032 = .ok (.invokevirtual 143, 3) := by decide +kernel
theorem dL_law_1035 : decode cL_law 1035 = .ok (.lcmp, 1) := by decide +kernel
theorem dL_law_1036 : decode cL_law 1036 = .ok (.ifCond .eq 254, 3) := by decide +kernel
theorem dL_law_1039 : decode cL_law 1039 = .ok (.iconst 0, 1) := by decide +kernel
theorem dL_law_1040 : decode cL_law 1040 = .ok (.ireturn, 1) := by decide +kernel
theorem dL_law_1041 : decode cL_law 1041 = .ok (.aload_n 1, 1) := by decide +kernel
theorem dL_law_1042 : decode cL_law 1042 = .ok (.aload_n 0, 1) := by decide +kernel
theorem dL_law_1043 : decode cL_law 1043 = .ok (.iload 4, 2) := by decide +kernel
theorem dL_law_1045 : decode cL_law 1045 = .ok (.iconst 1, 1) := by decide +kernel
theorem dL_law_1046 : decode cL_law 1046 = .ok (.iadd, 1) := by decide +kernel
theorem dL_law_1047 : decode cL_law 1047 = .ok (.iaload, 1) := by decide +kernel
theorem dL_law_1048 : decode cL_law 1048 = .ok (.i2l, 1) := by decide +kernel
theorem dL_law_1049 : decode cL_law 1049 = .ok (.bipush 32, 2) := by decide +kernel
theorem dL_law_1051 : decode cL_law 1051 = .ok (.lshl, 1) := by decide +kernel
theorem dL_law_1052 : decode cL_law 1052 = .ok (.aload_n 0, 1) := by decide +kernel
theorem dL_law_1053 : decode cL_law 1053 = .ok (.iload 4, 2) := by decide +kernel
theorem dL_law_1055 : decode cL_law 1055 = .ok (.iconst 2, 1) := by decide +kernel
theorem dL_law_1056 : decode cL_law 1056 = .ok (.iadd, 1) := by decide +kernel
theorem dL_law_1057 : decode cL_law 1057 = .ok (.iaload, 1) := by decide +kernel
theorem dL_law_1058 : decode cL_law 1058 = .ok (.i2l, 1) := by decide +kernel
theorem dL_law_1059 : decode cL_law 1059 = .ok (.ldc2_w 104, 3) := by decide +kernel
theorem dL_law_1062 : decode cL_law 1062 = .ok (.land, 1) := by decide +kernel
theorem dL_law_1063 : decode cL_law 1063 = .ok (.lor, 1) := by decide +kernel
theorem dL_law_1064 : decode cL_law 1064 = .ok (.aload_n 0, 1) := by decide +kernel
theorem dL_law_1065 : decode cL_law 1065 = .ok (.iload 4, 2) := by decide +kernel
theorem dL_law_1067 : decode cL_law 1067 = .ok (.iconst 3, 1) := by decide +kernel
theorem dL_law_1068 : decode cL_law 1068 = .ok (.iadd, 1) := by decide +kernel
theorem dL_law_1069 : decode cL_law 1069 = .ok (.iaload, 1) := by decide +kernel
theorem dL_law_1070 : decode cL_law 1070 = .ok (.ifCond .eq 7, 3) := by decide +kernel
theorem dL_law_1073 : decode cL_law 1073 = .ok (.iconst 1, 1) := by decide +kernel
theorem dL_law_1074 : decode cL_law 1074 = .ok (.goto 4, 3) := by decide +kernel
theorem dL_law_1077 : decode cL_law 1077 = .ok (.iconst 0, 1) := by decide +kernel
theorem dL_law_1078 : decode cL_law 1078 = .ok (.invokevirtual 144, 3) := by decide +kernel
theorem dL_law_1081 : decode cL_law 1081 = .ok (.aload_n 2, 1) := by decide +kernel
theorem dL_law_1082 : decode cL_law 1082 = .ok (.aload_n 0, 1) := by decide +kernel
theorem dL_law_1083 : decode cL_law 1083 = .ok (.iload 4, 2) := by decide +kernel
theorem dL_law_1085 : decode cL_law 1085 = .ok (.iconst 1, 1) := by decide +kernel
theorem dL_law_1086 : decode cL_law 1086 = .ok (.iadd, 1) := by decide +kernel
theorem dL_law_1087 : decode cL_law 1087 = .ok (.iaload, 1) := by decide +kernel
theorem dL_law_1088 : decode cL_law 1088 = .ok (.i2l, 1) := by decide +kernel
theorem dL_law_1089 : decode cL_law 1089 = .ok (.bipush 32, 2) := by decide +kernel
theorem dL_law_1091 : decode cL_law 1091 = .ok (.lshl, 1) := by decide +kernel
theorem dL_law_1092 : decode cL_law 1092 = .ok (.aload_n 0, 1) := by decide +kernel
theorem dL_law_1093 : decode cL_law 1093 = .ok (.iload 4, 2) := by decide +kernel
theorem dL_law_1095 : decode cL_law 1095 = .ok (.iconst 2, 1) := by decide +kernel
theorem dL_law_1096 : decode cL_law 1096 = .ok (.iadd, 1) := by decide +kernel
theorem dL_law_1097 : decode cL_law 1097 = .ok (.iaload, 1) := by decide +kernel
theorem dL_law_1098 : decode cL_law 1098 = .ok (.i2l, 1) := by decide +kernel
theorem dL_law_1099 : decode cL_law 1099 = .ok (.ldc2_w 104, 3) := by decide +kernel
theorem dL_law_1102 : decode cL_law 1102 = .ok (.land, 1) := by decide +kernel
theorem dL_law_1103 : decode cL_law 1103 = .ok (.lor, 1) := by decide +kernel
theorem dL_law_1104 : decode cL_law 1104 = .ok (.aload_n 0, 1) := by decide +kernel
theorem dL_law_1105 : decode cL_law 1105 = .ok (.iload 4, 2) := by decide +kernel
theorem dL_law_1107 : decode cL_law 1107 = .ok (.iconst 3, 1) := by decide +kernel
theorem dL_law_1108 : decode cL_law 1108 = .ok (.iadd, 1) := by decide +kernel
theorem dL_law_1109 : decode cL_law 1109 = .ok (.iaload, 1) := by decide +kernel
theorem dL_law_1110 : decode cL_law 1110 = .ok (.ifCond .eq 7, 3) := by decide +kernel
theorem dL_law_1113 : decode cL_law 1113 = .ok (.iconst 1, 1) := by decide +kernel
theorem dL_law_1114 : decode cL_law 1114 = .ok (.goto 4, 3) := by decide +kernel
theorem dL_law_1117 : decode cL_law 1117 = .ok (.iconst 0, 1) := by decide +kernel
theorem dL_law_1118 : decode cL_law 1118 = .ok (.invokevirtual 148, 3) := by decide +kernel
theorem dL_law_1121 : decode cL_law 1121 = .ok (.lcmp, 1) := by decide +kernel
theorem dL_law_1122 : decode cL_law 1122 = .ok (.ifCond .eq 168, 3) := by decide +kernel
theorem dL_law_1125 : decode cL_law 1125 = .ok (.iconst 0, 1) := by decide +kernel
theorem dL_law_1126 : decode cL_law 1126 = .ok (.ireturn, 1) := by decide +kernel
theorem dL_law_1127 : decode cL_law 1127 = .ok (.aload_n 1, 1) := by decide +kernel
theorem dL_law_1128 : decode cL_law 1128 = .ok (.aload_n 0, 1) := by decide +kernel
theorem dL_law_1129 : decode cL_law 1129 = .ok (.iload 4, 2) := by decide +kernel
theorem dL_law_1131 : decode cL_law 1131 = .ok (.iconst 1, 1) := by decide +kernel
theorem dL_law_1132 : decode cL_law 1132 = .ok (.iadd, 1) := by decide +kernel
theorem dL_law_1133 : decode cL_law 1133 = .ok (.iaload, 1) := by decide +kernel
theorem dL_law_1134 : decode cL_law 1134 = .ok (.invokevirtual 149, 3) := by decide +kernel
theorem dL_law_1137 : decode cL_law 1137 = .ok (.aload_n 2, 1) := by decide +kernel
theorem dL_law_1138 : decode cL_law 1138 = .ok (.aload_n 0, 1) := by decide +kernel
theorem dL_law_1139 : decode cL_law 1139 = .ok (.iload 4, 2) := by decide +kernel
theorem dL_law_1141 : decode cL_law 1141 = .ok (.iconst 1, 1) := by decide +kernel
theorem dL_law_1142 : decode cL_law 1142 = .ok (.iadd, 1) := by decide +kernel
theorem dL_law_1143 : decode cL_law 1143 = .ok (.iaload, 1) := by decide +kernel
theorem dL_law_1144 : decode cL_law 1144 = .ok (.invokevirtual 152, 3) := by decide +kernel
theorem dL_law_1147 : decode cL_law 1147 = .ok (.if_icmp .eq 143, 3) := by decide +kernel
theorem dL_law_1150 : decode cL_law 1150 = .ok (.iconst 0, 1) := by decide +kernel
theorem dL_law_1151 : decode cL_law 1151 = .ok (.ireturn, 1) := by decide +kernel
theorem dL_law_1152 : decode cL_law 1152 = .ok (.aload_n 1, 1) := by decide +kernel
theorem dL_law_1153 : decode cL_law 1153 = .ok (.invokevirtual 153, 3) := by decide +kernel
theorem dL_law_1156 : decode cL_law 1156 = .ok (.aload_n 2, 1) := by decide +kernel
theorem dL_law_1157 : decode cL_law 1157 = .ok (.invokevirtual 156, 3) := by decide +kernel
theorem dL_law_1160 : decode cL_law 1160 = .ok (.if_icmp .eq 130, 3) := by decide +kernel
theorem dL_law_1163 : decode cL_law 1163 = .ok (.iconst 0, 1) := by decide +kernel
theorem dL_law_1164 : decode cL_law 1164 = .ok (.ireturn, 1) := by decide +kernel
theorem dL_law_1165 : decode cL_law 1165 = .ok (.aload_n 1, 1) := by decide +kernel
theorem dL_law_1166 : decode cL_law 1166 = .ok (.aload_n 0, 1) := by decide +kernel
theorem dL_law_1167 : decode cL_law 1167 = .ok (.iload 4, 2) := by decide +kernel
theorem dL_law_1169 : decode cL_law 1169 = .ok (.iconst 1, 1) := by decide +kernel
theorem dL_law_1170 : decode cL_law 1170 = .ok (.iadd, 1) := by decide +kernel
theorem dL_law_1171 : decode cL_law 1171 = .ok (.iaload, 1) := by decide +kernel
theorem dL_law_1172 : decode cL_law 1172 = .ok (.invokevirtual 157, 3) := by decide +kernel
theorem dL_law_1175 : decode cL_law 1175 = .ok (.aload_n 2, 1) := by decide +kernel
theorem dL_law_1176 : decode cL_law 1176 = .ok (.aload_n 0, 1) := by decide +kernel
theorem dL_law_1177 : decode cL_law 1177 = .ok (.iload 4, 2) := by decide +kernel
theorem dL_law_1179 : decode cL_law 1179 = .ok (.iconst 1, 1) := by decide +kernel
theorem dL_law_1180 : decode cL_law 1180 = .ok (.iadd, 1) := by decide +kernel
theorem dL_law_1181 : decode cL_law 1181 = .ok (.iaload, 1) := by decide +kernel
theorem dL_law_1182 : decode cL_law 1182 = .ok (.invokevirtual 160, 3) := by decide +kernel
theorem dL_law_1185 : decode cL_law 1185 = .ok (.if_icmp .eq 105, 3) := by decide +kernel
theorem dL_law_1188 : decode cL_law 1188 = .ok (.iconst 0, 1) := by decide +kernel
theorem dL_law_1189 : decode cL_law 1189 = .ok (.ireturn, 1) := by decide +kernel
theorem dL_law_1190 : decode cL_law 1190 = .ok (.aload_n 1, 1) := by decide +kernel
theorem dL_law_1191 : decode cL_law 1191 = .ok (.aload_n 0, 1) := by decide +kernel
theorem dL_law_1192 : decode cL_law 1192 = .ok (.iload 4, 2) := by decide +kernel
theorem dL_law_1194 : decode cL_law 1194 = .ok (.iconst 1, 1) := by decide +kernel
theorem dL_law_1195 : decode cL_law 1195 = .ok (.iadd, 1) := by decide +kernel
theorem dL_law_1196 : decode cL_law 1196 = .ok (.iaload, 1) := by decide +kernel
theorem dL_law_1197 : decode cL_law 1197 = .ok (.aload_n 0, 1) := by decide +kernel
theorem dL_law_1198 : decode cL_law 1198 = .ok (.iload 4, 2) := by decide +kernel
theorem dL_law_1200 : decode cL_law 1200 = .ok (.iconst 2, 1) := by decide +kernel
theorem dL_law_1201 : decode cL_law 1201 = .ok (.iadd, 1) := by decide +kernel
theorem dL_law_1202 : decode cL_law 1202 = .ok (.iaload, 1) := by decide +kernel
theorem dL_law_1203 : decode cL_law 1203 = .ok (.invokevirtual 161, 3) := by decide +kernel
theorem dL_law_1206 : decode cL_law 1206 = .ok (.aload_n 2, 1) := by decide +kernel
theorem dL_law_1207 : decode cL_law 1207 = .ok (.aload_n 0, 1) := by decide +kernel
theorem dL_law_1208 : decode cL_law 1208 = .ok (.iload 4, 2) := by decide +kernel
theorem dL_law_1210 : decode cL_law 1210 = .ok (.iconst 1, 1) := by decide +kernel
theorem dL_law_1211 : decode cL_law 1211 = .ok (.iadd, 1) := by decide +kernel
theorem dL_law_1212 : decode cL_law 1212 = .ok (.iaload, 1) := by decide +kernel
theorem dL_law_1213 : decode cL_law 1213 = .ok (.aload_n 0, 1) := by decide +kernel
theorem dL_law_1214 : decode cL_law 1214 = .ok (.iload 4, 2) := by decide +kernel
theorem dL_law_1216 : decode cL_law 1216 = .ok (.iconst 2, 1) := by decide +kernel
theorem dL_law_1217 : decode cL_law 1217 = .ok (.iadd, 1) := by decide +kernel
theorem dL_law_1218 : decode cL_law 1218 = .ok (.iaload, 1) := by decide +kernel
theorem dL_law_1219 : decode cL_law 1219 = .ok (.invokevirtual 164, 3) := by decide +kernel
theorem dL_law_1222 : decode cL_law 1222 = .ok (.if_icmp .eq 68, 3) := by decide +kernel
theorem dL_law_1225 : decode cL_law 1225 = .ok (.iconst 0, 1) := by decide +kernel
theorem dL_law_1226 : decode cL_law 1226 = .ok (.ireturn, 1) := by decide +kernel
theorem dL_law_1227 : decode cL_law 1227 = .ok (.aload_n 1, 1) := by decide +kernel
theorem dL_law_1228 : decode cL_law 1228 = .ok (.invokevirtual 165, 3) := by decide +kernel
theorem dL_law_1231 : decode cL_law 1231 = .ok (.aload_n 2, 1) := by decide +kernel
theorem dL_law_1232 : decode cL_law 1232 = .ok (.invokevirtual 168, 3) := by decide +kernel
theorem dL_law_1235 : decode cL_law 1235 = .ok (.if_icmp .eq 55, 3) := by decide +kernel
theorem dL_law_1238 : decode cL_law 1238 = .ok (.iconst 0, 1) := by decide +kernel
theorem dL_law_1239 : decode cL_law 1239 = .ok (.ireturn, 1) := by decide +kernel
theorem dL_law_1240 : decode cL_law 1240 = .ok (.aload_n 1, 1) := by decide +kernel
theorem dL_law_1241 : decode cL_law 1241 = .ok (.aload_n 0, 1) := by decide +kernel
theorem dL_law_1242 : decode cL_law 1242 = .ok (.iload 4, 2) := by decide +kernel
theorem dL_law_1244 : decode cL_law 1244 = .ok (.iconst 1, 1) := by decide +kernel
theorem dL_law_1245 : decode cL_law 1245 = .ok (.iadd, 1) := by decide +kernel
theorem dL_law_1246 : decode cL_law 1246 = .ok (.iaload, 1) := by decide +kernel
theorem dL_law_1247 : decode cL_law 1247 = .ok (.invokevirtual 169, 3) := by decide +kernel
theorem dL_law_1250 : decode cL_law 1250 = .ok (.aload_n 2, 1) := by decide +kernel
theorem dL_law_1251 : decode cL_law 1251 = .ok (.aload_n 0, 1) := by decide +kernel
theorem dL_law_1252 : decode cL_law 1252 = .ok (.iload 4, 2) := by decide +kernel
theorem dL_law_1254 : decode cL_law 1254 = .ok (.iconst 1, 1) := by decide +kernel
theorem dL_law_1255 : decode cL_law 1255 = .ok (.iadd, 1) := by decide +kernel
theorem dL_law_1256 : decode cL_law 1256 = .ok (.iaload, 1) := by decide +kernel
theorem dL_law_1257 : decode cL_law 1257 = .ok (.invokevirtual 172, 3) := by decide +kernel
theorem dL_law_1260 : decode cL_law 1260 = .ok (.if_icmp .eq 30, 3) := by decide +kernel
theorem dL_law_1263 : decode cL_law 1263 = .ok (.iconst 0, 1) := by decide +kernel
theorem dL_law_1264 : decode cL_law 1264 = .ok (.ireturn, 1) := by decide +kernel
theorem dL_law_1265 : decode cL_law 1265 = .ok (.aload_n 1, 1) := by decide +kernel
theorem dL_law_1266 : decode cL_law 1266 = .ok (.aload_n 0, 1) := by decide +kernel
theorem dL_law_1267 : decode cL_law 1267 = .ok (.iload 4, 2) := by decide +kernel
theorem dL_law_1269 : decode cL_law 1269 = .ok (.iconst 1, 1) := by decide +kernel
theorem dL_law_1270 : decode cL_law 1270 = .ok (.iadd, 1) := by decide +kernel
theorem dL_law_1271 : decode cL_law 1271 = .ok (.iaload, 1) := by decide +kernel
theorem dL_law_1272 : decode cL_law 1272 = .ok (.invokevirtual 173, 3) := by decide +kernel
theorem dL_law_1275 : decode cL_law 1275 = .ok (.aload_n 2, 1) := by decide +kernel
theorem dL_law_1276 : decode cL_law 1276 = .ok (.aload_n 0, 1) := by decide +kernel
theorem dL_law_1277 : decode cL_law 1277 = .ok (.iload 4, 2) := by decide +kernel
theorem dL_law_1279 : decode cL_law 1279 = .ok (.iconst 1, 1) := by decide +kernel
theorem dL_law_1280 : decode cL_law 1280 = .ok (.iadd, 1) := by decide +kernel
theorem dL_law_1281 : decode cL_law 1281 = .ok (.iaload, 1) := by decide +kernel
theorem dL_law_1282 : decode cL_law 1282 = .ok (.invokevirtual 176, 3) := by decide +kernel
theorem dL_law_1285 : decode cL_law 1285 = .ok (.if_icmp .eq 5, 3) := by decide +kernel
theorem dL_law_1288 : decode cL_law 1288 = .ok (.iconst 0, 1) := by decide +kernel
theorem dL_law_1289 : decode cL_law 1289 = .ok (.ireturn, 1) := by decide +kernel
theorem dL_law_1290 : decode cL_law 1290 = .ok (.iinc 4 6, 3) := by decide +kernel
theorem dL_law_1293 : decode cL_law 1293 = .ok (.goto (-1270), 3) := by decide +kernel
theorem dL_law_1296 : decode cL_law 1296 = .ok (.iconst 1, 1) := by decide +kernel
theorem dL_law_1297 : decode cL_law 1297 = .ok (.ireturn, 1) := by decide +kernel
end
section
/-! the uniform heap: cells by number (real address: the base and the number), their kinds and lengths, ints, longs, references by cell and slot -/
abbrev mt_S : Type := Nat × (Nat → Nat × Nat) × (Nat → Nat → Int32) × (Nat → Nat → Int64) × (Nat → Nat → Option Nat)
def mt_u2 {α : Type} (f : Nat → Nat → α) (k j : Nat) (v : α) : Nat → Nat → α := fun a b => if a = k then (if b = j then v else f a b) else f a b
def mt_kd (S : mt_S) (k : Nat) : Nat := (S.2.1 k).1
def mt_ln (S : mt_S) (k : Nat) : Nat := (S.2.1 k).2
def mt_gI (S : mt_S) (k j : Nat) : Int32 := S.2.2.1 k j
def mt_gL (S : mt_S) (k j : Nat) : Int64 := S.2.2.2.1 k j
def mt_gR (S : mt_S) (k j : Nat) : Option Nat := S.2.2.2.2 k j
def mt_pI (S : mt_S) (k j : Nat) (v : Int32) : mt_S := (S.1, S.2.1, mt_u2 S.2.2.1 k j v, S.2.2.2.1, S.2.2.2.2)
def mt_pL (S : mt_S) (k j : Nat) (v : Int64) : mt_S := (S.1, S.2.1, S.2.2.1, mt_u2 S.2.2.2.1 k j v, S.2.2.2.2)
def mt_pR (S : mt_S) (k j : Nat) (v : Option Nat) : mt_S := (S.1, S.2.1, S.2.2.1, S.2.2.2.1, mt_u2 S.2.2.2.2 k j v)
def mt_al (S : mt_S) (kd ln : Nat) : mt_S := (S.1 + 1, va_up S.2.1 S.1 (kd, ln), va_up S.2.2.1 S.1 (fun _ => 0), va_up S.2.2.2.1 S.1 (fun _ => 0), va_up S.2.2.2.2 S.1 (fun _ => none))
def mt_isK (S : mt_S) (k c : Nat) : Bool := decide (k < S.1) && decide (mt_kd S k = c)
/-- in a row of n: the index as a number is allowed -/
def mt_in (i : Int32) (n : Nat) : Bool := decide (¬ (i < 0 ∨ n ≤ i.toNatClampNeg))
/-- reads: a cell of kind c -/
def mt_rI (S : mt_S) (k c j : Nat) : Option Int32 := if mt_isK S k c = true then some (mt_gI S k j) else none
def mt_rL (S : mt_S) (k c j : Nat) : Option Int64 := if mt_isK S k c = true then some (mt_gL S k j) else none
def mt_rR (S : mt_S) (k c j : Nat) : Option Nat := if mt_isK S k c = true then mt_gR S k j else none
def mt_wI (S : mt_S) (k c j : Nat) (v : Int32) : Option mt_S := if mt_isK S k c = true then some (mt_pI S k j v) else none
def mt_wL (S : mt_S) (k c j : Nat) (v : Int64) : Option mt_S := if mt_isK S k c = true then some (mt_pL S k j v) else none
def mt_wR (S : mt_S) (k c j : Nat) (v : Option Nat) : Option mt_S := if mt_isK S k c = true then some (mt_pR S k j v) else none
/-- rows: of ints, bytes, booleans by their kind -/
def mt_aI (S : mt_S) (k c : Nat) (i : Int32) : Option Int32 := if mt_isK S k c = true then (if mt_in i (mt_ln S k) = true then some (mt_gI S k i.toNatClampNeg) else none) else none
def mt_aL (S : mt_S) (k : Nat) (i : Int32) : Option Int64 := if mt_isK S k 14 = true then (if mt_in i (mt_ln S k) = true then some (mt_gL S k i.toNatClampNeg) else none) else none
def mt_aR (S : mt_S) (k : Nat) (i : Int32) : Option Nat := if mt_isK S k 16 = true then (if mt_in i (mt_ln S k) = true then mt_gR S k i.toNatClampNeg else none) else none
def mt_sI (S : mt_S) (k c : Nat) (i : Int32) (v : Int32) : Option mt_S := if mt_isK S k c = true then (if mt_in i (mt_ln S k) = true then some (mt_pI S k i.toNatClampNeg v) else none) else none
def mt_sL (S : mt_S) (k : Nat) (i : Int32) (v : Int64) : Option mt_S := if mt_isK S k 14 = true then (if mt_in i (mt_ln S k) = true then some (mt_pL S k i.toNatClampNeg v) else none) else none
def mt_sR (S : mt_S) (k : Nat) (i : Int32) (v : Option Nat) : Option mt_S := if mt_isK S k 16 = true then (if mt_in i (mt_ln S k) = true then some (mt_pR S k i.toNatClampNeg v) else none) else none
/-- a call's answer and heap -/
def mt_b2 {α β : Type} (x : Option (α × mt_S)) (g : α → mt_S → Option β) : Option β := match x with
  | some (r, S) => g r S
  | none => none
theorem mt_ob {α β : Type} {x : Option α} {g : α → Option β} {y : β} (h : Option.bind x g = some y) : ∃ v, x = some v ∧ g v = some y := by
  cases x with
  | none => cases h
  | some v => exact ⟨v, rfl, h⟩
theorem mt_ob2 {α β : Type} {x : Option (α × mt_S)} {g : α → mt_S → Option β} {y : β} (h : mt_b2 x g = some y) : ∃ v S, x = some (v, S) ∧ g v S = some y := by
  cases x with
  | none => cases h
  | some v => exact ⟨v.1, v.2, rfl, h⟩
theorem mt_ip {c : Prop} [Decidable c] {α : Type} {a b : Option α} {y : α} (h : (if c then a else b) = some y) (hc : c) : a = some y := by rwa [if_pos hc] at h
theorem mt_in' {c : Prop} [Decidable c] {α : Type} {a b : Option α} {y : α} (h : (if c then a else b) = some y) (hc : ¬ c) : b = some y := by rwa [if_neg hc] at h
theorem mt_gd {c : Prop} [Decidable c] {α : Type} {a : Option α} {y : α} (h : (if c then a else none) = some y) : c ∧ a = some y := by
  by_cases hc : c
  · exact ⟨hc, by rwa [if_pos hc] at h⟩
  · rw [if_neg hc] at h; cases h
/-- which fields are ints (0), longs (1), references (2) -/
def mt_ft (c : Nat) : List Nat := match c with
  | 0 => [2, 2, 2, 2, 2, 0, 0, 0, 0, 0, 0]
  | 1 => [1, 1, 1, 1, 1, 0, 1]
  | 2 => [2, 0, 0]
  | 3 => [2, 2, 2, 0]
  | 4 => [0, 0, 0, 0, 0]
  | 5 => [2, 2]
  | 6 => [2, 2, 2, 2, 2, 0, 0]
  | 7 => [2, 0]
  | 8 => [2, 2, 0]
  | 9 => [1, 1, 1, 1]
  | 10 => [2, 2, 2, 2, 2, 2, 2, 2, 2, 2]
  | 11 => [0, 2, 0, 2, 2, 2, 2, 2, 2, 0, 0, 0, 0, 0, 0, 2, 2, 1, 1, 1, 1, 1, 1, 2, 0, 0, 1, 1, 1, 2, 0, 0, 0, 0, 0, 0, 0, 0, 0]
  | _ => []
def mt_fv (b : Nat) (S : mt_S) (k j t : Nat) : Value := if t = 0 then .int (mt_gI S k j) else if t = 1 then .long (mt_gL S k j) else va_rf ((mt_gR S k j).map (fun a => b + a))
def mt_oc (b : Nat) (S : mt_S) (k c : Nat) : List Value := (List.range (mt_ft c).length).map (fun j => mt_fv b S k j ((mt_ft c).getD j 0))
def mt_cell (cA : Nat → ClassId) (b : Nat) (S : mt_S) (k : Nat) : va_E :=
  if mt_kd S k < 12 then .inr (mt_kd S k, mt_oc b S k (mt_kd S k))
  else if mt_kd S k = 14 then .inl (cA 14, mt_ln S k, .inr (.inl (mt_gL S k)))
  else if mt_kd S k = 16 then .inl (cA 16, mt_ln S k, .inr (.inr (.inr (.inr (fun j => (mt_gR S k j).map (fun a => b + a))))))
  else .inl (cA (mt_kd S k), mt_ln S k, .inl (mt_gI S k))
def mt_W (cA : Nat → ClassId) (b : Nat) (S : mt_S) : va_W := (List.range S.1).map (fun k => (b + k, mt_cell cA b S k))
def mt_ty (cA : Nat → ClassId) : List (ClassId × FieldType) := [(cA 12, .byte), (cA 13, .int), (cA 14, .long), (cA 15, .boolean), (cA 16, .object "MarkovTree$State")]
theorem mt_isK_iff {S : mt_S} {k c : Nat} : mt_isK S k c = true ↔ k < S.1 ∧ mt_kd S k = c := by simp [mt_isK]
theorem mt_in_iff {i : Int32} {n : Nat} : mt_in i n = true ↔ vp_in i n := by simp [mt_in, vp_in]
theorem mt_W_get {cA : Nat → ClassId} {b : Nat} {S : mt_S} {k : Nat} (h : k < S.1) : (mt_W cA b S)[k]? = some (b + k, mt_cell cA b S k) := by
  simp [mt_W, h]
theorem mt_W_set {cA : Nat → ClassId} {b : Nat} {S S' : mt_S} {k : Nat} (hn : S'.1 = S.1) (hq : ∀ a, a ≠ k → mt_cell cA b S' a = mt_cell cA b S a) : (mt_W cA b S).set k (b + k, mt_cell cA b S' k) = mt_W cA b S' := by
  apply List.ext_getElem?
  intro i
  rw [List.getElem?_set]
  by_cases h : k = i
  · subst h
    by_cases hk : k < S.1
    · have : k < (mt_W cA b S).length := by simpa [mt_W] using hk
      rw [if_pos rfl, if_pos this, mt_W_get (by rw [hn]; exact hk)]
    · have h1 : ¬ k < (mt_W cA b S).length := by simpa [mt_W] using hk
      rw [if_pos rfl, if_neg h1]
      symm
      apply List.getElem?_eq_none
      simp only [mt_W, List.length_map, List.length_range, hn]
      omega
  · rw [if_neg h]
    by_cases hi : i < S.1
    · rw [mt_W_get hi, mt_W_get (by rw [hn]; exact hi), hq i (Ne.symm h)]
    · rw [List.getElem?_eq_none (by simp only [mt_W, List.length_map, List.length_range]; omega), List.getElem?_eq_none (by simp only [mt_W, List.length_map, List.length_range, hn]; omega)]
theorem mt_D (cA : Nat → ClassId) (b : Nat) (S : mt_S) : va_D (fun q => b ≤ q) (mt_W cA b S) := by
  refine ⟨fun i j p q hi hj hpq => ?_, fun k q hk => ?_⟩
  · by_cases h1 : i < S.1
    · by_cases h2 : j < S.1
      · rw [mt_W_get h1] at hi
        rw [mt_W_get h2] at hj
        cases hi; cases hj
        simp only at hpq
        omega
      · rw [List.getElem?_eq_none (by simp only [mt_W, List.length_map, List.length_range]; omega)] at hj
        cases hj
    · rw [List.getElem?_eq_none (by simp only [mt_W, List.length_map, List.length_range]; omega)] at hi
      cases hi
  · by_cases h1 : k < S.1
    · rw [mt_W_get h1] at hk
      cases hk
      show b ≤ b + k
      omega
    · rw [List.getElem?_eq_none (by simp only [mt_W, List.length_map, List.length_range]; omega)] at hk
      cases hk
theorem mt_oc_get {b : Nat} {S : mt_S} {k c j t : Nat} (h : (mt_ft c)[j]? = some t) : (mt_oc b S k c)[j]? = some (mt_fv b S k j t) := by
  have hl : j < (mt_ft c).length := (List.getElem?_eq_some_iff.mp h).1
  have e : (mt_ft c)[j] = t := (List.getElem?_eq_some_iff.mp h).2
  simp [mt_oc, hl, e]
theorem mt_oc_len {b : Nat} {S : mt_S} {k c : Nat} : (mt_oc b S k c).length = (mt_ft c).length := by simp [mt_oc]
theorem mt_oc_ext {b : Nat} {S S' : mt_S} {k c j t : Nat} (h : (mt_ft c)[j]? = some t) (hq : ∀ i, i ≠ j → ∀ t, mt_fv b S' k i t = mt_fv b S k i t) : (mt_oc b S k c).set j (mt_fv b S' k j t) = mt_oc b S' k c := by
  apply List.ext_getElem?
  intro i
  rw [List.getElem?_set]
  by_cases hij : j = i
  · subst hij
    have hl : j < (mt_ft c).length := (List.getElem?_eq_some_iff.mp h).1
    rw [if_pos rfl, if_pos (by rw [mt_oc_len]; exact hl), mt_oc_get h]
  · rw [if_neg hij]
    cases hi : (mt_ft c)[i]? with
    | none =>
      have hl : (mt_ft c).length ≤ i := List.getElem?_eq_none_iff.mp hi
      rw [List.getElem?_eq_none (by rw [mt_oc_len]; exact hl), List.getElem?_eq_none (by rw [mt_oc_len]; exact hl)]
    | some t' => rw [mt_oc_get hi, mt_oc_get hi, hq i (Ne.symm hij)]
theorem mt_pI_fv {b : Nat} {S : mt_S} {k j : Nat} {v : Int32} (a i t : Nat) (h : a ≠ k ∨ i ≠ j) : mt_fv b (mt_pI S k j v) a i t = mt_fv b S a i t := by
  simp only [mt_fv, mt_gI, mt_gL, mt_gR, mt_pI, mt_u2]
  rcases h with h | h <;> simp [h]
theorem mt_pL_fv {b : Nat} {S : mt_S} {k j : Nat} {v : Int64} (a i t : Nat) (h : a ≠ k ∨ i ≠ j) : mt_fv b (mt_pL S k j v) a i t = mt_fv b S a i t := by
  simp only [mt_fv, mt_gI, mt_gL, mt_gR, mt_pL, mt_u2]
  rcases h with h | h <;> simp [h]
theorem mt_pR_fv {b : Nat} {S : mt_S} {k j : Nat} {v : Option Nat} (a i t : Nat) (h : a ≠ k ∨ i ≠ j) : mt_fv b (mt_pR S k j v) a i t = mt_fv b S a i t := by
  simp only [mt_fv, mt_gI, mt_gL, mt_gR, mt_pR, mt_u2]
  rcases h with h | h <;> simp [h]
theorem mt_cell_ne {cA : Nat → ClassId} {b : Nat} {S S' : mt_S} {a : Nat} (h0 : S'.2.1 a = S.2.1 a) (h1 : S'.2.2.1 a = S.2.2.1 a) (h2 : S'.2.2.2.1 a = S.2.2.2.1 a) (h3 : S'.2.2.2.2 a = S.2.2.2.2 a) : mt_cell cA b S' a = mt_cell cA b S a := by
  have e : ∀ c, mt_oc b S' a c = mt_oc b S a c := fun c => by simp only [mt_oc, mt_fv, mt_gI, mt_gL, mt_gR, h1, h2, h3]
  have eI : mt_gI S' a = mt_gI S a := by funext j; simp only [mt_gI, h1]
  have eL : mt_gL S' a = mt_gL S a := by funext j; simp only [mt_gL, h2]
  have eR : ∀ j, mt_gR S' a j = mt_gR S a j := fun j => by simp only [mt_gR, h3]
  unfold mt_cell mt_kd mt_ln
  rw [h0, eI, eL]
  simp only [e, eR]
theorem mt_u2_ne {α : Type} {f : Nat → Nat → α} {k j a : Nat} {v : α} (h : a ≠ k) : mt_u2 f k j v a = f a := by funext i; simp [mt_u2, h]
theorem mt_cell_pI {cA : Nat → ClassId} {b : Nat} {S : mt_S} {k j a : Nat} {v : Int32} (h : a ≠ k) : mt_cell cA b (mt_pI S k j v) a = mt_cell cA b S a := mt_cell_ne rfl (mt_u2_ne h) rfl rfl
theorem mt_cell_pL {cA : Nat → ClassId} {b : Nat} {S : mt_S} {k j a : Nat} {v : Int64} (h : a ≠ k) : mt_cell cA b (mt_pL S k j v) a = mt_cell cA b S a := mt_cell_ne rfl rfl (mt_u2_ne h) rfl
theorem mt_cell_pR {cA : Nat → ClassId} {b : Nat} {S : mt_S} {k j a : Nat} {v : Option Nat} (h : a ≠ k) : mt_cell cA b (mt_pR S k j v) a = mt_cell cA b S a := mt_cell_ne rfl rfl rfl (mt_u2_ne h)
/-- an object's cell -/
theorem mt_cell_o {cA : Nat → ClassId} {b : Nat} {S : mt_S} {k c : Nat} (h : mt_isK S k c = true) (hc : c < 12) : mt_cell cA b S k = .inr (c, mt_oc b S k c) := by
  obtain ⟨-, h⟩ := mt_isK_iff.mp h
  rw [mt_cell, if_pos (by rw [h]; exact hc), h]
theorem mt_cell_i {cA : Nat → ClassId} {b : Nat} {S : mt_S} {k c : Nat} (h : mt_isK S k c = true) (hc : c = 12 ∨ c = 13 ∨ c = 15) : mt_cell cA b S k = .inl (cA c, mt_ln S k, .inl (mt_gI S k)) := by
  obtain ⟨-, h⟩ := mt_isK_iff.mp h
  rcases hc with rfl | rfl | rfl <;> simp [mt_cell, h]
theorem mt_cell_l {cA : Nat → ClassId} {b : Nat} {S : mt_S} {k : Nat} (h : mt_isK S k 14 = true) : mt_cell cA b S k = .inl (cA 14, mt_ln S k, .inr (.inl (mt_gL S k))) := by
  obtain ⟨-, h⟩ := mt_isK_iff.mp h
  simp [mt_cell, h]
theorem mt_cell_q {cA : Nat → ClassId} {b : Nat} {S : mt_S} {k : Nat} (h : mt_isK S k 16 = true) : mt_cell cA b S k = .inl (cA 16, mt_ln S k, .inr (.inr (.inr (.inr (fun j => (mt_gR S k j).map (fun a => b + a)))))) := by
  obtain ⟨-, h⟩ := mt_isK_iff.mp h
  simp [mt_cell, h]
theorem mt_at {cA : Nat → ClassId} {b : Nat} {S : mt_S} {k c : Nat} (h : mt_isK S k c = true) {e : va_E} (he : mt_cell cA b S k = e) : (mt_W cA b S)[k]? = some (b + k, e) := by
  rw [mt_W_get (mt_isK_iff.mp h).1, he]
/-- stores -/
theorem mt_set_I {cA : Nat → ClassId} {b : Nat} {S : mt_S} {k c j : Nat} {v : Int32} (h : mt_isK S k c = true) (hc : c < 12) (ht : (mt_ft c)[j]? = some 0) : (mt_W cA b S).set k (b + k, .inr (c, (mt_oc b S k c).set j (.int v))) = mt_W cA b (mt_pI S k j v) := by
  have h' : mt_isK (mt_pI S k j v) k c = true := h
  rw [← mt_W_set (S := S) (S' := mt_pI S k j v) (k := k) rfl (fun a ha => mt_cell_pI ha), mt_cell_o h' hc]
  have e : mt_fv b (mt_pI S k j v) k j 0 = .int v := by simp [mt_fv, mt_gI, mt_pI, mt_u2]
  rw [← mt_oc_ext (S := S) (S' := mt_pI S k j v) ht (fun i hi t => mt_pI_fv k i t (Or.inr hi)), e]
theorem mt_set_L {cA : Nat → ClassId} {b : Nat} {S : mt_S} {k c j : Nat} {v : Int64} (h : mt_isK S k c = true) (hc : c < 12) (ht : (mt_ft c)[j]? = some 1) : (mt_W cA b S).set k (b + k, .inr (c, (mt_oc b S k c).set j (.long v))) = mt_W cA b (mt_pL S k j v) := by
  have h' : mt_isK (mt_pL S k j v) k c = true := h
  rw [← mt_W_set (S := S) (S' := mt_pL S k j v) (k := k) rfl (fun a ha => mt_cell_pL ha), mt_cell_o h' hc]
  have e : mt_fv b (mt_pL S k j v) k j 1 = .long v := by simp [mt_fv, mt_gL, mt_pL, mt_u2]
  rw [← mt_oc_ext (S := S) (S' := mt_pL S k j v) ht (fun i hi t => mt_pL_fv k i t (Or.inr hi)), e]
theorem mt_set_R {cA : Nat → ClassId} {b : Nat} {S : mt_S} {k c j : Nat} {v : Option Nat} (h : mt_isK S k c = true) (hc : c < 12) (ht : (mt_ft c)[j]? = some 2) : (mt_W cA b S).set k (b + k, .inr (c, (mt_oc b S k c).set j (va_rf (v.map (fun a => b + a))))) = mt_W cA b (mt_pR S k j v) := by
  have h' : mt_isK (mt_pR S k j v) k c = true := h
  rw [← mt_W_set (S := S) (S' := mt_pR S k j v) (k := k) rfl (fun a ha => mt_cell_pR ha), mt_cell_o h' hc]
  have e : mt_fv b (mt_pR S k j v) k j 2 = va_rf (v.map (fun a => b + a)) := by simp [mt_fv, mt_gR, mt_pR, mt_u2]
  rw [← mt_oc_ext (S := S) (S' := mt_pR S k j v) ht (fun i hi t => mt_pR_fv k i t (Or.inr hi)), e]
theorem mt_set_aI {cA : Nat → ClassId} {b : Nat} {S : mt_S} {k c j : Nat} {v : Int32} (h : mt_isK S k c = true) (hc : c = 12 ∨ c = 13 ∨ c = 15) : (mt_W cA b S).set k (b + k, .inl (cA c, mt_ln S k, .inl (upd (mt_gI S k) j v))) = mt_W cA b (mt_pI S k j v) := by
  have h' : mt_isK (mt_pI S k j v) k c = true := h
  rw [← mt_W_set (S := S) (S' := mt_pI S k j v) (k := k) rfl (fun a ha => mt_cell_pI ha), mt_cell_i h' hc]
  have e : mt_gI (mt_pI S k j v) k = upd (mt_gI S k) j v := by funext i; simp [mt_gI, mt_pI, mt_u2, upd]
  rw [e]; rfl
theorem mt_set_aL {cA : Nat → ClassId} {b : Nat} {S : mt_S} {k j : Nat} {v : Int64} (h : mt_isK S k 14 = true) : (mt_W cA b S).set k (b + k, .inl (cA 14, mt_ln S k, .inr (.inl (vp_updL (mt_gL S k) j v)))) = mt_W cA b (mt_pL S k j v) := by
  have h' : mt_isK (mt_pL S k j v) k 14 = true := h
  rw [← mt_W_set (S := S) (S' := mt_pL S k j v) (k := k) rfl (fun a ha => mt_cell_pL ha), mt_cell_l h']
  have e : mt_gL (mt_pL S k j v) k = vp_updL (mt_gL S k) j v := by funext i; simp [mt_gL, mt_pL, mt_u2, vp_updL]
  rw [e]; rfl
theorem mt_in_clamp {i : Int32} {n : Nat} (h : mt_in i n = true) : i.toNatClampNeg < n := Nat.not_le.mp fun q => mt_in_iff.mp h (Or.inr q)
end
section
/-! the rows over the uniform heap -/
/-- the tables' words that stand when the tables warm -/
def mt_tb : List Cond := lw_tbl.filter goodWord
abbrev mt_B : Type := Launch × va_G × (Nat → ClassId) × Nat
abbrev mt_E : Type := Program × Env × Room × State × MethodId × Array Value × List Frame × Method × Code × (State → Prop) × Nat
def mt_R (d mc ms : Nat) : Room := { frames := d, cells := mc, slots := ms, locals := 64 * d }
abbrev mt_rf (B : mt_B) (k : Nat) : Value := .ref (B.2.2.2 + k)
def mt_Go (B : mt_B) (E : mt_E) (cs : Nat × Nat) (S : mt_S) (pc : Nat) (lv : List (Nat × Value)) (st : List Value) : Prop := match B, E with
  | (l, D, cA, b), (p, e, R, s, m, args, below, meth, c, Q, nL) => ∀ (H : Heap) (locs : List Loc) (ls : Array Slot), va_P D vwCl (mt_W cA b S) H → va_S (fun q => b ≤ q) s.heap H locs → lv_has ls nL lv → W p l e R s m args below meth c H locs cs.1 cs.2 Q (F0 m pc ls st)
/-- what holds throughout a method: the machine, its code, its class, the tables' words, the kinds, the base, its answer's type, its room -/
def mt_Cx (B : mt_B) (E : mt_E) (cc : ByteArray) (own : String) (ret : Option FieldType) (nL d mc ms : Nat) : Prop := match B, E with
  | (_, D, cA, b), (p, _, R, s, m, args, _, meth, c, _, nL') => p.tables.exec = Jvm.exec ∧ c.code = cc ∧ c.maxLocals = nL ∧ nL' = nL ∧ s.vm.findClass own = some m.cls ∧ (∀ w ∈ mt_tb, w.before args s = true) ∧ va_K D vwCl (mt_ty cA) s ∧ b ≤ s.heap.size ∧ meth.sig.returnType = ret ∧ meth.locks = false ∧ d ≤ R.frames ∧ 64 * d ≤ R.locals ∧ mc ≤ R.cells ∧ ms ≤ R.slots
def mt_nm (E : mt_E) (n : String) : Prop := match E with
  | (_, _, _, _, _, _, _, meth, _, _, _) => meth.name = n
/-- at the entry all cells behind the base are the world's -/
def mt_X (B : mt_B) (E : mt_E) (n0 : Nat) : Prop := match B, E with
  | (_, _, _, b), (_, _, _, s, _, _, _, _, _, _, _) => s.heap.size = b + n0
def mt_Bd (B : mt_B) (S : mt_S) (U : State) : Prop := match B with
  | (_, D, cA, b) => b ≤ U.heap.size ∧ va_P D vwCl (mt_W cA b S) U.heap ∧ va_K D vwCl (mt_ty cA) U
def mt_Q (B : mt_B) (rv : Option Value) (S : mt_S) : Array Value → State → Outcome → State → Prop := fun _ st o t => match B with
  | (_, D, cA, b) => o = .returned rv ∧ va_P D vwCl (mt_W cA b S) t.heap ∧ va_F (fun q => b ≤ q) st t
def mt_End (B : mt_B) (E : mt_E) (cs : Nat × Nat) (rv : Option Value) (S : mt_S) : Prop := match E with
  | (_, _, _, s, _, args, below, _, _, Q, _) => Q = MQ below (mt_Q B rv S) args s cs.1 cs.2 (fun q => B.2.2.2 ≤ q)
/-- a contract: from the heap S with arguments vs it answers rv and leaves S' -/
def mt_M (B : mt_B) (y : MethodName) (cc : ByteArray) (nL : Nat) (ret : Option FieldType) (d : Nat) (vs : List Value) (S : mt_S) (rv : Option Value) (S' : mt_S) : Prop :=
  Met B.1 y (.code y cc nL ret :: mt_tb) (mt_R d 0 0) (va_Pc vs (mt_Bd B S)) (mt_Q B rv S') 0 0 (fun q => B.2.2.2 ≤ q)
def mt_BdA (B : mt_B) (S : mt_S) (U : State) : Prop := mt_Bd B S U ∧ U.heap.size = B.2.2.2 + S.1
/-- a contract of one that makes cells -/
def mt_MA (B : mt_B) (y : MethodName) (cc : ByteArray) (nL : Nat) (ret : Option FieldType) (d mc ms : Nat) (vs : List Value) (S : mt_S) (rv : Option Value) (S' : mt_S) : Prop :=
  Met B.1 y (.code y cc nL ret :: mt_tb) (mt_R d mc ms) (va_Pc vs (mt_BdA B S)) (mt_Q B rv S') mc ms (fun q => B.2.2.2 ≤ q)
theorem mt_good : mt_tb.all goodWord = true := List.all_eq_true.mpr (fun w h => (List.mem_filter.mp h).2)
theorem mt_mem {w : Cond} {i : Nat} (h : lw_tbl[i]? = some w) (hg : goodWord w = true) : w ∈ mt_tb := List.mem_filter.mpr ⟨List.mem_of_getElem? h, hg⟩
theorem mt_mems {ws : List Cond} (h : ∀ w ∈ ws, w ∈ lw_tbl) (hg : ws.all goodWord = true) : ∀ w ∈ ws, w ∈ mt_tb := fun w hw => List.mem_filter.mpr ⟨h w hw, List.all_eq_true.mp hg w hw⟩
theorem mt_goodIn {c : Cond} (hc : c ∈ mt_tb) : GoodIn mt_tb (c :: mt_tb) := fun w hw => by
  have hm : w ∈ mt_tb := (List.mem_cons.mp hw).elim (fun e => e ▸ hc) id
  exact ⟨hm, good_of_word (List.all_eq_true.mp mt_good w hm)⟩
theorem mt_Bd_blind {B : mt_B} {vs : List Value} {S : mt_S} : FrameBlind (va_Pc vs (mt_Bd B S)) := by
  obtain ⟨l, D, cA, b⟩ := B
  intro a U g mk q
  obtain ⟨q0, q1, qP, qK⟩ := q
  exact ⟨q0, q1, qP, va_K.moved (u := U) (U := U.calling g mk a) (Vm.Alike.refl U.vm) qK⟩
theorem mt_BdA_blind {B : mt_B} {vs : List Value} {S : mt_S} : FrameBlind (va_Pc vs (mt_BdA B S)) := by
  obtain ⟨l, D, cA, b⟩ := B
  intro a U g mk q
  obtain ⟨q0, ⟨q1, qP, qK⟩, qz⟩ := q
  exact ⟨q0, ⟨q1, qP, va_K.moved (u := U) (U := U.calling g mk a) (Vm.Alike.refl U.vm) qK⟩, qz⟩
theorem mt_M.of {B : mt_B} {y : MethodName} {cc : ByteArray} {nL : Nat} {ret : Option FieldType} {d : Nat} {vs : List Value} {S : mt_S} {rv : Option Value} {S' : mt_S} (hy : plainName y.cls = true) (hlen : (lg_sl vs).length ≤ nL)
    (body : ∀ E : mt_E, mt_Cx B E cc y.cls ret nL d 0 0 → mt_End B E (0, 0) rv S' → mt_Go B E (0, 0) S 0 (lv_args 0 vs) []) : mt_M B y cc nL ret d vs S rv S' := by
  obtain ⟨l, D, cA, b⟩ := B
  refine Met.ofW (cc := cc) (maxL := nL) (ret := ret) hy rfl ?_
  intro p e s m args below meth c s₁ Bd hml hv
  obtain ⟨rfl, hb1, hP, hK⟩ := hv
  have hts := atoms_spec (ws := .code y cc nL ret :: mt_tb) Bd.pre
  have hown : s.vm.findClass y.cls = some m.cls := findClass_of_methodNamed Bd.named
  rw [lg_entry_eq]
  exact body (p, e, mt_R d 0 0, s, m, vs.toArray, below, meth, c, _, nL) ⟨Bd.exec, Bd.bytes, hml, rfl, hown, fun w hw => hts w (List.mem_cons_of_mem _ hw), hK, hb1, Bd.returns, Bd.notSynchronized, Nat.le_refl _, Nat.le_refl _, Nat.le_refl _, Nat.le_refl _⟩ rfl s.heap [] _ hP va_S.rf (lv_entry vs hlen)
theorem mt_MA.of {B : mt_B} {y : MethodName} {cc : ByteArray} {nL : Nat} {ret : Option FieldType} {d mc ms : Nat} {vs : List Value} {S : mt_S} {rv : Option Value} {S' : mt_S} (hy : plainName y.cls = true) (hlen : (lg_sl vs).length ≤ nL)
    (body : ∀ E : mt_E, mt_Cx B E cc y.cls ret nL d mc ms → mt_nm E y.name → mt_X B E S.1 → mt_End B E (mc, ms) rv S' → mt_Go B E (0, 0) S 0 (lv_args 0 vs) []) : mt_MA B y cc nL ret d mc ms vs S rv S' := by
  obtain ⟨l, D, cA, b⟩ := B
  refine Met.ofW (cc := cc) (maxL := nL) (ret := ret) hy rfl ?_
  intro p e s m args below meth c s₁ Bd hml hv
  obtain ⟨rfl, ⟨hb1, hP, hK⟩, hz⟩ := hv
  have hts := atoms_spec (ws := .code y cc nL ret :: mt_tb) Bd.pre
  have hown : s.vm.findClass y.cls = some m.cls := findClass_of_methodNamed Bd.named
  rw [lg_entry_eq]
  exact body (p, e, mt_R d mc ms, s, m, vs.toArray, below, meth, c, _, nL) ⟨Bd.exec, Bd.bytes, hml, rfl, hown, fun w hw => hts w (List.mem_cons_of_mem _ hw), hK, hb1, Bd.returns, Bd.notSynchronized, Nat.le_refl _, Nat.le_refl _, Nat.le_refl _, Nat.le_refl _⟩ (name_of_methodNamed Bd.named Bd.method).1 hz rfl s.heap [] _ hP va_S.rf (lv_entry vs hlen)
section mtGo
variable {B : mt_B} {E : mt_E} {cs : Nat × Nat} {S : mt_S} {pc : Nat} {lv : List (Nat × Value)} {st : List Value} {cc : ByteArray} {own : String} {ret : Option FieldType} {nL d mc ms : Nat}
theorem go_iconst (hC : mt_Cx B E cc own ret nL d mc ms) {n : Int} {v : Int32} (hd : decode cc pc = .ok (.iconst n, 1)) (hv : Int32.ofInt n = v) (k : mt_Go B E cs S (pc + 1) lv (.int v :: st)) : mt_Go B E cs S pc lv (st) := by
  obtain ⟨l, D, cA, b⟩ := B
  obtain ⟨p, e, R, s, m, args, below, meth, c0, Q, nL'⟩ := E
  obtain ⟨hx, hb, hml, rfl, hown, hts, hK, hbs, hr, hlk, hrf, hrl, hrc, hrs⟩ := hC
  intro H locs ls hP hS hl
  exact lv_iconst hx hb hd hv (k H locs ls hP hS hl)
theorem go_bipush (hC : mt_Cx B E cc own ret nL d mc ms) {n : Int} {v : Int32} (hd : decode cc pc = .ok (.bipush n, 2)) (hv : (Int8.ofInt n).toInt32 = v) (k : mt_Go B E cs S (pc + 2) lv (.int v :: st)) : mt_Go B E cs S pc lv (st) := by
  obtain ⟨l, D, cA, b⟩ := B
  obtain ⟨p, e, R, s, m, args, below, meth, c0, Q, nL'⟩ := E
  obtain ⟨hx, hb, hml, rfl, hown, hts, hK, hbs, hr, hlk, hrf, hrl, hrc, hrs⟩ := hC
  intro H locs ls hP hS hl
  exact lv_bipush hx hb hd hv (k H locs ls hP hS hl)
theorem go_sipush (hC : mt_Cx B E cc own ret nL d mc ms) {n : Int} {v : Int32} (hd : decode cc pc = .ok (.sipush n, 3)) (hv : (Int16.ofInt n).toInt32 = v) (k : mt_Go B E cs S (pc + 3) lv (.int v :: st)) : mt_Go B E cs S pc lv (st) := by
  obtain ⟨l, D, cA, b⟩ := B
  obtain ⟨p, e, R, s, m, args, below, meth, c0, Q, nL'⟩ := E
  obtain ⟨hx, hb, hml, rfl, hown, hts, hK, hbs, hr, hlk, hrf, hrl, hrc, hrs⟩ := hC
  intro H locs ls hP hS hl
  exact lv_sipush hx hb hd hv (k H locs ls hP hS hl)
theorem go_lconst (hC : mt_Cx B E cc own ret nL d mc ms) {n : Fin 2} {v : Int64} (hd : decode cc pc = .ok (.lconst n, 1)) (hv : Int64.ofNat (n : Nat) = v) (k : mt_Go B E cs S (pc + 1) lv (.long v :: st)) : mt_Go B E cs S pc lv (st) := by
  obtain ⟨l, D, cA, b⟩ := B
  obtain ⟨p, e, R, s, m, args, below, meth, c0, Q, nL'⟩ := E
  obtain ⟨hx, hb, hml, rfl, hown, hts, hK, hbs, hr, hlk, hrf, hrl, hrc, hrs⟩ := hC
  intro H locs ls hP hS hl
  exact lv_lconst hx hb hd hv (k H locs ls hP hS hl)
theorem go_null (hC : mt_Cx B E cc own ret nL d mc ms)  (hd : decode cc pc = .ok (.aconst_null, 1)) (k : mt_Go B E cs S (pc + 1) lv (.null :: st)) : mt_Go B E cs S pc lv (st) := by
  obtain ⟨l, D, cA, b⟩ := B
  obtain ⟨p, e, R, s, m, args, below, meth, c0, Q, nL'⟩ := E
  obtain ⟨hx, hb, hml, rfl, hown, hts, hK, hbs, hr, hlk, hrf, hrl, hrc, hrs⟩ := hC
  intro H locs ls hP hS hl
  exact lv_null hx hb hd (k H locs ls hP hS hl)
theorem go_ldc (hC : mt_Cx B E cc own ret nL d mc ms) {index : Nat} {v : Int32} (hd : decode cc pc = .ok (.ldc index, 2)) (hq : Cond.constant own index v ∈ mt_tb) (k : mt_Go B E cs S (pc + 2) lv (.int v :: st)) : mt_Go B E cs S pc lv (st) := by
  obtain ⟨l, D, cA, b⟩ := B
  obtain ⟨p, e, R, s, m, args, below, meth, c0, Q, nL'⟩ := E
  obtain ⟨hx, hb, hml, rfl, hown, hts, hK, hbs, hr, hlk, hrf, hrl, hrc, hrs⟩ := hC
  intro H locs ls hP hS hl
  exact lv_ldc hx hb hown (hts _ hq) hd (k H locs ls hP hS hl)
theorem go_ldcw (hC : mt_Cx B E cc own ret nL d mc ms) {index : Nat} {v : Int32} (hd : decode cc pc = .ok (.ldc_w index, 3)) (hq : Cond.constant own index v ∈ mt_tb) (k : mt_Go B E cs S (pc + 3) lv (.int v :: st)) : mt_Go B E cs S pc lv (st) := by
  obtain ⟨l, D, cA, b⟩ := B
  obtain ⟨p, e, R, s, m, args, below, meth, c0, Q, nL'⟩ := E
  obtain ⟨hx, hb, hml, rfl, hown, hts, hK, hbs, hr, hlk, hrf, hrl, hrc, hrs⟩ := hC
  intro H locs ls hP hS hl
  exact lv_ldcw hx hb hown (hts _ hq) hd (k H locs ls hP hS hl)
theorem go_ldcf (hC : mt_Cx B E cc own ret nL d mc ms) {index : Nat} {v : UInt32} (hd : decode cc pc = .ok (.ldc index, 2)) (hq : Cond.constantFloat own index v ∈ mt_tb) (k : mt_Go B E cs S (pc + 2) lv (.float v :: st)) : mt_Go B E cs S pc lv (st) := by
  obtain ⟨l, D, cA, b⟩ := B
  obtain ⟨p, e, R, s, m, args, below, meth, c0, Q, nL'⟩ := E
  obtain ⟨hx, hb, hml, rfl, hown, hts, hK, hbs, hr, hlk, hrf, hrl, hrc, hrs⟩ := hC
  intro H locs ls hP hS hl
  exact lv_ldcf hx hb hown (hts _ hq) hd (k H locs ls hP hS hl)
theorem go_ldc2 (hC : mt_Cx B E cc own ret nL d mc ms) {index : Nat} {v : Int64} (hd : decode cc pc = .ok (.ldc2_w index, 3)) (hq : Cond.constantLong own index v ∈ mt_tb) (k : mt_Go B E cs S (pc + 3) lv (.long v :: st)) : mt_Go B E cs S pc lv (st) := by
  obtain ⟨l, D, cA, b⟩ := B
  obtain ⟨p, e, R, s, m, args, below, meth, c0, Q, nL'⟩ := E
  obtain ⟨hx, hb, hml, rfl, hown, hts, hK, hbs, hr, hlk, hrf, hrl, hrc, hrs⟩ := hC
  intro H locs ls hP hS hl
  exact lv_ldc2 hx hb hown (hts _ hq) hd (k H locs ls hP hS hl)
theorem go_ldcwf (hC : mt_Cx B E cc own ret nL d mc ms) {index : Nat} {v : UInt32} (hd : decode cc pc = .ok (.ldc_w index, 3)) (hq : Cond.constantFloat own index v ∈ mt_tb) (k : mt_Go B E cs S (pc + 3) lv (.float v :: st)) : mt_Go B E cs S pc lv st := by
  obtain ⟨l, D, cA, b⟩ := B
  obtain ⟨p, e, R, s, m, args, below, meth, c0, Q, nL'⟩ := E
  obtain ⟨hx, hb, hml, rfl, hown, hts, hK, hbs, hr, hlk, hrf, hrl, hrc, hrs⟩ := hC
  intro H locs ls hP hS hl
  intro T hT X
  obtain ⟨t, a1, b1⟩ := k H locs ls hP hS hl T hT X
  refine ⟨t, ?_, b1⟩
  obtain ⟨kk, cf, hk, hcf, hcp⟩ := Cond.constantFloat_spec hown (hts _ hq)
  obtain ⟨k', hk', he⟩ := X.warmed.alike.2.2 _ _ hk
  jvm_step X.here [hx, hb, hd, Op.ldc_w.wp_float (s := T) (f := F0 m pc ls st) X.here.top hk' (by rw [he]; exact hcf) hcp]
  exact a1
theorem go_iload_n (hC : mt_Cx B E cc own ret nL d mc ms) (j : Nat) {i : Nat} {q : Fin 4} {x : Int32} (hd : decode cc pc = .ok (.iload_n q, 1)) (hi : (q : Nat) = i) (hj : lv[j]? = some (i, .int x)) (k : mt_Go B E cs S (pc + 1) lv (.int x :: st)) : mt_Go B E cs S pc lv (st) := by
  obtain ⟨l, D, cA, b⟩ := B
  obtain ⟨p, e, R, s, m, args, below, meth, c0, Q, nL'⟩ := E
  obtain ⟨hx, hb, hml, rfl, hown, hts, hK, hbs, hr, hlk, hrf, hrl, hrc, hrs⟩ := hC
  intro H locs ls hP hS hl
  exact lv_iload_n hx hb hd hi (lv_at hl j hj) (k H locs ls hP hS hl)
theorem go_iload (hC : mt_Cx B E cc own ret nL d mc ms) (j : Nat) {i : Nat} {x : Int32} (hd : decode cc pc = .ok (.iload i, 2)) (hj : lv[j]? = some (i, .int x)) (k : mt_Go B E cs S (pc + 2) lv (.int x :: st)) : mt_Go B E cs S pc lv (st) := by
  obtain ⟨l, D, cA, b⟩ := B
  obtain ⟨p, e, R, s, m, args, below, meth, c0, Q, nL'⟩ := E
  obtain ⟨hx, hb, hml, rfl, hown, hts, hK, hbs, hr, hlk, hrf, hrl, hrc, hrs⟩ := hC
  intro H locs ls hP hS hl
  exact lv_iload hx hb hd (lv_at hl j hj) (k H locs ls hP hS hl)
theorem go_lload_n (hC : mt_Cx B E cc own ret nL d mc ms) (j : Nat) {i : Nat} {q : Fin 4} {x : Int64} (hd : decode cc pc = .ok (.lload_n q, 1)) (hi : (q : Nat) = i) (hj : lv[j]? = some (i, .long x)) (k : mt_Go B E cs S (pc + 1) lv (.long x :: st)) : mt_Go B E cs S pc lv (st) := by
  obtain ⟨l, D, cA, b⟩ := B
  obtain ⟨p, e, R, s, m, args, below, meth, c0, Q, nL'⟩ := E
  obtain ⟨hx, hb, hml, rfl, hown, hts, hK, hbs, hr, hlk, hrf, hrl, hrc, hrs⟩ := hC
  intro H locs ls hP hS hl
  exact lv_lload_n hx hb hd hi (lv_at hl j hj) (k H locs ls hP hS hl)
theorem go_lload (hC : mt_Cx B E cc own ret nL d mc ms) (j : Nat) {i : Nat} {x : Int64} (hd : decode cc pc = .ok (.lload i, 2)) (hj : lv[j]? = some (i, .long x)) (k : mt_Go B E cs S (pc + 2) lv (.long x :: st)) : mt_Go B E cs S pc lv (st) := by
  obtain ⟨l, D, cA, b⟩ := B
  obtain ⟨p, e, R, s, m, args, below, meth, c0, Q, nL'⟩ := E
  obtain ⟨hx, hb, hml, rfl, hown, hts, hK, hbs, hr, hlk, hrf, hrl, hrc, hrs⟩ := hC
  intro H locs ls hP hS hl
  exact lv_lload hx hb hd (lv_at hl j hj) (k H locs ls hP hS hl)
theorem go_aload_n (hC : mt_Cx B E cc own ret nL d mc ms) (j : Nat) {i : Nat} {q : Fin 4} {x : Nat} (hd : decode cc pc = .ok (.aload_n q, 1)) (hi : (q : Nat) = i) (hj : lv[j]? = some (i, .ref x)) (k : mt_Go B E cs S (pc + 1) lv (.ref x :: st)) : mt_Go B E cs S pc lv (st) := by
  obtain ⟨l, D, cA, b⟩ := B
  obtain ⟨p, e, R, s, m, args, below, meth, c0, Q, nL'⟩ := E
  obtain ⟨hx, hb, hml, rfl, hown, hts, hK, hbs, hr, hlk, hrf, hrl, hrc, hrs⟩ := hC
  intro H locs ls hP hS hl
  exact lv_aload_n hx hb hd hi (lv_at hl j hj) (k H locs ls hP hS hl)
theorem go_aload (hC : mt_Cx B E cc own ret nL d mc ms) (j : Nat) {i : Nat} {x : Nat} (hd : decode cc pc = .ok (.aload i, 2)) (hj : lv[j]? = some (i, .ref x)) (k : mt_Go B E cs S (pc + 2) lv (.ref x :: st)) : mt_Go B E cs S pc lv (st) := by
  obtain ⟨l, D, cA, b⟩ := B
  obtain ⟨p, e, R, s, m, args, below, meth, c0, Q, nL'⟩ := E
  obtain ⟨hx, hb, hml, rfl, hown, hts, hK, hbs, hr, hlk, hrf, hrl, hrc, hrs⟩ := hC
  intro H locs ls hP hS hl
  exact lv_aload hx hb hd (lv_at hl j hj) (k H locs ls hP hS hl)
theorem go_fload_n (hC : mt_Cx B E cc own ret nL d mc ms) (j : Nat) {i : Nat} {q : Fin 4} {x : UInt32} (hd : decode cc pc = .ok (.fload_n q, 1)) (hi : (q : Nat) = i) (hj : lv[j]? = some (i, .float x)) (k : mt_Go B E cs S (pc + 1) lv (.float x :: st)) : mt_Go B E cs S pc lv (st) := by
  obtain ⟨l, D, cA, b⟩ := B
  obtain ⟨p, e, R, s, m, args, below, meth, c0, Q, nL'⟩ := E
  obtain ⟨hx, hb, hml, rfl, hown, hts, hK, hbs, hr, hlk, hrf, hrl, hrc, hrs⟩ := hC
  intro H locs ls hP hS hl
  exact lv_fload_n hx hb hd hi (lv_at hl j hj) (k H locs ls hP hS hl)
theorem go_istore_n (hC : mt_Cx B E cc own ret nL d mc ms) (ks : List Nat) {i : Nat} {q : Fin 4} {x : Int32} {lv1 : List (Nat × Value)} (hd : decode cc pc = .ok (.istore_n q, 1)) (hi : (q : Nat) = i) (hn : i < nL) (hk : lv_pick ((i, Value.int x) :: lv.filter (fun q => !(q.1 == i) && !(q.1 + 1 == i && q.2.category == 2))) ks = lv1) (k : mt_Go B E cs S (pc + 1) lv1 st) : mt_Go B E cs S pc lv (Value.int x :: st) := by
  obtain ⟨l, D, cA, b⟩ := B
  obtain ⟨p, e, R, s, m, args, below, meth, c0, Q, nL'⟩ := E
  obtain ⟨hx, hb, hml, rfl, hown, hts, hK, hbs, hr, hlk, hrf, hrl, hrc, hrs⟩ := hC
  intro H locs ls hP hS hl
  exact lv_istore_n hx hb hd hi hl hn rfl (fun ls1 hl1 => k H locs ls1 hP hS (lv_sub hl1 ks hk))
theorem go_istore (hC : mt_Cx B E cc own ret nL d mc ms) (ks : List Nat) {i : Nat} {x : Int32} {lv1 : List (Nat × Value)} (hd : decode cc pc = .ok (.istore i, 2)) (hn : i < nL) (hk : lv_pick ((i, Value.int x) :: lv.filter (fun q => !(q.1 == i) && !(q.1 + 1 == i && q.2.category == 2))) ks = lv1) (k : mt_Go B E cs S (pc + 2) lv1 st) : mt_Go B E cs S pc lv (Value.int x :: st) := by
  obtain ⟨l, D, cA, b⟩ := B
  obtain ⟨p, e, R, s, m, args, below, meth, c0, Q, nL'⟩ := E
  obtain ⟨hx, hb, hml, rfl, hown, hts, hK, hbs, hr, hlk, hrf, hrl, hrc, hrs⟩ := hC
  intro H locs ls hP hS hl
  exact lv_istore hx hb hd hl hn rfl (fun ls1 hl1 => k H locs ls1 hP hS (lv_sub hl1 ks hk))
theorem go_lstore_n (hC : mt_Cx B E cc own ret nL d mc ms) (ks : List Nat) {i : Nat} {q : Fin 4} {x : Int64} {lv1 : List (Nat × Value)} (hd : decode cc pc = .ok (.lstore_n q, 1)) (hi : (q : Nat) = i) (hn : i + 1 < nL) (hk : lv_pick ((i, Value.long x) :: lv.filter (fun q => !(q.1 == i) && (!(q.1 == i + 1) && !(q.1 + 1 == i && q.2.category == 2)))) ks = lv1) (k : mt_Go B E cs S (pc + 1) lv1 st) : mt_Go B E cs S pc lv (Value.long x :: st) := by
  obtain ⟨l, D, cA, b⟩ := B
  obtain ⟨p, e, R, s, m, args, below, meth, c0, Q, nL'⟩ := E
  obtain ⟨hx, hb, hml, rfl, hown, hts, hK, hbs, hr, hlk, hrf, hrl, hrc, hrs⟩ := hC
  intro H locs ls hP hS hl
  exact lv_lstore_n hx hb hd hi hl hn rfl (fun ls1 hl1 => k H locs ls1 hP hS (lv_sub hl1 ks hk))
theorem go_lstore (hC : mt_Cx B E cc own ret nL d mc ms) (ks : List Nat) {i : Nat} {x : Int64} {lv1 : List (Nat × Value)} (hd : decode cc pc = .ok (.lstore i, 2)) (hn : i + 1 < nL) (hk : lv_pick ((i, Value.long x) :: lv.filter (fun q => !(q.1 == i) && (!(q.1 == i + 1) && !(q.1 + 1 == i && q.2.category == 2)))) ks = lv1) (k : mt_Go B E cs S (pc + 2) lv1 st) : mt_Go B E cs S pc lv (Value.long x :: st) := by
  obtain ⟨l, D, cA, b⟩ := B
  obtain ⟨p, e, R, s, m, args, below, meth, c0, Q, nL'⟩ := E
  obtain ⟨hx, hb, hml, rfl, hown, hts, hK, hbs, hr, hlk, hrf, hrl, hrc, hrs⟩ := hC
  intro H locs ls hP hS hl
  exact lv_lstore hx hb hd hl hn rfl (fun ls1 hl1 => k H locs ls1 hP hS (lv_sub hl1 ks hk))
theorem go_astore_n (hC : mt_Cx B E cc own ret nL d mc ms) (ks : List Nat) {i : Nat} {q : Fin 4} {x : Nat} {lv1 : List (Nat × Value)} (hd : decode cc pc = .ok (.astore_n q, 1)) (hi : (q : Nat) = i) (hn : i < nL) (hk : lv_pick ((i, Value.ref x) :: lv.filter (fun q => !(q.1 == i) && !(q.1 + 1 == i && q.2.category == 2))) ks = lv1) (k : mt_Go B E cs S (pc + 1) lv1 st) : mt_Go B E cs S pc lv (Value.ref x :: st) := by
  obtain ⟨l, D, cA, b⟩ := B
  obtain ⟨p, e, R, s, m, args, below, meth, c0, Q, nL'⟩ := E
  obtain ⟨hx, hb, hml, rfl, hown, hts, hK, hbs, hr, hlk, hrf, hrl, hrc, hrs⟩ := hC
  intro H locs ls hP hS hl
  exact lv_astore_n hx hb hd hi hl hn rfl (fun ls1 hl1 => k H locs ls1 hP hS (lv_sub hl1 ks hk))
theorem go_astore (hC : mt_Cx B E cc own ret nL d mc ms) (ks : List Nat) {i : Nat} {x : Nat} {lv1 : List (Nat × Value)} (hd : decode cc pc = .ok (.astore i, 2)) (hn : i < nL) (hk : lv_pick ((i, Value.ref x) :: lv.filter (fun q => !(q.1 == i) && !(q.1 + 1 == i && q.2.category == 2))) ks = lv1) (k : mt_Go B E cs S (pc + 2) lv1 st) : mt_Go B E cs S pc lv (Value.ref x :: st) := by
  obtain ⟨l, D, cA, b⟩ := B
  obtain ⟨p, e, R, s, m, args, below, meth, c0, Q, nL'⟩ := E
  obtain ⟨hx, hb, hml, rfl, hown, hts, hK, hbs, hr, hlk, hrf, hrl, hrc, hrs⟩ := hC
  intro H locs ls hP hS hl
  exact lv_astore hx hb hd hl hn rfl (fun ls1 hl1 => k H locs ls1 hP hS (lv_sub hl1 ks hk))
theorem go_fstore_n (hC : mt_Cx B E cc own ret nL d mc ms) (ks : List Nat) {i : Nat} {q : Fin 4} {x : UInt32} {lv1 : List (Nat × Value)} (hd : decode cc pc = .ok (.fstore_n q, 1)) (hi : (q : Nat) = i) (hn : i < nL) (hk : lv_pick ((i, Value.float x) :: lv.filter (fun q => !(q.1 == i) && !(q.1 + 1 == i && q.2.category == 2))) ks = lv1) (k : mt_Go B E cs S (pc + 1) lv1 st) : mt_Go B E cs S pc lv (Value.float x :: st) := by
  obtain ⟨l, D, cA, b⟩ := B
  obtain ⟨p, e, R, s, m, args, below, meth, c0, Q, nL'⟩ := E
  obtain ⟨hx, hb, hml, rfl, hown, hts, hK, hbs, hr, hlk, hrf, hrl, hrc, hrs⟩ := hC
  intro H locs ls hP hS hl
  exact lv_fstore_n hx hb hd hi hl hn rfl (fun ls1 hl1 => k H locs ls1 hP hS (lv_sub hl1 ks hk))
theorem go_iinc (hC : mt_Cx B E cc own ret nL d mc ms) (j : Nat) (ks : List Nat) {i : Nat} {n : Int} {x v : Int32} {lv1 : List (Nat × Value)} (hd : decode cc pc = .ok (.iinc i n, 3)) (hj : lv[j]? = some (i, .int x)) (hv : x + Int32.ofInt n = v) (hn : i < nL) (hk : lv_pick ((i, Value.int v) :: lv.filter (fun q => !(q.1 == i) && !(q.1 + 1 == i && q.2.category == 2))) ks = lv1) (k : mt_Go B E cs S (pc + 3) lv1 st) : mt_Go B E cs S pc lv st := by
  obtain ⟨l, D, cA, b⟩ := B
  obtain ⟨p, e, R, s, m, args, below, meth, c0, Q, nL'⟩ := E
  obtain ⟨hx, hb, hml, rfl, hown, hts, hK, hbs, hr, hlk, hrf, hrl, hrc, hrs⟩ := hC
  intro H locs ls hP hS hl
  exact lv_iinc hx hb hd hl hj hv hn rfl (fun ls1 hl1 => k H locs ls1 hP hS (lv_sub hl1 ks hk))
theorem go_iadd (hC : mt_Cx B E cc own ret nL d mc ms) {x y : Int32} (hd : decode cc pc = .ok (.iadd, 1)) (k : mt_Go B E cs S (pc + 1) lv (.int (x + y) :: st)) : mt_Go B E cs S pc lv (.int y :: .int x :: st) := by
  obtain ⟨l, D, cA, b⟩ := B
  obtain ⟨p, e, R, s, m, args, below, meth, c0, Q, nL'⟩ := E
  obtain ⟨hx, hb, hml, rfl, hown, hts, hK, hbs, hr, hlk, hrf, hrl, hrc, hrs⟩ := hC
  intro H locs ls hP hS hl
  exact lv_iadd hx hb hd (k H locs ls hP hS hl)
theorem go_isub (hC : mt_Cx B E cc own ret nL d mc ms) {x y : Int32} (hd : decode cc pc = .ok (.isub, 1)) (k : mt_Go B E cs S (pc + 1) lv (.int (x - y) :: st)) : mt_Go B E cs S pc lv (.int y :: .int x :: st) := by
  obtain ⟨l, D, cA, b⟩ := B
  obtain ⟨p, e, R, s, m, args, below, meth, c0, Q, nL'⟩ := E
  obtain ⟨hx, hb, hml, rfl, hown, hts, hK, hbs, hr, hlk, hrf, hrl, hrc, hrs⟩ := hC
  intro H locs ls hP hS hl
  exact lv_isub hx hb hd (k H locs ls hP hS hl)
theorem go_imul (hC : mt_Cx B E cc own ret nL d mc ms) {x y : Int32} (hd : decode cc pc = .ok (.imul, 1)) (k : mt_Go B E cs S (pc + 1) lv (.int (x * y) :: st)) : mt_Go B E cs S pc lv (.int y :: .int x :: st) := by
  obtain ⟨l, D, cA, b⟩ := B
  obtain ⟨p, e, R, s, m, args, below, meth, c0, Q, nL'⟩ := E
  obtain ⟨hx, hb, hml, rfl, hown, hts, hK, hbs, hr, hlk, hrf, hrl, hrc, hrs⟩ := hC
  intro H locs ls hP hS hl
  exact lv_imul hx hb hd (k H locs ls hP hS hl)
theorem go_iand (hC : mt_Cx B E cc own ret nL d mc ms) {x y : Int32} (hd : decode cc pc = .ok (.iand, 1)) (k : mt_Go B E cs S (pc + 1) lv (.int (x &&& y) :: st)) : mt_Go B E cs S pc lv (.int y :: .int x :: st) := by
  obtain ⟨l, D, cA, b⟩ := B
  obtain ⟨p, e, R, s, m, args, below, meth, c0, Q, nL'⟩ := E
  obtain ⟨hx, hb, hml, rfl, hown, hts, hK, hbs, hr, hlk, hrf, hrl, hrc, hrs⟩ := hC
  intro H locs ls hP hS hl
  exact lv_iand hx hb hd (k H locs ls hP hS hl)
theorem go_idiv (hC : mt_Cx B E cc own ret nL d mc ms) {x y : Int32} (hd : decode cc pc = .ok (.idiv, 1)) (hne : ¬ y = 0) (k : mt_Go B E cs S (pc + 1) lv (.int (x / y) :: st)) : mt_Go B E cs S pc lv (.int y :: .int x :: st) := by
  obtain ⟨l, D, cA, b⟩ := B
  obtain ⟨p, e, R, s, m, args, below, meth, c0, Q, nL'⟩ := E
  obtain ⟨hx, hb, hml, rfl, hown, hts, hK, hbs, hr, hlk, hrf, hrl, hrc, hrs⟩ := hC
  intro H locs ls hP hS hl
  exact lv_idiv hx hb hd hne (k H locs ls hP hS hl)
theorem go_irem (hC : mt_Cx B E cc own ret nL d mc ms) {x y : Int32} (hd : decode cc pc = .ok (.irem, 1)) (hne : ¬ y = 0) (k : mt_Go B E cs S (pc + 1) lv (.int (x - x / y * y) :: st)) : mt_Go B E cs S pc lv (.int y :: .int x :: st) := by
  obtain ⟨l, D, cA, b⟩ := B
  obtain ⟨p, e, R, s, m, args, below, meth, c0, Q, nL'⟩ := E
  obtain ⟨hx, hb, hml, rfl, hown, hts, hK, hbs, hr, hlk, hrf, hrl, hrc, hrs⟩ := hC
  intro H locs ls hP hS hl
  exact lv_irem hx hb hd hne (k H locs ls hP hS hl)
theorem go_ladd (hC : mt_Cx B E cc own ret nL d mc ms) {x y : Int64} (hd : decode cc pc = .ok (.ladd, 1)) (k : mt_Go B E cs S (pc + 1) lv (.long (x + y) :: st)) : mt_Go B E cs S pc lv (.long y :: .long x :: st) := by
  obtain ⟨l, D, cA, b⟩ := B
  obtain ⟨p, e, R, s, m, args, below, meth, c0, Q, nL'⟩ := E
  obtain ⟨hx, hb, hml, rfl, hown, hts, hK, hbs, hr, hlk, hrf, hrl, hrc, hrs⟩ := hC
  intro H locs ls hP hS hl
  exact lv_ladd hx hb hd (k H locs ls hP hS hl)
theorem go_lsub (hC : mt_Cx B E cc own ret nL d mc ms) {x y : Int64} (hd : decode cc pc = .ok (.lsub, 1)) (k : mt_Go B E cs S (pc + 1) lv (.long (x - y) :: st)) : mt_Go B E cs S pc lv (.long y :: .long x :: st) := by
  obtain ⟨l, D, cA, b⟩ := B
  obtain ⟨p, e, R, s, m, args, below, meth, c0, Q, nL'⟩ := E
  obtain ⟨hx, hb, hml, rfl, hown, hts, hK, hbs, hr, hlk, hrf, hrl, hrc, hrs⟩ := hC
  intro H locs ls hP hS hl
  exact lv_lsub hx hb hd (k H locs ls hP hS hl)
theorem go_lmul (hC : mt_Cx B E cc own ret nL d mc ms) {x y : Int64} (hd : decode cc pc = .ok (.lmul, 1)) (k : mt_Go B E cs S (pc + 1) lv (.long (x * y) :: st)) : mt_Go B E cs S pc lv (.long y :: .long x :: st) := by
  obtain ⟨l, D, cA, b⟩ := B
  obtain ⟨p, e, R, s, m, args, below, meth, c0, Q, nL'⟩ := E
  obtain ⟨hx, hb, hml, rfl, hown, hts, hK, hbs, hr, hlk, hrf, hrl, hrc, hrs⟩ := hC
  intro H locs ls hP hS hl
  exact lv_lmul hx hb hd (k H locs ls hP hS hl)
theorem go_land (hC : mt_Cx B E cc own ret nL d mc ms) {x y : Int64} (hd : decode cc pc = .ok (.land, 1)) (k : mt_Go B E cs S (pc + 1) lv (.long (x &&& y) :: st)) : mt_Go B E cs S pc lv (.long y :: .long x :: st) := by
  obtain ⟨l, D, cA, b⟩ := B
  obtain ⟨p, e, R, s, m, args, below, meth, c0, Q, nL'⟩ := E
  obtain ⟨hx, hb, hml, rfl, hown, hts, hK, hbs, hr, hlk, hrf, hrl, hrc, hrs⟩ := hC
  intro H locs ls hP hS hl
  exact lv_land hx hb hd (k H locs ls hP hS hl)
theorem go_lor (hC : mt_Cx B E cc own ret nL d mc ms) {x y : Int64} (hd : decode cc pc = .ok (.lor, 1)) (k : mt_Go B E cs S (pc + 1) lv (.long (x ||| y) :: st)) : mt_Go B E cs S pc lv (.long y :: .long x :: st) := by
  obtain ⟨l, D, cA, b⟩ := B
  obtain ⟨p, e, R, s, m, args, below, meth, c0, Q, nL'⟩ := E
  obtain ⟨hx, hb, hml, rfl, hown, hts, hK, hbs, hr, hlk, hrf, hrl, hrc, hrs⟩ := hC
  intro H locs ls hP hS hl
  exact lv_lor hx hb hd (k H locs ls hP hS hl)
theorem go_lxor (hC : mt_Cx B E cc own ret nL d mc ms) {x y : Int64} (hd : decode cc pc = .ok (.lxor, 1)) (k : mt_Go B E cs S (pc + 1) lv (.long (x ^^^ y) :: st)) : mt_Go B E cs S pc lv (.long y :: .long x :: st) := by
  obtain ⟨l, D, cA, b⟩ := B
  obtain ⟨p, e, R, s, m, args, below, meth, c0, Q, nL'⟩ := E
  obtain ⟨hx, hb, hml, rfl, hown, hts, hK, hbs, hr, hlk, hrf, hrl, hrc, hrs⟩ := hC
  intro H locs ls hP hS hl
  exact lv_lxor hx hb hd (k H locs ls hP hS hl)
theorem go_ldiv (hC : mt_Cx B E cc own ret nL d mc ms) {x y : Int64} (hd : decode cc pc = .ok (.ldiv, 1)) (hne : ¬ y = 0) (k : mt_Go B E cs S (pc + 1) lv (.long (x / y) :: st)) : mt_Go B E cs S pc lv (.long y :: .long x :: st) := by
  obtain ⟨l, D, cA, b⟩ := B
  obtain ⟨p, e, R, s, m, args, below, meth, c0, Q, nL'⟩ := E
  obtain ⟨hx, hb, hml, rfl, hown, hts, hK, hbs, hr, hlk, hrf, hrl, hrc, hrs⟩ := hC
  intro H locs ls hP hS hl
  exact lv_ldiv hx hb hd hne (k H locs ls hP hS hl)
theorem go_lrem (hC : mt_Cx B E cc own ret nL d mc ms) {x y : Int64} (hd : decode cc pc = .ok (.lrem, 1)) (hne : ¬ y = 0) (k : mt_Go B E cs S (pc + 1) lv (.long (x - x / y * y) :: st)) : mt_Go B E cs S pc lv (.long y :: .long x :: st) := by
  obtain ⟨l, D, cA, b⟩ := B
  obtain ⟨p, e, R, s, m, args, below, meth, c0, Q, nL'⟩ := E
  obtain ⟨hx, hb, hml, rfl, hown, hts, hK, hbs, hr, hlk, hrf, hrl, hrc, hrs⟩ := hC
  intro H locs ls hP hS hl
  exact lv_lrem hx hb hd hne (k H locs ls hP hS hl)
theorem go_lneg (hC : mt_Cx B E cc own ret nL d mc ms) {x : Int64} (hd : decode cc pc = .ok (.lneg, 1)) (k : mt_Go B E cs S (pc + 1) lv (.long (-x) :: st)) : mt_Go B E cs S pc lv (.long x :: st) := by
  obtain ⟨l, D, cA, b⟩ := B
  obtain ⟨p, e, R, s, m, args, below, meth, c0, Q, nL'⟩ := E
  obtain ⟨hx, hb, hml, rfl, hown, hts, hK, hbs, hr, hlk, hrf, hrl, hrc, hrs⟩ := hC
  intro H locs ls hP hS hl
  exact lv_lneg hx hb hd (k H locs ls hP hS hl)
theorem go_iushr (hC : mt_Cx B E cc own ret nL d mc ms) {x y : Int32} (hd : decode cc pc = .ok (.iushr, 1)) (k : mt_Go B E cs S (pc + 1) lv (.int ((x.toUInt32 >>> (y.toUInt32 &&& Int32.toUInt32 31)).toInt32) :: st)) : mt_Go B E cs S pc lv (.int y :: .int x :: st) := by
  obtain ⟨l, D, cA, b⟩ := B
  obtain ⟨p, e, R, s, m, args, below, meth, c0, Q, nL'⟩ := E
  obtain ⟨hx, hb, hml, rfl, hown, hts, hK, hbs, hr, hlk, hrf, hrl, hrc, hrs⟩ := hC
  intro H locs ls hP hS hl
  exact lv_iushr hx hb hd rfl (k H locs ls hP hS hl)
theorem go_lshl (hC : mt_Cx B E cc own ret nL d mc ms) {x : Int64} {y : Int32} (hd : decode cc pc = .ok (.lshl, 1)) (k : mt_Go B E cs S (pc + 1) lv (.long (x <<< (y.toInt64 &&& 63)) :: st)) : mt_Go B E cs S pc lv (.int y :: .long x :: st) := by
  obtain ⟨l, D, cA, b⟩ := B
  obtain ⟨p, e, R, s, m, args, below, meth, c0, Q, nL'⟩ := E
  obtain ⟨hx, hb, hml, rfl, hown, hts, hK, hbs, hr, hlk, hrf, hrl, hrc, hrs⟩ := hC
  intro H locs ls hP hS hl
  exact lv_lshl hx hb hd rfl (k H locs ls hP hS hl)
theorem go_lshr (hC : mt_Cx B E cc own ret nL d mc ms) {x : Int64} {y : Int32} (hd : decode cc pc = .ok (.lshr, 1)) (k : mt_Go B E cs S (pc + 1) lv (.long (x >>> (y.toInt64 &&& 63)) :: st)) : mt_Go B E cs S pc lv (.int y :: .long x :: st) := by
  obtain ⟨l, D, cA, b⟩ := B
  obtain ⟨p, e, R, s, m, args, below, meth, c0, Q, nL'⟩ := E
  obtain ⟨hx, hb, hml, rfl, hown, hts, hK, hbs, hr, hlk, hrf, hrl, hrc, hrs⟩ := hC
  intro H locs ls hP hS hl
  exact lv_lshr hx hb hd rfl (k H locs ls hP hS hl)
theorem go_i2l (hC : mt_Cx B E cc own ret nL d mc ms) {x : Int32} (hd : decode cc pc = .ok (.i2l, 1)) (k : mt_Go B E cs S (pc + 1) lv (.long (x.toInt64) :: st)) : mt_Go B E cs S pc lv (.int x :: st) := by
  obtain ⟨l, D, cA, b⟩ := B
  obtain ⟨p, e, R, s, m, args, below, meth, c0, Q, nL'⟩ := E
  obtain ⟨hx, hb, hml, rfl, hown, hts, hK, hbs, hr, hlk, hrf, hrl, hrc, hrs⟩ := hC
  intro H locs ls hP hS hl
  exact lv_i2l hx hb hd rfl (k H locs ls hP hS hl)
theorem go_i2b (hC : mt_Cx B E cc own ret nL d mc ms) {x : Int32} (hd : decode cc pc = .ok (.i2b, 1)) (k : mt_Go B E cs S (pc + 1) lv (.int (x.toInt8.toInt32) :: st)) : mt_Go B E cs S pc lv (.int x :: st) := by
  obtain ⟨l, D, cA, b⟩ := B
  obtain ⟨p, e, R, s, m, args, below, meth, c0, Q, nL'⟩ := E
  obtain ⟨hx, hb, hml, rfl, hown, hts, hK, hbs, hr, hlk, hrf, hrl, hrc, hrs⟩ := hC
  intro H locs ls hP hS hl
  exact lv_i2b hx hb hd rfl (k H locs ls hP hS hl)
theorem go_l2f (hC : mt_Cx B E cc own ret nL d mc ms) {x : Int64} (hd : decode cc pc = .ok (.l2f, 1)) (k : mt_Go B E cs S (pc + 1) lv (.float (FP.l2f x) :: st)) : mt_Go B E cs S pc lv (.long x :: st) := by
  obtain ⟨l, D, cA, b⟩ := B
  obtain ⟨p, e, R, s, m, args, below, meth, c0, Q, nL'⟩ := E
  obtain ⟨hx, hb, hml, rfl, hown, hts, hK, hbs, hr, hlk, hrf, hrl, hrc, hrs⟩ := hC
  intro H locs ls hP hS hl
  exact lv_l2f hx hb hd (k H locs ls hP hS hl)
theorem go_f2i (hC : mt_Cx B E cc own ret nL d mc ms) {x : UInt32} (hd : decode cc pc = .ok (.f2i, 1)) (k : mt_Go B E cs S (pc + 1) lv (.int (FP.f2i x) :: st)) : mt_Go B E cs S pc lv (.float x :: st) := by
  obtain ⟨l, D, cA, b⟩ := B
  obtain ⟨p, e, R, s, m, args, below, meth, c0, Q, nL'⟩ := E
  obtain ⟨hx, hb, hml, rfl, hown, hts, hK, hbs, hr, hlk, hrf, hrl, hrc, hrs⟩ := hC
  intro H locs ls hP hS hl
  exact lv_f2i hx hb hd (k H locs ls hP hS hl)
theorem go_fmul (hC : mt_Cx B E cc own ret nL d mc ms) {x y : UInt32} (hd : decode cc pc = .ok (.fmul, 1)) (hne : vf_n32 (FP.fmul x y)) (k : mt_Go B E cs S (pc + 1) lv (.float (FP.fmul x y) :: st)) : mt_Go B E cs S pc lv (.float y :: .float x :: st) := by
  obtain ⟨l, D, cA, b⟩ := B
  obtain ⟨p, e, R, s, m, args, below, meth, c0, Q, nL'⟩ := E
  obtain ⟨hx, hb, hml, rfl, hown, hts, hK, hbs, hr, hlk, hrf, hrl, hrc, hrs⟩ := hC
  intro H locs ls hP hS hl
  exact lv_fmul hx hb hd hne (k H locs ls hP hS hl)
theorem go_fdiv (hC : mt_Cx B E cc own ret nL d mc ms) {x y : UInt32} (hd : decode cc pc = .ok (.fdiv, 1)) (hne : vf_n32 (FP.fdiv x y)) (k : mt_Go B E cs S (pc + 1) lv (.float (FP.fdiv x y) :: st)) : mt_Go B E cs S pc lv (.float y :: .float x :: st) := by
  obtain ⟨l, D, cA, b⟩ := B
  obtain ⟨p, e, R, s, m, args, below, meth, c0, Q, nL'⟩ := E
  obtain ⟨hx, hb, hml, rfl, hown, hts, hK, hbs, hr, hlk, hrf, hrl, hrc, hrs⟩ := hC
  intro H locs ls hP hS hl
  exact lv_fdiv hx hb hd hne (k H locs ls hP hS hl)
theorem go_fsub (hC : mt_Cx B E cc own ret nL d mc ms) {x y : UInt32} (hd : decode cc pc = .ok (.fsub, 1)) (hne : vf_n32 (FP.fsub x y)) (k : mt_Go B E cs S (pc + 1) lv (.float (FP.fsub x y) :: st)) : mt_Go B E cs S pc lv (.float y :: .float x :: st) := by
  obtain ⟨l, D, cA, b⟩ := B
  obtain ⟨p, e, R, s, m, args, below, meth, c0, Q, nL'⟩ := E
  obtain ⟨hx, hb, hml, rfl, hown, hts, hK, hbs, hr, hlk, hrf, hrl, hrc, hrs⟩ := hC
  intro H locs ls hP hS hl
  exact lv_fsub hx hb hd hne (k H locs ls hP hS hl)
theorem go_fcmp (hC : mt_Cx B E cc own ret nL d mc ms) {x y : UInt32} {op : CmpOp} (hd : decode cc pc = .ok (.fcmp op, 1)) (k : mt_Go B E cs S (pc + 1) lv (.int (Op.cmpValue (FP.fcmp x y) op) :: st)) : mt_Go B E cs S pc lv (.float y :: .float x :: st) := by
  obtain ⟨l, D, cA, b⟩ := B
  obtain ⟨p, e, R, s, m, args, below, meth, c0, Q, nL'⟩ := E
  obtain ⟨hx, hb, hml, rfl, hown, hts, hK, hbs, hr, hlk, hrf, hrl, hrc, hrs⟩ := hC
  intro H locs ls hP hS hl
  exact lv_fcmp hx hb hd (k H locs ls hP hS hl)
theorem go_dup (hC : mt_Cx B E cc own ret nL d mc ms) {x : Value} (hd : decode cc pc = .ok (.dup, 1)) (hc : x.category = 1) (k : mt_Go B E cs S (pc + 1) lv (x :: x :: st)) : mt_Go B E cs S pc lv (x :: st) := by
  obtain ⟨l, D, cA, b⟩ := B
  obtain ⟨p, e, R, s, m, args, below, meth, c0, Q, nL'⟩ := E
  obtain ⟨hx, hb, hml, rfl, hown, hts, hK, hbs, hr, hlk, hrf, hrl, hrc, hrs⟩ := hC
  intro H locs ls hP hS hl
  exact lv_dup hx hb hd hc (k H locs ls hP hS hl)
theorem go_pop (hC : mt_Cx B E cc own ret nL d mc ms) {x : Value} (hd : decode cc pc = .ok (.pop, 1)) (hc : x.category = 1) (k : mt_Go B E cs S (pc + 1) lv (st)) : mt_Go B E cs S pc lv (x :: st) := by
  obtain ⟨l, D, cA, b⟩ := B
  obtain ⟨p, e, R, s, m, args, below, meth, c0, Q, nL'⟩ := E
  obtain ⟨hx, hb, hml, rfl, hown, hts, hK, hbs, hr, hlk, hrf, hrl, hrc, hrs⟩ := hC
  intro H locs ls hP hS hl
  exact lv_pop hx hb hd hc (k H locs ls hP hS hl)
theorem go_dup2 (hC : mt_Cx B E cc own ret nL d mc ms) {x y : Value} (hd : decode cc pc = .ok (.dup2, 1)) (hc : x.category = 1) (hc2 : y.category = 1) (k : mt_Go B E cs S (pc + 1) lv (x :: y :: x :: y :: st)) : mt_Go B E cs S pc lv (x :: y :: st) := by
  obtain ⟨l, D, cA, b⟩ := B
  obtain ⟨p, e, R, s, m, args, below, meth, c0, Q, nL'⟩ := E
  obtain ⟨hx, hb, hml, rfl, hown, hts, hK, hbs, hr, hlk, hrf, hrl, hrc, hrs⟩ := hC
  intro H locs ls hP hS hl
  exact lv_dup2_11 hx hb hd hc hc2 (k H locs ls hP hS hl)
theorem go_if_eq (hC : mt_Cx B E cc own ret nL d mc ms) {x : Int32} {off : Int} {tgt : Nat} (hd : decode cc pc = .ok (.ifCond .eq off, 3)) (ht : (pc : Int) + off = (tgt : Int)) (kt : x = 0 → mt_Go B E cs S tgt lv st) (kf : ¬ x = 0 → mt_Go B E cs S (pc + 3) lv st) : mt_Go B E cs S pc lv (.int x :: st) := by
  obtain ⟨l, D, cA, b⟩ := B
  obtain ⟨p, e, R, s, m, args, below, meth, c0, Q, nL'⟩ := E
  obtain ⟨hx, hb, hml, rfl, hown, hts, hK, hbs, hr, hlk, hrf, hrl, hrc, hrs⟩ := hC
  intro H locs ls hP hS hl
  exact lv_if_eq hx hb hd ht (fun h => kt h H locs ls hP hS hl) (fun h => kf h H locs ls hP hS hl)
theorem go_icmp_eq (hC : mt_Cx B E cc own ret nL d mc ms) {x y : Int32} {off : Int} {tgt : Nat} (hd : decode cc pc = .ok (.if_icmp .eq off, 3)) (ht : (pc : Int) + off = (tgt : Int)) (kt : x = y → mt_Go B E cs S tgt lv st) (kf : ¬ x = y → mt_Go B E cs S (pc + 3) lv st) : mt_Go B E cs S pc lv (.int y :: .int x :: st) := by
  obtain ⟨l, D, cA, b⟩ := B
  obtain ⟨p, e, R, s, m, args, below, meth, c0, Q, nL'⟩ := E
  obtain ⟨hx, hb, hml, rfl, hown, hts, hK, hbs, hr, hlk, hrf, hrl, hrc, hrs⟩ := hC
  intro H locs ls hP hS hl
  exact lv_icmp_eq hx hb hd ht (fun h => kt h H locs ls hP hS hl) (fun h => kf h H locs ls hP hS hl)
theorem go_if_ne (hC : mt_Cx B E cc own ret nL d mc ms) {x : Int32} {off : Int} {tgt : Nat} (hd : decode cc pc = .ok (.ifCond .ne off, 3)) (ht : (pc : Int) + off = (tgt : Int)) (kt : ¬ x = 0 → mt_Go B E cs S tgt lv st) (kf : x = 0 → mt_Go B E cs S (pc + 3) lv st) : mt_Go B E cs S pc lv (.int x :: st) := by
  obtain ⟨l, D, cA, b⟩ := B
  obtain ⟨p, e, R, s, m, args, below, meth, c0, Q, nL'⟩ := E
  obtain ⟨hx, hb, hml, rfl, hown, hts, hK, hbs, hr, hlk, hrf, hrl, hrc, hrs⟩ := hC
  intro H locs ls hP hS hl
  exact lv_if_ne hx hb hd ht (fun h => kt h H locs ls hP hS hl) (fun h => kf h H locs ls hP hS hl)
theorem go_icmp_ne (hC : mt_Cx B E cc own ret nL d mc ms) {x y : Int32} {off : Int} {tgt : Nat} (hd : decode cc pc = .ok (.if_icmp .ne off, 3)) (ht : (pc : Int) + off = (tgt : Int)) (kt : ¬ x = y → mt_Go B E cs S tgt lv st) (kf : x = y → mt_Go B E cs S (pc + 3) lv st) : mt_Go B E cs S pc lv (.int y :: .int x :: st) := by
  obtain ⟨l, D, cA, b⟩ := B
  obtain ⟨p, e, R, s, m, args, below, meth, c0, Q, nL'⟩ := E
  obtain ⟨hx, hb, hml, rfl, hown, hts, hK, hbs, hr, hlk, hrf, hrl, hrc, hrs⟩ := hC
  intro H locs ls hP hS hl
  exact lv_icmp_ne hx hb hd ht (fun h => kt h H locs ls hP hS hl) (fun h => kf h H locs ls hP hS hl)
theorem go_if_lt (hC : mt_Cx B E cc own ret nL d mc ms) {x : Int32} {off : Int} {tgt : Nat} (hd : decode cc pc = .ok (.ifCond .lt off, 3)) (ht : (pc : Int) + off = (tgt : Int)) (kt : x < 0 → mt_Go B E cs S tgt lv st) (kf : ¬ x < 0 → mt_Go B E cs S (pc + 3) lv st) : mt_Go B E cs S pc lv (.int x :: st) := by
  obtain ⟨l, D, cA, b⟩ := B
  obtain ⟨p, e, R, s, m, args, below, meth, c0, Q, nL'⟩ := E
  obtain ⟨hx, hb, hml, rfl, hown, hts, hK, hbs, hr, hlk, hrf, hrl, hrc, hrs⟩ := hC
  intro H locs ls hP hS hl
  exact lv_if_lt hx hb hd ht (fun h => kt h H locs ls hP hS hl) (fun h => kf h H locs ls hP hS hl)
theorem go_icmp_lt (hC : mt_Cx B E cc own ret nL d mc ms) {x y : Int32} {off : Int} {tgt : Nat} (hd : decode cc pc = .ok (.if_icmp .lt off, 3)) (ht : (pc : Int) + off = (tgt : Int)) (kt : x < y → mt_Go B E cs S tgt lv st) (kf : ¬ x < y → mt_Go B E cs S (pc + 3) lv st) : mt_Go B E cs S pc lv (.int y :: .int x :: st) := by
  obtain ⟨l, D, cA, b⟩ := B
  obtain ⟨p, e, R, s, m, args, below, meth, c0, Q, nL'⟩ := E
  obtain ⟨hx, hb, hml, rfl, hown, hts, hK, hbs, hr, hlk, hrf, hrl, hrc, hrs⟩ := hC
  intro H locs ls hP hS hl
  exact lv_icmp_lt hx hb hd ht (fun h => kt h H locs ls hP hS hl) (fun h => kf h H locs ls hP hS hl)
theorem go_if_ge (hC : mt_Cx B E cc own ret nL d mc ms) {x : Int32} {off : Int} {tgt : Nat} (hd : decode cc pc = .ok (.ifCond .ge off, 3)) (ht : (pc : Int) + off = (tgt : Int)) (kt : 0 ≤ x → mt_Go B E cs S tgt lv st) (kf : ¬ 0 ≤ x → mt_Go B E cs S (pc + 3) lv st) : mt_Go B E cs S pc lv (.int x :: st) := by
  obtain ⟨l, D, cA, b⟩ := B
  obtain ⟨p, e, R, s, m, args, below, meth, c0, Q, nL'⟩ := E
  obtain ⟨hx, hb, hml, rfl, hown, hts, hK, hbs, hr, hlk, hrf, hrl, hrc, hrs⟩ := hC
  intro H locs ls hP hS hl
  exact lv_if_ge hx hb hd ht (fun h => kt h H locs ls hP hS hl) (fun h => kf h H locs ls hP hS hl)
theorem go_icmp_ge (hC : mt_Cx B E cc own ret nL d mc ms) {x y : Int32} {off : Int} {tgt : Nat} (hd : decode cc pc = .ok (.if_icmp .ge off, 3)) (ht : (pc : Int) + off = (tgt : Int)) (kt : y ≤ x → mt_Go B E cs S tgt lv st) (kf : ¬ y ≤ x → mt_Go B E cs S (pc + 3) lv st) : mt_Go B E cs S pc lv (.int y :: .int x :: st) := by
  obtain ⟨l, D, cA, b⟩ := B
  obtain ⟨p, e, R, s, m, args, below, meth, c0, Q, nL'⟩ := E
  obtain ⟨hx, hb, hml, rfl, hown, hts, hK, hbs, hr, hlk, hrf, hrl, hrc, hrs⟩ := hC
  intro H locs ls hP hS hl
  exact lv_icmp_ge hx hb hd ht (fun h => kt h H locs ls hP hS hl) (fun h => kf h H locs ls hP hS hl)
theorem go_if_gt (hC : mt_Cx B E cc own ret nL d mc ms) {x : Int32} {off : Int} {tgt : Nat} (hd : decode cc pc = .ok (.ifCond .gt off, 3)) (ht : (pc : Int) + off = (tgt : Int)) (kt : 0 < x → mt_Go B E cs S tgt lv st) (kf : ¬ 0 < x → mt_Go B E cs S (pc + 3) lv st) : mt_Go B E cs S pc lv (.int x :: st) := by
  obtain ⟨l, D, cA, b⟩ := B
  obtain ⟨p, e, R, s, m, args, below, meth, c0, Q, nL'⟩ := E
  obtain ⟨hx, hb, hml, rfl, hown, hts, hK, hbs, hr, hlk, hrf, hrl, hrc, hrs⟩ := hC
  intro H locs ls hP hS hl
  exact lv_if_gt hx hb hd ht (fun h => kt h H locs ls hP hS hl) (fun h => kf h H locs ls hP hS hl)
theorem go_icmp_gt (hC : mt_Cx B E cc own ret nL d mc ms) {x y : Int32} {off : Int} {tgt : Nat} (hd : decode cc pc = .ok (.if_icmp .gt off, 3)) (ht : (pc : Int) + off = (tgt : Int)) (kt : y < x → mt_Go B E cs S tgt lv st) (kf : ¬ y < x → mt_Go B E cs S (pc + 3) lv st) : mt_Go B E cs S pc lv (.int y :: .int x :: st) := by
  obtain ⟨l, D, cA, b⟩ := B
  obtain ⟨p, e, R, s, m, args, below, meth, c0, Q, nL'⟩ := E
  obtain ⟨hx, hb, hml, rfl, hown, hts, hK, hbs, hr, hlk, hrf, hrl, hrc, hrs⟩ := hC
  intro H locs ls hP hS hl
  exact lv_icmp_gt hx hb hd ht (fun h => kt h H locs ls hP hS hl) (fun h => kf h H locs ls hP hS hl)
theorem go_if_le (hC : mt_Cx B E cc own ret nL d mc ms) {x : Int32} {off : Int} {tgt : Nat} (hd : decode cc pc = .ok (.ifCond .le off, 3)) (ht : (pc : Int) + off = (tgt : Int)) (kt : x ≤ 0 → mt_Go B E cs S tgt lv st) (kf : ¬ x ≤ 0 → mt_Go B E cs S (pc + 3) lv st) : mt_Go B E cs S pc lv (.int x :: st) := by
  obtain ⟨l, D, cA, b⟩ := B
  obtain ⟨p, e, R, s, m, args, below, meth, c0, Q, nL'⟩ := E
  obtain ⟨hx, hb, hml, rfl, hown, hts, hK, hbs, hr, hlk, hrf, hrl, hrc, hrs⟩ := hC
  intro H locs ls hP hS hl
  exact lv_if_le hx hb hd ht (fun h => kt h H locs ls hP hS hl) (fun h => kf h H locs ls hP hS hl)
theorem go_icmp_le (hC : mt_Cx B E cc own ret nL d mc ms) {x y : Int32} {off : Int} {tgt : Nat} (hd : decode cc pc = .ok (.if_icmp .le off, 3)) (ht : (pc : Int) + off = (tgt : Int)) (kt : x ≤ y → mt_Go B E cs S tgt lv st) (kf : ¬ x ≤ y → mt_Go B E cs S (pc + 3) lv st) : mt_Go B E cs S pc lv (.int y :: .int x :: st) := by
  obtain ⟨l, D, cA, b⟩ := B
  obtain ⟨p, e, R, s, m, args, below, meth, c0, Q, nL'⟩ := E
  obtain ⟨hx, hb, hml, rfl, hown, hts, hK, hbs, hr, hlk, hrf, hrl, hrc, hrs⟩ := hC
  intro H locs ls hP hS hl
  exact lv_icmp_le hx hb hd ht (fun h => kt h H locs ls hP hS hl) (fun h => kf h H locs ls hP hS hl)
theorem mt_lg (x y : Int64) : (lg_cmp x y = 0 ↔ x = y) ∧ (lg_cmp x y < 0 ↔ x < y) ∧ (0 ≤ lg_cmp x y ↔ y ≤ x) ∧ (0 < lg_cmp x y ↔ y < x) ∧ (lg_cmp x y ≤ 0 ↔ x ≤ y) := by
  have hi : ∀ a b : Int64, (a < b ↔ a.toInt < b.toInt) := fun a b => Int64.lt_iff_toInt_lt
  have hl : ∀ a b : Int64, (a ≤ b ↔ a.toInt ≤ b.toInt) := fun a b => Int64.le_iff_toInt_le
  have he : x = y ↔ x.toInt = y.toInt := Int64.toInt_inj.symm
  by_cases h1 : y < x
  · have e1 : lg_cmp x y = 1 := by simp [lg_cmp, h1]
    rw [e1, he, hi x y, hi y x, hl x y, hl y x]
    have h2 := (hi y x).mp h1
    refine ⟨⟨fun h => absurd h (by decide), fun h => by omega⟩, ⟨fun h => absurd h (by decide), fun h => by omega⟩, ⟨fun _ => by omega, fun _ => by decide⟩, ⟨fun _ => h2, fun _ => by decide⟩, ⟨fun h => absurd h (by decide), fun h => by omega⟩⟩
  · by_cases h2 : x = y
    · subst h2
      have e1 : lg_cmp x x = 0 := by simp [lg_cmp]
      rw [e1, hi x x, hl x x]
      refine ⟨⟨fun _ => rfl, fun _ => rfl⟩, ⟨fun h => absurd h (by decide), fun h => by omega⟩, ⟨fun _ => by omega, fun _ => by decide⟩, ⟨fun h => absurd h (by decide), fun h => by omega⟩, ⟨fun _ => by omega, fun _ => by decide⟩⟩
    · have e1 : lg_cmp x y = -1 := by simp [lg_cmp, h1, h2]
      rw [e1, he, hi x y, hi y x, hl x y, hl y x]
      have h3 : ¬ y.toInt < x.toInt := fun h => h1 ((hi y x).mpr h)
      have h4 : ¬ x.toInt = y.toInt := fun h => h2 (he.mpr h)
      refine ⟨⟨fun h => absurd h (by decide), fun h => absurd h h4⟩, ⟨fun _ => by omega, fun _ => by decide⟩, ⟨fun h => absurd h (by decide), fun h => by omega⟩, ⟨fun h => absurd h (by decide), fun h => by omega⟩, ⟨fun _ => by omega, fun _ => by decide⟩⟩
theorem go_lcmp_eq (hC : mt_Cx B E cc own ret nL d mc ms) {x y : Int64} {off : Int} {tgt : Nat} (hd0 : decode cc pc = .ok (.lcmp, 1)) (hd : decode cc (pc + 1) = .ok (.ifCond .eq off, 3)) (ht : ((pc + 1 : Nat) : Int) + off = (tgt : Int)) (kt : x = y → mt_Go B E cs S tgt lv st) (kf : ¬ x = y → mt_Go B E cs S (pc + 4) lv st) : mt_Go B E cs S pc lv (.long y :: .long x :: st) := by
  obtain ⟨l, D, cA, b⟩ := B
  obtain ⟨p, e, R, s, m, args, below, meth, c0, Q, nL'⟩ := E
  obtain ⟨hx, hb, hml, rfl, hown, hts, hK, hbs, hr, hlk, hrf, hrl, hrc, hrs⟩ := hC
  intro H locs ls hP hS hl
  refine W.lcmp hx hb hd0 ?_
  exact lv_if_eq hx hb hd ht (fun h => kt ((mt_lg x y).1.mp h) H locs ls hP hS hl) (fun h => kf (fun q => h ((mt_lg x y).1.mpr q)) H locs ls hP hS hl)
theorem go_lcmp_ne (hC : mt_Cx B E cc own ret nL d mc ms) {x y : Int64} {off : Int} {tgt : Nat} (hd0 : decode cc pc = .ok (.lcmp, 1)) (hd : decode cc (pc + 1) = .ok (.ifCond .ne off, 3)) (ht : ((pc + 1 : Nat) : Int) + off = (tgt : Int)) (kt : ¬ x = y → mt_Go B E cs S tgt lv st) (kf : x = y → mt_Go B E cs S (pc + 4) lv st) : mt_Go B E cs S pc lv (.long y :: .long x :: st) := by
  obtain ⟨l, D, cA, b⟩ := B
  obtain ⟨p, e, R, s, m, args, below, meth, c0, Q, nL'⟩ := E
  obtain ⟨hx, hb, hml, rfl, hown, hts, hK, hbs, hr, hlk, hrf, hrl, hrc, hrs⟩ := hC
  intro H locs ls hP hS hl
  refine W.lcmp hx hb hd0 ?_
  exact lv_if_ne hx hb hd ht (fun h => kt (fun q => h ((mt_lg x y).1.mpr q)) H locs ls hP hS hl) (fun h => kf ((mt_lg x y).1.mp h) H locs ls hP hS hl)
theorem go_lcmp_lt (hC : mt_Cx B E cc own ret nL d mc ms) {x y : Int64} {off : Int} {tgt : Nat} (hd0 : decode cc pc = .ok (.lcmp, 1)) (hd : decode cc (pc + 1) = .ok (.ifCond .lt off, 3)) (ht : ((pc + 1 : Nat) : Int) + off = (tgt : Int)) (kt : x < y → mt_Go B E cs S tgt lv st) (kf : ¬ x < y → mt_Go B E cs S (pc + 4) lv st) : mt_Go B E cs S pc lv (.long y :: .long x :: st) := by
  obtain ⟨l, D, cA, b⟩ := B
  obtain ⟨p, e, R, s, m, args, below, meth, c0, Q, nL'⟩ := E
  obtain ⟨hx, hb, hml, rfl, hown, hts, hK, hbs, hr, hlk, hrf, hrl, hrc, hrs⟩ := hC
  intro H locs ls hP hS hl
  refine W.lcmp hx hb hd0 ?_
  exact lv_if_lt hx hb hd ht (fun h => kt ((mt_lg x y).2.1.mp h) H locs ls hP hS hl) (fun h => kf (fun q => h ((mt_lg x y).2.1.mpr q)) H locs ls hP hS hl)
theorem go_lcmp_ge (hC : mt_Cx B E cc own ret nL d mc ms) {x y : Int64} {off : Int} {tgt : Nat} (hd0 : decode cc pc = .ok (.lcmp, 1)) (hd : decode cc (pc + 1) = .ok (.ifCond .ge off, 3)) (ht : ((pc + 1 : Nat) : Int) + off = (tgt : Int)) (kt : y ≤ x → mt_Go B E cs S tgt lv st) (kf : ¬ y ≤ x → mt_Go B E cs S (pc + 4) lv st) : mt_Go B E cs S pc lv (.long y :: .long x :: st) := by
  obtain ⟨l, D, cA, b⟩ := B
  obtain ⟨p, e, R, s, m, args, below, meth, c0, Q, nL'⟩ := E
  obtain ⟨hx, hb, hml, rfl, hown, hts, hK, hbs, hr, hlk, hrf, hrl, hrc, hrs⟩ := hC
  intro H locs ls hP hS hl
  refine W.lcmp hx hb hd0 ?_
  exact lv_if_ge hx hb hd ht (fun h => kt ((mt_lg x y).2.2.1.mp h) H locs ls hP hS hl) (fun h => kf (fun q => h ((mt_lg x y).2.2.1.mpr q)) H locs ls hP hS hl)
theorem go_lcmp_gt (hC : mt_Cx B E cc own ret nL d mc ms) {x y : Int64} {off : Int} {tgt : Nat} (hd0 : decode cc pc = .ok (.lcmp, 1)) (hd : decode cc (pc + 1) = .ok (.ifCond .gt off, 3)) (ht : ((pc + 1 : Nat) : Int) + off = (tgt : Int)) (kt : y < x → mt_Go B E cs S tgt lv st) (kf : ¬ y < x → mt_Go B E cs S (pc + 4) lv st) : mt_Go B E cs S pc lv (.long y :: .long x :: st) := by
  obtain ⟨l, D, cA, b⟩ := B
  obtain ⟨p, e, R, s, m, args, below, meth, c0, Q, nL'⟩ := E
  obtain ⟨hx, hb, hml, rfl, hown, hts, hK, hbs, hr, hlk, hrf, hrl, hrc, hrs⟩ := hC
  intro H locs ls hP hS hl
  refine W.lcmp hx hb hd0 ?_
  exact lv_if_gt hx hb hd ht (fun h => kt ((mt_lg x y).2.2.2.1.mp h) H locs ls hP hS hl) (fun h => kf (fun q => h ((mt_lg x y).2.2.2.1.mpr q)) H locs ls hP hS hl)
theorem go_lcmp_le (hC : mt_Cx B E cc own ret nL d mc ms) {x y : Int64} {off : Int} {tgt : Nat} (hd0 : decode cc pc = .ok (.lcmp, 1)) (hd : decode cc (pc + 1) = .ok (.ifCond .le off, 3)) (ht : ((pc + 1 : Nat) : Int) + off = (tgt : Int)) (kt : x ≤ y → mt_Go B E cs S tgt lv st) (kf : ¬ x ≤ y → mt_Go B E cs S (pc + 4) lv st) : mt_Go B E cs S pc lv (.long y :: .long x :: st) := by
  obtain ⟨l, D, cA, b⟩ := B
  obtain ⟨p, e, R, s, m, args, below, meth, c0, Q, nL'⟩ := E
  obtain ⟨hx, hb, hml, rfl, hown, hts, hK, hbs, hr, hlk, hrf, hrl, hrc, hrs⟩ := hC
  intro H locs ls hP hS hl
  refine W.lcmp hx hb hd0 ?_
  exact lv_if_le hx hb hd ht (fun h => kt ((mt_lg x y).2.2.2.2.mp h) H locs ls hP hS hl) (fun h => kf (fun q => h ((mt_lg x y).2.2.2.2.mpr q)) H locs ls hP hS hl)
theorem go_goto (hC : mt_Cx B E cc own ret nL d mc ms) {off : Int} {tgt : Nat} (hd : decode cc pc = .ok (.goto off, 3)) (ht : (pc : Int) + off = (tgt : Int)) (k : mt_Go B E cs S tgt lv st) : mt_Go B E cs S pc lv st := by
  obtain ⟨l, D, cA, b⟩ := B
  obtain ⟨p, e, R, s, m, args, below, meth, c0, Q, nL'⟩ := E
  obtain ⟨hx, hb, hml, rfl, hown, hts, hK, hbs, hr, hlk, hrf, hrl, hrc, hrs⟩ := hC
  intro H locs ls hP hS hl
  exact lv_goto hx hb hd ht (k H locs ls hP hS hl)
theorem go_look (hC : mt_Cx B E cc own ret nL d mc ms) {dflt : Int} {ps : Array (Int × Int)} {len : Nat} {x : Int32} {off : Int} {tgt : Nat} (hd : decode cc pc = .ok (.lookupswitch dflt ps, len)) (hp : (ps.toList.zip (ps.toList.drop 1)).all (fun (a, next) => a.1 < next.1) = true) (ho : Op.lookupswitch.offset ps.toList dflt x.toInt = off) (ht : (pc : Int) + off = (tgt : Int)) (k : mt_Go B E cs S tgt lv st) : mt_Go B E cs S pc lv (.int x :: st) := by
  obtain ⟨l, D, cA, b⟩ := B
  obtain ⟨p, e, R, s, m, args, below, meth, c0, Q, nL'⟩ := E
  obtain ⟨hx, hb, hml, rfl, hown, hts, hK, hbs, hr, hlk, hrf, hrl, hrc, hrs⟩ := hC
  intro H locs ls hP hS hl
  exact lv_lookup hx hb hd hp ho ht (k H locs ls hP hS hl)
theorem go_tabOut (hC : mt_Cx B E cc own ret nL d mc ms) {dflt lo hi : Int} {offs : Array Int} {len : Nat} {x : Int32} {tgt : Nat} (hd : decode cc pc = .ok (.tableswitch dflt lo hi offs, len)) (h : x.toInt < lo ∨ hi < x.toInt) (ht : (pc : Int) + dflt = (tgt : Int)) (k : mt_Go B E cs S tgt lv st) : mt_Go B E cs S pc lv (.int x :: st) := by
  obtain ⟨l, D, cA, b⟩ := B
  obtain ⟨p, e, R, s, m, args, below, meth, c0, Q, nL'⟩ := E
  obtain ⟨hx, hb, hml, rfl, hown, hts, hK, hbs, hr, hlk, hrf, hrl, hrc, hrs⟩ := hC
  intro H locs ls hP hS hl
  exact lv_tableOut hx hb hd h ht (k H locs ls hP hS hl)
theorem go_tabIn (hC : mt_Cx B E cc own ret nL d mc ms) {dflt lo hi : Int} {offs : Array Int} {len : Nat} {x v : Int32} {off : Int} {tgt : Nat} (hd : decode cc pc = .ok (.tableswitch dflt lo hi offs, len)) (hv : x = v) (h1 : ¬ v.toInt < lo) (h2 : ¬ hi < v.toInt) (ho : offs[(v.toInt - lo).toNat]? = some off) (ht : (pc : Int) + off = (tgt : Int)) (k : mt_Go B E cs S tgt lv st) : mt_Go B E cs S pc lv (.int x :: st) := by
  subst hv
  obtain ⟨l, D, cA, b⟩ := B
  obtain ⟨p, e, R, s, m, args, below, meth, c0, Q, nL'⟩ := E
  obtain ⟨hx, hb, hml, rfl, hown, hts, hK, hbs, hr, hlk, hrf, hrl, hrc, hrs⟩ := hC
  intro H locs ls hP hS hl
  exact lv_tableIn hx hb hd h1 h2 ho ht (k H locs ls hP hS hl)
theorem go_ifnull_r (hC : mt_Cx B E cc own ret nL d mc ms) {x : Nat} {off : Int} (hd : decode cc pc = .ok (.ifnull off, 3)) (k : mt_Go B E cs S (pc + 3) lv st) : mt_Go B E cs S pc lv (.ref x :: st) := by
  obtain ⟨l, D, cA, b⟩ := B
  obtain ⟨p, e, R, s, m, args, below, meth, c0, Q, nL'⟩ := E
  obtain ⟨hx, hb, hml, rfl, hown, hts, hK, hbs, hr, hlk, hrf, hrl, hrc, hrs⟩ := hC
  intro H locs ls hP hS hl
  exact lv_ifnull hx hb hd (k H locs ls hP hS hl)
theorem go_ifnull_n (hC : mt_Cx B E cc own ret nL d mc ms) {off : Int} {tgt : Nat} (hd : decode cc pc = .ok (.ifnull off, 3)) (ht : (pc : Int) + off = (tgt : Int)) (k : mt_Go B E cs S tgt lv st) : mt_Go B E cs S pc lv (.null :: st) := by
  obtain ⟨l, D, cA, b⟩ := B
  obtain ⟨p, e, R, s, m, args, below, meth, c0, Q, nL'⟩ := E
  obtain ⟨hx, hb, hml, rfl, hown, hts, hK, hbs, hr, hlk, hrf, hrl, hrc, hrs⟩ := hC
  intro H locs ls hP hS hl
  exact lv_ifnullN hx hb hd ht (k H locs ls hP hS hl)
theorem go_ifnonnull_r (hC : mt_Cx B E cc own ret nL d mc ms) {x : Nat} {off : Int} {tgt : Nat} (hd : decode cc pc = .ok (.ifnonnull off, 3)) (ht : (pc : Int) + off = (tgt : Int)) (k : mt_Go B E cs S tgt lv st) : mt_Go B E cs S pc lv (.ref x :: st) := by
  obtain ⟨l, D, cA, b⟩ := B
  obtain ⟨p, e, R, s, m, args, below, meth, c0, Q, nL'⟩ := E
  obtain ⟨hx, hb, hml, rfl, hown, hts, hK, hbs, hr, hlk, hrf, hrl, hrc, hrs⟩ := hC
  intro H locs ls hP hS hl
  exact lv_ifnonnull hx hb hd ht (k H locs ls hP hS hl)
theorem go_ifnonnull_n (hC : mt_Cx B E cc own ret nL d mc ms) {off : Int} (hd : decode cc pc = .ok (.ifnonnull off, 3)) (k : mt_Go B E cs S (pc + 3) lv st) : mt_Go B E cs S pc lv (.null :: st) := by
  obtain ⟨l, D, cA, b⟩ := B
  obtain ⟨p, e, R, s, m, args, below, meth, c0, Q, nL'⟩ := E
  obtain ⟨hx, hb, hml, rfl, hown, hts, hK, hbs, hr, hlk, hrf, hrl, hrc, hrs⟩ := hC
  intro H locs ls hP hS hl
  exact lv_ifnonnullN hx hb hd (k H locs ls hP hS hl)
theorem go_iret (hC : mt_Cx B E cc own (some .int) nL d mc ms) {v : Int32} (hE : mt_End B E cs (some (.int v)) S) (hd : decode cc pc = .ok (.ireturn, 1)) : mt_Go B E cs S pc lv [.int v] := by
  obtain ⟨l, D, cA, b⟩ := B
  obtain ⟨p, e, R, s, m, args, below, meth, c0, Q, nL'⟩ := E
  obtain ⟨hx, hb, hml, rfl, hown, hts, hK, hbs, hr, hlk, hrf, hrl, hrc, hrs⟩ := hC
  intro H locs ls hP hS hl
  obtain rfl : Q = _ := hE
  exact W.iret hx hb hr (fun t ht hW => ⟨rfl, by rw [ht]; exact hP, hS.F ht⟩) hS.2.2 hd
theorem go_lret (hC : mt_Cx B E cc own (some .long) nL d mc ms) {v : Int64} (hE : mt_End B E cs (some (.long v)) S) (hd : decode cc pc = .ok (.lreturn, 1)) : mt_Go B E cs S pc lv [.long v] := by
  obtain ⟨l, D, cA, b⟩ := B
  obtain ⟨p, e, R, s, m, args, below, meth, c0, Q, nL'⟩ := E
  obtain ⟨hx, hb, hml, rfl, hown, hts, hK, hbs, hr, hlk, hrf, hrl, hrc, hrs⟩ := hC
  intro H locs ls hP hS hl
  obtain rfl : Q = _ := hE
  exact W.lret hx hb hr (fun t ht hW => ⟨rfl, by rw [ht]; exact hP, hS.F ht⟩) hS.2.2 hd
theorem go_zret (hC : mt_Cx B E cc own (some .boolean) nL d mc ms) {v : Int32} (hE : mt_End B E cs (some (.int v)) S) (hv : v = 0 ∨ v = 1) (hd : decode cc pc = .ok (.ireturn, 1)) : mt_Go B E cs S pc lv [.int v] := by
  obtain ⟨l, D, cA, b⟩ := B
  obtain ⟨p, e, R, s, m, args, below, meth, c0, Q, nL'⟩ := E
  obtain ⟨hx, hb, hml, rfl, hown, hts, hK, hbs, hr, hlk, hrf, hrl, hrc, hrs⟩ := hC
  intro H locs ls hP hS hl
  obtain rfl : Q = _ := hE
  exact W.zret hx hb hr (by rcases hv with rfl | rfl <;> rfl) (fun t ht hW => ⟨rfl, by rw [ht]; exact hP, hS.F ht⟩) hS.2.2 hd
theorem go_vret (hC : mt_Cx B E cc own none nL d mc ms) (hE : mt_End B E cs none S) (hd : decode cc pc = .ok (.return_, 1)) : mt_Go B E cs S pc lv [] := by
  obtain ⟨l, D, cA, b⟩ := B
  obtain ⟨p, e, R, s, m, args, below, meth, c0, Q, nL'⟩ := E
  obtain ⟨hx, hb, hml, rfl, hown, hts, hK, hbs, hr, hlk, hrf, hrl, hrc, hrs⟩ := hC
  intro H locs ls hP hS hl
  obtain rfl : Q = _ := hE
  exact W.vret hx hb hr (fun t ht hW => ⟨rfl, by rw [ht]; exact hP, hS.F ht⟩) hS.2.2 hd
theorem go_aret {C : String} (hC : mt_Cx B E cc own (some (.object C)) nL d mc ms) {v : Value} (hv : v = .null ∨ ∃ a, v = .ref a) (hE : mt_End B E cs (some v) S) (hd : decode cc pc = .ok (.areturn, 1)) : mt_Go B E cs S pc lv [v] := by
  obtain ⟨l, D, cA, b⟩ := B
  obtain ⟨p, e, R, s, m, args, below, meth, c0, Q, nL'⟩ := E
  obtain ⟨hx, hb, hml, rfl, hown, hts, hK, hbs, hr, hlk, hrf, hrl, hrc, hrs⟩ := hC
  intro H locs ls hP hS hl
  obtain rfl : Q = _ := hE
  exact W.aret hx hb hr (Or.inl ⟨_, rfl⟩) hv (fun t ht hW => ⟨rfl, by rw [ht]; exact hP, hS.F ht⟩) hS.2.2 hd
/-- a class and its fields, by the tables -/
def mt_CF (c : Nat) (C : String) (T : u_T) (N : Nat) (ty : Nat → FieldType) : Prop := vwCl[c]? = some (C, T, N) ∧ c < 12 ∧ N = (mt_ft c).length ∧ (∀ w ∈ u_ws C T N, w ∈ mt_tb) ∧ (∀ k, k < N → parseFieldDescriptor (T k).2.2.1 = some (ty k)) ∧ (∀ a, a < N → ∀ b, b < N → a ≠ b → (T a).2.1 ≠ (T b).2.1)
/-- a link to the field j of class c, of kind t, of type ty0, final or not -/
def mt_FL (own : String) (idx c j t : Nat) (fin : Bool) (ty0 : FieldType) : Prop := ∃ (C : String) (T : u_T) (N : Nat) (ty : Nat → FieldType), mt_CF c C T N ty ∧ (mt_ft c)[j]? = some t ∧ Cond.fieldLink own idx (T j).1 (T j).2.1 (T j).2.2.1 ∈ mt_tb ∧ (T j).2.2.2 = fin ∧ (T j).1 = C ∧ ty j = ty0
theorem mt_get (hC : mt_Cx B E cc own ret nL d mc ms) {idx c j t k : Nat} {fin : Bool} {ty0 : FieldType} (hF : mt_FL own idx c j t fin ty0) (hk : mt_isK S k c = true) (hd : decode cc pc = .ok (.getfield idx, 3)) (kk : mt_Go B E cs S (pc + 3) lv (mt_fv B.2.2.2 S k j t :: st)) : mt_Go B E cs S pc lv (mt_rf B k :: st) := by
  obtain ⟨l, D, cA, b⟩ := B
  obtain ⟨p, e, R, s, m, args, below, meth, c0, Q, nL'⟩ := E
  obtain ⟨hx, hb, hml, rfl, hown, hts, hK, hbs, hr, hlk, hrf, hrl, hrc, hrs⟩ := hC
  obtain ⟨C, T, N, ty, ⟨h1, h2, h3, h4, h5, h6⟩, ht, hln, hfin, hown2, -⟩ := hF
  intro H locs ls hP hS hl
  exact va_get (D := D) (ci := c) (C := C) (T := T) (N := N) hx hb hts h4 hown hK hP k (mt_at hk (mt_cell_o hk h2)) h1 j (by rw [h3]; exact (List.getElem?_eq_some_iff.mp ht).1) (hts _ hln) (fun _ h9 => h9) (mt_oc_get ht) hd (kk H locs ls hP hS hl)
theorem go_getI (hC : mt_Cx B E cc own ret nL d mc ms) {idx c j k : Nat} {fin : Bool} {ty0 : FieldType} {v : Int32} (hF : mt_FL own idx c j 0 fin ty0) (he : mt_rI S k c j = some v) (hd : decode cc pc = .ok (.getfield idx, 3)) (kk : mt_Go B E cs S (pc + 3) lv (.int v :: st)) : mt_Go B E cs S pc lv (mt_rf B k :: st) := by
  obtain ⟨hk, h2⟩ := mt_gd he
  cases h2
  exact mt_get hC hF hk hd kk
theorem go_getL (hC : mt_Cx B E cc own ret nL d mc ms) {idx c j k : Nat} {fin : Bool} {ty0 : FieldType} {v : Int64} (hF : mt_FL own idx c j 1 fin ty0) (he : mt_rL S k c j = some v) (hd : decode cc pc = .ok (.getfield idx, 3)) (kk : mt_Go B E cs S (pc + 3) lv (.long v :: st)) : mt_Go B E cs S pc lv (mt_rf B k :: st) := by
  obtain ⟨hk, h2⟩ := mt_gd he
  cases h2
  exact mt_get hC hF hk hd kk
theorem go_getR (hC : mt_Cx B E cc own ret nL d mc ms) {idx c j k : Nat} {fin : Bool} {ty0 : FieldType} {v : Nat} (hF : mt_FL own idx c j 2 fin ty0) (he : mt_rR S k c j = some v) (hd : decode cc pc = .ok (.getfield idx, 3)) (kk : mt_Go B E cs S (pc + 3) lv (mt_rf B v :: st)) : mt_Go B E cs S pc lv (mt_rf B k :: st) := by
  obtain ⟨hk, h2⟩ := mt_gd he
  refine mt_get hC hF hk hd ?_
  rw [show mt_fv B.2.2.2 S k j 2 = mt_rf B v by simp [mt_fv, h2, va_rf]]
  exact kk
theorem go_putI (hC : mt_Cx B E cc own ret nL d mc ms) {idx c j k : Nat} {v : Int32} {S1 : mt_S} (hF : mt_FL own idx c j 0 false .int) (he : mt_wI S k c j v = some S1) (hd : decode cc pc = .ok (.putfield idx, 3)) (kk : mt_Go B E cs S1 (pc + 3) lv st) : mt_Go B E cs S pc lv (.int v :: mt_rf B k :: st) := by
  obtain ⟨hk, h2⟩ := mt_gd he
  cases h2
  obtain ⟨l, D, cA, b⟩ := B
  obtain ⟨p, e, R, s, m, args, below, meth, c0, Q, nL'⟩ := E
  obtain ⟨hx, hb, hml, rfl, hown, hts, hK, hbs, hr, hlk, hrf, hrl, hrc, hrs⟩ := hC
  obtain ⟨C, T, N, ty, ⟨h1, h2, h3, h4, h5, h6⟩, ht, hln, hfin, hown2, hty⟩ := hF
  intro H locs ls hP hS hl
  have hj : j < N := by rw [h3]; exact (List.getElem?_eq_some_iff.mp ht).1
  refine va_put (D := D) (ci := c) (C := C) (T := T) (N := N) (ty := .int) hx hb hts h4 ty h5 h6 hown hK hP (mt_D cA b S) hS k (mt_at hk (mt_cell_o hk h2)) h1 j hj (hts _ hln) (fun _ h9 => h9) hfin (by rw [h5 j hj, hty]) rfl rfl (by rw [mt_oc_len, ← h3]; exact hj) hd (fun H1 locs1 hP1 _ hS1 => ?_)
  rw [mt_set_I hk h2 ht] at hP1
  exact kk H1 locs1 ls hP1 hS1 hl
theorem go_putZ (hC : mt_Cx B E cc own ret nL d mc ms) {idx c j k : Nat} {v : Int32} {S1 : mt_S} (hF : mt_FL own idx c j 0 false .boolean) (he : mt_wI S k c j v = some S1) (hv : v = 0 ∨ v = 1) (hd : decode cc pc = .ok (.putfield idx, 3)) (kk : mt_Go B E cs S1 (pc + 3) lv st) : mt_Go B E cs S pc lv (.int v :: mt_rf B k :: st) := by
  obtain ⟨hk, h2⟩ := mt_gd he
  cases h2
  obtain ⟨l, D, cA, b⟩ := B
  obtain ⟨p, e, R, s, m, args, below, meth, c0, Q, nL'⟩ := E
  obtain ⟨hx, hb, hml, rfl, hown, hts, hK, hbs, hr, hlk, hrf, hrl, hrc, hrs⟩ := hC
  obtain ⟨C, T, N, ty, ⟨h1, h2, h3, h4, h5, h6⟩, ht, hln, hfin, hown2, hty⟩ := hF
  intro H locs ls hP hS hl
  have hj : j < N := by rw [h3]; exact (List.getElem?_eq_some_iff.mp ht).1
  refine va_put (D := D) (ci := c) (C := C) (T := T) (N := N) (ty := .boolean) hx hb hts h4 ty h5 h6 hown hK hP (mt_D cA b S) hS k (mt_at hk (mt_cell_o hk h2)) h1 j hj (hts _ hln) (fun _ h9 => h9) hfin (by rw [h5 j hj, hty]) (by rcases hv with rfl | rfl <;> rfl) (by rcases hv with rfl | rfl <;> rfl) (by rw [mt_oc_len, ← h3]; exact hj) hd (fun H1 locs1 hP1 _ hS1 => ?_)
  rw [mt_set_I hk h2 ht] at hP1
  exact kk H1 locs1 ls hP1 hS1 hl
theorem go_putL (hC : mt_Cx B E cc own ret nL d mc ms) {idx c j k : Nat} {v : Int64} {S1 : mt_S} (hF : mt_FL own idx c j 1 false .long) (he : mt_wL S k c j v = some S1) (hd : decode cc pc = .ok (.putfield idx, 3)) (kk : mt_Go B E cs S1 (pc + 3) lv st) : mt_Go B E cs S pc lv (.long v :: mt_rf B k :: st) := by
  obtain ⟨hk, h2⟩ := mt_gd he
  cases h2
  obtain ⟨l, D, cA, b⟩ := B
  obtain ⟨p, e, R, s, m, args, below, meth, c0, Q, nL'⟩ := E
  obtain ⟨hx, hb, hml, rfl, hown, hts, hK, hbs, hr, hlk, hrf, hrl, hrc, hrs⟩ := hC
  obtain ⟨C, T, N, ty, ⟨h1, h2, h3, h4, h5, h6⟩, ht, hln, hfin, hown2, hty⟩ := hF
  intro H locs ls hP hS hl
  have hj : j < N := by rw [h3]; exact (List.getElem?_eq_some_iff.mp ht).1
  refine va_put (D := D) (ci := c) (C := C) (T := T) (N := N) (ty := .long) hx hb hts h4 ty h5 h6 hown hK hP (mt_D cA b S) hS k (mt_at hk (mt_cell_o hk h2)) h1 j hj (hts _ hln) (fun _ h9 => h9) hfin (by rw [h5 j hj, hty]) rfl rfl (by rw [mt_oc_len, ← h3]; exact hj) hd (fun H1 locs1 hP1 _ hS1 => ?_)
  rw [mt_set_L hk h2 ht] at hP1
  exact kk H1 locs1 ls hP1 hS1 hl
theorem go_putRF {C0 : String} {ty9 : FieldType} (hC : mt_Cx B E cc own ret nL d mc ms) (hN : mt_nm E "<init>") {idx c j k v : Nat} {S1 : mt_S} (hF : mt_FL own idx c j 2 true ty9) (hcl : ∃ T N, vwCl[c]? = some (own, T, N)) (hty9 : narrow ty9 (.ref (B.2.2.2 + v)) = .ref (B.2.2.2 + v) ∧ fits ty9 (.ref (B.2.2.2 + v)) = true) (he : mt_wR S k c j (some v) = some S1) (hd : decode cc pc = .ok (.putfield idx, 3)) (kk : mt_Go B E cs S1 (pc + 3) lv st) : mt_Go B E cs S pc lv (mt_rf B v :: mt_rf B k :: st) := by
  obtain ⟨hk, h2⟩ := mt_gd he
  cases h2
  obtain ⟨l, D, cA, b⟩ := B
  obtain ⟨p, e, R, s, m, args, below, meth, c0, Q, nL'⟩ := E
  obtain ⟨hx, hb, hml, rfl, hown, hts, hK, hbs, hr, hlk, hrf, hrl, hrc, hrs⟩ := hC
  obtain ⟨C, T, N, ty, ⟨h1, h2, h3, h4, h5, h6⟩, ht, hln, hfin, hown2, hty⟩ := hF
  intro H locs ls hP hS hl
  have hj : j < N := by rw [h3]; exact (List.getElem?_eq_some_iff.mp ht).1
  have hCo : C = own := by
    obtain ⟨T', N', h7⟩ := hcl
    rw [h1] at h7
    cases h7; rfl
  refine va_putF (D := D) (ci := c) (C := C) (T := T) (N := N) (ty := ty9) hx hb hts h4 ty h5 h6 hown hK hP (mt_D cA b S) hS k (mt_at hk (mt_cell_o hk h2)) h1 j hj (hts _ hln) (fun _ h9 => h9) hfin hN (by rw [hown2, hCo]) (by rw [h5 j hj, hty]) hty9.1 hty9.2 (by rw [mt_oc_len, ← h3]; exact hj) hd (fun H1 locs1 hP1 _ hS1 => ?_)
  have hP1 : va_P D vwCl ((mt_W cA b S).set k (b + k, .inr (c, (mt_oc b S k c).set j (va_rf ((some v).map (fun a => b + a)))))) H1 := hP1
  rw [mt_set_R hk h2 ht] at hP1
  exact kk H1 locs1 ls hP1 hS1 hl
theorem go_iald (hC : mt_Cx B E cc own ret nL d mc ms) {k : Nat} {i v : Int32} (he : mt_aI S k 13 i = some v) (hd : decode cc pc = .ok (.iaload, 1)) (kk : mt_Go B E cs S (pc + 1) lv (.int v :: st)) : mt_Go B E cs S pc lv (.int i :: mt_rf B k :: st) := by
  obtain ⟨hk, h2⟩ := mt_gd he
  obtain ⟨hi, h3⟩ := mt_gd h2
  cases h3
  obtain ⟨l, D, cA, b⟩ := B
  obtain ⟨p, e, R, s, m, args, below, meth, c0, Q, nL'⟩ := E
  obtain ⟨hx, hb, hml, rfl, hown, hts, hK, hbs, hr, hlk, hrf, hrl, hrc, hrs⟩ := hC
  intro H locs ls hP hS hl
  exact va_iald hx hb hK hP k 1 (mt_at hk (mt_cell_i hk (by decide))) rfl (mt_in_iff.mp hi) hd (kk H locs ls hP hS hl)
theorem go_bald (hC : mt_Cx B E cc own ret nL d mc ms) {k : Nat} {i v : Int32} (he : mt_aI S k 12 i = some v) (hd : decode cc pc = .ok (.baload, 1)) (kk : mt_Go B E cs S (pc + 1) lv (.int v :: st)) : mt_Go B E cs S pc lv (.int i :: mt_rf B k :: st) := by
  obtain ⟨hk, h2⟩ := mt_gd he
  obtain ⟨hi, h3⟩ := mt_gd h2
  cases h3
  obtain ⟨l, D, cA, b⟩ := B
  obtain ⟨p, e, R, s, m, args, below, meth, c0, Q, nL'⟩ := E
  obtain ⟨hx, hb, hml, rfl, hown, hts, hK, hbs, hr, hlk, hrf, hrl, hrc, hrs⟩ := hC
  intro H locs ls hP hS hl
  exact va_bald hx hb hK hP k 0 (mt_at hk (mt_cell_i hk (by decide))) rfl (mt_in_iff.mp hi) hd (kk H locs ls hP hS hl)
theorem go_zald (hC : mt_Cx B E cc own ret nL d mc ms) {k : Nat} {i v : Int32} (he : mt_aI S k 15 i = some v) (hd : decode cc pc = .ok (.baload, 1)) (kk : mt_Go B E cs S (pc + 1) lv (.int v :: st)) : mt_Go B E cs S pc lv (.int i :: mt_rf B k :: st) := by
  obtain ⟨hk, h2⟩ := mt_gd he
  obtain ⟨hi, h3⟩ := mt_gd h2
  cases h3
  obtain ⟨l, D, cA, b⟩ := B
  obtain ⟨p, e, R, s, m, args, below, meth, c0, Q, nL'⟩ := E
  obtain ⟨hx, hb, hml, rfl, hown, hts, hK, hbs, hr, hlk, hrf, hrl, hrc, hrs⟩ := hC
  intro H locs ls hP hS hl
  exact va_zald hx hb hK hP k 3 (mt_at hk (mt_cell_i hk (by decide))) rfl (mt_in_iff.mp hi) hd (kk H locs ls hP hS hl)
theorem go_lald (hC : mt_Cx B E cc own ret nL d mc ms) {k : Nat} {i : Int32} {v : Int64} (he : mt_aL S k i = some v) (hd : decode cc pc = .ok (.laload, 1)) (kk : mt_Go B E cs S (pc + 1) lv (.long v :: st)) : mt_Go B E cs S pc lv (.int i :: mt_rf B k :: st) := by
  obtain ⟨hk, h2⟩ := mt_gd he
  obtain ⟨hi, h3⟩ := mt_gd h2
  cases h3
  obtain ⟨l, D, cA, b⟩ := B
  obtain ⟨p, e, R, s, m, args, below, meth, c0, Q, nL'⟩ := E
  obtain ⟨hx, hb, hml, rfl, hown, hts, hK, hbs, hr, hlk, hrf, hrl, hrc, hrs⟩ := hC
  intro H locs ls hP hS hl
  exact va_lald hx hb hK hP k 2 (mt_at hk (mt_cell_l hk)) rfl (mt_in_iff.mp hi) hd (kk H locs ls hP hS hl)
theorem go_aald (hC : mt_Cx B E cc own ret nL d mc ms) {k v : Nat} {i : Int32} (he : mt_aR S k i = some v) (hd : decode cc pc = .ok (.aaload, 1)) (kk : mt_Go B E cs S (pc + 1) lv (mt_rf B v :: st)) : mt_Go B E cs S pc lv (.int i :: mt_rf B k :: st) := by
  obtain ⟨hk, h2⟩ := mt_gd he
  obtain ⟨hi, h3⟩ := mt_gd h2
  obtain ⟨l, D, cA, b⟩ := B
  obtain ⟨p, e, R, s, m, args, below, meth, c0, Q, nL'⟩ := E
  obtain ⟨hx, hb, hml, rfl, hown, hts, hK, hbs, hr, hlk, hrf, hrl, hrc, hrs⟩ := hC
  intro H locs ls hP hS hl
  refine va_aldq hx hb hK hP k 4 (C := "MarkovTree$State") (mt_at hk (mt_cell_q hk)) rfl (mt_in_iff.mp hi) hd ?_
  rw [h3]
  exact kk H locs ls hP hS hl
theorem go_iast (hC : mt_Cx B E cc own ret nL d mc ms) {k : Nat} {i v : Int32} {S1 : mt_S} (he : mt_sI S k 13 i (v) = some S1) (hd : decode cc pc = .ok (.iastore, 1)) (kk : mt_Go B E cs S1 (pc + 1) lv st) : mt_Go B E cs S pc lv (.int v :: .int i :: mt_rf B k :: st) := by
  obtain ⟨hk, h2⟩ := mt_gd he
  obtain ⟨hi, h3⟩ := mt_gd h2
  cases h3
  obtain ⟨l, D, cA, b⟩ := B
  obtain ⟨p, e, R, s, m, args, below, meth, c0, Q, nL'⟩ := E
  obtain ⟨hx, hb, hml, rfl, hown, hts, hK, hbs, hr, hlk, hrf, hrl, hrc, hrs⟩ := hC
  intro H locs ls hP hS hl
  refine va_iast hx hb hK hP (mt_D cA b S) hS k 1 (mt_at hk (mt_cell_i hk (by decide))) rfl (mt_in_iff.mp hi) hd (fun H1 locs1 hP1 _ hS1 => ?_)
  rw [mt_set_aI hk (by decide)] at hP1
  exact kk H1 locs1 ls hP1 hS1 hl
theorem go_bast (hC : mt_Cx B E cc own ret nL d mc ms) {k : Nat} {i v : Int32} {S1 : mt_S} (he : mt_sI S k 12 i (vp_nar .byte v) = some S1) (hd : decode cc pc = .ok (.bastore, 1)) (kk : mt_Go B E cs S1 (pc + 1) lv st) : mt_Go B E cs S pc lv (.int v :: .int i :: mt_rf B k :: st) := by
  obtain ⟨hk, h2⟩ := mt_gd he
  obtain ⟨hi, h3⟩ := mt_gd h2
  cases h3
  obtain ⟨l, D, cA, b⟩ := B
  obtain ⟨p, e, R, s, m, args, below, meth, c0, Q, nL'⟩ := E
  obtain ⟨hx, hb, hml, rfl, hown, hts, hK, hbs, hr, hlk, hrf, hrl, hrc, hrs⟩ := hC
  intro H locs ls hP hS hl
  refine va_bast hx hb hK hP (mt_D cA b S) hS k 0 (mt_at hk (mt_cell_i hk (by decide))) rfl (mt_in_iff.mp hi) hd (fun H1 locs1 hP1 _ hS1 => ?_)
  rw [mt_set_aI hk (by decide)] at hP1
  exact kk H1 locs1 ls hP1 hS1 hl
theorem go_zast (hC : mt_Cx B E cc own ret nL d mc ms) {k : Nat} {i v : Int32} {S1 : mt_S} (he : mt_sI S k 15 i (vp_nar .boolean v) = some S1) (hd : decode cc pc = .ok (.bastore, 1)) (kk : mt_Go B E cs S1 (pc + 1) lv st) : mt_Go B E cs S pc lv (.int v :: .int i :: mt_rf B k :: st) := by
  obtain ⟨hk, h2⟩ := mt_gd he
  obtain ⟨hi, h3⟩ := mt_gd h2
  cases h3
  obtain ⟨l, D, cA, b⟩ := B
  obtain ⟨p, e, R, s, m, args, below, meth, c0, Q, nL'⟩ := E
  obtain ⟨hx, hb, hml, rfl, hown, hts, hK, hbs, hr, hlk, hrf, hrl, hrc, hrs⟩ := hC
  intro H locs ls hP hS hl
  refine va_zast hx hb hK hP (mt_D cA b S) hS k 3 (mt_at hk (mt_cell_i hk (by decide))) rfl (mt_in_iff.mp hi) hd (fun H1 locs1 hP1 _ hS1 => ?_)
  rw [mt_set_aI hk (by decide)] at hP1
  exact kk H1 locs1 ls hP1 hS1 hl
theorem go_last (hC : mt_Cx B E cc own ret nL d mc ms) {k : Nat} {i : Int32} {v : Int64} {S1 : mt_S} (he : mt_sL S k i v = some S1) (hd : decode cc pc = .ok (.lastore, 1)) (kk : mt_Go B E cs S1 (pc + 1) lv st) : mt_Go B E cs S pc lv (.long v :: .int i :: mt_rf B k :: st) := by
  obtain ⟨hk, h2⟩ := mt_gd he
  obtain ⟨hi, h3⟩ := mt_gd h2
  cases h3
  obtain ⟨l, D, cA, b⟩ := B
  obtain ⟨p, e, R, s, m, args, below, meth, c0, Q, nL'⟩ := E
  obtain ⟨hx, hb, hml, rfl, hown, hts, hK, hbs, hr, hlk, hrf, hrl, hrc, hrs⟩ := hC
  intro H locs ls hP hS hl
  refine va_last hx hb hK hP (mt_D cA b S) hS k 2 (mt_at hk (mt_cell_l hk)) rfl (mt_in_iff.mp hi) hd (fun H1 locs1 hP1 _ hS1 => ?_)
  rw [mt_set_aL hk] at hP1
  exact kk H1 locs1 ls hP1 hS1 hl
/-- behind a call -/
theorem mt_after {p : Program} {l : Launch} {e : Env} {R : Room} {s : State} {m : MethodId} {args : Array Value} {below : List Frame} {meth : Method} {c : Code} {H : Heap} {locs : List Loc} {cells slots mc1 ms1 : Nat} {Q : State → Prop} {D : va_G} {cA : Nat → ClassId} {b : Nat} {ls : Array Slot} {st0 rest : List Value} {a : Array Value} {rv : Option Value} {S1 : mt_S}
    (hr : va_Run p l e R s m args below meth c H locs cells slots mc1 ms1 (F0 m pc ls st0) rest (mt_Q (l, D, cA, b) rv S1 a) (fun q => b ≤ q)) (hS : va_S (fun q => b ≤ q) s.heap H locs)
    (kk : ∀ (H1 : Heap) (locs1 : List Loc), va_P D vwCl (mt_W cA b S1) H1 → va_S (fun q => b ≤ q) s.heap H1 locs1 → W p l e R s m args below meth c H1 locs1 (cells + mc1) (slots + ms1) Q (F0 m (pc + 3) ls (rv.toList ++ rest))) : W p l e R s m args below meth c H locs cells slots Q (F0 m pc ls st0) := by
  intro T hT X
  obtain ⟨v, st₀, t, T', L, h0, X', hL, e1, e2, ⟨hv, hP1, hz, hk⟩, st⟩ := hr T hT X
  cases hv
  rw [h0] at hz hk
  obtain ⟨t2, a1, b1⟩ := kk T'.heap (locs ++ L) (by rw [e1]; exact hP1)
    ⟨Nat.le_trans hS.1 (by rw [e1]; exact hz), fun q h1 h2 => by rw [e1, hk q (Nat.lt_of_lt_of_le h1 hS.1) h2]; exact hS.2.1 q h1 h2, fun q hq => by
      rcases List.mem_append.mp hq with h | h
      · exact hS.2.2 q h
      · exact hL q h⟩ T' rfl X'
  exact ⟨t2, st t2 a1, b1⟩
/-- a method that is called by name: its code, its descriptor -/
def mt_CB (own : String) (idx : Nat) (y : MethodName) (bytes : ByteArray) (maxL : Nat) (ret' : Option FieldType) (n : Nat) : Prop := Cond.methodLink own idx y ∈ mt_tb ∧ Cond.code y bytes maxL ret' ∈ mt_tb ∧ Cond.initialized y.cls ∈ mt_tb ∧ maxL ≤ 45 ∧ y.cls ≠ "java/lang/invoke/MethodHandle" ∧ y.cls ≠ "java/lang/invoke/VarHandle" ∧ (parseMethodDescriptor y.desc).map (fun d => d.parameters.length) = some n
def mt_CV (own : String) (idx : Nat) (y : MethodName) (bytes : ByteArray) (maxL : Nat) (ret' : Option FieldType) (n ci : Nat) : Prop := mt_CB own idx y bytes maxL ret' n ∧ Cond.instanceMethod y ∈ mt_tb ∧ Cond.selects y.cls y y ∈ mt_tb ∧ ci < 12 ∧ ∃ q, vwCl[ci]? = some q ∧ q.1 = y.cls
def mt_CS (own : String) (idx : Nat) (y : MethodName) (bytes : ByteArray) (maxL : Nat) (ret' : Option FieldType) (n : Nat) : Prop := mt_CB own idx y bytes maxL ret' n ∧ Cond.static y ∈ mt_tb
def mt_CI (own : String) (idx : Nat) (y : MethodName) (bytes : ByteArray) (maxL : Nat) (n : Nat) : Prop := mt_CB own idx y bytes maxL none n ∧ y.name = "<init>" ∧ Cond.instanceMethod y ∈ mt_tb
theorem mt_callB {R : Room} {s : State} {args : Array Value} {idx maxL n d' mc' ms' : Nat} {y : MethodName} {bytes : ByteArray} {ret' : Option FieldType} (hts : ∀ w ∈ mt_tb, w.before args s = true) (h : mt_CB own idx y bytes maxL ret' n) (hd : d' + 1 ≤ d) (hrf : d ≤ R.frames) (hrl : 64 * d ≤ R.locals) : CallB R s args own idx y bytes maxL ret' (.code y bytes maxL ret' :: mt_tb) (mt_R d' mc' ms') mc' ms' n := by
  obtain ⟨h1, h2, h3, h4, h5, h6, h7⟩ := h
  refine ⟨rfl, rfl, by show d' + 1 ≤ R.frames; omega, by show 8 + (maxL + 11) + 64 * d' ≤ R.locals; omega, pay_in hts (mt_goodIn h2), List.mem_cons_self, hts _ h2, hts _ h3, ⟨h5, h6⟩, fun sig h => ?_, hts _ h1⟩
  rw [h] at h7
  exact (Option.some.inj h7).symm
theorem go_callV (hC : mt_Cx B E cc own ret nL d mc ms) {y : MethodName} {bytes : ByteArray} {maxL n ci k idx d' : Nat} {ret' : Option FieldType} {As rest : List Value} {rv : Option Value} {S1 : mt_S} (hM : mt_M B y bytes maxL ret' d' (mt_rf B k :: As) S rv S1) (hq : mt_CV own idx y bytes maxL ret' n ci) (hk : mt_isK S k ci = true) (hst : st = As.reverse ++ mt_rf B k :: rest) (hn : As.length = n) (hdd : d' + 1 ≤ d) (hw : (rest.map fun v => v.category).sum ≤ 8) (hd : decode cc pc = .ok (.invokevirtual idx, 3)) (hcs : cs.1 ≤ mc ∧ cs.2 ≤ ms) (kk : mt_Go B E cs S1 (pc + 3) lv (rv.toList ++ rest)) : mt_Go B E cs S pc lv st := by
  subst hst
  obtain ⟨l, D, cA, b⟩ := B
  obtain ⟨p, e, R, s, m, args, below, meth, c0, Q, nL'⟩ := E
  obtain ⟨hx, hb, hml, rfl, hown, hts, hK, hbs, hr, hlk, hrf, hrl, hrc, hrs⟩ := hC
  obtain ⟨h1, h2, h3, h4, q, h5, h6⟩ := hq
  intro H locs ls hP hS hl
  have hcw : CallW R s args own y.cls idx y bytes maxL ret' (.code y bytes maxL ret' :: mt_tb) (mt_R d' 0 0) 0 0 n := ⟨mt_callB hts h1 hdd hrf hrl, hts _ h2, hts _ h3⟩
  have hrec := va_recv hK hP h5 (mt_at hk (mt_cell_o hk h4))
  rw [h6] at hrec
  refine mt_after (mc1 := 0) (ms1 := 0) (va_runV (As := As) (rest := rest) (C := y.cls) (b := b + k) ⟨hx, hb, hml, hown, hts⟩ hM hcw ⟨mt_Bd_blind, hrec, fun U hU hW => ⟨rfl, by rw [hU]; exact Nat.le_trans hbs hS.1, by rw [hU]; exact hP, va_K.moved hW.alike hK⟩⟩ rfl hn hl.1 rfl (lv_room hw) hd ⟨by omega, by omega⟩) hS (fun H1 locs1 hP1 hS1 => ?_)
  exact kk H1 locs1 ls hP1 hS1 hl
theorem go_callS (hC : mt_Cx B E cc own ret nL d mc ms) {y : MethodName} {bytes : ByteArray} {maxL n idx d' : Nat} {ret' : Option FieldType} {As rest : List Value} {rv : Option Value} {S1 : mt_S} (hM : mt_M B y bytes maxL ret' d' As S rv S1) (hq : mt_CS own idx y bytes maxL ret' n) (hst : st = As.reverse ++ rest) (hn : As.length = n) (hdd : d' + 1 ≤ d) (hw : (rest.map fun v => v.category).sum ≤ 8) (hd : decode cc pc = .ok (.invokestatic idx, 3)) (hcs : cs.1 ≤ mc ∧ cs.2 ≤ ms) (kk : mt_Go B E cs S1 (pc + 3) lv (rv.toList ++ rest)) : mt_Go B E cs S pc lv st := by
  subst hst
  obtain ⟨l, D, cA, b⟩ := B
  obtain ⟨p, e, R, s, m, args, below, meth, c0, Q, nL'⟩ := E
  obtain ⟨hx, hb, hml, rfl, hown, hts, hK, hbs, hr, hlk, hrf, hrl, hrc, hrs⟩ := hC
  intro H locs ls hP hS hl
  have hcw : CallB R s args own idx y bytes maxL ret' (.code y bytes maxL ret' :: mt_tb) (mt_R d' 0 0) 0 0 n := mt_callB hts hq.1 hdd hrf hrl
  refine mt_after (mc1 := 0) (ms1 := 0) (va_runS (As := As) (rest := rest) ⟨hx, hb, hml, hown, hts⟩ hM ⟨hcw, hts _ hq.2⟩ ⟨mt_Bd_blind, fun U hU hW => ⟨rfl, by rw [hU]; exact Nat.le_trans hbs hS.1, by rw [hU]; exact hP, va_K.moved hW.alike hK⟩⟩ rfl hn hl.1 rfl (lv_room hw) hd ⟨by omega, by omega⟩) hS (fun H1 locs1 hP1 hS1 => ?_)
  exact kk H1 locs1 ls hP1 hS1 hl
theorem go_mmin (hC : mt_Cx B E cc own ret nL d mc ms) {x y : Int32} {idx : Nat} (h1 : Cond.methodLink own idx Lib.Math.min.name ∈ mt_tb) (h2 : Cond.static Lib.Math.min.name ∈ mt_tb) (h3 : Cond.initialized "java/lang/Math" ∈ mt_tb) (h4 : Cond.code Lib.Math.min.name Lib.Math.min.code 2 (some .int) ∈ mt_tb) (hdd : 1 ≤ d) (hw : (st.map fun v => v.category).sum ≤ 8) (hcs : cs.1 ≤ mc ∧ cs.2 ≤ ms) (hd : decode cc pc = .ok (.invokestatic idx, 3)) (kk : mt_Go B E cs S (pc + 3) lv (.int (if y < x then y else x) :: st)) : mt_Go B E cs S pc lv (.int y :: .int x :: st) := by
  obtain ⟨l, D, cA, b⟩ := B
  obtain ⟨p, e, R, s, m, args, below, meth, c0, Q, nL'⟩ := E
  obtain ⟨hx, hb, hml, rfl, hown, hts, hK, hbs, hr, hlk, hrf, hrl, hrc, hrs⟩ := hC
  intro H locs ls hP hS hl
  exact va_mmin hx hb (by rw [hml]; exact hl.1.symm) hown (hts _ h1) (hts _ h2) (hts _ h3) (hts _ h4) (by omega) (by omega) (by omega) (by omega) hd (kk H locs ls hP hS hl)
theorem go_lmin (hC : mt_Cx B E cc own ret nL d mc ms) {x y : Int64} {idx : Nat} (h1 : Cond.methodLink own idx Lib.MathLoose.min_long.x ∈ mt_tb) (h2 : Cond.static Lib.MathLoose.min_long.x ∈ mt_tb) (h3 : Cond.initialized "java/lang/Math" ∈ mt_tb) (h4 : Cond.code Lib.MathLoose.min_long.x Lib.MathLoose.min_long.code 4 (some .long) ∈ mt_tb) (hdd : 1 ≤ d) (hw : (st.map fun v => v.category).sum ≤ 8) (hcs : cs.1 ≤ mc ∧ cs.2 ≤ ms) (hd : decode cc pc = .ok (.invokestatic idx, 3)) (kk : mt_Go B E cs S (pc + 3) lv (.long (if y < x then y else x) :: st)) : mt_Go B E cs S pc lv (.long y :: .long x :: st) := by
  obtain ⟨l, D, cA, b⟩ := B
  obtain ⟨p, e, R, s, m, args, below, meth, c0, Q, nL'⟩ := E
  obtain ⟨hx, hb, hml, rfl, hown, hts, hK, hbs, hr, hlk, hrf, hrl, hrc, hrs⟩ := hC
  intro H locs ls hP hS hl
  exact va_mmin_long hx hb (by rw [hml]; exact hl.1.symm) hown (hts _ h1) (hts _ h2) (hts _ h3) (hts _ h4) (by omega) (by omega) (by omega) (by omega) hd (kk H locs ls hP hS hl)
theorem go_labs (hC : mt_Cx B E cc own ret nL d mc ms) {x : Int64} {idx : Nat} (h1 : Cond.methodLink own idx Lib.MathLoose.abs_long.x ∈ mt_tb) (h2 : Cond.static Lib.MathLoose.abs_long.x ∈ mt_tb) (h3 : Cond.initialized "java/lang/Math" ∈ mt_tb) (h4 : Cond.code Lib.MathLoose.abs_long.x Lib.MathLoose.abs_long.code 2 (some .long) ∈ mt_tb) (hdd : 1 ≤ d) (hw : (st.map fun v => v.category).sum ≤ 8) (hcs : cs.1 ≤ mc ∧ cs.2 ≤ ms) (hd : decode cc pc = .ok (.invokestatic idx, 3)) (kk : mt_Go B E cs S (pc + 3) lv (.long (if 0 < x then x else -x) :: st)) : mt_Go B E cs S pc lv (.long x :: st) := by
  obtain ⟨l, D, cA, b⟩ := B
  obtain ⟨p, e, R, s, m, args, below, meth, c0, Q, nL'⟩ := E
  obtain ⟨hx, hb, hml, rfl, hown, hts, hK, hbs, hr, hlk, hrf, hrl, hrc, hrs⟩ := hC
  intro H locs ls hP hS hl
  exact va_mabs_long hx hb (by rw [hml]; exact hl.1.symm) hown (hts _ h1) (hts _ h2) (hts _ h3) (hts _ h4) (by omega) (by omega) (by omega) (by omega) hd (kk H locs ls hP hS hl)
theorem go_f2ib (hC : mt_Cx B E cc own ret nL d mc ms) {x : UInt32} {idx : Nat} (h1 : Cond.methodLink own idx ⟨"java/lang/Float", "floatToRawIntBits", "(F)I"⟩ ∈ mt_tb) (h2 : Cond.native ⟨"java/lang/Float", "floatToRawIntBits", "(F)I"⟩ ∈ mt_tb) (h3 : Cond.static ⟨"java/lang/Float", "floatToRawIntBits", "(F)I"⟩ ∈ mt_tb) (h4 : Cond.initialized "java/lang/Float" ∈ mt_tb) (hdd : 1 ≤ d) (hw : (st.map fun v => v.category).sum ≤ 8) (hd : decode cc pc = .ok (.invokestatic idx, 3)) (kk : mt_Go B E cs S (pc + 3) lv (.int x.toInt32 :: st)) : mt_Go B E cs S pc lv (.float x :: st) := by
  obtain ⟨l, D, cA, b⟩ := B
  obtain ⟨p, e, R, s, m, args, below, meth, c0, Q, nL'⟩ := E
  obtain ⟨hx, hb, hml, rfl, hown, hts, hK, hbs, hr, hlk, hrf, hrl, hrc, hrs⟩ := hC
  intro H locs ls hP hS hl
  exact vn_f2i hx hb (by rw [hml]; exact hl.1.symm) hown (hts _ h1) (hts _ h2) (hts _ h3) (hts _ h4) (by omega) (by omega) hd (kk H locs ls hP hS hl)
end mtGo
end
section
/-! the tables' words by their places: classes, fields, calls, constants -/
theorem mt_cf0 : mt_CF 0 RX0 TX0 11 tyX0 := ⟨rfl, by decide, rfl, mt_mems (by decide +kernel) (by decide +kernel), tyX0_ok, nmX0⟩
theorem mt_cf1 : mt_CF 1 RX1 TX1 7 tyX1 := ⟨rfl, by decide, rfl, mt_mems (by decide +kernel) (by decide +kernel), tyX1_ok, nmX1⟩
theorem mt_cf2 : mt_CF 2 RX2 TX2 3 tyX2 := ⟨rfl, by decide, rfl, mt_mems (by decide +kernel) (by decide +kernel), tyX2_ok, nmX2⟩
theorem mt_cf3 : mt_CF 3 RX3 TX3 4 tyX3 := ⟨rfl, by decide, rfl, mt_mems (by decide +kernel) (by decide +kernel), tyX3_ok, nmX3⟩
theorem mt_cf4 : mt_CF 4 RX4 TX4 5 tyX4 := ⟨rfl, by decide, rfl, mt_mems (by decide +kernel) (by decide +kernel), tyX4_ok, nmX4⟩
theorem mt_cf5 : mt_CF 5 RX5 TX5 2 tyX5 := ⟨rfl, by decide, rfl, mt_mems (by decide +kernel) (by decide +kernel), tyX5_ok, nmX5⟩
theorem mt_cf6 : mt_CF 6 RX6 TX6 7 tyX6 := ⟨rfl, by decide, rfl, mt_mems (by decide +kernel) (by decide +kernel), tyX6_ok, nmX6⟩
theorem mt_cf7 : mt_CF 7 RX7 TX7 2 tyX7 := ⟨rfl, by decide, rfl, mt_mems (by decide +kernel) (by decide +kernel), tyX7_ok, nmX7⟩
theorem mt_cf8 : mt_CF 8 RX8 TX8 3 tyX8 := ⟨rfl, by decide, rfl, mt_mems (by decide +kernel) (by decide +kernel), tyX8_ok, nmX8⟩
theorem mt_cf9 : mt_CF 9 RX9 TX9 4 tyX9 := ⟨rfl, by decide, rfl, mt_mems (by decide +kernel) (by decide +kernel), tyX9_ok, nmX9⟩
theorem mt_cf10 : mt_CF 10 RX10 TX10 10 tyX10 := ⟨rfl, by decide, rfl, mt_mems (by decide +kernel) (by decide +kernel), tyX10_ok, nmX10⟩
theorem mt_cf11 : mt_CF 11 RX11 TX11 39 tyX11 := ⟨rfl, by decide, rfl, mt_mems (by decide +kernel) (by decide +kernel), tyX11_ok, nmX11⟩
set_option maxRecDepth 20000 in
theorem mt_cdX10_init : Cond.code yX10_init cX10_init 2 none ∈ mt_tb := mt_mem (i := 87) rfl rfl
theorem mt_ciL_22 : mt_CI RL 22 yX10_init cX10_init 2 0 := ⟨⟨mt_mem (i := 85) (by decide +kernel) rfl, mt_cdX10_init, mt_mem (i := 63) (by decide +kernel) rfl, by decide, by decide +kernel, by decide +kernel, by decide +kernel⟩, rfl, mt_mem (i := 86) (by decide +kernel) rfl⟩
set_option maxRecDepth 20000 in
theorem mt_cdX7_init : Cond.code yX7_init cX7_init 1 none ∈ mt_tb := mt_mem (i := 95) rfl rfl
theorem mt_ciX10_9 : mt_CI RX10 9 yX7_init cX7_init 1 0 := ⟨⟨mt_mem (i := 93) (by decide +kernel) rfl, mt_cdX7_init, mt_mem (i := 64) (by decide +kernel) rfl, by decide, by decide +kernel, by decide +kernel, by decide +kernel⟩, rfl, mt_mem (i := 94) (by decide +kernel) rfl⟩
theorem mt_flX7_11 : mt_FL RX7 11 7 0 2 true (.array .byte) := ⟨RX7, TX7, 2, tyX7, mt_cf7, rfl, mt_mem (i := 97) (by decide +kernel) rfl, rfl, rfl, rfl⟩
theorem mt_flX7_15 : mt_FL RX7 15 7 1 0 false .int := ⟨RX7, TX7, 2, tyX7, mt_cf7, rfl, mt_mem (i := 98) (by decide +kernel) rfl, rfl, rfl, rfl⟩
set_option maxRecDepth 20000 in
theorem mt_cdX0_init : Cond.code yX0_init cX0_init 1 none ∈ mt_tb := mt_mem (i := 109) rfl rfl
theorem mt_ciX10_18 : mt_CI RX10 18 yX0_init cX0_init 1 0 := ⟨⟨mt_mem (i := 107) (by decide +kernel) rfl, mt_cdX0_init, mt_mem (i := 65) (by decide +kernel) rfl, by decide, by decide +kernel, by decide +kernel, by decide +kernel⟩, rfl, mt_mem (i := 108) (by decide +kernel) rfl⟩
theorem mt_flX0_9 : mt_FL RX0 9 0 0 2 true (.array .int) := ⟨RX0, TX0, 11, tyX0, mt_cf0, rfl, mt_mem (i := 111) (by decide +kernel) rfl, rfl, rfl, rfl⟩
theorem mt_flX0_13 : mt_FL RX0 13 0 1 2 true (.array .int) := ⟨RX0, TX0, 11, tyX0, mt_cf0, rfl, mt_mem (i := 112) (by decide +kernel) rfl, rfl, rfl, rfl⟩
theorem mt_flX0_16 : mt_FL RX0 16 0 2 2 true (.array .int) := ⟨RX0, TX0, 11, tyX0, mt_cf0, rfl, mt_mem (i := 113) (by decide +kernel) rfl, rfl, rfl, rfl⟩
theorem mt_flX0_19 : mt_FL RX0 19 0 3 2 true (.array .int) := ⟨RX0, TX0, 11, tyX0, mt_cf0, rfl, mt_mem (i := 114) (by decide +kernel) rfl, rfl, rfl, rfl⟩
theorem mt_flX0_22 : mt_FL RX0 22 0 4 2 true (.array .int) := ⟨RX0, TX0, 11, tyX0, mt_cf0, rfl, mt_mem (i := 115) (by decide +kernel) rfl, rfl, rfl, rfl⟩
theorem mt_flX0_32 : mt_FL RX0 32 0 5 0 false .int := ⟨RX0, TX0, 11, tyX0, mt_cf0, rfl, mt_mem (i := 116) (by decide +kernel) rfl, rfl, rfl, rfl⟩
theorem mt_flX0_35 : mt_FL RX0 35 0 6 0 false .int := ⟨RX0, TX0, 11, tyX0, mt_cf0, rfl, mt_mem (i := 117) (by decide +kernel) rfl, rfl, rfl, rfl⟩
theorem mt_flX0_38 : mt_FL RX0 38 0 7 0 false .boolean := ⟨RX0, TX0, 11, tyX0, mt_cf0, rfl, mt_mem (i := 118) (by decide +kernel) rfl, rfl, rfl, rfl⟩
theorem mt_flX0_42 : mt_FL RX0 42 0 8 0 false .int := ⟨RX0, TX0, 11, tyX0, mt_cf0, rfl, mt_mem (i := 119) (by decide +kernel) rfl, rfl, rfl, rfl⟩
theorem mt_flX0_25 : mt_FL RX0 25 0 9 0 false .int := ⟨RX0, TX0, 11, tyX0, mt_cf0, rfl, mt_mem (i := 120) (by decide +kernel) rfl, rfl, rfl, rfl⟩
theorem mt_flX0_29 : mt_FL RX0 29 0 10 0 false .int := ⟨RX0, TX0, 11, tyX0, mt_cf0, rfl, mt_mem (i := 121) (by decide +kernel) rfl, rfl, rfl, rfl⟩
set_option maxRecDepth 20000 in
theorem mt_cdX5_init : Cond.code yX5_init cX5_init 1 none ∈ mt_tb := mt_mem (i := 150) rfl rfl
theorem mt_ciX10_25 : mt_CI RX10 25 yX5_init cX5_init 1 0 := ⟨⟨mt_mem (i := 148) (by decide +kernel) rfl, mt_cdX5_init, mt_mem (i := 66) (by decide +kernel) rfl, by decide, by decide +kernel, by decide +kernel, by decide +kernel⟩, rfl, mt_mem (i := 149) (by decide +kernel) rfl⟩
set_option maxRecDepth 20000 in
theorem mt_cdX4_init : Cond.code yX4_init cX4_init 1 none ∈ mt_tb := mt_mem (i := 156) rfl rfl
theorem mt_ciX5_11 : mt_CI RX5 11 yX4_init cX4_init 1 0 := ⟨⟨mt_mem (i := 154) (by decide +kernel) rfl, mt_cdX4_init, mt_mem (i := 67) (by decide +kernel) rfl, by decide, by decide +kernel, by decide +kernel, by decide +kernel⟩, rfl, mt_mem (i := 155) (by decide +kernel) rfl⟩
set_option maxRecDepth 20000 in
theorem mt_cdX4_goHome : Cond.code yX4_goHome cX4_goHome 1 none ∈ mt_tb := mt_mem (i := 161) rfl rfl
theorem mt_cvX4_9 : mt_CV RX4 9 yX4_goHome cX4_goHome 1 none 0 4 := ⟨⟨mt_mem (i := 158) (by decide +kernel) rfl, mt_cdX4_goHome, mt_mem (i := 67) (by decide +kernel) rfl, by decide, by decide +kernel, by decide +kernel, by decide +kernel⟩, mt_mem (i := 159) (by decide +kernel) rfl, mt_mem (i := 160) (by decide +kernel) rfl, by decide, _, rfl, rfl⟩
theorem mt_flX4_14 : mt_FL RX4 14 4 0 0 false .int := ⟨RX4, TX4, 5, tyX4, mt_cf4, rfl, mt_mem (i := 162) (by decide +kernel) rfl, rfl, rfl, rfl⟩
theorem mt_flX4_18 : mt_FL RX4 18 4 1 0 false .int := ⟨RX4, TX4, 5, tyX4, mt_cf4, rfl, mt_mem (i := 163) (by decide +kernel) rfl, rfl, rfl, rfl⟩
theorem mt_flX4_21 : mt_FL RX4 21 4 2 0 false .int := ⟨RX4, TX4, 5, tyX4, mt_cf4, rfl, mt_mem (i := 164) (by decide +kernel) rfl, rfl, rfl, rfl⟩
theorem mt_flX4_24 : mt_FL RX4 24 4 3 0 false .int := ⟨RX4, TX4, 5, tyX4, mt_cf4, rfl, mt_mem (i := 165) (by decide +kernel) rfl, rfl, rfl, rfl⟩
theorem mt_flX4_27 : mt_FL RX4 27 4 4 0 false .int := ⟨RX4, TX4, 5, tyX4, mt_cf4, rfl, mt_mem (i := 166) (by decide +kernel) rfl, rfl, rfl, rfl⟩
set_option maxRecDepth 20000 in
theorem mt_cdX3_init : Cond.code yX3_init cX3_init 1 none ∈ mt_tb := mt_mem (i := 182) rfl rfl
theorem mt_ciX5_20 : mt_CI RX5 20 yX3_init cX3_init 1 0 := ⟨⟨mt_mem (i := 180) (by decide +kernel) rfl, mt_cdX3_init, mt_mem (i := 68) (by decide +kernel) rfl, by decide, by decide +kernel, by decide +kernel, by decide +kernel⟩, rfl, mt_mem (i := 181) (by decide +kernel) rfl⟩
theorem mt_flX3_9 : mt_FL RX3 9 3 0 2 true (.array .long) := ⟨RX3, TX3, 4, tyX3, mt_cf3, rfl, mt_mem (i := 184) (by decide +kernel) rfl, rfl, rfl, rfl⟩
theorem mt_flX3_15 : mt_FL RX3 15 3 1 2 true (.array .int) := ⟨RX3, TX3, 4, tyX3, mt_cf3, rfl, mt_mem (i := 185) (by decide +kernel) rfl, rfl, rfl, rfl⟩
theorem mt_flX3_19 : mt_FL RX3 19 3 2 2 true (.array .int) := ⟨RX3, TX3, 4, tyX3, mt_cf3, rfl, mt_mem (i := 186) (by decide +kernel) rfl, rfl, rfl, rfl⟩
theorem mt_flX3_22 : mt_FL RX3 22 3 3 0 false .int := ⟨RX3, TX3, 4, tyX3, mt_cf3, rfl, mt_mem (i := 187) (by decide +kernel) rfl, rfl, rfl, rfl⟩
theorem mt_flX5_12 : mt_FL RX5 12 5 0 2 true (.object "MarkovTree$Place") := ⟨RX5, TX5, 2, tyX5, mt_cf5, rfl, mt_mem (i := 198) (by decide +kernel) rfl, rfl, rfl, rfl⟩
theorem mt_flX5_21 : mt_FL RX5 21 5 1 2 true (.object "MarkovTree$Marks") := ⟨RX5, TX5, 2, tyX5, mt_cf5, rfl, mt_mem (i := 199) (by decide +kernel) rfl, rfl, rfl, rfl⟩
set_option maxRecDepth 20000 in
theorem mt_cdX2_init : Cond.code yX2_init cX2_init 2 none ∈ mt_tb := mt_mem (i := 209) rfl rfl
theorem mt_ciX10_32 : mt_CI RX10 32 yX2_init cX2_init 2 0 := ⟨⟨mt_mem (i := 207) (by decide +kernel) rfl, mt_cdX2_init, mt_mem (i := 69) (by decide +kernel) rfl, by decide, by decide +kernel, by decide +kernel, by decide +kernel⟩, rfl, mt_mem (i := 208) (by decide +kernel) rfl⟩
theorem mt_ciX2_17 : mt_CI RX2 17 yX5_init cX5_init 1 0 := ⟨⟨mt_mem (i := 213) (by decide +kernel) rfl, mt_cdX5_init, mt_mem (i := 66) (by decide +kernel) rfl, by decide, by decide +kernel, by decide +kernel, by decide +kernel⟩, rfl, mt_mem (i := 149) (by decide +kernel) rfl⟩
theorem mt_flX2_13 : mt_FL RX2 13 2 0 2 true (.array (.object "MarkovTree$State")) := ⟨RX2, TX2, 3, tyX2, mt_cf2, rfl, mt_mem (i := 214) (by decide +kernel) rfl, rfl, rfl, rfl⟩
theorem mt_flX2_18 : mt_FL RX2 18 2 1 0 false .int := ⟨RX2, TX2, 3, tyX2, mt_cf2, rfl, mt_mem (i := 215) (by decide +kernel) rfl, rfl, rfl, rfl⟩
theorem mt_flX2_22 : mt_FL RX2 22 2 2 0 false .int := ⟨RX2, TX2, 3, tyX2, mt_cf2, rfl, mt_mem (i := 216) (by decide +kernel) rfl, rfl, rfl, rfl⟩
set_option maxRecDepth 20000 in
theorem mt_cdX8_init : Cond.code yX8_init cX8_init 1 none ∈ mt_tb := mt_mem (i := 228) rfl rfl
theorem mt_ciX10_47 : mt_CI RX10 47 yX8_init cX8_init 1 0 := ⟨⟨mt_mem (i := 226) (by decide +kernel) rfl, mt_cdX8_init, mt_mem (i := 70) (by decide +kernel) rfl, by decide, by decide +kernel, by decide +kernel, by decide +kernel⟩, rfl, mt_mem (i := 227) (by decide +kernel) rfl⟩
theorem mt_ciX8_17 : mt_CI RX8 17 yX4_init cX4_init 1 0 := ⟨⟨mt_mem (i := 231) (by decide +kernel) rfl, mt_cdX4_init, mt_mem (i := 67) (by decide +kernel) rfl, by decide, by decide +kernel, by decide +kernel, by decide +kernel⟩, rfl, mt_mem (i := 155) (by decide +kernel) rfl⟩
theorem mt_flX8_11 : mt_FL RX8 11 8 0 2 true (.array .byte) := ⟨RX8, TX8, 3, tyX8, mt_cf8, rfl, mt_mem (i := 232) (by decide +kernel) rfl, rfl, rfl, rfl⟩
theorem mt_flX8_18 : mt_FL RX8 18 8 1 2 true (.object "MarkovTree$Place") := ⟨RX8, TX8, 3, tyX8, mt_cf8, rfl, mt_mem (i := 233) (by decide +kernel) rfl, rfl, rfl, rfl⟩
theorem mt_flX8_22 : mt_FL RX8 22 8 2 0 false .int := ⟨RX8, TX8, 3, tyX8, mt_cf8, rfl, mt_mem (i := 234) (by decide +kernel) rfl, rfl, rfl, rfl⟩
set_option maxRecDepth 20000 in
theorem mt_cdX9_init : Cond.code yX9_init cX9_init 1 none ∈ mt_tb := mt_mem (i := 247) rfl rfl
theorem mt_ciX10_54 : mt_CI RX10 54 yX9_init cX9_init 1 0 := ⟨⟨mt_mem (i := 245) (by decide +kernel) rfl, mt_cdX9_init, mt_mem (i := 71) (by decide +kernel) rfl, by decide, by decide +kernel, by decide +kernel, by decide +kernel⟩, rfl, mt_mem (i := 246) (by decide +kernel) rfl⟩
set_option maxRecDepth 20000 in
theorem mt_cdX9_setTo : Cond.code yX9_setTo cX9_setTo 4 none ∈ mt_tb := mt_mem (i := 252) rfl rfl
theorem mt_cvX9_7 : mt_CV RX9 7 yX9_setTo cX9_setTo 4 none 2 9 := ⟨⟨mt_mem (i := 249) (by decide +kernel) rfl, mt_cdX9_setTo, mt_mem (i := 71) (by decide +kernel) rfl, by decide, by decide +kernel, by decide +kernel, by decide +kernel⟩, mt_mem (i := 250) (by decide +kernel) rfl, mt_mem (i := 251) (by decide +kernel) rfl, by decide, _, rfl, rfl⟩
set_option maxRecDepth 20000 in
theorem mt_cdX9_letterIsA : Cond.code yX9_letterIsA cX9_letterIsA 4 (some .boolean) ∈ mt_tb := mt_mem (i := 255) rfl rfl
theorem mt_csX9_26 : mt_CS RX9 26 yX9_letterIsA cX9_letterIsA 4 (some .boolean) 3 := ⟨⟨mt_mem (i := 253) (by decide +kernel) rfl, mt_cdX9_letterIsA, mt_mem (i := 71) (by decide +kernel) rfl, by decide, by decide +kernel, by decide +kernel, by decide +kernel⟩, mt_mem (i := 254) (by decide +kernel) rfl⟩
theorem mt_kX9_30 : Cond.constantLong RX9 30 (2) ∈ mt_tb := mt_mem (i := 256) (by decide +kernel) rfl
set_option maxRecDepth 20000 in
theorem mt_cdX9_multiply : Cond.code yX9_multiply cX9_multiply 11 none ∈ mt_tb := mt_mem (i := 260) rfl rfl
theorem mt_cvX9_32 : mt_CV RX9 32 yX9_multiply cX9_multiply 11 none 3 9 := ⟨⟨mt_mem (i := 257) (by decide +kernel) rfl, mt_cdX9_multiply, mt_mem (i := 71) (by decide +kernel) rfl, by decide, by decide +kernel, by decide +kernel, by decide +kernel⟩, mt_mem (i := 259) (by decide +kernel) rfl, mt_mem (i := 0) (by decide +kernel) rfl, by decide, _, rfl, rfl⟩
theorem mt_kX9_36 : Cond.constantLong RX9 36 (5) ∈ mt_tb := mt_mem (i := 261) (by decide +kernel) rfl
theorem mt_flX9_13 : mt_FL RX9 13 9 0 1 false .long := ⟨RX9, TX9, 4, tyX9, mt_cf9, rfl, mt_mem (i := 262) (by decide +kernel) rfl, rfl, rfl, rfl⟩
theorem mt_flX9_17 : mt_FL RX9 17 9 1 1 false .long := ⟨RX9, TX9, 4, tyX9, mt_cf9, rfl, mt_mem (i := 263) (by decide +kernel) rfl, rfl, rfl, rfl⟩
theorem mt_flX9_20 : mt_FL RX9 20 9 2 1 false .long := ⟨RX9, TX9, 4, tyX9, mt_cf9, rfl, mt_mem (i := 264) (by decide +kernel) rfl, rfl, rfl, rfl⟩
theorem mt_flX9_23 : mt_FL RX9 23 9 3 1 false .long := ⟨RX9, TX9, 4, tyX9, mt_cf9, rfl, mt_mem (i := 265) (by decide +kernel) rfl, rfl, rfl, rfl⟩
set_option maxRecDepth 20000 in
theorem mt_cdX1_init : Cond.code yX1_init cX1_init 1 none ∈ mt_tb := mt_mem (i := 279) rfl rfl
theorem mt_ciX10_61 : mt_CI RX10 61 yX1_init cX1_init 1 0 := ⟨⟨mt_mem (i := 277) (by decide +kernel) rfl, mt_cdX1_init, mt_mem (i := 72) (by decide +kernel) rfl, by decide, by decide +kernel, by decide +kernel, by decide +kernel⟩, rfl, mt_mem (i := 278) (by decide +kernel) rfl⟩
theorem mt_kX1_7 : Cond.constantLong RX1 7 (5) ∈ mt_tb := mt_mem (i := 281) (by decide +kernel) rfl
theorem mt_kX1_9 : Cond.constantLong RX1 9 (3) ∈ mt_tb := mt_mem (i := 282) (by decide +kernel) rfl
set_option maxRecDepth 20000 in
theorem mt_cdX1_set : Cond.code yX1_set cX1_set 7 none ∈ mt_tb := mt_mem (i := 286) rfl rfl
theorem mt_cvX1_11 : mt_CV RX1 11 yX1_set cX1_set 7 none 2 1 := ⟨⟨mt_mem (i := 283) (by decide +kernel) rfl, mt_cdX1_set, mt_mem (i := 72) (by decide +kernel) rfl, by decide, by decide +kernel, by decide +kernel, by decide +kernel⟩, mt_mem (i := 284) (by decide +kernel) rfl, mt_mem (i := 285) (by decide +kernel) rfl, by decide, _, rfl, rfl⟩
theorem mt_kX1_21 : Cond.constantLong RX1 21 (2) ∈ mt_tb := mt_mem (i := 287) (by decide +kernel) rfl
theorem mt_kX1_29 : Cond.constantLong RX1 29 (9) ∈ mt_tb := mt_mem (i := 288) (by decide +kernel) rfl
theorem mt_kX1_31 : Cond.constantLong RX1 31 (4) ∈ mt_tb := mt_mem (i := 289) (by decide +kernel) rfl
theorem mt_flX1_17 : mt_FL RX1 17 1 0 1 false .long := ⟨RX1, TX1, 7, tyX1, mt_cf1, rfl, mt_mem (i := 290) (by decide +kernel) rfl, rfl, rfl, rfl⟩
theorem mt_flX1_23 : mt_FL RX1 23 1 1 1 false .long := ⟨RX1, TX1, 7, tyX1, mt_cf1, rfl, mt_mem (i := 291) (by decide +kernel) rfl, rfl, rfl, rfl⟩
theorem mt_flX1_26 : mt_FL RX1 26 1 2 1 false .long := ⟨RX1, TX1, 7, tyX1, mt_cf1, rfl, mt_mem (i := 292) (by decide +kernel) rfl, rfl, rfl, rfl⟩
theorem mt_flX1_33 : mt_FL RX1 33 1 3 1 false .long := ⟨RX1, TX1, 7, tyX1, mt_cf1, rfl, mt_mem (i := 293) (by decide +kernel) rfl, rfl, rfl, rfl⟩
theorem mt_flX1_36 : mt_FL RX1 36 1 4 1 false .long := ⟨RX1, TX1, 7, tyX1, mt_cf1, rfl, mt_mem (i := 294) (by decide +kernel) rfl, rfl, rfl, rfl⟩
theorem mt_flX1_39 : mt_FL RX1 39 1 5 0 false .int := ⟨RX1, TX1, 7, tyX1, mt_cf1, rfl, mt_mem (i := 295) (by decide +kernel) rfl, rfl, rfl, rfl⟩
theorem mt_flX1_43 : mt_FL RX1 43 1 6 1 false .long := ⟨RX1, TX1, 7, tyX1, mt_cf1, rfl, mt_mem (i := 296) (by decide +kernel) rfl, rfl, rfl, rfl⟩
set_option maxRecDepth 20000 in
theorem mt_cdX6_init : Cond.code yX6_init cX6_init 1 none ∈ mt_tb := mt_mem (i := 316) rfl rfl
theorem mt_ciX10_68 : mt_CI RX10 68 yX6_init cX6_init 1 0 := ⟨⟨mt_mem (i := 314) (by decide +kernel) rfl, mt_cdX6_init, mt_mem (i := 73) (by decide +kernel) rfl, by decide, by decide +kernel, by decide +kernel, by decide +kernel⟩, rfl, mt_mem (i := 315) (by decide +kernel) rfl⟩
theorem mt_flX6_11 : mt_FL RX6 11 6 0 2 true (.array .long) := ⟨RX6, TX6, 7, tyX6, mt_cf6, rfl, mt_mem (i := 318) (by decide +kernel) rfl, rfl, rfl, rfl⟩
theorem mt_flX6_15 : mt_FL RX6 15 6 1 2 true (.array .long) := ⟨RX6, TX6, 7, tyX6, mt_cf6, rfl, mt_mem (i := 319) (by decide +kernel) rfl, rfl, rfl, rfl⟩
theorem mt_flX6_18 : mt_FL RX6 18 6 2 2 true (.array .long) := ⟨RX6, TX6, 7, tyX6, mt_cf6, rfl, mt_mem (i := 320) (by decide +kernel) rfl, rfl, rfl, rfl⟩
theorem mt_flX6_21 : mt_FL RX6 21 6 3 2 true (.array .int) := ⟨RX6, TX6, 7, tyX6, mt_cf6, rfl, mt_mem (i := 321) (by decide +kernel) rfl, rfl, rfl, rfl⟩
theorem mt_flX6_25 : mt_FL RX6 25 6 4 2 true (.array .long) := ⟨RX6, TX6, 7, tyX6, mt_cf6, rfl, mt_mem (i := 322) (by decide +kernel) rfl, rfl, rfl, rfl⟩
theorem mt_flX6_28 : mt_FL RX6 28 6 5 0 false .int := ⟨RX6, TX6, 7, tyX6, mt_cf6, rfl, mt_mem (i := 323) (by decide +kernel) rfl, rfl, rfl, rfl⟩
theorem mt_flX6_32 : mt_FL RX6 32 6 6 0 false .int := ⟨RX6, TX6, 7, tyX6, mt_cf6, rfl, mt_mem (i := 324) (by decide +kernel) rfl, rfl, rfl, rfl⟩
theorem mt_flX10_10 : mt_FL RX10 10 10 0 2 true (.object "MarkovTree$Tape") := ⟨RX10, TX10, 10, tyX10, mt_cf10, rfl, mt_mem (i := 340) (by decide +kernel) rfl, rfl, rfl, rfl⟩
theorem mt_flX10_19 : mt_FL RX10 19 10 1 2 true (.object "MarkovTree$Course") := ⟨RX10, TX10, 10, tyX10, mt_cf10, rfl, mt_mem (i := 341) (by decide +kernel) rfl, rfl, rfl, rfl⟩
theorem mt_flX10_26 : mt_FL RX10 26 10 2 2 true (.object "MarkovTree$State") := ⟨RX10, TX10, 10, tyX10, mt_cf10, rfl, mt_mem (i := 342) (by decide +kernel) rfl, rfl, rfl, rfl⟩
theorem mt_flX10_33 : mt_FL RX10 33 10 3 2 true (.object "MarkovTree$History") := ⟨RX10, TX10, 10, tyX10, mt_cf10, rfl, mt_mem (i := 343) (by decide +kernel) rfl, rfl, rfl, rfl⟩
theorem mt_flX10_37 : mt_FL RX10 37 10 4 2 true (.array (.object "MarkovTree$State")) := ⟨RX10, TX10, 10, tyX10, mt_cf10, rfl, mt_mem (i := 344) (by decide +kernel) rfl, rfl, rfl, rfl⟩
theorem mt_flX10_41 : mt_FL RX10 41 10 5 2 true (.array .boolean) := ⟨RX10, TX10, 10, tyX10, mt_cf10, rfl, mt_mem (i := 345) (by decide +kernel) rfl, rfl, rfl, rfl⟩
theorem mt_flX10_48 : mt_FL RX10 48 10 6 2 true (.object "MarkovTree$Telling") := ⟨RX10, TX10, 10, tyX10, mt_cf10, rfl, mt_mem (i := 346) (by decide +kernel) rfl, rfl, rfl, rfl⟩
theorem mt_flX10_55 : mt_FL RX10 55 10 7 2 true (.object "MarkovTree$Word") := ⟨RX10, TX10, 10, tyX10, mt_cf10, rfl, mt_mem (i := 347) (by decide +kernel) rfl, rfl, rfl, rfl⟩
theorem mt_flX10_62 : mt_FL RX10 62 10 8 2 true (.object "MarkovTree$Form") := ⟨RX10, TX10, 10, tyX10, mt_cf10, rfl, mt_mem (i := 348) (by decide +kernel) rfl, rfl, rfl, rfl⟩
theorem mt_flX10_69 : mt_FL RX10 69 10 9 2 true (.object "MarkovTree$Table") := ⟨RX10, TX10, 10, tyX10, mt_cf10, rfl, mt_mem (i := 349) (by decide +kernel) rfl, rfl, rfl, rfl⟩
set_option maxRecDepth 20000 in
theorem mt_cdX10_feed : Cond.code yX10_feed cX10_feed 6 (some .int) ∈ mt_tb := mt_mem (i := 374) rfl rfl
theorem mt_cvL_26 : mt_CV RL 26 yX10_feed cX10_feed 6 (some .int) 5 10 := ⟨⟨mt_mem (i := 371) (by decide +kernel) rfl, mt_cdX10_feed, mt_mem (i := 63) (by decide +kernel) rfl, by decide, by decide +kernel, by decide +kernel, by decide +kernel⟩, mt_mem (i := 372) (by decide +kernel) rfl, mt_mem (i := 373) (by decide +kernel) rfl, by decide, _, rfl, rfl⟩
set_option maxRecDepth 20000 in
theorem mt_cdX7_hasRoom : Cond.code yX7_hasRoom cX7_hasRoom 1 (some .boolean) ∈ mt_tb := mt_mem (i := 378) rfl rfl
theorem mt_cvX10_73 : mt_CV RX10 73 yX7_hasRoom cX7_hasRoom 1 (some .boolean) 0 7 := ⟨⟨mt_mem (i := 375) (by decide +kernel) rfl, mt_cdX7_hasRoom, mt_mem (i := 64) (by decide +kernel) rfl, by decide, by decide +kernel, by decide +kernel, by decide +kernel⟩, mt_mem (i := 376) (by decide +kernel) rfl, mt_mem (i := 377) (by decide +kernel) rfl, by decide, _, rfl, rfl⟩
set_option maxRecDepth 20000 in
theorem mt_cdX7_putNumber : Cond.code yX7_putNumber cX7_putNumber 3 none ∈ mt_tb := mt_mem (i := 382) rfl rfl
theorem mt_cvX10_77 : mt_CV RX10 77 yX7_putNumber cX7_putNumber 3 none 1 7 := ⟨⟨mt_mem (i := 379) (by decide +kernel) rfl, mt_cdX7_putNumber, mt_mem (i := 64) (by decide +kernel) rfl, by decide, by decide +kernel, by decide +kernel, by decide +kernel⟩, mt_mem (i := 380) (by decide +kernel) rfl, mt_mem (i := 381) (by decide +kernel) rfl, by decide, _, rfl, rfl⟩
set_option maxRecDepth 20000 in
theorem mt_cdX7_length : Cond.code yX7_length cX7_length 1 (some .int) ∈ mt_tb := mt_mem (i := 386) rfl rfl
theorem mt_cvX10_81 : mt_CV RX10 81 yX7_length cX7_length 1 (some .int) 0 7 := ⟨⟨mt_mem (i := 383) (by decide +kernel) rfl, mt_cdX7_length, mt_mem (i := 64) (by decide +kernel) rfl, by decide, by decide +kernel, by decide +kernel, by decide +kernel⟩, mt_mem (i := 384) (by decide +kernel) rfl, mt_mem (i := 385) (by decide +kernel) rfl, by decide, _, rfl, rfl⟩
set_option maxRecDepth 20000 in
theorem mt_cdX10_end : Cond.code yX10_end cX10_end 2 (some .boolean) ∈ mt_tb := mt_mem (i := 390) rfl rfl
theorem mt_cvL_31 : mt_CV RL 31 yX10_end cX10_end 2 (some .boolean) 1 10 := ⟨⟨mt_mem (i := 387) (by decide +kernel) rfl, mt_cdX10_end, mt_mem (i := 63) (by decide +kernel) rfl, by decide, by decide +kernel, by decide +kernel, by decide +kernel⟩, mt_mem (i := 388) (by decide +kernel) rfl, mt_mem (i := 389) (by decide +kernel) rfl, by decide, _, rfl, rfl⟩
set_option maxRecDepth 20000 in
theorem mt_cdX7_cutTo : Cond.code yX7_cutTo cX7_cutTo 2 (some .boolean) ∈ mt_tb := mt_mem (i := 394) rfl rfl
theorem mt_cvX10_85 : mt_CV RX10 85 yX7_cutTo cX7_cutTo 2 (some .boolean) 1 7 := ⟨⟨mt_mem (i := 391) (by decide +kernel) rfl, mt_cdX7_cutTo, mt_mem (i := 64) (by decide +kernel) rfl, by decide, by decide +kernel, by decide +kernel, by decide +kernel⟩, mt_mem (i := 392) (by decide +kernel) rfl, mt_mem (i := 393) (by decide +kernel) rfl, by decide, _, rfl, rfl⟩
set_option maxRecDepth 20000 in
theorem mt_cdX10_path : Cond.code yX10_path cX10_path 2 (some .int) ∈ mt_tb := mt_mem (i := 398) rfl rfl
theorem mt_cvL_36 : mt_CV RL 36 yX10_path cX10_path 2 (some .int) 0 10 := ⟨⟨mt_mem (i := 395) (by decide +kernel) rfl, mt_cdX10_path, mt_mem (i := 63) (by decide +kernel) rfl, by decide, by decide +kernel, by decide +kernel, by decide +kernel⟩, mt_mem (i := 396) (by decide +kernel) rfl, mt_mem (i := 397) (by decide +kernel) rfl, by decide, _, rfl, rfl⟩
set_option maxRecDepth 20000 in
theorem mt_cdX0_read : Cond.code yX0_read cX0_read 5 none ∈ mt_tb := mt_mem (i := 402) rfl rfl
theorem mt_cvX10_89 : mt_CV RX10 89 yX0_read cX0_read 5 none 1 0 := ⟨⟨mt_mem (i := 399) (by decide +kernel) rfl, mt_cdX0_read, mt_mem (i := 65) (by decide +kernel) rfl, by decide, by decide +kernel, by decide +kernel, by decide +kernel⟩, mt_mem (i := 400) (by decide +kernel) rfl, mt_mem (i := 401) (by decide +kernel) rfl, by decide, _, rfl, rfl⟩
theorem mt_cvX0_45 : mt_CV RX0 45 yX7_length cX7_length 1 (some .int) 0 7 := ⟨⟨mt_mem (i := 403) (by decide +kernel) rfl, mt_cdX7_length, mt_mem (i := 64) (by decide +kernel) rfl, by decide, by decide +kernel, by decide +kernel, by decide +kernel⟩, mt_mem (i := 384) (by decide +kernel) rfl, mt_mem (i := 385) (by decide +kernel) rfl, by decide, _, rfl, rfl⟩
set_option maxRecDepth 20000 in
theorem mt_cdX0_fail : Cond.code yX0_fail cX0_fail 3 none ∈ mt_tb := mt_mem (i := 407) rfl rfl
theorem mt_cvX0_51 : mt_CV RX0 51 yX0_fail cX0_fail 3 none 2 0 := ⟨⟨mt_mem (i := 404) (by decide +kernel) rfl, mt_cdX0_fail, mt_mem (i := 65) (by decide +kernel) rfl, by decide, by decide +kernel, by decide +kernel, by decide +kernel⟩, mt_mem (i := 406) (by decide +kernel) rfl, mt_mem (i := 1) (by decide +kernel) rfl, by decide, _, rfl, rfl⟩
set_option maxRecDepth 20000 in
theorem mt_cdX7_at : Cond.code yX7_at cX7_at 2 (some .int) ∈ mt_tb := mt_mem (i := 411) rfl rfl
theorem mt_cvX0_55 : mt_CV RX0 55 yX7_at cX7_at 2 (some .int) 1 7 := ⟨⟨mt_mem (i := 408) (by decide +kernel) rfl, mt_cdX7_at, mt_mem (i := 64) (by decide +kernel) rfl, by decide, by decide +kernel, by decide +kernel, by decide +kernel⟩, mt_mem (i := 409) (by decide +kernel) rfl, mt_mem (i := 410) (by decide +kernel) rfl, by decide, _, rfl, rfl⟩
set_option maxRecDepth 20000 in
theorem mt_cdX0_isDigit : Cond.code yX0_isDigit cX0_isDigit 1 (some .boolean) ∈ mt_tb := mt_mem (i := 414) rfl rfl
theorem mt_csX0_59 : mt_CS RX0 59 yX0_isDigit cX0_isDigit 1 (some .boolean) 1 := ⟨⟨mt_mem (i := 412) (by decide +kernel) rfl, mt_cdX0_isDigit, mt_mem (i := 65) (by decide +kernel) rfl, by decide, by decide +kernel, by decide +kernel, by decide +kernel⟩, mt_mem (i := 413) (by decide +kernel) rfl⟩
set_option maxRecDepth 20000 in
theorem mt_cdX0_readNumber : Cond.code yX0_readNumber cX0_readNumber 5 (some .int) ∈ mt_tb := mt_mem (i := 418) rfl rfl
theorem mt_cvX0_63 : mt_CV RX0 63 yX0_readNumber cX0_readNumber 5 (some .int) 2 0 := ⟨⟨mt_mem (i := 415) (by decide +kernel) rfl, mt_cdX0_readNumber, mt_mem (i := 65) (by decide +kernel) rfl, by decide, by decide +kernel, by decide +kernel, by decide +kernel⟩, mt_mem (i := 417) (by decide +kernel) rfl, mt_mem (i := 2) (by decide +kernel) rfl, by decide, _, rfl, rfl⟩
set_option maxRecDepth 20000 in
theorem mt_cdJ9_min_7cf53 : Cond.code yJ9_min_7cf53 cJ9_min_7cf53 2 (some .int) ∈ mt_tb := mt_mem (i := 421) rfl rfl
theorem mt_csX0_71 : mt_CS RX0 71 yJ9_min_7cf53 cJ9_min_7cf53 2 (some .int) 2 := ⟨⟨mt_mem (i := 419) (by decide +kernel) rfl, mt_cdJ9_min_7cf53, mt_mem (i := 75) (by decide +kernel) rfl, by decide, by decide +kernel, by decide +kernel, by decide +kernel⟩, mt_mem (i := 420) (by decide +kernel) rfl⟩
set_option maxRecDepth 20000 in
theorem mt_cdX0_readSign : Cond.code yX0_readSign cX0_readSign 3 (some .int) ∈ mt_tb := mt_mem (i := 425) rfl rfl
theorem mt_cvX0_67 : mt_CV RX0 67 yX0_readSign cX0_readSign 3 (some .int) 2 0 := ⟨⟨mt_mem (i := 422) (by decide +kernel) rfl, mt_cdX0_readSign, mt_mem (i := 65) (by decide +kernel) rfl, by decide, by decide +kernel, by decide +kernel, by decide +kernel⟩, mt_mem (i := 424) (by decide +kernel) rfl, mt_mem (i := 3) (by decide +kernel) rfl, by decide, _, rfl, rfl⟩
set_option maxRecDepth 20000 in
theorem mt_cdX0_putAct : Cond.code yX0_putAct cX0_putAct 3 none ∈ mt_tb := mt_mem (i := 429) rfl rfl
theorem mt_cvX0_76 : mt_CV RX0 76 yX0_putAct cX0_putAct 3 none 2 0 := ⟨⟨mt_mem (i := 426) (by decide +kernel) rfl, mt_cdX0_putAct, mt_mem (i := 65) (by decide +kernel) rfl, by decide, by decide +kernel, by decide +kernel, by decide +kernel⟩, mt_mem (i := 428) (by decide +kernel) rfl, mt_mem (i := 4) (by decide +kernel) rfl, by decide, _, rfl, rfl⟩
set_option maxRecDepth 20000 in
theorem mt_cdX0_openBracket : Cond.code yX0_openBracket cX0_openBracket 2 none ∈ mt_tb := mt_mem (i := 433) rfl rfl
theorem mt_cvX0_79 : mt_CV RX0 79 yX0_openBracket cX0_openBracket 2 none 1 0 := ⟨⟨mt_mem (i := 430) (by decide +kernel) rfl, mt_cdX0_openBracket, mt_mem (i := 65) (by decide +kernel) rfl, by decide, by decide +kernel, by decide +kernel, by decide +kernel⟩, mt_mem (i := 432) (by decide +kernel) rfl, mt_mem (i := 5) (by decide +kernel) rfl, by decide, _, rfl, rfl⟩
set_option maxRecDepth 20000 in
theorem mt_cdX0_closeBracket : Cond.code yX0_closeBracket cX0_closeBracket 3 none ∈ mt_tb := mt_mem (i := 437) rfl rfl
theorem mt_cvX0_83 : mt_CV RX0 83 yX0_closeBracket cX0_closeBracket 3 none 1 0 := ⟨⟨mt_mem (i := 434) (by decide +kernel) rfl, mt_cdX0_closeBracket, mt_mem (i := 65) (by decide +kernel) rfl, by decide, by decide +kernel, by decide +kernel, by decide +kernel⟩, mt_mem (i := 436) (by decide +kernel) rfl, mt_mem (i := 6) (by decide +kernel) rfl, by decide, _, rfl, rfl⟩
set_option maxRecDepth 20000 in
theorem mt_cdX0_faultKind : Cond.code yX0_faultKind cX0_faultKind 1 (some .int) ∈ mt_tb := mt_mem (i := 441) rfl rfl
theorem mt_cvX10_93 : mt_CV RX10 93 yX0_faultKind cX0_faultKind 1 (some .int) 0 0 := ⟨⟨mt_mem (i := 438) (by decide +kernel) rfl, mt_cdX0_faultKind, mt_mem (i := 65) (by decide +kernel) rfl, by decide, by decide +kernel, by decide +kernel, by decide +kernel⟩, mt_mem (i := 439) (by decide +kernel) rfl, mt_mem (i := 440) (by decide +kernel) rfl, by decide, _, rfl, rfl⟩
set_option maxRecDepth 20000 in
theorem mt_cdX0_faultPlace : Cond.code yX0_faultPlace cX0_faultPlace 1 (some .int) ∈ mt_tb := mt_mem (i := 445) rfl rfl
theorem mt_cvX10_96 : mt_CV RX10 96 yX0_faultPlace cX0_faultPlace 1 (some .int) 0 0 := ⟨⟨mt_mem (i := 442) (by decide +kernel) rfl, mt_cdX0_faultPlace, mt_mem (i := 65) (by decide +kernel) rfl, by decide, by decide +kernel, by decide +kernel, by decide +kernel⟩, mt_mem (i := 443) (by decide +kernel) rfl, mt_mem (i := 444) (by decide +kernel) rfl, by decide, _, rfl, rfl⟩
set_option maxRecDepth 20000 in
theorem mt_cdX2_note : Cond.code yX2_note cX2_note 2 none ∈ mt_tb := mt_mem (i := 449) rfl rfl
theorem mt_cvX10_99 : mt_CV RX10 99 yX2_note cX2_note 2 none 1 2 := ⟨⟨mt_mem (i := 446) (by decide +kernel) rfl, mt_cdX2_note, mt_mem (i := 69) (by decide +kernel) rfl, by decide, by decide +kernel, by decide +kernel, by decide +kernel⟩, mt_mem (i := 447) (by decide +kernel) rfl, mt_mem (i := 448) (by decide +kernel) rfl, by decide, _, rfl, rfl⟩
set_option maxRecDepth 20000 in
theorem mt_cdX5_copyFrom : Cond.code yX5_copyFrom cX5_copyFrom 2 none ∈ mt_tb := mt_mem (i := 453) rfl rfl
theorem mt_cvX2_25 : mt_CV RX2 25 yX5_copyFrom cX5_copyFrom 2 none 1 5 := ⟨⟨mt_mem (i := 450) (by decide +kernel) rfl, mt_cdX5_copyFrom, mt_mem (i := 66) (by decide +kernel) rfl, by decide, by decide +kernel, by decide +kernel, by decide +kernel⟩, mt_mem (i := 451) (by decide +kernel) rfl, mt_mem (i := 452) (by decide +kernel) rfl, by decide, _, rfl, rfl⟩
set_option maxRecDepth 20000 in
theorem mt_cdX4_copyFrom : Cond.code yX4_copyFrom cX4_copyFrom 2 none ∈ mt_tb := mt_mem (i := 457) rfl rfl
theorem mt_cvX5_36 : mt_CV RX5 36 yX4_copyFrom cX4_copyFrom 2 none 1 4 := ⟨⟨mt_mem (i := 454) (by decide +kernel) rfl, mt_cdX4_copyFrom, mt_mem (i := 67) (by decide +kernel) rfl, by decide, by decide +kernel, by decide +kernel, by decide +kernel⟩, mt_mem (i := 455) (by decide +kernel) rfl, mt_mem (i := 456) (by decide +kernel) rfl, by decide, _, rfl, rfl⟩
set_option maxRecDepth 20000 in
theorem mt_cdX3_copyFrom : Cond.code yX3_copyFrom cX3_copyFrom 3 none ∈ mt_tb := mt_mem (i := 461) rfl rfl
theorem mt_cvX5_40 : mt_CV RX5 40 yX3_copyFrom cX3_copyFrom 3 none 1 3 := ⟨⟨mt_mem (i := 458) (by decide +kernel) rfl, mt_cdX3_copyFrom, mt_mem (i := 68) (by decide +kernel) rfl, by decide, by decide +kernel, by decide +kernel, by decide +kernel⟩, mt_mem (i := 459) (by decide +kernel) rfl, mt_mem (i := 460) (by decide +kernel) rfl, by decide, _, rfl, rfl⟩
set_option maxRecDepth 20000 in
theorem mt_cdX3_copyRow : Cond.code yX3_copyRow cX3_copyRow 4 none ∈ mt_tb := mt_mem (i := 465) rfl rfl
theorem mt_cvX3_26 : mt_CV RX3 26 yX3_copyRow cX3_copyRow 4 none 3 3 := ⟨⟨mt_mem (i := 462) (by decide +kernel) rfl, mt_cdX3_copyRow, mt_mem (i := 68) (by decide +kernel) rfl, by decide, by decide +kernel, by decide +kernel, by decide +kernel⟩, mt_mem (i := 464) (by decide +kernel) rfl, mt_mem (i := 7) (by decide +kernel) rfl, by decide, _, rfl, rfl⟩
set_option maxRecDepth 20000 in
theorem mt_cdX5_place : Cond.code yX5_place cX5_place 1 (some (.object "MarkovTree$Place")) ∈ mt_tb := mt_mem (i := 469) rfl rfl
theorem mt_cvX10_103 : mt_CV RX10 103 yX5_place cX5_place 1 (some (.object "MarkovTree$Place")) 0 5 := ⟨⟨mt_mem (i := 466) (by decide +kernel) rfl, mt_cdX5_place, mt_mem (i := 66) (by decide +kernel) rfl, by decide, by decide +kernel, by decide +kernel, by decide +kernel⟩, mt_mem (i := 467) (by decide +kernel) rfl, mt_mem (i := 468) (by decide +kernel) rfl, by decide, _, rfl, rfl⟩
set_option maxRecDepth 20000 in
theorem mt_cdX0_run : Cond.code yX0_run cX0_run 7 (some .int) ∈ mt_tb := mt_mem (i := 473) rfl rfl
theorem mt_cvX10_107 : mt_CV RX10 107 yX0_run cX0_run 7 (some .int) 1 0 := ⟨⟨mt_mem (i := 470) (by decide +kernel) rfl, mt_cdX0_run, mt_mem (i := 65) (by decide +kernel) rfl, by decide, by decide +kernel, by decide +kernel, by decide +kernel⟩, mt_mem (i := 471) (by decide +kernel) rfl, mt_mem (i := 472) (by decide +kernel) rfl, by decide, _, rfl, rfl⟩
theorem mt_kX0_86 : Cond.constant RX0 86 (1000000) ∈ mt_tb := mt_mem (i := 474) (by decide +kernel) rfl
set_option maxRecDepth 20000 in
theorem mt_cdX0_afterBracket : Cond.code yX0_afterBracket cX0_afterBracket 2 (some .int) ∈ mt_tb := mt_mem (i := 478) rfl rfl
theorem mt_cvX0_87 : mt_CV RX0 87 yX0_afterBracket cX0_afterBracket 2 (some .int) 1 0 := ⟨⟨mt_mem (i := 475) (by decide +kernel) rfl, mt_cdX0_afterBracket, mt_mem (i := 65) (by decide +kernel) rfl, by decide, by decide +kernel, by decide +kernel, by decide +kernel⟩, mt_mem (i := 477) (by decide +kernel) rfl, mt_mem (i := 8) (by decide +kernel) rfl, by decide, _, rfl, rfl⟩
set_option maxRecDepth 20000 in
theorem mt_cdX0_doOften : Cond.code yX0_doOften cX0_doOften 4 (some .int) ∈ mt_tb := mt_mem (i := 481) rfl rfl
theorem mt_csX0_90 : mt_CS RX0 90 yX0_doOften cX0_doOften 4 (some .int) 3 := ⟨⟨mt_mem (i := 479) (by decide +kernel) rfl, mt_cdX0_doOften, mt_mem (i := 65) (by decide +kernel) rfl, by decide, by decide +kernel, by decide +kernel, by decide +kernel⟩, mt_mem (i := 480) (by decide +kernel) rfl⟩
set_option maxRecDepth 20000 in
theorem mt_cdX0_doOnce : Cond.code yX0_doOnce cX0_doOnce 2 (some .boolean) ∈ mt_tb := mt_mem (i := 484) rfl rfl
theorem mt_csX0_94 : mt_CS RX0 94 yX0_doOnce cX0_doOnce 2 (some .boolean) 2 := ⟨⟨mt_mem (i := 482) (by decide +kernel) rfl, mt_cdX0_doOnce, mt_mem (i := 65) (by decide +kernel) rfl, by decide, by decide +kernel, by decide +kernel, by decide +kernel⟩, mt_mem (i := 483) (by decide +kernel) rfl⟩
set_option maxRecDepth 20000 in
theorem mt_cdX4_stepLeft : Cond.code yX4_stepLeft cX4_stepLeft 1 (some .boolean) ∈ mt_tb := mt_mem (i := 488) rfl rfl
theorem mt_cvX0_98 : mt_CV RX0 98 yX4_stepLeft cX4_stepLeft 1 (some .boolean) 0 4 := ⟨⟨mt_mem (i := 485) (by decide +kernel) rfl, mt_cdX4_stepLeft, mt_mem (i := 67) (by decide +kernel) rfl, by decide, by decide +kernel, by decide +kernel, by decide +kernel⟩, mt_mem (i := 486) (by decide +kernel) rfl, mt_mem (i := 487) (by decide +kernel) rfl, by decide, _, rfl, rfl⟩
set_option maxRecDepth 20000 in
theorem mt_cdX4_together : Cond.code yX4_together cX4_together 1 (some .int) ∈ mt_tb := mt_mem (i := 492) rfl rfl
theorem mt_cvX4_37 : mt_CV RX4 37 yX4_together cX4_together 1 (some .int) 0 4 := ⟨⟨mt_mem (i := 489) (by decide +kernel) rfl, mt_cdX4_together, mt_mem (i := 67) (by decide +kernel) rfl, by decide, by decide +kernel, by decide +kernel, by decide +kernel⟩, mt_mem (i := 490) (by decide +kernel) rfl, mt_mem (i := 491) (by decide +kernel) rfl, by decide, _, rfl, rfl⟩
set_option maxRecDepth 20000 in
theorem mt_cdX4_p : Cond.code yX4_p cX4_p 1 (some .int) ∈ mt_tb := mt_mem (i := 496) rfl rfl
theorem mt_cvX4_30 : mt_CV RX4 30 yX4_p cX4_p 1 (some .int) 0 4 := ⟨⟨mt_mem (i := 493) (by decide +kernel) rfl, mt_cdX4_p, mt_mem (i := 67) (by decide +kernel) rfl, by decide, by decide +kernel, by decide +kernel, by decide +kernel⟩, mt_mem (i := 494) (by decide +kernel) rfl, mt_mem (i := 495) (by decide +kernel) rfl, by decide, _, rfl, rfl⟩
set_option maxRecDepth 20000 in
theorem mt_cdX4_q : Cond.code yX4_q cX4_q 1 (some .int) ∈ mt_tb := mt_mem (i := 500) rfl rfl
theorem mt_cvX4_34 : mt_CV RX4 34 yX4_q cX4_q 1 (some .int) 0 4 := ⟨⟨mt_mem (i := 497) (by decide +kernel) rfl, mt_cdX4_q, mt_mem (i := 67) (by decide +kernel) rfl, by decide, by decide +kernel, by decide +kernel, by decide +kernel⟩, mt_mem (i := 498) (by decide +kernel) rfl, mt_mem (i := 499) (by decide +kernel) rfl, by decide, _, rfl, rfl⟩
set_option maxRecDepth 20000 in
theorem mt_cdX4_stepRight : Cond.code yX4_stepRight cX4_stepRight 1 (some .boolean) ∈ mt_tb := mt_mem (i := 504) rfl rfl
theorem mt_cvX0_104 : mt_CV RX0 104 yX4_stepRight cX4_stepRight 1 (some .boolean) 0 4 := ⟨⟨mt_mem (i := 501) (by decide +kernel) rfl, mt_cdX4_stepRight, mt_mem (i := 67) (by decide +kernel) rfl, by decide, by decide +kernel, by decide +kernel, by decide +kernel⟩, mt_mem (i := 502) (by decide +kernel) rfl, mt_mem (i := 503) (by decide +kernel) rfl, by decide, _, rfl, rfl⟩
set_option maxRecDepth 20000 in
theorem mt_cdX4_stepUp : Cond.code yX4_stepUp cX4_stepUp 1 (some .boolean) ∈ mt_tb := mt_mem (i := 508) rfl rfl
theorem mt_cvX0_107 : mt_CV RX0 107 yX4_stepUp cX4_stepUp 1 (some .boolean) 0 4 := ⟨⟨mt_mem (i := 505) (by decide +kernel) rfl, mt_cdX4_stepUp, mt_mem (i := 67) (by decide +kernel) rfl, by decide, by decide +kernel, by decide +kernel, by decide +kernel⟩, mt_mem (i := 506) (by decide +kernel) rfl, mt_mem (i := 507) (by decide +kernel) rfl, by decide, _, rfl, rfl⟩
theorem mt_cvX0_110 : mt_CV RX0 110 yX4_goHome cX4_goHome 1 none 0 4 := ⟨⟨mt_mem (i := 509) (by decide +kernel) rfl, mt_cdX4_goHome, mt_mem (i := 67) (by decide +kernel) rfl, by decide, by decide +kernel, by decide +kernel, by decide +kernel⟩, mt_mem (i := 159) (by decide +kernel) rfl, mt_mem (i := 160) (by decide +kernel) rfl, by decide, _, rfl, rfl⟩
set_option maxRecDepth 20000 in
theorem mt_cdX2_keep : Cond.code yX2_keep cX2_keep 1 none ∈ mt_tb := mt_mem (i := 513) rfl rfl
theorem mt_cvX10_111 : mt_CV RX10 111 yX2_keep cX2_keep 1 none 0 2 := ⟨⟨mt_mem (i := 510) (by decide +kernel) rfl, mt_cdX2_keep, mt_mem (i := 69) (by decide +kernel) rfl, by decide, by decide +kernel, by decide +kernel, by decide +kernel⟩, mt_mem (i := 511) (by decide +kernel) rfl, mt_mem (i := 512) (by decide +kernel) rfl, by decide, _, rfl, rfl⟩
theorem mt_csX2_29 : mt_CS RX2 29 yJ9_min_7cf53 cJ9_min_7cf53 2 (some .int) 2 := ⟨⟨mt_mem (i := 514) (by decide +kernel) rfl, mt_cdJ9_min_7cf53, mt_mem (i := 75) (by decide +kernel) rfl, by decide, by decide +kernel, by decide +kernel, by decide +kernel⟩, mt_mem (i := 420) (by decide +kernel) rfl⟩
set_option maxRecDepth 20000 in
theorem mt_cdX10_fault : Cond.code yX10_fault cX10_fault 1 (some .int) ∈ mt_tb := mt_mem (i := 518) rfl rfl
theorem mt_cvL_41 : mt_CV RL 41 yX10_fault cX10_fault 1 (some .int) 0 10 := ⟨⟨mt_mem (i := 515) (by decide +kernel) rfl, mt_cdX10_fault, mt_mem (i := 63) (by decide +kernel) rfl, by decide, by decide +kernel, by decide +kernel, by decide +kernel⟩, mt_mem (i := 516) (by decide +kernel) rfl, mt_mem (i := 517) (by decide +kernel) rfl, by decide, _, rfl, rfl⟩
set_option maxRecDepth 20000 in
theorem mt_cdX10_now : Cond.code yX10_now cX10_now 3 (some .int) ∈ mt_tb := mt_mem (i := 522) rfl rfl
theorem mt_cvL_45 : mt_CV RL 45 yX10_now cX10_now 3 (some .int) 1 10 := ⟨⟨mt_mem (i := 519) (by decide +kernel) rfl, mt_cdX10_now, mt_mem (i := 63) (by decide +kernel) rfl, by decide, by decide +kernel, by decide +kernel, by decide +kernel⟩, mt_mem (i := 520) (by decide +kernel) rfl, mt_mem (i := 521) (by decide +kernel) rfl, by decide, _, rfl, rfl⟩
theorem mt_cvX10_114 : mt_CV RX10 114 yX4_p cX4_p 1 (some .int) 0 4 := ⟨⟨mt_mem (i := 523) (by decide +kernel) rfl, mt_cdX4_p, mt_mem (i := 67) (by decide +kernel) rfl, by decide, by decide +kernel, by decide +kernel, by decide +kernel⟩, mt_mem (i := 494) (by decide +kernel) rfl, mt_mem (i := 495) (by decide +kernel) rfl, by decide, _, rfl, rfl⟩
theorem mt_cvX10_119 : mt_CV RX10 119 yX4_q cX4_q 1 (some .int) 0 4 := ⟨⟨mt_mem (i := 524) (by decide +kernel) rfl, mt_cdX4_q, mt_mem (i := 67) (by decide +kernel) rfl, by decide, by decide +kernel, by decide +kernel, by decide +kernel⟩, mt_mem (i := 498) (by decide +kernel) rfl, mt_mem (i := 499) (by decide +kernel) rfl, by decide, _, rfl, rfl⟩
set_option maxRecDepth 20000 in
theorem mt_cdX4_lowP : Cond.code yX4_lowP cX4_lowP 1 (some .int) ∈ mt_tb := mt_mem (i := 528) rfl rfl
theorem mt_cvX10_122 : mt_CV RX10 122 yX4_lowP cX4_lowP 1 (some .int) 0 4 := ⟨⟨mt_mem (i := 525) (by decide +kernel) rfl, mt_cdX4_lowP, mt_mem (i := 67) (by decide +kernel) rfl, by decide, by decide +kernel, by decide +kernel, by decide +kernel⟩, mt_mem (i := 526) (by decide +kernel) rfl, mt_mem (i := 527) (by decide +kernel) rfl, by decide, _, rfl, rfl⟩
set_option maxRecDepth 20000 in
theorem mt_cdX4_lowQ : Cond.code yX4_lowQ cX4_lowQ 1 (some .int) ∈ mt_tb := mt_mem (i := 532) rfl rfl
theorem mt_cvX10_125 : mt_CV RX10 125 yX4_lowQ cX4_lowQ 1 (some .int) 0 4 := ⟨⟨mt_mem (i := 529) (by decide +kernel) rfl, mt_cdX4_lowQ, mt_mem (i := 67) (by decide +kernel) rfl, by decide, by decide +kernel, by decide +kernel, by decide +kernel⟩, mt_mem (i := 530) (by decide +kernel) rfl, mt_mem (i := 531) (by decide +kernel) rfl, by decide, _, rfl, rfl⟩
set_option maxRecDepth 20000 in
theorem mt_cdX4_highP : Cond.code yX4_highP cX4_highP 1 (some .int) ∈ mt_tb := mt_mem (i := 536) rfl rfl
theorem mt_cvX10_128 : mt_CV RX10 128 yX4_highP cX4_highP 1 (some .int) 0 4 := ⟨⟨mt_mem (i := 533) (by decide +kernel) rfl, mt_cdX4_highP, mt_mem (i := 67) (by decide +kernel) rfl, by decide, by decide +kernel, by decide +kernel, by decide +kernel⟩, mt_mem (i := 534) (by decide +kernel) rfl, mt_mem (i := 535) (by decide +kernel) rfl, by decide, _, rfl, rfl⟩
set_option maxRecDepth 20000 in
theorem mt_cdX4_highQ : Cond.code yX4_highQ cX4_highQ 1 (some .int) ∈ mt_tb := mt_mem (i := 540) rfl rfl
theorem mt_cvX10_131 : mt_CV RX10 131 yX4_highQ cX4_highQ 1 (some .int) 0 4 := ⟨⟨mt_mem (i := 537) (by decide +kernel) rfl, mt_cdX4_highQ, mt_mem (i := 67) (by decide +kernel) rfl, by decide, by decide +kernel, by decide +kernel, by decide +kernel⟩, mt_mem (i := 538) (by decide +kernel) rfl, mt_mem (i := 539) (by decide +kernel) rfl, by decide, _, rfl, rfl⟩
set_option maxRecDepth 20000 in
theorem mt_cdX4_steps : Cond.code yX4_steps cX4_steps 1 (some .int) ∈ mt_tb := mt_mem (i := 544) rfl rfl
theorem mt_cvX10_134 : mt_CV RX10 134 yX4_steps cX4_steps 1 (some .int) 0 4 := ⟨⟨mt_mem (i := 541) (by decide +kernel) rfl, mt_cdX4_steps, mt_mem (i := 67) (by decide +kernel) rfl, by decide, by decide +kernel, by decide +kernel, by decide +kernel⟩, mt_mem (i := 542) (by decide +kernel) rfl, mt_mem (i := 543) (by decide +kernel) rfl, by decide, _, rfl, rfl⟩
set_option maxRecDepth 20000 in
theorem mt_cdX5_marks : Cond.code yX5_marks cX5_marks 1 (some (.object "MarkovTree$Marks")) ∈ mt_tb := mt_mem (i := 548) rfl rfl
theorem mt_cvX10_137 : mt_CV RX10 137 yX5_marks cX5_marks 1 (some (.object "MarkovTree$Marks")) 0 5 := ⟨⟨mt_mem (i := 545) (by decide +kernel) rfl, mt_cdX5_marks, mt_mem (i := 66) (by decide +kernel) rfl, by decide, by decide +kernel, by decide +kernel, by decide +kernel⟩, mt_mem (i := 546) (by decide +kernel) rfl, mt_mem (i := 547) (by decide +kernel) rfl, by decide, _, rfl, rfl⟩
set_option maxRecDepth 20000 in
theorem mt_cdX3_size : Cond.code yX3_size cX3_size 1 (some .int) ∈ mt_tb := mt_mem (i := 552) rfl rfl
theorem mt_cvX10_141 : mt_CV RX10 141 yX3_size cX3_size 1 (some .int) 0 3 := ⟨⟨mt_mem (i := 549) (by decide +kernel) rfl, mt_cdX3_size, mt_mem (i := 68) (by decide +kernel) rfl, by decide, by decide +kernel, by decide +kernel, by decide +kernel⟩, mt_mem (i := 550) (by decide +kernel) rfl, mt_mem (i := 551) (by decide +kernel) rfl, by decide, _, rfl, rfl⟩
set_option maxRecDepth 20000 in
theorem mt_cdX2_size : Cond.code yX2_size cX2_size 1 (some .int) ∈ mt_tb := mt_mem (i := 556) rfl rfl
theorem mt_cvX10_146 : mt_CV RX10 146 yX2_size cX2_size 1 (some .int) 0 2 := ⟨⟨mt_mem (i := 553) (by decide +kernel) rfl, mt_cdX2_size, mt_mem (i := 69) (by decide +kernel) rfl, by decide, by decide +kernel, by decide +kernel, by decide +kernel⟩, mt_mem (i := 554) (by decide +kernel) rfl, mt_mem (i := 555) (by decide +kernel) rfl, by decide, _, rfl, rfl⟩
set_option maxRecDepth 20000 in
theorem mt_cdX10_left : Cond.code yX10_left cX10_left 1 (some .int) ∈ mt_tb := mt_mem (i := 560) rfl rfl
theorem mt_cvL_50 : mt_CV RL 50 yX10_left cX10_left 1 (some .int) 0 10 := ⟨⟨mt_mem (i := 557) (by decide +kernel) rfl, mt_cdX10_left, mt_mem (i := 63) (by decide +kernel) rfl, by decide, by decide +kernel, by decide +kernel, by decide +kernel⟩, mt_mem (i := 558) (by decide +kernel) rfl, mt_mem (i := 559) (by decide +kernel) rfl, by decide, _, rfl, rfl⟩
theorem mt_cvX10_147 : mt_CV RX10 147 yX4_stepLeft cX4_stepLeft 1 (some .boolean) 0 4 := ⟨⟨mt_mem (i := 561) (by decide +kernel) rfl, mt_cdX4_stepLeft, mt_mem (i := 67) (by decide +kernel) rfl, by decide, by decide +kernel, by decide +kernel, by decide +kernel⟩, mt_mem (i := 486) (by decide +kernel) rfl, mt_mem (i := 487) (by decide +kernel) rfl, by decide, _, rfl, rfl⟩
set_option maxRecDepth 20000 in
theorem mt_cdX10_stepped : Cond.code yX10_stepped cX10_stepped 2 (some .int) ∈ mt_tb := mt_mem (i := 565) rfl rfl
theorem mt_cvX10_150 : mt_CV RX10 150 yX10_stepped cX10_stepped 2 (some .int) 1 10 := ⟨⟨mt_mem (i := 562) (by decide +kernel) rfl, mt_cdX10_stepped, mt_mem (i := 63) (by decide +kernel) rfl, by decide, by decide +kernel, by decide +kernel, by decide +kernel⟩, mt_mem (i := 564) (by decide +kernel) rfl, mt_mem (i := 9) (by decide +kernel) rfl, by decide, _, rfl, rfl⟩
theorem mt_cvX10_168 : mt_CV RX10 168 yX4_together cX4_together 1 (some .int) 0 4 := ⟨⟨mt_mem (i := 566) (by decide +kernel) rfl, mt_cdX4_together, mt_mem (i := 67) (by decide +kernel) rfl, by decide, by decide +kernel, by decide +kernel, by decide +kernel⟩, mt_mem (i := 490) (by decide +kernel) rfl, mt_mem (i := 491) (by decide +kernel) rfl, by decide, _, rfl, rfl⟩
set_option maxRecDepth 20000 in
theorem mt_cdX10_right : Cond.code yX10_right cX10_right 1 (some .int) ∈ mt_tb := mt_mem (i := 570) rfl rfl
theorem mt_cvL_54 : mt_CV RL 54 yX10_right cX10_right 1 (some .int) 0 10 := ⟨⟨mt_mem (i := 567) (by decide +kernel) rfl, mt_cdX10_right, mt_mem (i := 63) (by decide +kernel) rfl, by decide, by decide +kernel, by decide +kernel, by decide +kernel⟩, mt_mem (i := 568) (by decide +kernel) rfl, mt_mem (i := 569) (by decide +kernel) rfl, by decide, _, rfl, rfl⟩
theorem mt_cvX10_154 : mt_CV RX10 154 yX4_stepRight cX4_stepRight 1 (some .boolean) 0 4 := ⟨⟨mt_mem (i := 571) (by decide +kernel) rfl, mt_cdX4_stepRight, mt_mem (i := 67) (by decide +kernel) rfl, by decide, by decide +kernel, by decide +kernel, by decide +kernel⟩, mt_mem (i := 502) (by decide +kernel) rfl, mt_mem (i := 503) (by decide +kernel) rfl, by decide, _, rfl, rfl⟩
set_option maxRecDepth 20000 in
theorem mt_cdX10_up : Cond.code yX10_up cX10_up 1 (some .int) ∈ mt_tb := mt_mem (i := 575) rfl rfl
theorem mt_cvL_58 : mt_CV RL 58 yX10_up cX10_up 1 (some .int) 0 10 := ⟨⟨mt_mem (i := 572) (by decide +kernel) rfl, mt_cdX10_up, mt_mem (i := 63) (by decide +kernel) rfl, by decide, by decide +kernel, by decide +kernel, by decide +kernel⟩, mt_mem (i := 573) (by decide +kernel) rfl, mt_mem (i := 574) (by decide +kernel) rfl, by decide, _, rfl, rfl⟩
theorem mt_cvX10_157 : mt_CV RX10 157 yX4_stepUp cX4_stepUp 1 (some .boolean) 0 4 := ⟨⟨mt_mem (i := 576) (by decide +kernel) rfl, mt_cdX4_stepUp, mt_mem (i := 67) (by decide +kernel) rfl, by decide, by decide +kernel, by decide +kernel, by decide +kernel⟩, mt_mem (i := 506) (by decide +kernel) rfl, mt_mem (i := 507) (by decide +kernel) rfl, by decide, _, rfl, rfl⟩
set_option maxRecDepth 20000 in
theorem mt_cdX10_go : Cond.code yX10_go cX10_go 3 (some .int) ∈ mt_tb := mt_mem (i := 580) rfl rfl
theorem mt_cvL_62 : mt_CV RL 62 yX10_go cX10_go 3 (some .int) 2 10 := ⟨⟨mt_mem (i := 577) (by decide +kernel) rfl, mt_cdX10_go, mt_mem (i := 63) (by decide +kernel) rfl, by decide, by decide +kernel, by decide +kernel, by decide +kernel⟩, mt_mem (i := 578) (by decide +kernel) rfl, mt_mem (i := 579) (by decide +kernel) rfl, by decide, _, rfl, rfl⟩
set_option maxRecDepth 20000 in
theorem mt_cdX10_isPlace : Cond.code yX10_isPlace cX10_isPlace 3 (some .boolean) ∈ mt_tb := mt_mem (i := 583) rfl rfl
theorem mt_csX10_160 : mt_CS RX10 160 yX10_isPlace cX10_isPlace 3 (some .boolean) 2 := ⟨⟨mt_mem (i := 581) (by decide +kernel) rfl, mt_cdX10_isPlace, mt_mem (i := 63) (by decide +kernel) rfl, by decide, by decide +kernel, by decide +kernel, by decide +kernel⟩, mt_mem (i := 582) (by decide +kernel) rfl⟩
set_option maxRecDepth 20000 in
theorem mt_cdX10_commonPart : Cond.code yX10_commonPart cX10_commonPart 6 (some .int) ∈ mt_tb := mt_mem (i := 586) rfl rfl
theorem mt_csX10_178 : mt_CS RX10 178 yX10_commonPart cX10_commonPart 6 (some .int) 2 := ⟨⟨mt_mem (i := 584) (by decide +kernel) rfl, mt_cdX10_commonPart, mt_mem (i := 63) (by decide +kernel) rfl, by decide, by decide +kernel, by decide +kernel, by decide +kernel⟩, mt_mem (i := 585) (by decide +kernel) rfl⟩
set_option maxRecDepth 20000 in
theorem mt_cdX10_moveTo : Cond.code yX10_moveTo cX10_moveTo 4 (some .int) ∈ mt_tb := mt_mem (i := 590) rfl rfl
theorem mt_cvX10_164 : mt_CV RX10 164 yX10_moveTo cX10_moveTo 4 (some .int) 2 10 := ⟨⟨mt_mem (i := 587) (by decide +kernel) rfl, mt_cdX10_moveTo, mt_mem (i := 63) (by decide +kernel) rfl, by decide, by decide +kernel, by decide +kernel, by decide +kernel⟩, mt_mem (i := 589) (by decide +kernel) rfl, mt_mem (i := 10) (by decide +kernel) rfl, by decide, _, rfl, rfl⟩
set_option maxRecDepth 20000 in
theorem mt_cdX4_isAt : Cond.code yX4_isAt cX4_isAt 3 (some .boolean) ∈ mt_tb := mt_mem (i := 594) rfl rfl
theorem mt_cvX10_171 : mt_CV RX10 171 yX4_isAt cX4_isAt 3 (some .boolean) 2 4 := ⟨⟨mt_mem (i := 591) (by decide +kernel) rfl, mt_cdX4_isAt, mt_mem (i := 67) (by decide +kernel) rfl, by decide, by decide +kernel, by decide +kernel, by decide +kernel⟩, mt_mem (i := 592) (by decide +kernel) rfl, mt_mem (i := 593) (by decide +kernel) rfl, by decide, _, rfl, rfl⟩
set_option maxRecDepth 20000 in
theorem mt_cdX4_walkTo : Cond.code yX4_walkTo cX4_walkTo 4 none ∈ mt_tb := mt_mem (i := 598) rfl rfl
theorem mt_cvX10_174 : mt_CV RX10 174 yX4_walkTo cX4_walkTo 4 none 2 4 := ⟨⟨mt_mem (i := 595) (by decide +kernel) rfl, mt_cdX4_walkTo, mt_mem (i := 67) (by decide +kernel) rfl, by decide, by decide +kernel, by decide +kernel, by decide +kernel⟩, mt_mem (i := 596) (by decide +kernel) rfl, mt_mem (i := 597) (by decide +kernel) rfl, by decide, _, rfl, rfl⟩
theorem mt_cvX4_53 : mt_CV RX4 53 yX4_isAt cX4_isAt 3 (some .boolean) 2 4 := ⟨⟨mt_mem (i := 599) (by decide +kernel) rfl, mt_cdX4_isAt, mt_mem (i := 67) (by decide +kernel) rfl, by decide, by decide +kernel, by decide +kernel, by decide +kernel⟩, mt_mem (i := 592) (by decide +kernel) rfl, mt_mem (i := 593) (by decide +kernel) rfl, by decide, _, rfl, rfl⟩
set_option maxRecDepth 20000 in
theorem mt_cdX4_sideOf : Cond.code yX4_sideOf cX4_sideOf 3 (some .int) ∈ mt_tb := mt_mem (i := 603) rfl rfl
theorem mt_cvX4_57 : mt_CV RX4 57 yX4_sideOf cX4_sideOf 3 (some .int) 2 4 := ⟨⟨mt_mem (i := 600) (by decide +kernel) rfl, mt_cdX4_sideOf, mt_mem (i := 67) (by decide +kernel) rfl, by decide, by decide +kernel, by decide +kernel, by decide +kernel⟩, mt_mem (i := 601) (by decide +kernel) rfl, mt_mem (i := 602) (by decide +kernel) rfl, by decide, _, rfl, rfl⟩
set_option maxRecDepth 20000 in
theorem mt_cdJ6_compare_7cf53 : Cond.code yJ6_compare_7cf53 cJ6_compare_7cf53 2 (some .int) ∈ mt_tb := mt_mem (i := 606) rfl rfl
theorem mt_csX4_40 : mt_CS RX4 40 yJ6_compare_7cf53 cJ6_compare_7cf53 2 (some .int) 2 := ⟨⟨mt_mem (i := 604) (by decide +kernel) rfl, mt_cdJ6_compare_7cf53, mt_mem (i := 77) (by decide +kernel) rfl, by decide, by decide +kernel, by decide +kernel, by decide +kernel⟩, mt_mem (i := 605) (by decide +kernel) rfl⟩
set_option maxRecDepth 20000 in
theorem mt_cdX4_stepToSide : Cond.code yX4_stepToSide cX4_stepToSide 2 (some .boolean) ∈ mt_tb := mt_mem (i := 610) rfl rfl
theorem mt_cvX4_60 : mt_CV RX4 60 yX4_stepToSide cX4_stepToSide 2 (some .boolean) 1 4 := ⟨⟨mt_mem (i := 607) (by decide +kernel) rfl, mt_cdX4_stepToSide, mt_mem (i := 67) (by decide +kernel) rfl, by decide, by decide +kernel, by decide +kernel, by decide +kernel⟩, mt_mem (i := 608) (by decide +kernel) rfl, mt_mem (i := 609) (by decide +kernel) rfl, by decide, _, rfl, rfl⟩
theorem mt_cvX4_46 : mt_CV RX4 46 yX4_stepLeft cX4_stepLeft 1 (some .boolean) 0 4 := ⟨⟨mt_mem (i := 611) (by decide +kernel) rfl, mt_cdX4_stepLeft, mt_mem (i := 67) (by decide +kernel) rfl, by decide, by decide +kernel, by decide +kernel, by decide +kernel⟩, mt_mem (i := 486) (by decide +kernel) rfl, mt_mem (i := 487) (by decide +kernel) rfl, by decide, _, rfl, rfl⟩
theorem mt_cvX4_50 : mt_CV RX4 50 yX4_stepRight cX4_stepRight 1 (some .boolean) 0 4 := ⟨⟨mt_mem (i := 612) (by decide +kernel) rfl, mt_cdX4_stepRight, mt_mem (i := 67) (by decide +kernel) rfl, by decide, by decide +kernel, by decide +kernel, by decide +kernel⟩, mt_mem (i := 502) (by decide +kernel) rfl, mt_mem (i := 503) (by decide +kernel) rfl, by decide, _, rfl, rfl⟩
set_option maxRecDepth 20000 in
theorem mt_cdX10_letter : Cond.code yX10_letter cX10_letter 3 (some .int) ∈ mt_tb := mt_mem (i := 616) rfl rfl
theorem mt_cvL_76 : mt_CV RL 76 yX10_letter cX10_letter 3 (some .int) 1 10 := ⟨⟨mt_mem (i := 613) (by decide +kernel) rfl, mt_cdX10_letter, mt_mem (i := 63) (by decide +kernel) rfl, by decide, by decide +kernel, by decide +kernel, by decide +kernel⟩, mt_mem (i := 614) (by decide +kernel) rfl, mt_mem (i := 615) (by decide +kernel) rfl, by decide, _, rfl, rfl⟩
theorem mt_csX10_192 : mt_CS RX10 192 yX9_letterIsA cX9_letterIsA 4 (some .boolean) 3 := ⟨⟨mt_mem (i := 617) (by decide +kernel) rfl, mt_cdX9_letterIsA, mt_mem (i := 71) (by decide +kernel) rfl, by decide, by decide +kernel, by decide +kernel, by decide +kernel⟩, mt_mem (i := 254) (by decide +kernel) rfl⟩
set_option maxRecDepth 20000 in
theorem mt_cdX10_cut : Cond.code yX10_cut cX10_cut 4 (some .int) ∈ mt_tb := mt_mem (i := 621) rfl rfl
theorem mt_cvL_80 : mt_CV RL 80 yX10_cut cX10_cut 4 (some .int) 0 10 := ⟨⟨mt_mem (i := 618) (by decide +kernel) rfl, mt_cdX10_cut, mt_mem (i := 63) (by decide +kernel) rfl, by decide, by decide +kernel, by decide +kernel, by decide +kernel⟩, mt_mem (i := 619) (by decide +kernel) rfl, mt_mem (i := 620) (by decide +kernel) rfl, by decide, _, rfl, rfl⟩
set_option maxRecDepth 20000 in
theorem mt_cdX10_value : Cond.code yX10_value cX10_value 3 (some .long) ∈ mt_tb := mt_mem (i := 625) rfl rfl
theorem mt_cvL_91 : mt_CV RL 91 yX10_value cX10_value 3 (some .long) 2 10 := ⟨⟨mt_mem (i := 622) (by decide +kernel) rfl, mt_cdX10_value, mt_mem (i := 63) (by decide +kernel) rfl, by decide, by decide +kernel, by decide +kernel, by decide +kernel⟩, mt_mem (i := 623) (by decide +kernel) rfl, mt_mem (i := 624) (by decide +kernel) rfl, by decide, _, rfl, rfl⟩
set_option maxRecDepth 20000 in
theorem mt_cdX10_fitsValue : Cond.code yX10_fitsValue cX10_fitsValue 1 (some .boolean) ∈ mt_tb := mt_mem (i := 628) rfl rfl
theorem mt_csX10_209 : mt_CS RX10 209 yX10_fitsValue cX10_fitsValue 1 (some .boolean) 1 := ⟨⟨mt_mem (i := 626) (by decide +kernel) rfl, mt_cdX10_fitsValue, mt_mem (i := 63) (by decide +kernel) rfl, by decide, by decide +kernel, by decide +kernel, by decide +kernel⟩, mt_mem (i := 627) (by decide +kernel) rfl⟩
set_option maxRecDepth 20000 in
theorem mt_cdX10_setForm : Cond.code yX10_setForm cX10_setForm 3 (some .boolean) ∈ mt_tb := mt_mem (i := 632) rfl rfl
theorem mt_cvX10_202 : mt_CV RX10 202 yX10_setForm cX10_setForm 3 (some .boolean) 0 10 := ⟨⟨mt_mem (i := 629) (by decide +kernel) rfl, mt_cdX10_setForm, mt_mem (i := 63) (by decide +kernel) rfl, by decide, by decide +kernel, by decide +kernel, by decide +kernel⟩, mt_mem (i := 631) (by decide +kernel) rfl, mt_mem (i := 11) (by decide +kernel) rfl, by decide, _, rfl, rfl⟩
set_option maxRecDepth 20000 in
theorem mt_cdX10_numberHere : Cond.code yX10_numberHere cX10_numberHere 1 (some .long) ∈ mt_tb := mt_mem (i := 636) rfl rfl
theorem mt_cvX10_185 : mt_CV RX10 185 yX10_numberHere cX10_numberHere 1 (some .long) 0 10 := ⟨⟨mt_mem (i := 633) (by decide +kernel) rfl, mt_cdX10_numberHere, mt_mem (i := 63) (by decide +kernel) rfl, by decide, by decide +kernel, by decide +kernel, by decide +kernel⟩, mt_mem (i := 635) (by decide +kernel) rfl, mt_mem (i := 12) (by decide +kernel) rfl, by decide, _, rfl, rfl⟩
set_option maxRecDepth 20000 in
theorem mt_cdX10_numberOf : Cond.code yX10_numberOf cX10_numberOf 3 (some .long) ∈ mt_tb := mt_mem (i := 640) rfl rfl
theorem mt_cvX10_181 : mt_CV RX10 181 yX10_numberOf cX10_numberOf 3 (some .long) 2 10 := ⟨⟨mt_mem (i := 637) (by decide +kernel) rfl, mt_cdX10_numberOf, mt_mem (i := 63) (by decide +kernel) rfl, by decide, by decide +kernel, by decide +kernel, by decide +kernel⟩, mt_mem (i := 639) (by decide +kernel) rfl, mt_mem (i := 13) (by decide +kernel) rfl, by decide, _, rfl, rfl⟩
theorem mt_cvX10_196 : mt_CV RX10 196 yX9_setTo cX9_setTo 4 none 2 9 := ⟨⟨mt_mem (i := 641) (by decide +kernel) rfl, mt_cdX9_setTo, mt_mem (i := 71) (by decide +kernel) rfl, by decide, by decide +kernel, by decide +kernel, by decide +kernel⟩, mt_mem (i := 250) (by decide +kernel) rfl, mt_mem (i := 251) (by decide +kernel) rfl, by decide, _, rfl, rfl⟩
set_option maxRecDepth 20000 in
theorem mt_cdX9_entry : Cond.code yX9_entry cX9_entry 3 (some .long) ∈ mt_tb := mt_mem (i := 645) rfl rfl
theorem mt_cvX10_199 : mt_CV RX10 199 yX9_entry cX9_entry 3 (some .long) 2 9 := ⟨⟨mt_mem (i := 642) (by decide +kernel) rfl, mt_cdX9_entry, mt_mem (i := 71) (by decide +kernel) rfl, by decide, by decide +kernel, by decide +kernel, by decide +kernel⟩, mt_mem (i := 643) (by decide +kernel) rfl, mt_mem (i := 644) (by decide +kernel) rfl, by decide, _, rfl, rfl⟩
theorem mt_kX10_229 : Cond.constantLong RX10 229 (1000000000) ∈ mt_tb := mt_mem (i := 646) (by decide +kernel) rfl
theorem mt_cvX10_231 : mt_CV RX10 231 yX1_set cX1_set 7 none 2 1 := ⟨⟨mt_mem (i := 647) (by decide +kernel) rfl, mt_cdX1_set, mt_mem (i := 72) (by decide +kernel) rfl, by decide, by decide +kernel, by decide +kernel, by decide +kernel⟩, mt_mem (i := 284) (by decide +kernel) rfl, mt_mem (i := 285) (by decide +kernel) rfl, by decide, _, rfl, rfl⟩
theorem mt_kX10_212 : Cond.constantLong RX10 212 (-1000000000000000000) ∈ mt_tb := mt_mem (i := 648) (by decide +kernel) rfl
set_option maxRecDepth 20000 in
theorem mt_cdX1_valueAt : Cond.code yX1_valueAt cX1_valueAt 5 (some .long) ∈ mt_tb := mt_mem (i := 652) rfl rfl
theorem mt_cvX10_214 : mt_CV RX10 214 yX1_valueAt cX1_valueAt 5 (some .long) 2 1 := ⟨⟨mt_mem (i := 649) (by decide +kernel) rfl, mt_cdX1_valueAt, mt_mem (i := 72) (by decide +kernel) rfl, by decide, by decide +kernel, by decide +kernel, by decide +kernel⟩, mt_mem (i := 650) (by decide +kernel) rfl, mt_mem (i := 651) (by decide +kernel) rfl, by decide, _, rfl, rfl⟩
set_option maxRecDepth 20000 in
theorem mt_cdX10_round : Cond.code yX10_round cX10_round 1 (some .int) ∈ mt_tb := mt_mem (i := 656) rfl rfl
theorem mt_cvL_95 : mt_CV RL 95 yX10_round cX10_round 1 (some .int) 0 10 := ⟨⟨mt_mem (i := 653) (by decide +kernel) rfl, mt_cdX10_round, mt_mem (i := 63) (by decide +kernel) rfl, by decide, by decide +kernel, by decide +kernel, by decide +kernel⟩, mt_mem (i := 654) (by decide +kernel) rfl, mt_mem (i := 655) (by decide +kernel) rfl, by decide, _, rfl, rfl⟩
set_option maxRecDepth 20000 in
theorem mt_cdX1_goRound : Cond.code yX1_goRound cX1_goRound 6 none ∈ mt_tb := mt_mem (i := 660) rfl rfl
theorem mt_cvX10_218 : mt_CV RX10 218 yX1_goRound cX1_goRound 6 none 0 1 := ⟨⟨mt_mem (i := 657) (by decide +kernel) rfl, mt_cdX1_goRound, mt_mem (i := 72) (by decide +kernel) rfl, by decide, by decide +kernel, by decide +kernel, by decide +kernel⟩, mt_mem (i := 658) (by decide +kernel) rfl, mt_mem (i := 659) (by decide +kernel) rfl, by decide, _, rfl, rfl⟩
set_option maxRecDepth 20000 in
theorem mt_cdJ9_abs_067f4 : Cond.code yJ9_abs_067f4 cJ9_abs_067f4 2 (some .long) ∈ mt_tb := mt_mem (i := 663) rfl rfl
theorem mt_csX1_46 : mt_CS RX1 46 yJ9_abs_067f4 cJ9_abs_067f4 2 (some .long) 1 := ⟨⟨mt_mem (i := 661) (by decide +kernel) rfl, mt_cdJ9_abs_067f4, mt_mem (i := 75) (by decide +kernel) rfl, by decide, by decide +kernel, by decide +kernel, by decide +kernel⟩, mt_mem (i := 662) (by decide +kernel) rfl⟩
theorem mt_kX1_52 : Cond.constant RX1 52 (1000000) ∈ mt_tb := mt_mem (i := 664) (by decide +kernel) rfl
set_option maxRecDepth 20000 in
theorem mt_cdJ9_min_f86c9 : Cond.code yJ9_min_f86c9 cJ9_min_f86c9 4 (some .long) ∈ mt_tb := mt_mem (i := 667) rfl rfl
theorem mt_csX1_53 : mt_CS RX1 53 yJ9_min_f86c9 cJ9_min_f86c9 4 (some .long) 2 := ⟨⟨mt_mem (i := 665) (by decide +kernel) rfl, mt_cdJ9_min_f86c9, mt_mem (i := 75) (by decide +kernel) rfl, by decide, by decide +kernel, by decide +kernel, by decide +kernel⟩, mt_mem (i := 666) (by decide +kernel) rfl⟩
set_option maxRecDepth 20000 in
theorem mt_cdX1_goToNext : Cond.code yX1_goToNext cX1_goToNext 7 none ∈ mt_tb := mt_mem (i := 671) rfl rfl
theorem mt_cvX1_57 : mt_CV RX1 57 yX1_goToNext cX1_goToNext 7 none 0 1 := ⟨⟨mt_mem (i := 668) (by decide +kernel) rfl, mt_cdX1_goToNext, mt_mem (i := 72) (by decide +kernel) rfl, by decide, by decide +kernel, by decide +kernel, by decide +kernel⟩, mt_mem (i := 670) (by decide +kernel) rfl, mt_mem (i := 14) (by decide +kernel) rfl, by decide, _, rfl, rfl⟩
set_option maxRecDepth 20000 in
theorem mt_cdJ9_floorMod_f86c9 : Cond.code yJ9_floorMod_f86c9 cJ9_floorMod_f86c9 6 (some .long) ∈ mt_tb := mt_mem (i := 674) rfl rfl
theorem mt_csX1_60 : mt_CS RX1 60 yJ9_floorMod_f86c9 cJ9_floorMod_f86c9 6 (some .long) 2 := ⟨⟨mt_mem (i := 672) (by decide +kernel) rfl, mt_cdJ9_floorMod_f86c9, mt_mem (i := 75) (by decide +kernel) rfl, by decide, by decide +kernel, by decide +kernel, by decide +kernel⟩, mt_mem (i := 673) (by decide +kernel) rfl⟩
set_option maxRecDepth 20000 in
theorem mt_cdX1_roundSize : Cond.code yX1_roundSize cX1_roundSize 1 (some .int) ∈ mt_tb := mt_mem (i := 678) rfl rfl
theorem mt_cvX10_221 : mt_CV RX10 221 yX1_roundSize cX1_roundSize 1 (some .int) 0 1 := ⟨⟨mt_mem (i := 675) (by decide +kernel) rfl, mt_cdX1_roundSize, mt_mem (i := 72) (by decide +kernel) rfl, by decide, by decide +kernel, by decide +kernel, by decide +kernel⟩, mt_mem (i := 676) (by decide +kernel) rfl, mt_mem (i := 677) (by decide +kernel) rfl, by decide, _, rfl, rfl⟩
set_option maxRecDepth 20000 in
theorem mt_cdX10_least : Cond.code yX10_least cX10_least 1 (some .long) ∈ mt_tb := mt_mem (i := 682) rfl rfl
theorem mt_cvL_99 : mt_CV RL 99 yX10_least cX10_least 1 (some .long) 0 10 := ⟨⟨mt_mem (i := 679) (by decide +kernel) rfl, mt_cdX10_least, mt_mem (i := 63) (by decide +kernel) rfl, by decide, by decide +kernel, by decide +kernel, by decide +kernel⟩, mt_mem (i := 680) (by decide +kernel) rfl, mt_mem (i := 681) (by decide +kernel) rfl, by decide, _, rfl, rfl⟩
theorem mt_kX10_224 : Cond.constantLong RX10 224 (-1) ∈ mt_tb := mt_mem (i := 683) (by decide +kernel) rfl
set_option maxRecDepth 20000 in
theorem mt_cdX1_roundLeast : Cond.code yX1_roundLeast cX1_roundLeast 1 (some .long) ∈ mt_tb := mt_mem (i := 687) rfl rfl
theorem mt_cvX10_226 : mt_CV RX10 226 yX1_roundLeast cX1_roundLeast 1 (some .long) 0 1 := ⟨⟨mt_mem (i := 684) (by decide +kernel) rfl, mt_cdX1_roundLeast, mt_mem (i := 72) (by decide +kernel) rfl, by decide, by decide +kernel, by decide +kernel, by decide +kernel⟩, mt_mem (i := 685) (by decide +kernel) rfl, mt_mem (i := 686) (by decide +kernel) rfl, by decide, _, rfl, rfl⟩
set_option maxRecDepth 20000 in
theorem mt_cdX10_upTo : Cond.code yX10_upTo cX10_upTo 3 (some .int) ∈ mt_tb := mt_mem (i := 691) rfl rfl
theorem mt_cvL_106 : mt_CV RL 106 yX10_upTo cX10_upTo 3 (some .int) 1 10 := ⟨⟨mt_mem (i := 688) (by decide +kernel) rfl, mt_cdX10_upTo, mt_mem (i := 63) (by decide +kernel) rfl, by decide, by decide +kernel, by decide +kernel, by decide +kernel⟩, mt_mem (i := 689) (by decide +kernel) rfl, mt_mem (i := 690) (by decide +kernel) rfl, by decide, _, rfl, rfl⟩
theorem mt_kX10_235 : Cond.constantLong RX10 235 (1000000000000) ∈ mt_tb := mt_mem (i := 692) (by decide +kernel) rfl
set_option maxRecDepth 20000 in
theorem mt_cdX6_countUpTo : Cond.code yX6_countUpTo cX6_countUpTo 4 (some .int) ∈ mt_tb := mt_mem (i := 696) rfl rfl
theorem mt_cvX10_237 : mt_CV RX10 237 yX6_countUpTo cX6_countUpTo 4 (some .int) 1 6 := ⟨⟨mt_mem (i := 693) (by decide +kernel) rfl, mt_cdX6_countUpTo, mt_mem (i := 73) (by decide +kernel) rfl, by decide, by decide +kernel, by decide +kernel, by decide +kernel⟩, mt_mem (i := 694) (by decide +kernel) rfl, mt_mem (i := 695) (by decide +kernel) rfl, by decide, _, rfl, rfl⟩
set_option maxRecDepth 20000 in
theorem mt_cdX6_fill : Cond.code yX6_fill cX6_fill 9 none ∈ mt_tb := mt_mem (i := 700) rfl rfl
theorem mt_cvX6_35 : mt_CV RX6 35 yX6_fill cX6_fill 9 none 0 6 := ⟨⟨mt_mem (i := 697) (by decide +kernel) rfl, mt_cdX6_fill, mt_mem (i := 73) (by decide +kernel) rfl, by decide, by decide +kernel, by decide +kernel, by decide +kernel⟩, mt_mem (i := 699) (by decide +kernel) rfl, mt_mem (i := 15) (by decide +kernel) rfl, by decide, _, rfl, rfl⟩
theorem mt_kX6_52 : Cond.constantLong RX6 52 (2) ∈ mt_tb := mt_mem (i := 701) (by decide +kernel) rfl
theorem mt_kX6_54 : Cond.constantLong RX6 54 (5) ∈ mt_tb := mt_mem (i := 702) (by decide +kernel) rfl
set_option maxRecDepth 20000 in
theorem mt_cdX6_putRow : Cond.code yX6_putRow cX6_putRow 9 none ∈ mt_tb := mt_mem (i := 706) rfl rfl
theorem mt_cvX6_56 : mt_CV RX6 56 yX6_putRow cX6_putRow 9 none 4 6 := ⟨⟨mt_mem (i := 703) (by decide +kernel) rfl, mt_cdX6_putRow, mt_mem (i := 73) (by decide +kernel) rfl, by decide, by decide +kernel, by decide +kernel, by decide +kernel⟩, mt_mem (i := 705) (by decide +kernel) rfl, mt_mem (i := 16) (by decide +kernel) rfl, by decide, _, rfl, rfl⟩
set_option maxRecDepth 20000 in
theorem mt_cdX6_putNext : Cond.code yX6_putNext cX6_putNext 8 none ∈ mt_tb := mt_mem (i := 710) rfl rfl
theorem mt_cvX6_60 : mt_CV RX6 60 yX6_putNext cX6_putNext 8 none 4 6 := ⟨⟨mt_mem (i := 707) (by decide +kernel) rfl, mt_cdX6_putNext, mt_mem (i := 73) (by decide +kernel) rfl, by decide, by decide +kernel, by decide +kernel, by decide +kernel⟩, mt_mem (i := 709) (by decide +kernel) rfl, mt_mem (i := 17) (by decide +kernel) rfl, by decide, _, rfl, rfl⟩
theorem mt_kX6_66 : Cond.constantLong RX6 66 (1000000000000) ∈ mt_tb := mt_mem (i := 711) (by decide +kernel) rfl
theorem mt_kX6_68 : Cond.constantLong RX6 68 (3) ∈ mt_tb := mt_mem (i := 712) (by decide +kernel) rfl
set_option maxRecDepth 20000 in
theorem mt_cdX6_fillNumbers : Cond.code yX6_fillNumbers cX6_fillNumbers 2 none ∈ mt_tb := mt_mem (i := 716) rfl rfl
theorem mt_cvX6_63 : mt_CV RX6 63 yX6_fillNumbers cX6_fillNumbers 2 none 0 6 := ⟨⟨mt_mem (i := 713) (by decide +kernel) rfl, mt_cdX6_fillNumbers, mt_mem (i := 73) (by decide +kernel) rfl, by decide, by decide +kernel, by decide +kernel, by decide +kernel⟩, mt_mem (i := 715) (by decide +kernel) rfl, mt_mem (i := 18) (by decide +kernel) rfl, by decide, _, rfl, rfl⟩
set_option maxRecDepth 20000 in
theorem mt_cdX10_markov : Cond.code yX10_markov cX10_markov 2 (some .long) ∈ mt_tb := mt_mem (i := 720) rfl rfl
theorem mt_cvL_111 : mt_CV RL 111 yX10_markov cX10_markov 2 (some .long) 1 10 := ⟨⟨mt_mem (i := 717) (by decide +kernel) rfl, mt_cdX10_markov, mt_mem (i := 63) (by decide +kernel) rfl, by decide, by decide +kernel, by decide +kernel, by decide +kernel⟩, mt_mem (i := 718) (by decide +kernel) rfl, mt_mem (i := 719) (by decide +kernel) rfl, by decide, _, rfl, rfl⟩
set_option maxRecDepth 20000 in
theorem mt_cdX6_numberAt : Cond.code yX6_numberAt cX6_numberAt 2 (some .long) ∈ mt_tb := mt_mem (i := 724) rfl rfl
theorem mt_cvX10_241 : mt_CV RX10 241 yX6_numberAt cX6_numberAt 2 (some .long) 1 6 := ⟨⟨mt_mem (i := 721) (by decide +kernel) rfl, mt_cdX6_numberAt, mt_mem (i := 73) (by decide +kernel) rfl, by decide, by decide +kernel, by decide +kernel, by decide +kernel⟩, mt_mem (i := 722) (by decide +kernel) rfl, mt_mem (i := 723) (by decide +kernel) rfl, by decide, _, rfl, rfl⟩
theorem mt_kX6_38 : Cond.constantLong RX6 38 (-1) ∈ mt_tb := mt_mem (i := 725) (by decide +kernel) rfl
set_option maxRecDepth 20000 in
theorem mt_cdX10_rank : Cond.code yX10_rank cX10_rank 3 (some .int) ∈ mt_tb := mt_mem (i := 729) rfl rfl
theorem mt_cvL_115 : mt_CV RL 115 yX10_rank cX10_rank 3 (some .int) 1 10 := ⟨⟨mt_mem (i := 726) (by decide +kernel) rfl, mt_cdX10_rank, mt_mem (i := 63) (by decide +kernel) rfl, by decide, by decide +kernel, by decide +kernel, by decide +kernel⟩, mt_mem (i := 727) (by decide +kernel) rfl, mt_mem (i := 728) (by decide +kernel) rfl, by decide, _, rfl, rfl⟩
set_option maxRecDepth 20000 in
theorem mt_cdX6_rankOf : Cond.code yX6_rankOf cX6_rankOf 4 (some .int) ∈ mt_tb := mt_mem (i := 733) rfl rfl
theorem mt_cvX10_244 : mt_CV RX10 244 yX6_rankOf cX6_rankOf 4 (some .int) 1 6 := ⟨⟨mt_mem (i := 730) (by decide +kernel) rfl, mt_cdX6_rankOf, mt_mem (i := 73) (by decide +kernel) rfl, by decide, by decide +kernel, by decide +kernel, by decide +kernel⟩, mt_mem (i := 731) (by decide +kernel) rfl, mt_mem (i := 732) (by decide +kernel) rfl, by decide, _, rfl, rfl⟩
theorem mt_cvX6_40 : mt_CV RX6 40 yX6_countUpTo cX6_countUpTo 4 (some .int) 1 6 := ⟨⟨mt_mem (i := 734) (by decide +kernel) rfl, mt_cdX6_countUpTo, mt_mem (i := 73) (by decide +kernel) rfl, by decide, by decide +kernel, by decide +kernel, by decide +kernel⟩, mt_mem (i := 694) (by decide +kernel) rfl, mt_mem (i := 695) (by decide +kernel) rfl, by decide, _, rfl, rfl⟩
theorem mt_cvX6_44 : mt_CV RX6 44 yX6_numberAt cX6_numberAt 2 (some .long) 1 6 := ⟨⟨mt_mem (i := 735) (by decide +kernel) rfl, mt_cdX6_numberAt, mt_mem (i := 73) (by decide +kernel) rfl, by decide, by decide +kernel, by decide +kernel, by decide +kernel⟩, mt_mem (i := 722) (by decide +kernel) rfl, mt_mem (i := 723) (by decide +kernel) rfl, by decide, _, rfl, rfl⟩
set_option maxRecDepth 20000 in
theorem mt_cdX10_triples : Cond.code yX10_triples cX10_triples 4 (some .int) ∈ mt_tb := mt_mem (i := 739) rfl rfl
theorem mt_cvL_119 : mt_CV RL 119 yX10_triples cX10_triples 4 (some .int) 1 10 := ⟨⟨mt_mem (i := 736) (by decide +kernel) rfl, mt_cdX10_triples, mt_mem (i := 63) (by decide +kernel) rfl, by decide, by decide +kernel, by decide +kernel, by decide +kernel⟩, mt_mem (i := 737) (by decide +kernel) rfl, mt_mem (i := 738) (by decide +kernel) rfl, by decide, _, rfl, rfl⟩
set_option maxRecDepth 20000 in
theorem mt_cdX6_countGreatest : Cond.code yX6_countGreatest cX6_countGreatest 5 (some .int) ∈ mt_tb := mt_mem (i := 743) rfl rfl
theorem mt_cvX10_247 : mt_CV RX10 247 yX6_countGreatest cX6_countGreatest 5 (some .int) 1 6 := ⟨⟨mt_mem (i := 740) (by decide +kernel) rfl, mt_cdX6_countGreatest, mt_mem (i := 73) (by decide +kernel) rfl, by decide, by decide +kernel, by decide +kernel, by decide +kernel⟩, mt_mem (i := 741) (by decide +kernel) rfl, mt_mem (i := 742) (by decide +kernel) rfl, by decide, _, rfl, rfl⟩
set_option maxRecDepth 20000 in
theorem mt_cdX10_with : Cond.code yX10_with cX10_with 5 (some .long) ∈ mt_tb := mt_mem (i := 747) rfl rfl
theorem mt_cvL_123 : mt_CV RL 123 yX10_with cX10_with 5 (some .long) 2 10 := ⟨⟨mt_mem (i := 744) (by decide +kernel) rfl, mt_cdX10_with, mt_mem (i := 63) (by decide +kernel) rfl, by decide, by decide +kernel, by decide +kernel, by decide +kernel⟩, mt_mem (i := 745) (by decide +kernel) rfl, mt_mem (i := 746) (by decide +kernel) rfl, by decide, _, rfl, rfl⟩
set_option maxRecDepth 20000 in
theorem mt_cdX6_rowOf : Cond.code yX6_rowOf cX6_rowOf 4 (some .int) ∈ mt_tb := mt_mem (i := 751) rfl rfl
theorem mt_cvX10_250 : mt_CV RX10 250 yX6_rowOf cX6_rowOf 4 (some .int) 1 6 := ⟨⟨mt_mem (i := 748) (by decide +kernel) rfl, mt_cdX6_rowOf, mt_mem (i := 73) (by decide +kernel) rfl, by decide, by decide +kernel, by decide +kernel, by decide +kernel⟩, mt_mem (i := 749) (by decide +kernel) rfl, mt_mem (i := 750) (by decide +kernel) rfl, by decide, _, rfl, rfl⟩
set_option maxRecDepth 20000 in
theorem mt_cdX6_leastAt : Cond.code yX6_leastAt cX6_leastAt 2 (some .long) ∈ mt_tb := mt_mem (i := 755) rfl rfl
theorem mt_cvX10_253 : mt_CV RX10 253 yX6_leastAt cX6_leastAt 2 (some .long) 1 6 := ⟨⟨mt_mem (i := 752) (by decide +kernel) rfl, mt_cdX6_leastAt, mt_mem (i := 73) (by decide +kernel) rfl, by decide, by decide +kernel, by decide +kernel, by decide +kernel⟩, mt_mem (i := 753) (by decide +kernel) rfl, mt_mem (i := 754) (by decide +kernel) rfl, by decide, _, rfl, rfl⟩
set_option maxRecDepth 20000 in
theorem mt_cdX6_has : Cond.code yX6_has cX6_has 2 (some .boolean) ∈ mt_tb := mt_mem (i := 759) rfl rfl
theorem mt_cvX6_48 : mt_CV RX6 48 yX6_has cX6_has 2 (some .boolean) 1 6 := ⟨⟨mt_mem (i := 756) (by decide +kernel) rfl, mt_cdX6_has, mt_mem (i := 73) (by decide +kernel) rfl, by decide, by decide +kernel, by decide +kernel, by decide +kernel⟩, mt_mem (i := 758) (by decide +kernel) rfl, mt_mem (i := 19) (by decide +kernel) rfl, by decide, _, rfl, rfl⟩
set_option maxRecDepth 20000 in
theorem mt_cdX6_middleAt : Cond.code yX6_middleAt cX6_middleAt 2 (some .long) ∈ mt_tb := mt_mem (i := 763) rfl rfl
theorem mt_cvX10_256 : mt_CV RX10 256 yX6_middleAt cX6_middleAt 2 (some .long) 1 6 := ⟨⟨mt_mem (i := 760) (by decide +kernel) rfl, mt_cdX6_middleAt, mt_mem (i := 73) (by decide +kernel) rfl, by decide, by decide +kernel, by decide +kernel, by decide +kernel⟩, mt_mem (i := 761) (by decide +kernel) rfl, mt_mem (i := 762) (by decide +kernel) rfl, by decide, _, rfl, rfl⟩
set_option maxRecDepth 20000 in
theorem mt_cdX6_stepsDownAt : Cond.code yX6_stepsDownAt cX6_stepsDownAt 2 (some .int) ∈ mt_tb := mt_mem (i := 767) rfl rfl
theorem mt_cvX10_259 : mt_CV RX10 259 yX6_stepsDownAt cX6_stepsDownAt 2 (some .int) 1 6 := ⟨⟨mt_mem (i := 764) (by decide +kernel) rfl, mt_cdX6_stepsDownAt, mt_mem (i := 73) (by decide +kernel) rfl, by decide, by decide +kernel, by decide +kernel, by decide +kernel⟩, mt_mem (i := 765) (by decide +kernel) rfl, mt_mem (i := 766) (by decide +kernel) rfl, by decide, _, rfl, rfl⟩
set_option maxRecDepth 20000 in
theorem mt_cdX10_spread : Cond.code yX10_spread cX10_spread 2 (some .int) ∈ mt_tb := mt_mem (i := 771) rfl rfl
theorem mt_cvL_128 : mt_CV RL 128 yX10_spread cX10_spread 2 (some .int) 0 10 := ⟨⟨mt_mem (i := 768) (by decide +kernel) rfl, mt_cdX10_spread, mt_mem (i := 63) (by decide +kernel) rfl, by decide, by decide +kernel, by decide +kernel, by decide +kernel⟩, mt_mem (i := 769) (by decide +kernel) rfl, mt_mem (i := 770) (by decide +kernel) rfl, by decide, _, rfl, rfl⟩
theorem mt_kX10_263 : Cond.constantFloat RX10 263 (1091567616) ∈ mt_tb := mt_mem (i := 772) (by decide +kernel) rfl
theorem mt_kX10_264 : Cond.constantFloat RX10 264 (1082130432) ∈ mt_tb := mt_mem (i := 773) (by decide +kernel) rfl
set_option maxRecDepth 20000 in
theorem mt_cdX10_bitsFromEight : Cond.code yX10_bitsFromEight cX10_bitsFromEight 1 (some .int) ∈ mt_tb := mt_mem (i := 776) rfl rfl
theorem mt_csX10_265 : mt_CS RX10 265 yX10_bitsFromEight cX10_bitsFromEight 1 (some .int) 1 := ⟨⟨mt_mem (i := 774) (by decide +kernel) rfl, mt_cdX10_bitsFromEight, mt_mem (i := 63) (by decide +kernel) rfl, by decide, by decide +kernel, by decide +kernel, by decide +kernel⟩, mt_mem (i := 775) (by decide +kernel) rfl⟩
theorem mt_kX10_269 : Cond.constant RX10 269 (1090519040) ∈ mt_tb := mt_mem (i := 777) (by decide +kernel) rfl
theorem mt_kX10_270 : Cond.constantFloat RX10 270 (1090519040) ∈ mt_tb := mt_mem (i := 778) (by decide +kernel) rfl
theorem mt_kX10_271 : Cond.constantFloat RX10 271 (1233125376) ∈ mt_tb := mt_mem (i := 779) (by decide +kernel) rfl
set_option maxRecDepth 20000 in
theorem mt_cdX10_mark : Cond.code yX10_mark cX10_mark 1 (some .int) ∈ mt_tb := mt_mem (i := 783) rfl rfl
theorem mt_cvL_132 : mt_CV RL 132 yX10_mark cX10_mark 1 (some .int) 0 10 := ⟨⟨mt_mem (i := 780) (by decide +kernel) rfl, mt_cdX10_mark, mt_mem (i := 63) (by decide +kernel) rfl, by decide, by decide +kernel, by decide +kernel, by decide +kernel⟩, mt_mem (i := 781) (by decide +kernel) rfl, mt_mem (i := 782) (by decide +kernel) rfl, by decide, _, rfl, rfl⟩
set_option maxRecDepth 20000 in
theorem mt_cdX5_isMarked : Cond.code yX5_isMarked cX5_isMarked 1 (some .boolean) ∈ mt_tb := mt_mem (i := 787) rfl rfl
theorem mt_cvX10_272 : mt_CV RX10 272 yX5_isMarked cX5_isMarked 1 (some .boolean) 0 5 := ⟨⟨mt_mem (i := 784) (by decide +kernel) rfl, mt_cdX5_isMarked, mt_mem (i := 66) (by decide +kernel) rfl, by decide, by decide +kernel, by decide +kernel, by decide +kernel⟩, mt_mem (i := 785) (by decide +kernel) rfl, mt_mem (i := 786) (by decide +kernel) rfl, by decide, _, rfl, rfl⟩
theorem mt_cvX5_25 : mt_CV RX5 25 yX4_p cX4_p 1 (some .int) 0 4 := ⟨⟨mt_mem (i := 788) (by decide +kernel) rfl, mt_cdX4_p, mt_mem (i := 67) (by decide +kernel) rfl, by decide, by decide +kernel, by decide +kernel, by decide +kernel⟩, mt_mem (i := 494) (by decide +kernel) rfl, mt_mem (i := 495) (by decide +kernel) rfl, by decide, _, rfl, rfl⟩
theorem mt_cvX5_29 : mt_CV RX5 29 yX4_q cX4_q 1 (some .int) 0 4 := ⟨⟨mt_mem (i := 789) (by decide +kernel) rfl, mt_cdX4_q, mt_mem (i := 67) (by decide +kernel) rfl, by decide, by decide +kernel, by decide +kernel, by decide +kernel⟩, mt_mem (i := 498) (by decide +kernel) rfl, mt_mem (i := 499) (by decide +kernel) rfl, by decide, _, rfl, rfl⟩
set_option maxRecDepth 20000 in
theorem mt_cdX3_indexOf : Cond.code yX3_indexOf cX3_indexOf 4 (some .int) ∈ mt_tb := mt_mem (i := 793) rfl rfl
theorem mt_cvX5_32 : mt_CV RX5 32 yX3_indexOf cX3_indexOf 4 (some .int) 2 3 := ⟨⟨mt_mem (i := 790) (by decide +kernel) rfl, mt_cdX3_indexOf, mt_mem (i := 68) (by decide +kernel) rfl, by decide, by decide +kernel, by decide +kernel, by decide +kernel⟩, mt_mem (i := 791) (by decide +kernel) rfl, mt_mem (i := 792) (by decide +kernel) rfl, by decide, _, rfl, rfl⟩
set_option maxRecDepth 20000 in
theorem mt_cdX10_markHere : Cond.code yX10_markHere cX10_markHere 2 (some .boolean) ∈ mt_tb := mt_mem (i := 797) rfl rfl
theorem mt_cvX10_275 : mt_CV RX10 275 yX10_markHere cX10_markHere 2 (some .boolean) 0 10 := ⟨⟨mt_mem (i := 794) (by decide +kernel) rfl, mt_cdX10_markHere, mt_mem (i := 63) (by decide +kernel) rfl, by decide, by decide +kernel, by decide +kernel, by decide +kernel⟩, mt_mem (i := 796) (by decide +kernel) rfl, mt_mem (i := 20) (by decide +kernel) rfl, by decide, _, rfl, rfl⟩
set_option maxRecDepth 20000 in
theorem mt_cdX3_isFull : Cond.code yX3_isFull cX3_isFull 1 (some .boolean) ∈ mt_tb := mt_mem (i := 801) rfl rfl
theorem mt_cvX10_301 : mt_CV RX10 301 yX3_isFull cX3_isFull 1 (some .boolean) 0 3 := ⟨⟨mt_mem (i := 798) (by decide +kernel) rfl, mt_cdX3_isFull, mt_mem (i := 68) (by decide +kernel) rfl, by decide, by decide +kernel, by decide +kernel, by decide +kernel⟩, mt_mem (i := 799) (by decide +kernel) rfl, mt_mem (i := 800) (by decide +kernel) rfl, by decide, _, rfl, rfl⟩
set_option maxRecDepth 20000 in
theorem mt_cdX3_put : Cond.code yX3_put cX3_put 6 none ∈ mt_tb := mt_mem (i := 805) rfl rfl
theorem mt_cvX10_304 : mt_CV RX10 304 yX3_put cX3_put 6 none 3 3 := ⟨⟨mt_mem (i := 802) (by decide +kernel) rfl, mt_cdX3_put, mt_mem (i := 68) (by decide +kernel) rfl, by decide, by decide +kernel, by decide +kernel, by decide +kernel⟩, mt_mem (i := 803) (by decide +kernel) rfl, mt_mem (i := 804) (by decide +kernel) rfl, by decide, _, rfl, rfl⟩
theorem mt_cvX3_36 : mt_CV RX3 36 yX3_isFull cX3_isFull 1 (some .boolean) 0 3 := ⟨⟨mt_mem (i := 806) (by decide +kernel) rfl, mt_cdX3_isFull, mt_mem (i := 68) (by decide +kernel) rfl, by decide, by decide +kernel, by decide +kernel, by decide +kernel⟩, mt_mem (i := 799) (by decide +kernel) rfl, mt_mem (i := 800) (by decide +kernel) rfl, by decide, _, rfl, rfl⟩
set_option maxRecDepth 20000 in
theorem mt_cdX10_unmark : Cond.code yX10_unmark cX10_unmark 2 (some .int) ∈ mt_tb := mt_mem (i := 810) rfl rfl
theorem mt_cvL_136 : mt_CV RL 136 yX10_unmark cX10_unmark 2 (some .int) 0 10 := ⟨⟨mt_mem (i := 807) (by decide +kernel) rfl, mt_cdX10_unmark, mt_mem (i := 63) (by decide +kernel) rfl, by decide, by decide +kernel, by decide +kernel, by decide +kernel⟩, mt_mem (i := 808) (by decide +kernel) rfl, mt_mem (i := 809) (by decide +kernel) rfl, by decide, _, rfl, rfl⟩
theorem mt_cvX10_278 : mt_CV RX10 278 yX3_indexOf cX3_indexOf 4 (some .int) 2 3 := ⟨⟨mt_mem (i := 811) (by decide +kernel) rfl, mt_cdX3_indexOf, mt_mem (i := 68) (by decide +kernel) rfl, by decide, by decide +kernel, by decide +kernel, by decide +kernel⟩, mt_mem (i := 791) (by decide +kernel) rfl, mt_mem (i := 792) (by decide +kernel) rfl, by decide, _, rfl, rfl⟩
set_option maxRecDepth 20000 in
theorem mt_cdX3_drop : Cond.code yX3_drop cX3_drop 3 none ∈ mt_tb := mt_mem (i := 815) rfl rfl
theorem mt_cvX10_281 : mt_CV RX10 281 yX3_drop cX3_drop 3 none 1 3 := ⟨⟨mt_mem (i := 812) (by decide +kernel) rfl, mt_cdX3_drop, mt_mem (i := 68) (by decide +kernel) rfl, by decide, by decide +kernel, by decide +kernel, by decide +kernel⟩, mt_mem (i := 813) (by decide +kernel) rfl, mt_mem (i := 814) (by decide +kernel) rfl, by decide, _, rfl, rfl⟩
set_option maxRecDepth 20000 in
theorem mt_cdX3_has : Cond.code yX3_has cX3_has 2 (some .boolean) ∈ mt_tb := mt_mem (i := 819) rfl rfl
theorem mt_cvX3_30 : mt_CV RX3 30 yX3_has cX3_has 2 (some .boolean) 1 3 := ⟨⟨mt_mem (i := 816) (by decide +kernel) rfl, mt_cdX3_has, mt_mem (i := 68) (by decide +kernel) rfl, by decide, by decide +kernel, by decide +kernel, by decide +kernel⟩, mt_mem (i := 817) (by decide +kernel) rfl, mt_mem (i := 818) (by decide +kernel) rfl, by decide, _, rfl, rfl⟩
set_option maxRecDepth 20000 in
theorem mt_cdX10_marked : Cond.code yX10_marked cX10_marked 4 (some .long) ∈ mt_tb := mt_mem (i := 823) rfl rfl
theorem mt_cvL_140 : mt_CV RL 140 yX10_marked cX10_marked 4 (some .long) 2 10 := ⟨⟨mt_mem (i := 820) (by decide +kernel) rfl, mt_cdX10_marked, mt_mem (i := 63) (by decide +kernel) rfl, by decide, by decide +kernel, by decide +kernel, by decide +kernel⟩, mt_mem (i := 821) (by decide +kernel) rfl, mt_mem (i := 822) (by decide +kernel) rfl, by decide, _, rfl, rfl⟩
set_option maxRecDepth 20000 in
theorem mt_cdX3_numberAt : Cond.code yX3_numberAt cX3_numberAt 2 (some .long) ∈ mt_tb := mt_mem (i := 827) rfl rfl
theorem mt_cvX10_284 : mt_CV RX10 284 yX3_numberAt cX3_numberAt 2 (some .long) 1 3 := ⟨⟨mt_mem (i := 824) (by decide +kernel) rfl, mt_cdX3_numberAt, mt_mem (i := 68) (by decide +kernel) rfl, by decide, by decide +kernel, by decide +kernel, by decide +kernel⟩, mt_mem (i := 825) (by decide +kernel) rfl, mt_mem (i := 826) (by decide +kernel) rfl, by decide, _, rfl, rfl⟩
theorem mt_kX3_34 : Cond.constantLong RX3 34 (-1) ∈ mt_tb := mt_mem (i := 828) (by decide +kernel) rfl
set_option maxRecDepth 20000 in
theorem mt_cdX3_pAt : Cond.code yX3_pAt cX3_pAt 2 (some .int) ∈ mt_tb := mt_mem (i := 832) rfl rfl
theorem mt_cvX10_285 : mt_CV RX10 285 yX3_pAt cX3_pAt 2 (some .int) 1 3 := ⟨⟨mt_mem (i := 829) (by decide +kernel) rfl, mt_cdX3_pAt, mt_mem (i := 68) (by decide +kernel) rfl, by decide, by decide +kernel, by decide +kernel, by decide +kernel⟩, mt_mem (i := 830) (by decide +kernel) rfl, mt_mem (i := 831) (by decide +kernel) rfl, by decide, _, rfl, rfl⟩
set_option maxRecDepth 20000 in
theorem mt_cdX3_qAt : Cond.code yX3_qAt cX3_qAt 2 (some .int) ∈ mt_tb := mt_mem (i := 836) rfl rfl
theorem mt_cvX10_288 : mt_CV RX10 288 yX3_qAt cX3_qAt 2 (some .int) 1 3 := ⟨⟨mt_mem (i := 833) (by decide +kernel) rfl, mt_cdX3_qAt, mt_mem (i := 68) (by decide +kernel) rfl, by decide, by decide +kernel, by decide +kernel, by decide +kernel⟩, mt_mem (i := 834) (by decide +kernel) rfl, mt_mem (i := 835) (by decide +kernel) rfl, by decide, _, rfl, rfl⟩
set_option maxRecDepth 20000 in
theorem mt_cdX10_near : Cond.code yX10_near cX10_near 4 (some .long) ∈ mt_tb := mt_mem (i := 840) rfl rfl
theorem mt_cvL_144 : mt_CV RL 144 yX10_near cX10_near 4 (some .long) 2 10 := ⟨⟨mt_mem (i := 837) (by decide +kernel) rfl, mt_cdX10_near, mt_mem (i := 63) (by decide +kernel) rfl, by decide, by decide +kernel, by decide +kernel, by decide +kernel⟩, mt_mem (i := 838) (by decide +kernel) rfl, mt_mem (i := 839) (by decide +kernel) rfl, by decide, _, rfl, rfl⟩
set_option maxRecDepth 20000 in
theorem mt_cdX3_nextFrom : Cond.code yX3_nextFrom cX3_nextFrom 4 (some .long) ∈ mt_tb := mt_mem (i := 844) rfl rfl
theorem mt_cvX10_291 : mt_CV RX10 291 yX3_nextFrom cX3_nextFrom 4 (some .long) 1 3 := ⟨⟨mt_mem (i := 841) (by decide +kernel) rfl, mt_cdX3_nextFrom, mt_mem (i := 68) (by decide +kernel) rfl, by decide, by decide +kernel, by decide +kernel, by decide +kernel⟩, mt_mem (i := 842) (by decide +kernel) rfl, mt_mem (i := 843) (by decide +kernel) rfl, by decide, _, rfl, rfl⟩
set_option maxRecDepth 20000 in
theorem mt_cdX3_lastTo : Cond.code yX3_lastTo cX3_lastTo 6 (some .long) ∈ mt_tb := mt_mem (i := 848) rfl rfl
theorem mt_cvX10_295 : mt_CV RX10 295 yX3_lastTo cX3_lastTo 6 (some .long) 1 3 := ⟨⟨mt_mem (i := 845) (by decide +kernel) rfl, mt_cdX3_lastTo, mt_mem (i := 68) (by decide +kernel) rfl, by decide, by decide +kernel, by decide +kernel, by decide +kernel⟩, mt_mem (i := 846) (by decide +kernel) rfl, mt_mem (i := 847) (by decide +kernel) rfl, by decide, _, rfl, rfl⟩
set_option maxRecDepth 20000 in
theorem mt_cdX10_jump : Cond.code yX10_jump cX10_jump 3 (some .int) ∈ mt_tb := mt_mem (i := 852) rfl rfl
theorem mt_cvL_149 : mt_CV RL 149 yX10_jump cX10_jump 3 (some .int) 1 10 := ⟨⟨mt_mem (i := 849) (by decide +kernel) rfl, mt_cdX10_jump, mt_mem (i := 63) (by decide +kernel) rfl, by decide, by decide +kernel, by decide +kernel, by decide +kernel⟩, mt_mem (i := 850) (by decide +kernel) rfl, mt_mem (i := 851) (by decide +kernel) rfl, by decide, _, rfl, rfl⟩
theorem mt_cvX10_298 : mt_CV RX10 298 yX3_has cX3_has 2 (some .boolean) 1 3 := ⟨⟨mt_mem (i := 853) (by decide +kernel) rfl, mt_cdX3_has, mt_mem (i := 68) (by decide +kernel) rfl, by decide, by decide +kernel, by decide +kernel, by decide +kernel⟩, mt_mem (i := 817) (by decide +kernel) rfl, mt_mem (i := 818) (by decide +kernel) rfl, by decide, _, rfl, rfl⟩
set_option maxRecDepth 20000 in
theorem mt_cdX10_told : Cond.code yX10_told cX10_told 1 (some .int) ∈ mt_tb := mt_mem (i := 857) rfl rfl
theorem mt_cvL_153 : mt_CV RL 153 yX10_told cX10_told 1 (some .int) 0 10 := ⟨⟨mt_mem (i := 854) (by decide +kernel) rfl, mt_cdX10_told, mt_mem (i := 63) (by decide +kernel) rfl, by decide, by decide +kernel, by decide +kernel, by decide +kernel⟩, mt_mem (i := 855) (by decide +kernel) rfl, mt_mem (i := 856) (by decide +kernel) rfl, by decide, _, rfl, rfl⟩
set_option maxRecDepth 20000 in
theorem mt_cdX8_tell : Cond.code yX8_tell cX8_tell 6 (some .int) ∈ mt_tb := mt_mem (i := 861) rfl rfl
theorem mt_cvX10_308 : mt_CV RX10 308 yX8_tell cX8_tell 6 (some .int) 2 8 := ⟨⟨mt_mem (i := 858) (by decide +kernel) rfl, mt_cdX8_tell, mt_mem (i := 70) (by decide +kernel) rfl, by decide, by decide +kernel, by decide +kernel, by decide +kernel⟩, mt_mem (i := 859) (by decide +kernel) rfl, mt_mem (i := 860) (by decide +kernel) rfl, by decide, _, rfl, rfl⟩
theorem mt_cvX8_26 : mt_CV RX8 26 yX4_goHome cX4_goHome 1 none 0 4 := ⟨⟨mt_mem (i := 862) (by decide +kernel) rfl, mt_cdX4_goHome, mt_mem (i := 67) (by decide +kernel) rfl, by decide, by decide +kernel, by decide +kernel, by decide +kernel⟩, mt_mem (i := 159) (by decide +kernel) rfl, mt_mem (i := 160) (by decide +kernel) rfl, by decide, _, rfl, rfl⟩
theorem mt_cvX8_29 : mt_CV RX8 29 yX4_isAt cX4_isAt 3 (some .boolean) 2 4 := ⟨⟨mt_mem (i := 863) (by decide +kernel) rfl, mt_cdX4_isAt, mt_mem (i := 67) (by decide +kernel) rfl, by decide, by decide +kernel, by decide +kernel, by decide +kernel⟩, mt_mem (i := 592) (by decide +kernel) rfl, mt_mem (i := 593) (by decide +kernel) rfl, by decide, _, rfl, rfl⟩
theorem mt_cvX8_33 : mt_CV RX8 33 yX4_sideOf cX4_sideOf 3 (some .int) 2 4 := ⟨⟨mt_mem (i := 864) (by decide +kernel) rfl, mt_cdX4_sideOf, mt_mem (i := 67) (by decide +kernel) rfl, by decide, by decide +kernel, by decide +kernel, by decide +kernel⟩, mt_mem (i := 601) (by decide +kernel) rfl, mt_mem (i := 602) (by decide +kernel) rfl, by decide, _, rfl, rfl⟩
set_option maxRecDepth 20000 in
theorem mt_cdX8_goOn : Cond.code yX8_goOn cX8_goOn 5 (some .int) ∈ mt_tb := mt_mem (i := 868) rfl rfl
theorem mt_cvX8_37 : mt_CV RX8 37 yX8_goOn cX8_goOn 5 (some .int) 3 8 := ⟨⟨mt_mem (i := 865) (by decide +kernel) rfl, mt_cdX8_goOn, mt_mem (i := 70) (by decide +kernel) rfl, by decide, by decide +kernel, by decide +kernel, by decide +kernel⟩, mt_mem (i := 867) (by decide +kernel) rfl, mt_mem (i := 21) (by decide +kernel) rfl, by decide, _, rfl, rfl⟩
theorem mt_cvX8_48 : mt_CV RX8 48 yX4_stepToSide cX4_stepToSide 2 (some .boolean) 1 4 := ⟨⟨mt_mem (i := 869) (by decide +kernel) rfl, mt_cdX4_stepToSide, mt_mem (i := 67) (by decide +kernel) rfl, by decide, by decide +kernel, by decide +kernel, by decide +kernel⟩, mt_mem (i := 608) (by decide +kernel) rfl, mt_mem (i := 609) (by decide +kernel) rfl, by decide, _, rfl, rfl⟩
set_option maxRecDepth 20000 in
theorem mt_cdX8_put : Cond.code yX8_put cX8_put 2 none ∈ mt_tb := mt_mem (i := 873) rfl rfl
theorem mt_cvX8_41 : mt_CV RX8 41 yX8_put cX8_put 2 none 1 8 := ⟨⟨mt_mem (i := 870) (by decide +kernel) rfl, mt_cdX8_put, mt_mem (i := 70) (by decide +kernel) rfl, by decide, by decide +kernel, by decide +kernel, by decide +kernel⟩, mt_mem (i := 872) (by decide +kernel) rfl, mt_mem (i := 22) (by decide +kernel) rfl, by decide, _, rfl, rfl⟩
set_option maxRecDepth 20000 in
theorem mt_cdX8_putNumber : Cond.code yX8_putNumber cX8_putNumber 2 none ∈ mt_tb := mt_mem (i := 877) rfl rfl
theorem mt_cvX8_45 : mt_CV RX8 45 yX8_putNumber cX8_putNumber 2 none 1 8 := ⟨⟨mt_mem (i := 874) (by decide +kernel) rfl, mt_cdX8_putNumber, mt_mem (i := 70) (by decide +kernel) rfl, by decide, by decide +kernel, by decide +kernel, by decide +kernel⟩, mt_mem (i := 876) (by decide +kernel) rfl, mt_mem (i := 23) (by decide +kernel) rfl, by decide, _, rfl, rfl⟩
set_option maxRecDepth 20000 in
theorem mt_cdX10_byteAt : Cond.code yX10_byteAt cX10_byteAt 2 (some .int) ∈ mt_tb := mt_mem (i := 881) rfl rfl
theorem mt_cvL_157 : mt_CV RL 157 yX10_byteAt cX10_byteAt 2 (some .int) 1 10 := ⟨⟨mt_mem (i := 878) (by decide +kernel) rfl, mt_cdX10_byteAt, mt_mem (i := 63) (by decide +kernel) rfl, by decide, by decide +kernel, by decide +kernel, by decide +kernel⟩, mt_mem (i := 879) (by decide +kernel) rfl, mt_mem (i := 880) (by decide +kernel) rfl, by decide, _, rfl, rfl⟩
set_option maxRecDepth 20000 in
theorem mt_cdX8_at : Cond.code yX8_at cX8_at 2 (some .int) ∈ mt_tb := mt_mem (i := 885) rfl rfl
theorem mt_cvX10_311 : mt_CV RX10 311 yX8_at cX8_at 2 (some .int) 1 8 := ⟨⟨mt_mem (i := 882) (by decide +kernel) rfl, mt_cdX8_at, mt_mem (i := 70) (by decide +kernel) rfl, by decide, by decide +kernel, by decide +kernel, by decide +kernel⟩, mt_mem (i := 883) (by decide +kernel) rfl, mt_mem (i := 884) (by decide +kernel) rfl, by decide, _, rfl, rfl⟩
set_option maxRecDepth 20000 in
theorem mt_cdX10_drawn : Cond.code yX10_drawn cX10_drawn 6 (some .int) ∈ mt_tb := mt_mem (i := 889) rfl rfl
theorem mt_cvL_161 : mt_CV RL 161 yX10_drawn cX10_drawn 6 (some .int) 2 10 := ⟨⟨mt_mem (i := 886) (by decide +kernel) rfl, mt_cdX10_drawn, mt_mem (i := 63) (by decide +kernel) rfl, by decide, by decide +kernel, by decide +kernel, by decide +kernel⟩, mt_mem (i := 887) (by decide +kernel) rfl, mt_mem (i := 888) (by decide +kernel) rfl, by decide, _, rfl, rfl⟩
theorem mt_kX10_314 : Cond.constant RX10 314 (1103515245) ∈ mt_tb := mt_mem (i := 890) (by decide +kernel) rfl
set_option maxRecDepth 20000 in
theorem mt_cdX10_doDrawn : Cond.code yX10_doDrawn cX10_doDrawn 2 (some .boolean) ∈ mt_tb := mt_mem (i := 894) rfl rfl
theorem mt_cvX10_315 : mt_CV RX10 315 yX10_doDrawn cX10_doDrawn 2 (some .boolean) 1 10 := ⟨⟨mt_mem (i := 891) (by decide +kernel) rfl, mt_cdX10_doDrawn, mt_mem (i := 63) (by decide +kernel) rfl, by decide, by decide +kernel, by decide +kernel, by decide +kernel⟩, mt_mem (i := 893) (by decide +kernel) rfl, mt_mem (i := 24) (by decide +kernel) rfl, by decide, _, rfl, rfl⟩
set_option maxRecDepth 20000 in
theorem mt_cdX10_undo : Cond.code yX10_undo cX10_undo 1 (some .int) ∈ mt_tb := mt_mem (i := 898) rfl rfl
theorem mt_cvL_165 : mt_CV RL 165 yX10_undo cX10_undo 1 (some .int) 0 10 := ⟨⟨mt_mem (i := 895) (by decide +kernel) rfl, mt_cdX10_undo, mt_mem (i := 63) (by decide +kernel) rfl, by decide, by decide +kernel, by decide +kernel, by decide +kernel⟩, mt_mem (i := 896) (by decide +kernel) rfl, mt_mem (i := 897) (by decide +kernel) rfl, by decide, _, rfl, rfl⟩
set_option maxRecDepth 20000 in
theorem mt_cdX2_takeBack : Cond.code yX2_takeBack cX2_takeBack 2 (some .boolean) ∈ mt_tb := mt_mem (i := 902) rfl rfl
theorem mt_cvX10_318 : mt_CV RX10 318 yX2_takeBack cX2_takeBack 2 (some .boolean) 1 2 := ⟨⟨mt_mem (i := 899) (by decide +kernel) rfl, mt_cdX2_takeBack, mt_mem (i := 69) (by decide +kernel) rfl, by decide, by decide +kernel, by decide +kernel, by decide +kernel⟩, mt_mem (i := 900) (by decide +kernel) rfl, mt_mem (i := 901) (by decide +kernel) rfl, by decide, _, rfl, rfl⟩
set_option maxRecDepth 20000 in
theorem mt_cdX10_image : Cond.code yX10_image cX10_image 3 (some .boolean) ∈ mt_tb := mt_mem (i := 906) rfl rfl
theorem mt_cvL_169 : mt_CV RL 169 yX10_image cX10_image 3 (some .boolean) 1 10 := ⟨⟨mt_mem (i := 903) (by decide +kernel) rfl, mt_cdX10_image, mt_mem (i := 63) (by decide +kernel) rfl, by decide, by decide +kernel, by decide +kernel, by decide +kernel⟩, mt_mem (i := 904) (by decide +kernel) rfl, mt_mem (i := 905) (by decide +kernel) rfl, by decide, _, rfl, rfl⟩
set_option maxRecDepth 20000 in
theorem mt_cdX10_imageAt : Cond.code yX10_imageAt cX10_imageAt 2 (some (.object "MarkovTree$State")) ∈ mt_tb := mt_mem (i := 910) rfl rfl
theorem mt_cvX10_322 : mt_CV RX10 322 yX10_imageAt cX10_imageAt 2 (some (.object "MarkovTree$State")) 1 10 := ⟨⟨mt_mem (i := 907) (by decide +kernel) rfl, mt_cdX10_imageAt, mt_mem (i := 63) (by decide +kernel) rfl, by decide, by decide +kernel, by decide +kernel, by decide +kernel⟩, mt_mem (i := 909) (by decide +kernel) rfl, mt_mem (i := 25) (by decide +kernel) rfl, by decide, _, rfl, rfl⟩
theorem mt_cvX10_326 : mt_CV RX10 326 yX5_copyFrom cX5_copyFrom 2 none 1 5 := ⟨⟨mt_mem (i := 911) (by decide +kernel) rfl, mt_cdX5_copyFrom, mt_mem (i := 66) (by decide +kernel) rfl, by decide, by decide +kernel, by decide +kernel, by decide +kernel⟩, mt_mem (i := 451) (by decide +kernel) rfl, mt_mem (i := 452) (by decide +kernel) rfl, by decide, _, rfl, rfl⟩
set_option maxRecDepth 20000 in
theorem mt_cdX10_restore : Cond.code yX10_restore cX10_restore 3 (some .boolean) ∈ mt_tb := mt_mem (i := 915) rfl rfl
theorem mt_cvL_173 : mt_CV RL 173 yX10_restore cX10_restore 3 (some .boolean) 1 10 := ⟨⟨mt_mem (i := 912) (by decide +kernel) rfl, mt_cdX10_restore, mt_mem (i := 63) (by decide +kernel) rfl, by decide, by decide +kernel, by decide +kernel, by decide +kernel⟩, mt_mem (i := 913) (by decide +kernel) rfl, mt_mem (i := 914) (by decide +kernel) rfl, by decide, _, rfl, rfl⟩
set_option maxRecDepth 20000 in
theorem mt_cdX2_forget : Cond.code yX2_forget cX2_forget 1 none ∈ mt_tb := mt_mem (i := 919) rfl rfl
theorem mt_cvX10_329 : mt_CV RX10 329 yX2_forget cX2_forget 1 none 0 2 := ⟨⟨mt_mem (i := 916) (by decide +kernel) rfl, mt_cdX2_forget, mt_mem (i := 69) (by decide +kernel) rfl, by decide, by decide +kernel, by decide +kernel, by decide +kernel⟩, mt_mem (i := 917) (by decide +kernel) rfl, mt_mem (i := 918) (by decide +kernel) rfl, by decide, _, rfl, rfl⟩
set_option maxRecDepth 20000 in
theorem mt_cdX10_triple : Cond.code yX10_triple cX10_triple 3 (some .long) ∈ mt_tb := mt_mem (i := 927) rfl rfl
theorem mt_cvL_7 : mt_CV RL 7 yX10_triple cX10_triple 3 (some .long) 1 10 := ⟨⟨mt_mem (i := 924) (by decide +kernel) rfl, mt_cdX10_triple, mt_mem (i := 63) (by decide +kernel) rfl, by decide, by decide +kernel, by decide +kernel, by decide +kernel⟩, mt_mem (i := 925) (by decide +kernel) rfl, mt_mem (i := 926) (by decide +kernel) rfl, by decide, _, rfl, rfl⟩
set_option maxRecDepth 20000 in
theorem mt_cdX10_matrix : Cond.code yX10_matrix cX10_matrix 3 (some .long) ∈ mt_tb := mt_mem (i := 995) rfl rfl
theorem mt_cvL_15 : mt_CV RL 15 yX10_matrix cX10_matrix 3 (some .long) 2 10 := ⟨⟨mt_mem (i := 992) (by decide +kernel) rfl, mt_cdX10_matrix, mt_mem (i := 63) (by decide +kernel) rfl, by decide, by decide +kernel, by decide +kernel, by decide +kernel⟩, mt_mem (i := 993) (by decide +kernel) rfl, mt_mem (i := 994) (by decide +kernel) rfl, by decide, _, rfl, rfl⟩
set_option maxRecDepth 20000 in
theorem mt_cdX10_form : Cond.code yX10_form cX10_form 2 (some .long) ∈ mt_tb := mt_mem (i := 1002) rfl rfl
theorem mt_cvL_19 : mt_CV RL 19 yX10_form cX10_form 2 (some .long) 1 10 := ⟨⟨mt_mem (i := 999) (by decide +kernel) rfl, mt_cdX10_form, mt_mem (i := 63) (by decide +kernel) rfl, by decide, by decide +kernel, by decide +kernel, by decide +kernel⟩, mt_mem (i := 1000) (by decide +kernel) rfl, mt_mem (i := 1001) (by decide +kernel) rfl, by decide, _, rfl, rfl⟩
set_option maxRecDepth 20000 in
theorem mt_cdX1_coefficient : Cond.code yX1_coefficient cX1_coefficient 2 (some .long) ∈ mt_tb := mt_mem (i := 1006) rfl rfl
theorem mt_cvX10_205 : mt_CV RX10 205 yX1_coefficient cX1_coefficient 2 (some .long) 1 1 := ⟨⟨mt_mem (i := 1003) (by decide +kernel) rfl, mt_cdX1_coefficient, mt_mem (i := 72) (by decide +kernel) rfl, by decide, by decide +kernel, by decide +kernel, by decide +kernel⟩, mt_mem (i := 1004) (by decide +kernel) rfl, mt_mem (i := 1005) (by decide +kernel) rfl, by decide, _, rfl, rfl⟩
set_option maxRecDepth 20000 in
theorem mt_cdX11_thrown : Cond.code yX11_thrown cX11_thrown 1 (some .int) ∈ mt_tb := mt_mem (i := 1010) rfl rfl
theorem mt_cvL_73 : mt_CV RL 73 yX11_thrown cX11_thrown 1 (some .int) 0 11 := ⟨⟨mt_mem (i := 1007) (by decide +kernel) rfl, mt_cdX11_thrown, mt_mem (i := 74) (by decide +kernel) rfl, by decide, by decide +kernel, by decide +kernel, by decide +kernel⟩, mt_mem (i := 1008) (by decide +kernel) rfl, mt_mem (i := 1009) (by decide +kernel) rfl, by decide, _, rfl, rfl⟩
set_option maxRecDepth 20000 in
theorem mt_cdX11_feed : Cond.code yX11_feed cX11_feed 6 (some .int) ∈ mt_tb := mt_mem (i := 1014) rfl rfl
theorem mt_cvL_30 : mt_CV RL 30 yX11_feed cX11_feed 6 (some .int) 5 11 := ⟨⟨mt_mem (i := 1011) (by decide +kernel) rfl, mt_cdX11_feed, mt_mem (i := 74) (by decide +kernel) rfl, by decide, by decide +kernel, by decide +kernel, by decide +kernel⟩, mt_mem (i := 1012) (by decide +kernel) rfl, mt_mem (i := 1013) (by decide +kernel) rfl, by decide, _, rfl, rfl⟩
set_option maxRecDepth 20000 in
theorem mt_cdX11_lay : Cond.code yX11_lay cX11_lay 3 none ∈ mt_tb := mt_mem (i := 1019) rfl rfl
theorem mt_cvX11_14 : mt_CV RX11 14 yX11_lay cX11_lay 3 none 1 11 := ⟨⟨mt_mem (i := 1015) (by decide +kernel) rfl, mt_cdX11_lay, mt_mem (i := 74) (by decide +kernel) rfl, by decide, by decide +kernel, by decide +kernel, by decide +kernel⟩, mt_mem (i := 1017) (by decide +kernel) rfl, mt_mem (i := 27) (by decide +kernel) rfl, by decide, _, rfl, rfl⟩
set_option maxRecDepth 20000 in
theorem mt_cdX11_end : Cond.code yX11_end cX11_end 2 (some .boolean) ∈ mt_tb := mt_mem (i := 1023) rfl rfl
theorem mt_cvL_35 : mt_CV RL 35 yX11_end cX11_end 2 (some .boolean) 1 11 := ⟨⟨mt_mem (i := 1020) (by decide +kernel) rfl, mt_cdX11_end, mt_mem (i := 74) (by decide +kernel) rfl, by decide, by decide +kernel, by decide +kernel, by decide +kernel⟩, mt_mem (i := 1021) (by decide +kernel) rfl, mt_mem (i := 1022) (by decide +kernel) rfl, by decide, _, rfl, rfl⟩
set_option maxRecDepth 20000 in
theorem mt_cdX11_init : Cond.code yX11_init cX11_init 1 none ∈ mt_tb := mt_mem (i := 1027) rfl rfl
theorem mt_ciL_25 : mt_CI RL 25 yX11_init cX11_init 1 0 := ⟨⟨mt_mem (i := 1025) (by decide +kernel) rfl, mt_cdX11_init, mt_mem (i := 74) (by decide +kernel) rfl, by decide, by decide +kernel, by decide +kernel, by decide +kernel⟩, rfl, mt_mem (i := 1026) (by decide +kernel) rfl⟩
theorem mt_flX11_1 : mt_FL RX11 1 11 0 0 false .int := ⟨RX11, TX11, 39, tyX11, mt_cf11, rfl, mt_mem (i := 1029) (by decide +kernel) rfl, rfl, rfl, rfl⟩
theorem mt_flX11_7 : mt_FL RX11 7 11 1 2 true (.array .int) := ⟨RX11, TX11, 39, tyX11, mt_cf11, rfl, mt_mem (i := 1030) (by decide +kernel) rfl, rfl, rfl, rfl⟩
theorem mt_flX11_11 : mt_FL RX11 11 11 2 0 false .int := ⟨RX11, TX11, 39, tyX11, mt_cf11, rfl, mt_mem (i := 1031) (by decide +kernel) rfl, rfl, rfl, rfl⟩
theorem mt_flX11_24 : mt_FL RX11 24 11 3 2 true (.array .int) := ⟨RX11, TX11, 39, tyX11, mt_cf11, rfl, mt_mem (i := 1032) (by decide +kernel) rfl, rfl, rfl, rfl⟩
theorem mt_flX11_27 : mt_FL RX11 27 11 4 2 true (.array .int) := ⟨RX11, TX11, 39, tyX11, mt_cf11, rfl, mt_mem (i := 1033) (by decide +kernel) rfl, rfl, rfl, rfl⟩
theorem mt_flX11_30 : mt_FL RX11 30 11 5 2 true (.array .int) := ⟨RX11, TX11, 39, tyX11, mt_cf11, rfl, mt_mem (i := 1034) (by decide +kernel) rfl, rfl, rfl, rfl⟩
theorem mt_flX11_33 : mt_FL RX11 33 11 6 2 true (.array .int) := ⟨RX11, TX11, 39, tyX11, mt_cf11, rfl, mt_mem (i := 1035) (by decide +kernel) rfl, rfl, rfl, rfl⟩
theorem mt_flX11_36 : mt_FL RX11 36 11 7 2 true (.array .int) := ⟨RX11, TX11, 39, tyX11, mt_cf11, rfl, mt_mem (i := 1036) (by decide +kernel) rfl, rfl, rfl, rfl⟩
theorem mt_flX11_39 : mt_FL RX11 39 11 8 2 true (.array .boolean) := ⟨RX11, TX11, 39, tyX11, mt_cf11, rfl, mt_mem (i := 1037) (by decide +kernel) rfl, rfl, rfl, rfl⟩
theorem mt_flX11_56 : mt_FL RX11 56 11 9 0 false .int := ⟨RX11, TX11, 39, tyX11, mt_cf11, rfl, mt_mem (i := 1038) (by decide +kernel) rfl, rfl, rfl, rfl⟩
theorem mt_flX11_66 : mt_FL RX11 66 11 10 0 false .int := ⟨RX11, TX11, 39, tyX11, mt_cf11, rfl, mt_mem (i := 1039) (by decide +kernel) rfl, rfl, rfl, rfl⟩
theorem mt_flX11_69 : mt_FL RX11 69 11 11 0 false .int := ⟨RX11, TX11, 39, tyX11, mt_cf11, rfl, mt_mem (i := 1040) (by decide +kernel) rfl, rfl, rfl, rfl⟩
theorem mt_flX11_72 : mt_FL RX11 72 11 12 0 false .int := ⟨RX11, TX11, 39, tyX11, mt_cf11, rfl, mt_mem (i := 1041) (by decide +kernel) rfl, rfl, rfl, rfl⟩
theorem mt_flX11_75 : mt_FL RX11 75 11 13 0 false .int := ⟨RX11, TX11, 39, tyX11, mt_cf11, rfl, mt_mem (i := 1042) (by decide +kernel) rfl, rfl, rfl, rfl⟩
theorem mt_flX11_78 : mt_FL RX11 78 11 14 0 false .int := ⟨RX11, TX11, 39, tyX11, mt_cf11, rfl, mt_mem (i := 1043) (by decide +kernel) rfl, rfl, rfl, rfl⟩
theorem mt_flX11_43 : mt_FL RX11 43 11 15 2 true (.array .int) := ⟨RX11, TX11, 39, tyX11, mt_cf11, rfl, mt_mem (i := 1044) (by decide +kernel) rfl, rfl, rfl, rfl⟩
theorem mt_flX11_46 : mt_FL RX11 46 11 16 2 true (.array .long) := ⟨RX11, TX11, 39, tyX11, mt_cf11, rfl, mt_mem (i := 1045) (by decide +kernel) rfl, rfl, rfl, rfl⟩
theorem mt_flX11_147 : mt_FL RX11 147 11 17 1 false .long := ⟨RX11, TX11, 39, tyX11, mt_cf11, rfl, mt_mem (i := 1046) (by decide +kernel) rfl, rfl, rfl, rfl⟩
theorem mt_flX11_153 : mt_FL RX11 153 11 18 1 false .long := ⟨RX11, TX11, 39, tyX11, mt_cf11, rfl, mt_mem (i := 1047) (by decide +kernel) rfl, rfl, rfl, rfl⟩
theorem mt_flX11_156 : mt_FL RX11 156 11 19 1 false .long := ⟨RX11, TX11, 39, tyX11, mt_cf11, rfl, mt_mem (i := 1048) (by decide +kernel) rfl, rfl, rfl, rfl⟩
theorem mt_flX11_163 : mt_FL RX11 163 11 20 1 false .long := ⟨RX11, TX11, 39, tyX11, mt_cf11, rfl, mt_mem (i := 1049) (by decide +kernel) rfl, rfl, rfl, rfl⟩
theorem mt_flX11_166 : mt_FL RX11 166 11 21 1 false .long := ⟨RX11, TX11, 39, tyX11, mt_cf11, rfl, mt_mem (i := 1050) (by decide +kernel) rfl, rfl, rfl, rfl⟩
theorem mt_flX11_186 : mt_FL RX11 186 11 22 1 false .long := ⟨RX11, TX11, 39, tyX11, mt_cf11, rfl, mt_mem (i := 1051) (by decide +kernel) rfl, rfl, rfl, rfl⟩
theorem mt_flX11_50 : mt_FL RX11 50 11 23 2 true (.array .long) := ⟨RX11, TX11, 39, tyX11, mt_cf11, rfl, mt_mem (i := 1052) (by decide +kernel) rfl, rfl, rfl, rfl⟩
theorem mt_flX11_194 : mt_FL RX11 194 11 24 0 false .int := ⟨RX11, TX11, 39, tyX11, mt_cf11, rfl, mt_mem (i := 1053) (by decide +kernel) rfl, rfl, rfl, rfl⟩
theorem mt_flX11_204 : mt_FL RX11 204 11 25 0 false .int := ⟨RX11, TX11, 39, tyX11, mt_cf11, rfl, mt_mem (i := 1054) (by decide +kernel) rfl, rfl, rfl, rfl⟩
theorem mt_flX11_201 : mt_FL RX11 201 11 26 1 false .long := ⟨RX11, TX11, 39, tyX11, mt_cf11, rfl, mt_mem (i := 1055) (by decide +kernel) rfl, rfl, rfl, rfl⟩
theorem mt_flX11_207 : mt_FL RX11 207 11 27 1 false .long := ⟨RX11, TX11, 39, tyX11, mt_cf11, rfl, mt_mem (i := 1056) (by decide +kernel) rfl, rfl, rfl, rfl⟩
theorem mt_flX11_210 : mt_FL RX11 210 11 28 1 false .long := ⟨RX11, TX11, 39, tyX11, mt_cf11, rfl, mt_mem (i := 1057) (by decide +kernel) rfl, rfl, rfl, rfl⟩
theorem mt_flX11_53 : mt_FL RX11 53 11 29 2 true (.array .int) := ⟨RX11, TX11, 39, tyX11, mt_cf11, rfl, mt_mem (i := 1058) (by decide +kernel) rfl, rfl, rfl, rfl⟩
theorem mt_flX11_250 : mt_FL RX11 250 11 30 0 false .int := ⟨RX11, TX11, 39, tyX11, mt_cf11, rfl, mt_mem (i := 1059) (by decide +kernel) rfl, rfl, rfl, rfl⟩
theorem mt_flX11_256 : mt_FL RX11 256 11 31 0 false .int := ⟨RX11, TX11, 39, tyX11, mt_cf11, rfl, mt_mem (i := 1060) (by decide +kernel) rfl, rfl, rfl, rfl⟩
theorem mt_flX11_253 : mt_FL RX11 253 11 32 0 false .int := ⟨RX11, TX11, 39, tyX11, mt_cf11, rfl, mt_mem (i := 1061) (by decide +kernel) rfl, rfl, rfl, rfl⟩
theorem mt_flX11_259 : mt_FL RX11 259 11 33 0 false .int := ⟨RX11, TX11, 39, tyX11, mt_cf11, rfl, mt_mem (i := 1062) (by decide +kernel) rfl, rfl, rfl, rfl⟩
theorem mt_flX11_262 : mt_FL RX11 262 11 34 0 false .int := ⟨RX11, TX11, 39, tyX11, mt_cf11, rfl, mt_mem (i := 1063) (by decide +kernel) rfl, rfl, rfl, rfl⟩
theorem mt_flX11_280 : mt_FL RX11 280 11 35 0 false .int := ⟨RX11, TX11, 39, tyX11, mt_cf11, rfl, mt_mem (i := 1064) (by decide +kernel) rfl, rfl, rfl, rfl⟩
theorem mt_flX11_291 : mt_FL RX11 291 11 36 0 false .int := ⟨RX11, TX11, 39, tyX11, mt_cf11, rfl, mt_mem (i := 1065) (by decide +kernel) rfl, rfl, rfl, rfl⟩
theorem mt_flX11_287 : mt_FL RX11 287 11 37 0 false .boolean := ⟨RX11, TX11, 39, tyX11, mt_cf11, rfl, mt_mem (i := 1066) (by decide +kernel) rfl, rfl, rfl, rfl⟩
theorem mt_flX11_303 : mt_FL RX11 303 11 38 0 false .int := ⟨RX11, TX11, 39, tyX11, mt_cf11, rfl, mt_mem (i := 1067) (by decide +kernel) rfl, rfl, rfl, rfl⟩
set_option maxRecDepth 20000 in
theorem mt_cdX11_left : Cond.code yX11_left cX11_left 1 (some .int) ∈ mt_tb := mt_mem (i := 1150) rfl rfl
theorem mt_cvL_53 : mt_CV RL 53 yX11_left cX11_left 1 (some .int) 0 11 := ⟨⟨mt_mem (i := 1147) (by decide +kernel) rfl, mt_cdX11_left, mt_mem (i := 74) (by decide +kernel) rfl, by decide, by decide +kernel, by decide +kernel, by decide +kernel⟩, mt_mem (i := 1148) (by decide +kernel) rfl, mt_mem (i := 1149) (by decide +kernel) rfl, by decide, _, rfl, rfl⟩
set_option maxRecDepth 20000 in
theorem mt_cdX11_stepsOnce : Cond.code yX11_stepsOnce cX11_stepsOnce 2 (some .int) ∈ mt_tb := mt_mem (i := 1154) rfl rfl
theorem mt_cvX11_108 : mt_CV RX11 108 yX11_stepsOnce cX11_stepsOnce 2 (some .int) 1 11 := ⟨⟨mt_mem (i := 1151) (by decide +kernel) rfl, mt_cdX11_stepsOnce, mt_mem (i := 74) (by decide +kernel) rfl, by decide, by decide +kernel, by decide +kernel, by decide +kernel⟩, mt_mem (i := 1153) (by decide +kernel) rfl, mt_mem (i := 28) (by decide +kernel) rfl, by decide, _, rfl, rfl⟩
set_option maxRecDepth 20000 in
theorem mt_cdX11_copy : Cond.code yX11_copy cX11_copy 5 none ∈ mt_tb := mt_mem (i := 1157) rfl rfl
theorem mt_csX11_59 : mt_CS RX11 59 yX11_copy cX11_copy 5 none 4 := ⟨⟨mt_mem (i := 1155) (by decide +kernel) rfl, mt_cdX11_copy, mt_mem (i := 74) (by decide +kernel) rfl, by decide, by decide +kernel, by decide +kernel, by decide +kernel⟩, mt_mem (i := 1156) (by decide +kernel) rfl⟩
set_option maxRecDepth 20000 in
theorem mt_cdX11_steps : Cond.code yX11_steps cX11_steps 4 (some .boolean) ∈ mt_tb := mt_mem (i := 1161) rfl rfl
theorem mt_cvX11_101 : mt_CV RX11 101 yX11_steps cX11_steps 4 (some .boolean) 1 11 := ⟨⟨mt_mem (i := 1158) (by decide +kernel) rfl, mt_cdX11_steps, mt_mem (i := 74) (by decide +kernel) rfl, by decide, by decide +kernel, by decide +kernel, by decide +kernel⟩, mt_mem (i := 1160) (by decide +kernel) rfl, mt_mem (i := 29) (by decide +kernel) rfl, by decide, _, rfl, rfl⟩
set_option maxRecDepth 20000 in
theorem mt_cdX11_lays : Cond.code yX11_lays cX11_lays 1 none ∈ mt_tb := mt_mem (i := 1165) rfl rfl
theorem mt_cvX11_95 : mt_CV RX11 95 yX11_lays cX11_lays 1 none 0 11 := ⟨⟨mt_mem (i := 1162) (by decide +kernel) rfl, mt_cdX11_lays, mt_mem (i := 74) (by decide +kernel) rfl, by decide, by decide +kernel, by decide +kernel, by decide +kernel⟩, mt_mem (i := 1164) (by decide +kernel) rfl, mt_mem (i := 30) (by decide +kernel) rfl, by decide, _, rfl, rfl⟩
set_option maxRecDepth 20000 in
theorem mt_cdX11_goesTo : Cond.code yX11_goesTo cX11_goesTo 6 none ∈ mt_tb := mt_mem (i := 1169) rfl rfl
theorem mt_cvX11_81 : mt_CV RX11 81 yX11_goesTo cX11_goesTo 6 none 2 11 := ⟨⟨mt_mem (i := 1166) (by decide +kernel) rfl, mt_cdX11_goesTo, mt_mem (i := 74) (by decide +kernel) rfl, by decide, by decide +kernel, by decide +kernel, by decide +kernel⟩, mt_mem (i := 1168) (by decide +kernel) rfl, mt_mem (i := 31) (by decide +kernel) rfl, by decide, _, rfl, rfl⟩
set_option maxRecDepth 20000 in
theorem mt_cdX11_becomes : Cond.code yX11_becomes cX11_becomes 3 none ∈ mt_tb := mt_mem (i := 1173) rfl rfl
theorem mt_cvX11_98 : mt_CV RX11 98 yX11_becomes cX11_becomes 3 none 2 11 := ⟨⟨mt_mem (i := 1170) (by decide +kernel) rfl, mt_cdX11_becomes, mt_mem (i := 74) (by decide +kernel) rfl, by decide, by decide +kernel, by decide +kernel, by decide +kernel⟩, mt_mem (i := 1172) (by decide +kernel) rfl, mt_mem (i := 32) (by decide +kernel) rfl, by decide, _, rfl, rfl⟩
set_option maxRecDepth 20000 in
theorem mt_cdX11_stay : Cond.code yX11_stay cX11_stay 1 none ∈ mt_tb := mt_mem (i := 1177) rfl rfl
theorem mt_cvX11_105 : mt_CV RX11 105 yX11_stay cX11_stay 1 none 0 11 := ⟨⟨mt_mem (i := 1174) (by decide +kernel) rfl, mt_cdX11_stay, mt_mem (i := 74) (by decide +kernel) rfl, by decide, by decide +kernel, by decide +kernel, by decide +kernel⟩, mt_mem (i := 1176) (by decide +kernel) rfl, mt_mem (i := 33) (by decide +kernel) rfl, by decide, _, rfl, rfl⟩
set_option maxRecDepth 20000 in
theorem mt_cdX11_snap : Cond.code yX11_snap cX11_snap 2 none ∈ mt_tb := mt_mem (i := 1181) rfl rfl
theorem mt_cvX11_63 : mt_CV RX11 63 yX11_snap cX11_snap 2 none 0 11 := ⟨⟨mt_mem (i := 1178) (by decide +kernel) rfl, mt_cdX11_snap, mt_mem (i := 74) (by decide +kernel) rfl, by decide, by decide +kernel, by decide +kernel, by decide +kernel⟩, mt_mem (i := 1180) (by decide +kernel) rfl, mt_mem (i := 34) (by decide +kernel) rfl, by decide, _, rfl, rfl⟩
set_option maxRecDepth 20000 in
theorem mt_cdX11_right : Cond.code yX11_right cX11_right 1 (some .int) ∈ mt_tb := mt_mem (i := 1185) rfl rfl
theorem mt_cvL_57 : mt_CV RL 57 yX11_right cX11_right 1 (some .int) 0 11 := ⟨⟨mt_mem (i := 1182) (by decide +kernel) rfl, mt_cdX11_right, mt_mem (i := 74) (by decide +kernel) rfl, by decide, by decide +kernel, by decide +kernel, by decide +kernel⟩, mt_mem (i := 1183) (by decide +kernel) rfl, mt_mem (i := 1184) (by decide +kernel) rfl, by decide, _, rfl, rfl⟩
set_option maxRecDepth 20000 in
theorem mt_cdX11_up : Cond.code yX11_up cX11_up 1 (some .int) ∈ mt_tb := mt_mem (i := 1189) rfl rfl
theorem mt_cvL_61 : mt_CV RL 61 yX11_up cX11_up 1 (some .int) 0 11 := ⟨⟨mt_mem (i := 1186) (by decide +kernel) rfl, mt_cdX11_up, mt_mem (i := 74) (by decide +kernel) rfl, by decide, by decide +kernel, by decide +kernel, by decide +kernel⟩, mt_mem (i := 1187) (by decide +kernel) rfl, mt_mem (i := 1188) (by decide +kernel) rfl, by decide, _, rfl, rfl⟩
set_option maxRecDepth 20000 in
theorem mt_cdX11_go : Cond.code yX11_go cX11_go 3 (some .int) ∈ mt_tb := mt_mem (i := 1193) rfl rfl
theorem mt_cvL_66 : mt_CV RL 66 yX11_go cX11_go 3 (some .int) 2 11 := ⟨⟨mt_mem (i := 1190) (by decide +kernel) rfl, mt_cdX11_go, mt_mem (i := 74) (by decide +kernel) rfl, by decide, by decide +kernel, by decide +kernel, by decide +kernel⟩, mt_mem (i := 1191) (by decide +kernel) rfl, mt_mem (i := 1192) (by decide +kernel) rfl, by decide, _, rfl, rfl⟩
set_option maxRecDepth 20000 in
theorem mt_cdX11_isPlace : Cond.code yX11_isPlace cX11_isPlace 2 (some .boolean) ∈ mt_tb := mt_mem (i := 1196) rfl rfl
theorem mt_csX11_116 : mt_CS RX11 116 yX11_isPlace cX11_isPlace 2 (some .boolean) 2 := ⟨⟨mt_mem (i := 1194) (by decide +kernel) rfl, mt_cdX11_isPlace, mt_mem (i := 74) (by decide +kernel) rfl, by decide, by decide +kernel, by decide +kernel, by decide +kernel⟩, mt_mem (i := 1195) (by decide +kernel) rfl⟩
theorem mt_kX11_89 : Cond.constantLong RX11 89 (22) ∈ mt_tb := mt_mem (i := 1197) (by decide +kernel) rfl
set_option maxRecDepth 20000 in
theorem mt_cdX11_isIn : Cond.code yX11_isIn cX11_isIn 6 (some .boolean) ∈ mt_tb := mt_mem (i := 1200) rfl rfl
theorem mt_csX11_91 : mt_CS RX11 91 yX11_isIn cX11_isIn 6 (some .boolean) 3 := ⟨⟨mt_mem (i := 1198) (by decide +kernel) rfl, mt_cdX11_isIn, mt_mem (i := 74) (by decide +kernel) rfl, by decide, by decide +kernel, by decide +kernel, by decide +kernel⟩, mt_mem (i := 1199) (by decide +kernel) rfl⟩
set_option maxRecDepth 20000 in
theorem mt_cdX11_divisor : Cond.code yX11_divisor cX11_divisor 2 (some .int) ∈ mt_tb := mt_mem (i := 1203) rfl rfl
theorem mt_csX11_85 : mt_CS RX11 85 yX11_divisor cX11_divisor 2 (some .int) 2 := ⟨⟨mt_mem (i := 1201) (by decide +kernel) rfl, mt_cdX11_divisor, mt_mem (i := 74) (by decide +kernel) rfl, by decide, by decide +kernel, by decide +kernel, by decide +kernel⟩, mt_mem (i := 1202) (by decide +kernel) rfl⟩
set_option maxRecDepth 20000 in
theorem mt_cdX11_goesThere : Cond.code yX11_goesThere cX11_goesThere 3 (some .int) ∈ mt_tb := mt_mem (i := 1207) rfl rfl
theorem mt_cvX11_120 : mt_CV RX11 120 yX11_goesThere cX11_goesThere 3 (some .int) 2 11 := ⟨⟨mt_mem (i := 1204) (by decide +kernel) rfl, mt_cdX11_goesThere, mt_mem (i := 74) (by decide +kernel) rfl, by decide, by decide +kernel, by decide +kernel, by decide +kernel⟩, mt_mem (i := 1206) (by decide +kernel) rfl, mt_mem (i := 35) (by decide +kernel) rfl, by decide, _, rfl, rfl⟩
set_option maxRecDepth 20000 in
theorem mt_cdX11_depth : Cond.code yX11_depth cX11_depth 1 (some .int) ∈ mt_tb := mt_mem (i := 1211) rfl rfl
theorem mt_cvX11_112 : mt_CV RX11 112 yX11_depth cX11_depth 1 (some .int) 0 11 := ⟨⟨mt_mem (i := 1208) (by decide +kernel) rfl, mt_cdX11_depth, mt_mem (i := 74) (by decide +kernel) rfl, by decide, by decide +kernel, by decide +kernel, by decide +kernel⟩, mt_mem (i := 1210) (by decide +kernel) rfl, mt_mem (i := 36) (by decide +kernel) rfl, by decide, _, rfl, rfl⟩
set_option maxRecDepth 20000 in
theorem mt_cdX11_triple : Cond.code yX11_triple cX11_triple 2 (some .long) ∈ mt_tb := mt_mem (i := 1215) rfl rfl
theorem mt_cvL_72 : mt_CV RL 72 yX11_triple cX11_triple 2 (some .long) 1 11 := ⟨⟨mt_mem (i := 1212) (by decide +kernel) rfl, mt_cdX11_triple, mt_mem (i := 74) (by decide +kernel) rfl, by decide, by decide +kernel, by decide +kernel, by decide +kernel⟩, mt_mem (i := 1213) (by decide +kernel) rfl, mt_mem (i := 1214) (by decide +kernel) rfl, by decide, _, rfl, rfl⟩
set_option maxRecDepth 20000 in
theorem mt_cdX11_numberOf : Cond.code yX11_numberOf cX11_numberOf 3 (some .long) ∈ mt_tb := mt_mem (i := 1219) rfl rfl
theorem mt_cvX11_134 : mt_CV RX11 134 yX11_numberOf cX11_numberOf 3 (some .long) 2 11 := ⟨⟨mt_mem (i := 1216) (by decide +kernel) rfl, mt_cdX11_numberOf, mt_mem (i := 74) (by decide +kernel) rfl, by decide, by decide +kernel, by decide +kernel, by decide +kernel⟩, mt_mem (i := 1218) (by decide +kernel) rfl, mt_mem (i := 37) (by decide +kernel) rfl, by decide, _, rfl, rfl⟩
set_option maxRecDepth 20000 in
theorem mt_cdX11_laysMatrix : Cond.code yX11_laysMatrix cX11_laysMatrix 14 none ∈ mt_tb := mt_mem (i := 1223) rfl rfl
theorem mt_cvX11_131 : mt_CV RX11 131 yX11_laysMatrix cX11_laysMatrix 14 none 2 11 := ⟨⟨mt_mem (i := 1220) (by decide +kernel) rfl, mt_cdX11_laysMatrix, mt_mem (i := 74) (by decide +kernel) rfl, by decide, by decide +kernel, by decide +kernel, by decide +kernel⟩, mt_mem (i := 1222) (by decide +kernel) rfl, mt_mem (i := 38) (by decide +kernel) rfl, by decide, _, rfl, rfl⟩
set_option maxRecDepth 20000 in
theorem mt_cdX11_isA : Cond.code yX11_isA cX11_isA 3 (some .boolean) ∈ mt_tb := mt_mem (i := 1226) rfl rfl
theorem mt_csX11_123 : mt_CS RX11 123 yX11_isA cX11_isA 3 (some .boolean) 3 := ⟨⟨mt_mem (i := 1224) (by decide +kernel) rfl, mt_cdX11_isA, mt_mem (i := 74) (by decide +kernel) rfl, by decide, by decide +kernel, by decide +kernel, by decide +kernel⟩, mt_mem (i := 1225) (by decide +kernel) rfl⟩
theorem mt_kX11_127 : Cond.constantLong RX11 127 (2) ∈ mt_tb := mt_mem (i := 1227) (by decide +kernel) rfl
theorem mt_kX11_129 : Cond.constantLong RX11 129 (5) ∈ mt_tb := mt_mem (i := 1228) (by decide +kernel) rfl
set_option maxRecDepth 20000 in
theorem mt_cdX11_number : Cond.code yX11_number cX11_number 1 (some .long) ∈ mt_tb := mt_mem (i := 1232) rfl rfl
theorem mt_cvX11_138 : mt_CV RX11 138 yX11_number cX11_number 1 (some .long) 0 11 := ⟨⟨mt_mem (i := 1229) (by decide +kernel) rfl, mt_cdX11_number, mt_mem (i := 74) (by decide +kernel) rfl, by decide, by decide +kernel, by decide +kernel, by decide +kernel⟩, mt_mem (i := 1231) (by decide +kernel) rfl, mt_mem (i := 39) (by decide +kernel) rfl, by decide, _, rfl, rfl⟩
set_option maxRecDepth 20000 in
theorem mt_cdX11_refuse : Cond.code yX11_refuse cX11_refuse 1 (some .int) ∈ mt_tb := mt_mem (i := 1236) rfl rfl
theorem mt_cvX11_142 : mt_CV RX11 142 yX11_refuse cX11_refuse 1 (some .int) 0 11 := ⟨⟨mt_mem (i := 1233) (by decide +kernel) rfl, mt_cdX11_refuse, mt_mem (i := 74) (by decide +kernel) rfl, by decide, by decide +kernel, by decide +kernel, by decide +kernel⟩, mt_mem (i := 1235) (by decide +kernel) rfl, mt_mem (i := 40) (by decide +kernel) rfl, by decide, _, rfl, rfl⟩
set_option maxRecDepth 20000 in
theorem mt_cdX11_letter : Cond.code yX11_letter cX11_letter 3 (some .int) ∈ mt_tb := mt_mem (i := 1240) rfl rfl
theorem mt_cvL_79 : mt_CV RL 79 yX11_letter cX11_letter 3 (some .int) 1 11 := ⟨⟨mt_mem (i := 1237) (by decide +kernel) rfl, mt_cdX11_letter, mt_mem (i := 74) (by decide +kernel) rfl, by decide, by decide +kernel, by decide +kernel, by decide +kernel⟩, mt_mem (i := 1238) (by decide +kernel) rfl, mt_mem (i := 1239) (by decide +kernel) rfl, by decide, _, rfl, rfl⟩
set_option maxRecDepth 20000 in
theorem mt_cdX11_cut : Cond.code yX11_cut cX11_cut 2 (some .int) ∈ mt_tb := mt_mem (i := 1244) rfl rfl
theorem mt_cvL_83 : mt_CV RL 83 yX11_cut cX11_cut 2 (some .int) 0 11 := ⟨⟨mt_mem (i := 1241) (by decide +kernel) rfl, mt_cdX11_cut, mt_mem (i := 74) (by decide +kernel) rfl, by decide, by decide +kernel, by decide +kernel, by decide +kernel⟩, mt_mem (i := 1242) (by decide +kernel) rfl, mt_mem (i := 1243) (by decide +kernel) rfl, by decide, _, rfl, rfl⟩
set_option maxRecDepth 20000 in
theorem mt_cdX11_matrix : Cond.code yX11_matrix cX11_matrix 3 (some .long) ∈ mt_tb := mt_mem (i := 1248) rfl rfl
theorem mt_cvL_87 : mt_CV RL 87 yX11_matrix cX11_matrix 3 (some .long) 2 11 := ⟨⟨mt_mem (i := 1245) (by decide +kernel) rfl, mt_cdX11_matrix, mt_mem (i := 74) (by decide +kernel) rfl, by decide, by decide +kernel, by decide +kernel, by decide +kernel⟩, mt_mem (i := 1246) (by decide +kernel) rfl, mt_mem (i := 1247) (by decide +kernel) rfl, by decide, _, rfl, rfl⟩
set_option maxRecDepth 20000 in
theorem mt_cdX11_form : Cond.code yX11_form cX11_form 2 (some .long) ∈ mt_tb := mt_mem (i := 1252) rfl rfl
theorem mt_cvL_90 : mt_CV RL 90 yX11_form cX11_form 2 (some .long) 1 11 := ⟨⟨mt_mem (i := 1249) (by decide +kernel) rfl, mt_cdX11_form, mt_mem (i := 74) (by decide +kernel) rfl, by decide, by decide +kernel, by decide +kernel, by decide +kernel⟩, mt_mem (i := 1250) (by decide +kernel) rfl, mt_mem (i := 1251) (by decide +kernel) rfl, by decide, _, rfl, rfl⟩
set_option maxRecDepth 20000 in
theorem mt_cdX11_laysForm : Cond.code yX11_laysForm cX11_laysForm 7 (some .boolean) ∈ mt_tb := mt_mem (i := 1256) rfl rfl
theorem mt_cvX11_173 : mt_CV RX11 173 yX11_laysForm cX11_laysForm 7 (some .boolean) 0 11 := ⟨⟨mt_mem (i := 1253) (by decide +kernel) rfl, mt_cdX11_laysForm, mt_mem (i := 74) (by decide +kernel) rfl, by decide, by decide +kernel, by decide +kernel, by decide +kernel⟩, mt_mem (i := 1255) (by decide +kernel) rfl, mt_mem (i := 41) (by decide +kernel) rfl, by decide, _, rfl, rfl⟩
theorem mt_kX11_145 : Cond.constantLong RX11 145 (1000000000) ∈ mt_tb := mt_mem (i := 1257) (by decide +kernel) rfl
theorem mt_kX11_151 : Cond.constantLong RX11 151 (3) ∈ mt_tb := mt_mem (i := 1258) (by decide +kernel) rfl
theorem mt_kX11_159 : Cond.constantLong RX11 159 (9) ∈ mt_tb := mt_mem (i := 1259) (by decide +kernel) rfl
theorem mt_kX11_161 : Cond.constantLong RX11 161 (4) ∈ mt_tb := mt_mem (i := 1260) (by decide +kernel) rfl
theorem mt_kX11_169 : Cond.constantLong RX11 169 (2147483648) ∈ mt_tb := mt_mem (i := 1261) (by decide +kernel) rfl
theorem mt_kX11_171 : Cond.constantLong RX11 171 (3037000499) ∈ mt_tb := mt_mem (i := 1262) (by decide +kernel) rfl
set_option maxRecDepth 20000 in
theorem mt_cdX11_value : Cond.code yX11_value cX11_value 3 (some .long) ∈ mt_tb := mt_mem (i := 1266) rfl rfl
theorem mt_cvL_94 : mt_CV RL 94 yX11_value cX11_value 3 (some .long) 2 11 := ⟨⟨mt_mem (i := 1263) (by decide +kernel) rfl, mt_cdX11_value, mt_mem (i := 74) (by decide +kernel) rfl, by decide, by decide +kernel, by decide +kernel, by decide +kernel⟩, mt_mem (i := 1264) (by decide +kernel) rfl, mt_mem (i := 1265) (by decide +kernel) rfl, by decide, _, rfl, rfl⟩
theorem mt_kX11_177 : Cond.constantLong RX11 177 (-999) ∈ mt_tb := mt_mem (i := 1267) (by decide +kernel) rfl
theorem mt_kX11_179 : Cond.constantLong RX11 179 (999) ∈ mt_tb := mt_mem (i := 1268) (by decide +kernel) rfl
theorem mt_kX11_181 : Cond.constantLong RX11 181 (-1000000000000000000) ∈ mt_tb := mt_mem (i := 1269) (by decide +kernel) rfl
set_option maxRecDepth 20000 in
theorem mt_cdX11_round : Cond.code yX11_round cX11_round 1 (some .int) ∈ mt_tb := mt_mem (i := 1273) rfl rfl
theorem mt_cvL_98 : mt_CV RL 98 yX11_round cX11_round 1 (some .int) 0 11 := ⟨⟨mt_mem (i := 1270) (by decide +kernel) rfl, mt_cdX11_round, mt_mem (i := 74) (by decide +kernel) rfl, by decide, by decide +kernel, by decide +kernel, by decide +kernel⟩, mt_mem (i := 1271) (by decide +kernel) rfl, mt_mem (i := 1272) (by decide +kernel) rfl, by decide, _, rfl, rfl⟩
set_option maxRecDepth 20000 in
theorem mt_cdX11_laysRound : Cond.code yX11_laysRound cX11_laysRound 13 (some .int) ∈ mt_tb := mt_mem (i := 1277) rfl rfl
theorem mt_cvX11_189 : mt_CV RX11 189 yX11_laysRound cX11_laysRound 13 (some .int) 0 11 := ⟨⟨mt_mem (i := 1274) (by decide +kernel) rfl, mt_cdX11_laysRound, mt_mem (i := 74) (by decide +kernel) rfl, by decide, by decide +kernel, by decide +kernel, by decide +kernel⟩, mt_mem (i := 1276) (by decide +kernel) rfl, mt_mem (i := 42) (by decide +kernel) rfl, by decide, _, rfl, rfl⟩
set_option maxRecDepth 20000 in
theorem mt_cdX11_formOn : Cond.code yX11_formOn cX11_formOn 9 none ∈ mt_tb := mt_mem (i := 1281) rfl rfl
theorem mt_cvX11_183 : mt_CV RX11 183 yX11_formOn cX11_formOn 9 none 0 11 := ⟨⟨mt_mem (i := 1278) (by decide +kernel) rfl, mt_cdX11_formOn, mt_mem (i := 74) (by decide +kernel) rfl, by decide, by decide +kernel, by decide +kernel, by decide +kernel⟩, mt_mem (i := 1280) (by decide +kernel) rfl, mt_mem (i := 43) (by decide +kernel) rfl, by decide, _, rfl, rfl⟩
set_option maxRecDepth 20000 in
theorem mt_cdX11_least : Cond.code yX11_least cX11_least 1 (some .long) ∈ mt_tb := mt_mem (i := 1285) rfl rfl
theorem mt_cvL_103 : mt_CV RL 103 yX11_least cX11_least 1 (some .long) 0 11 := ⟨⟨mt_mem (i := 1282) (by decide +kernel) rfl, mt_cdX11_least, mt_mem (i := 74) (by decide +kernel) rfl, by decide, by decide +kernel, by decide +kernel, by decide +kernel⟩, mt_mem (i := 1283) (by decide +kernel) rfl, mt_mem (i := 1284) (by decide +kernel) rfl, by decide, _, rfl, rfl⟩
theorem mt_kX11_192 : Cond.constantLong RX11 192 (-1) ∈ mt_tb := mt_mem (i := 1286) (by decide +kernel) rfl
set_option maxRecDepth 20000 in
theorem mt_cdX11_upTo : Cond.code yX11_upTo cX11_upTo 4 (some .int) ∈ mt_tb := mt_mem (i := 1290) rfl rfl
theorem mt_cvL_110 : mt_CV RL 110 yX11_upTo cX11_upTo 4 (some .int) 1 11 := ⟨⟨mt_mem (i := 1287) (by decide +kernel) rfl, mt_cdX11_upTo, mt_mem (i := 74) (by decide +kernel) rfl, by decide, by decide +kernel, by decide +kernel, by decide +kernel⟩, mt_mem (i := 1288) (by decide +kernel) rfl, mt_mem (i := 1289) (by decide +kernel) rfl, by decide, _, rfl, rfl⟩
theorem mt_kX11_213 : Cond.constantLong RX11 213 (1000000000000) ∈ mt_tb := mt_mem (i := 1291) (by decide +kernel) rfl
set_option maxRecDepth 20000 in
theorem mt_cdX11_laysNumbers : Cond.code yX11_laysNumbers cX11_laysNumbers 3 none ∈ mt_tb := mt_mem (i := 1295) rfl rfl
theorem mt_cvX11_219 : mt_CV RX11 219 yX11_laysNumbers cX11_laysNumbers 3 none 1 11 := ⟨⟨mt_mem (i := 1292) (by decide +kernel) rfl, mt_cdX11_laysNumbers, mt_mem (i := 74) (by decide +kernel) rfl, by decide, by decide +kernel, by decide +kernel, by decide +kernel⟩, mt_mem (i := 1294) (by decide +kernel) rfl, mt_mem (i := 44) (by decide +kernel) rfl, by decide, _, rfl, rfl⟩
set_option maxRecDepth 20000 in
theorem mt_cdX11_comes : Cond.code yX11_comes cX11_comes 5 none ∈ mt_tb := mt_mem (i := 1299) rfl rfl
theorem mt_cvX11_197 : mt_CV RX11 197 yX11_comes cX11_comes 5 none 1 11 := ⟨⟨mt_mem (i := 1296) (by decide +kernel) rfl, mt_cdX11_comes, mt_mem (i := 74) (by decide +kernel) rfl, by decide, by decide +kernel, by decide +kernel, by decide +kernel⟩, mt_mem (i := 1298) (by decide +kernel) rfl, mt_mem (i := 45) (by decide +kernel) rfl, by decide, _, rfl, rfl⟩
set_option maxRecDepth 20000 in
theorem mt_cdX11_grows : Cond.code yX11_grows cX11_grows 7 none ∈ mt_tb := mt_mem (i := 1303) rfl rfl
theorem mt_cvX11_215 : mt_CV RX11 215 yX11_grows cX11_grows 7 none 3 11 := ⟨⟨mt_mem (i := 1300) (by decide +kernel) rfl, mt_cdX11_grows, mt_mem (i := 74) (by decide +kernel) rfl, by decide, by decide +kernel, by decide +kernel, by decide +kernel⟩, mt_mem (i := 1302) (by decide +kernel) rfl, mt_mem (i := 46) (by decide +kernel) rfl, by decide, _, rfl, rfl⟩
set_option maxRecDepth 20000 in
theorem mt_cdX11_markov : Cond.code yX11_markov cX11_markov 2 (some .long) ∈ mt_tb := mt_mem (i := 1307) rfl rfl
theorem mt_cvL_114 : mt_CV RL 114 yX11_markov cX11_markov 2 (some .long) 1 11 := ⟨⟨mt_mem (i := 1304) (by decide +kernel) rfl, mt_cdX11_markov, mt_mem (i := 74) (by decide +kernel) rfl, by decide, by decide +kernel, by decide +kernel, by decide +kernel⟩, mt_mem (i := 1305) (by decide +kernel) rfl, mt_mem (i := 1306) (by decide +kernel) rfl, by decide, _, rfl, rfl⟩
set_option maxRecDepth 20000 in
theorem mt_cdX11_rank : Cond.code yX11_rank cX11_rank 4 (some .int) ∈ mt_tb := mt_mem (i := 1311) rfl rfl
theorem mt_cvL_118 : mt_CV RL 118 yX11_rank cX11_rank 4 (some .int) 1 11 := ⟨⟨mt_mem (i := 1308) (by decide +kernel) rfl, mt_cdX11_rank, mt_mem (i := 74) (by decide +kernel) rfl, by decide, by decide +kernel, by decide +kernel, by decide +kernel⟩, mt_mem (i := 1309) (by decide +kernel) rfl, mt_mem (i := 1310) (by decide +kernel) rfl, by decide, _, rfl, rfl⟩
set_option maxRecDepth 20000 in
theorem mt_cdX11_triples : Cond.code yX11_triples cX11_triples 3 (some .int) ∈ mt_tb := mt_mem (i := 1315) rfl rfl
theorem mt_cvL_122 : mt_CV RL 122 yX11_triples cX11_triples 3 (some .int) 1 11 := ⟨⟨mt_mem (i := 1312) (by decide +kernel) rfl, mt_cdX11_triples, mt_mem (i := 74) (by decide +kernel) rfl, by decide, by decide +kernel, by decide +kernel, by decide +kernel⟩, mt_mem (i := 1313) (by decide +kernel) rfl, mt_mem (i := 1314) (by decide +kernel) rfl, by decide, _, rfl, rfl⟩
set_option maxRecDepth 20000 in
theorem mt_cdX11_with : Cond.code yX11_with cX11_with 4 (some .long) ∈ mt_tb := mt_mem (i := 1319) rfl rfl
theorem mt_cvL_127 : mt_CV RL 127 yX11_with cX11_with 4 (some .long) 2 11 := ⟨⟨mt_mem (i := 1316) (by decide +kernel) rfl, mt_cdX11_with, mt_mem (i := 74) (by decide +kernel) rfl, by decide, by decide +kernel, by decide +kernel, by decide +kernel⟩, mt_mem (i := 1317) (by decide +kernel) rfl, mt_mem (i := 1318) (by decide +kernel) rfl, by decide, _, rfl, rfl⟩
set_option maxRecDepth 20000 in
theorem mt_cdX11_down : Cond.code yX11_down cX11_down 13 (some .int) ∈ mt_tb := mt_mem (i := 1322) rfl rfl
theorem mt_csX11_222 : mt_CS RX11 222 yX11_down cX11_down 13 (some .int) 3 := ⟨⟨mt_mem (i := 1320) (by decide +kernel) rfl, mt_cdX11_down, mt_mem (i := 74) (by decide +kernel) rfl, by decide, by decide +kernel, by decide +kernel, by decide +kernel⟩, mt_mem (i := 1321) (by decide +kernel) rfl⟩
set_option maxRecDepth 20000 in
theorem mt_cdX11_spread : Cond.code yX11_spread cX11_spread 2 (some .int) ∈ mt_tb := mt_mem (i := 1326) rfl rfl
theorem mt_cvL_131 : mt_CV RL 131 yX11_spread cX11_spread 2 (some .int) 0 11 := ⟨⟨mt_mem (i := 1323) (by decide +kernel) rfl, mt_cdX11_spread, mt_mem (i := 74) (by decide +kernel) rfl, by decide, by decide +kernel, by decide +kernel, by decide +kernel⟩, mt_mem (i := 1324) (by decide +kernel) rfl, mt_mem (i := 1325) (by decide +kernel) rfl, by decide, _, rfl, rfl⟩
theorem mt_kX11_226 : Cond.constantFloat RX11 226 (1091567616) ∈ mt_tb := mt_mem (i := 1327) (by decide +kernel) rfl
theorem mt_kX11_227 : Cond.constantFloat RX11 227 (1082130432) ∈ mt_tb := mt_mem (i := 1328) (by decide +kernel) rfl
set_option maxRecDepth 20000 in
theorem mt_cdJxf58ca_floatToIntBits_5c35a : Cond.code yJxf58ca_floatToIntBits_5c35a cJxf58ca_floatToIntBits_5c35a 1 (some .int) ∈ mt_tb := mt_mem (i := 1331) rfl rfl
theorem mt_csX11_228 : mt_CS RX11 228 yJxf58ca_floatToIntBits_5c35a cJxf58ca_floatToIntBits_5c35a 1 (some .int) 1 := ⟨⟨mt_mem (i := 1329) (by decide +kernel) rfl, mt_cdJxf58ca_floatToIntBits_5c35a, mt_mem (i := 82) (by decide +kernel) rfl, by decide, by decide +kernel, by decide +kernel, by decide +kernel⟩, mt_mem (i := 1330) (by decide +kernel) rfl⟩
set_option maxRecDepth 20000 in
theorem mt_cdJxf58ca_isNaN_12338 : Cond.code yJxf58ca_isNaN_12338 cJxf58ca_isNaN_12338 1 (some .boolean) ∈ mt_tb := mt_mem (i := 1334) rfl rfl
theorem mt_csJxf58ca_59 : mt_CS RJxf58ca 59 yJxf58ca_isNaN_12338 cJxf58ca_isNaN_12338 1 (some .boolean) 1 := ⟨⟨mt_mem (i := 1332) (by decide +kernel) rfl, mt_cdJxf58ca_isNaN_12338, mt_mem (i := 82) (by decide +kernel) rfl, by decide, by decide +kernel, by decide +kernel, by decide +kernel⟩, mt_mem (i := 1333) (by decide +kernel) rfl⟩
theorem mt_kJxf58ca_77 : Cond.constant RJxf58ca 77 (2143289344) ∈ mt_tb := mt_mem (i := 1338) (by decide +kernel) rfl
set_option maxRecDepth 20000 in
theorem mt_cdX11_mark : Cond.code yX11_mark cX11_mark 1 (some .int) ∈ mt_tb := mt_mem (i := 1342) rfl rfl
theorem mt_cvL_135 : mt_CV RL 135 yX11_mark cX11_mark 1 (some .int) 0 11 := ⟨⟨mt_mem (i := 1339) (by decide +kernel) rfl, mt_cdX11_mark, mt_mem (i := 74) (by decide +kernel) rfl, by decide, by decide +kernel, by decide +kernel, by decide +kernel⟩, mt_mem (i := 1340) (by decide +kernel) rfl, mt_mem (i := 1341) (by decide +kernel) rfl, by decide, _, rfl, rfl⟩
set_option maxRecDepth 20000 in
theorem mt_cdX11_markHere : Cond.code yX11_markHere cX11_markHere 2 (some .int) ∈ mt_tb := mt_mem (i := 1346) rfl rfl
theorem mt_cvX11_244 : mt_CV RX11 244 yX11_markHere cX11_markHere 2 (some .int) 0 11 := ⟨⟨mt_mem (i := 1343) (by decide +kernel) rfl, mt_cdX11_markHere, mt_mem (i := 74) (by decide +kernel) rfl, by decide, by decide +kernel, by decide +kernel, by decide +kernel⟩, mt_mem (i := 1345) (by decide +kernel) rfl, mt_mem (i := 47) (by decide +kernel) rfl, by decide, _, rfl, rfl⟩
set_option maxRecDepth 20000 in
theorem mt_cdX11_markP : Cond.code yX11_markP cX11_markP 2 (some .int) ∈ mt_tb := mt_mem (i := 1350) rfl rfl
theorem mt_cvX11_234 : mt_CV RX11 234 yX11_markP cX11_markP 2 (some .int) 1 11 := ⟨⟨mt_mem (i := 1347) (by decide +kernel) rfl, mt_cdX11_markP, mt_mem (i := 74) (by decide +kernel) rfl, by decide, by decide +kernel, by decide +kernel, by decide +kernel⟩, mt_mem (i := 1349) (by decide +kernel) rfl, mt_mem (i := 48) (by decide +kernel) rfl, by decide, _, rfl, rfl⟩
set_option maxRecDepth 20000 in
theorem mt_cdX11_markQ : Cond.code yX11_markQ cX11_markQ 2 (some .int) ∈ mt_tb := mt_mem (i := 1354) rfl rfl
theorem mt_cvX11_237 : mt_CV RX11 237 yX11_markQ cX11_markQ 2 (some .int) 1 11 := ⟨⟨mt_mem (i := 1351) (by decide +kernel) rfl, mt_cdX11_markQ, mt_mem (i := 74) (by decide +kernel) rfl, by decide, by decide +kernel, by decide +kernel, by decide +kernel⟩, mt_mem (i := 1353) (by decide +kernel) rfl, mt_mem (i := 49) (by decide +kernel) rfl, by decide, _, rfl, rfl⟩
set_option maxRecDepth 20000 in
theorem mt_cdX11_marks : Cond.code yX11_marks cX11_marks 4 none ∈ mt_tb := mt_mem (i := 1358) rfl rfl
theorem mt_cvX11_247 : mt_CV RX11 247 yX11_marks cX11_marks 4 none 0 11 := ⟨⟨mt_mem (i := 1355) (by decide +kernel) rfl, mt_cdX11_marks, mt_mem (i := 74) (by decide +kernel) rfl, by decide, by decide +kernel, by decide +kernel, by decide +kernel⟩, mt_mem (i := 1357) (by decide +kernel) rfl, mt_mem (i := 50) (by decide +kernel) rfl, by decide, _, rfl, rfl⟩
set_option maxRecDepth 20000 in
theorem mt_cdX11_markNumber : Cond.code yX11_markNumber cX11_markNumber 2 (some .long) ∈ mt_tb := mt_mem (i := 1362) rfl rfl
theorem mt_cvX11_240 : mt_CV RX11 240 yX11_markNumber cX11_markNumber 2 (some .long) 1 11 := ⟨⟨mt_mem (i := 1359) (by decide +kernel) rfl, mt_cdX11_markNumber, mt_mem (i := 74) (by decide +kernel) rfl, by decide, by decide +kernel, by decide +kernel, by decide +kernel⟩, mt_mem (i := 1361) (by decide +kernel) rfl, mt_mem (i := 51) (by decide +kernel) rfl, by decide, _, rfl, rfl⟩
set_option maxRecDepth 20000 in
theorem mt_cdX11_unmark : Cond.code yX11_unmark cX11_unmark 3 (some .int) ∈ mt_tb := mt_mem (i := 1366) rfl rfl
theorem mt_cvL_139 : mt_CV RL 139 yX11_unmark cX11_unmark 3 (some .int) 0 11 := ⟨⟨mt_mem (i := 1363) (by decide +kernel) rfl, mt_cdX11_unmark, mt_mem (i := 74) (by decide +kernel) rfl, by decide, by decide +kernel, by decide +kernel, by decide +kernel⟩, mt_mem (i := 1364) (by decide +kernel) rfl, mt_mem (i := 1365) (by decide +kernel) rfl, by decide, _, rfl, rfl⟩
set_option maxRecDepth 20000 in
theorem mt_cdX11_marked : Cond.code yX11_marked cX11_marked 3 (some .long) ∈ mt_tb := mt_mem (i := 1370) rfl rfl
theorem mt_cvL_143 : mt_CV RL 143 yX11_marked cX11_marked 3 (some .long) 2 11 := ⟨⟨mt_mem (i := 1367) (by decide +kernel) rfl, mt_cdX11_marked, mt_mem (i := 74) (by decide +kernel) rfl, by decide, by decide +kernel, by decide +kernel, by decide +kernel⟩, mt_mem (i := 1368) (by decide +kernel) rfl, mt_mem (i := 1369) (by decide +kernel) rfl, by decide, _, rfl, rfl⟩
set_option maxRecDepth 20000 in
theorem mt_cdX11_near : Cond.code yX11_near cX11_near 9 (some .long) ∈ mt_tb := mt_mem (i := 1374) rfl rfl
theorem mt_cvL_148 : mt_CV RL 148 yX11_near cX11_near 9 (some .long) 2 11 := ⟨⟨mt_mem (i := 1371) (by decide +kernel) rfl, mt_cdX11_near, mt_mem (i := 74) (by decide +kernel) rfl, by decide, by decide +kernel, by decide +kernel, by decide +kernel⟩, mt_mem (i := 1372) (by decide +kernel) rfl, mt_mem (i := 1373) (by decide +kernel) rfl, by decide, _, rfl, rfl⟩
set_option maxRecDepth 20000 in
theorem mt_cdX11_jump : Cond.code yX11_jump cX11_jump 2 (some .int) ∈ mt_tb := mt_mem (i := 1378) rfl rfl
theorem mt_cvL_152 : mt_CV RL 152 yX11_jump cX11_jump 2 (some .int) 1 11 := ⟨⟨mt_mem (i := 1375) (by decide +kernel) rfl, mt_cdX11_jump, mt_mem (i := 74) (by decide +kernel) rfl, by decide, by decide +kernel, by decide +kernel, by decide +kernel⟩, mt_mem (i := 1376) (by decide +kernel) rfl, mt_mem (i := 1377) (by decide +kernel) rfl, by decide, _, rfl, rfl⟩
set_option maxRecDepth 20000 in
theorem mt_cdX11_told : Cond.code yX11_told cX11_told 4 (some .int) ∈ mt_tb := mt_mem (i := 1382) rfl rfl
theorem mt_cvL_156 : mt_CV RL 156 yX11_told cX11_told 4 (some .int) 0 11 := ⟨⟨mt_mem (i := 1379) (by decide +kernel) rfl, mt_cdX11_told, mt_mem (i := 74) (by decide +kernel) rfl, by decide, by decide +kernel, by decide +kernel, by decide +kernel⟩, mt_mem (i := 1380) (by decide +kernel) rfl, mt_mem (i := 1381) (by decide +kernel) rfl, by decide, _, rfl, rfl⟩
set_option maxRecDepth 20000 in
theorem mt_cdX11_byteAt : Cond.code yX11_byteAt cX11_byteAt 2 (some .int) ∈ mt_tb := mt_mem (i := 1386) rfl rfl
theorem mt_cvL_160 : mt_CV RL 160 yX11_byteAt cX11_byteAt 2 (some .int) 1 11 := ⟨⟨mt_mem (i := 1383) (by decide +kernel) rfl, mt_cdX11_byteAt, mt_mem (i := 74) (by decide +kernel) rfl, by decide, by decide +kernel, by decide +kernel, by decide +kernel⟩, mt_mem (i := 1384) (by decide +kernel) rfl, mt_mem (i := 1385) (by decide +kernel) rfl, by decide, _, rfl, rfl⟩
set_option maxRecDepth 20000 in
theorem mt_cdX11_path : Cond.code yX11_path cX11_path 1 (some .int) ∈ mt_tb := mt_mem (i := 1390) rfl rfl
theorem mt_cvL_40 : mt_CV RL 40 yX11_path cX11_path 1 (some .int) 0 11 := ⟨⟨mt_mem (i := 1387) (by decide +kernel) rfl, mt_cdX11_path, mt_mem (i := 74) (by decide +kernel) rfl, by decide, by decide +kernel, by decide +kernel, by decide +kernel⟩, mt_mem (i := 1388) (by decide +kernel) rfl, mt_mem (i := 1389) (by decide +kernel) rfl, by decide, _, rfl, rfl⟩
set_option maxRecDepth 20000 in
theorem mt_cdX11_bad : Cond.code yX11_bad cX11_bad 3 none ∈ mt_tb := mt_mem (i := 1394) rfl rfl
theorem mt_cvX11_271 : mt_CV RX11 271 yX11_bad cX11_bad 3 none 2 11 := ⟨⟨mt_mem (i := 1391) (by decide +kernel) rfl, mt_cdX11_bad, mt_mem (i := 74) (by decide +kernel) rfl, by decide, by decide +kernel, by decide +kernel, by decide +kernel⟩, mt_mem (i := 1393) (by decide +kernel) rfl, mt_mem (i := 52) (by decide +kernel) rfl, by decide, _, rfl, rfl⟩
set_option maxRecDepth 20000 in
theorem mt_cdX11_reads : Cond.code yX11_reads cX11_reads 4 none ∈ mt_tb := mt_mem (i := 1398) rfl rfl
theorem mt_cvX11_283 : mt_CV RX11 283 yX11_reads cX11_reads 4 none 1 11 := ⟨⟨mt_mem (i := 1395) (by decide +kernel) rfl, mt_cdX11_reads, mt_mem (i := 74) (by decide +kernel) rfl, by decide, by decide +kernel, by decide +kernel, by decide +kernel⟩, mt_mem (i := 1397) (by decide +kernel) rfl, mt_mem (i := 53) (by decide +kernel) rfl, by decide, _, rfl, rfl⟩
set_option maxRecDepth 20000 in
theorem mt_cdX11_here : Cond.code yX11_here cX11_here 1 (some .int) ∈ mt_tb := mt_mem (i := 1402) rfl rfl
theorem mt_cvX11_265 : mt_CV RX11 265 yX11_here cX11_here 1 (some .int) 0 11 := ⟨⟨mt_mem (i := 1399) (by decide +kernel) rfl, mt_cdX11_here, mt_mem (i := 74) (by decide +kernel) rfl, by decide, by decide +kernel, by decide +kernel, by decide +kernel⟩, mt_mem (i := 1401) (by decide +kernel) rfl, mt_mem (i := 54) (by decide +kernel) rfl, by decide, _, rfl, rfl⟩
set_option maxRecDepth 20000 in
theorem mt_cdX11_often : Cond.code yX11_often cX11_often 3 (some .int) ∈ mt_tb := mt_mem (i := 1406) rfl rfl
theorem mt_cvX11_274 : mt_CV RX11 274 yX11_often cX11_often 3 (some .int) 0 11 := ⟨⟨mt_mem (i := 1403) (by decide +kernel) rfl, mt_cdX11_often, mt_mem (i := 74) (by decide +kernel) rfl, by decide, by decide +kernel, by decide +kernel, by decide +kernel⟩, mt_mem (i := 1405) (by decide +kernel) rfl, mt_mem (i := 55) (by decide +kernel) rfl, by decide, _, rfl, rfl⟩
set_option maxRecDepth 20000 in
theorem mt_cdX11_isDigit : Cond.code yX11_isDigit cX11_isDigit 1 (some .boolean) ∈ mt_tb := mt_mem (i := 1409) rfl rfl
theorem mt_csX11_268 : mt_CS RX11 268 yX11_isDigit cX11_isDigit 1 (some .boolean) 1 := ⟨⟨mt_mem (i := 1407) (by decide +kernel) rfl, mt_cdX11_isDigit, mt_mem (i := 74) (by decide +kernel) rfl, by decide, by decide +kernel, by decide +kernel, by decide +kernel⟩, mt_mem (i := 1408) (by decide +kernel) rfl⟩
set_option maxRecDepth 20000 in
theorem mt_cdX11_readsBracket : Cond.code yX11_readsBracket cX11_readsBracket 2 none ∈ mt_tb := mt_mem (i := 1413) rfl rfl
theorem mt_cvX11_277 : mt_CV RX11 277 yX11_readsBracket cX11_readsBracket 2 none 1 11 := ⟨⟨mt_mem (i := 1410) (by decide +kernel) rfl, mt_cdX11_readsBracket, mt_mem (i := 74) (by decide +kernel) rfl, by decide, by decide +kernel, by decide +kernel, by decide +kernel⟩, mt_mem (i := 1412) (by decide +kernel) rfl, mt_mem (i := 56) (by decide +kernel) rfl, by decide, _, rfl, rfl⟩
set_option maxRecDepth 20000 in
theorem mt_cdX11_goes : Cond.code yX11_goes cX11_goes 7 none ∈ mt_tb := mt_mem (i := 1417) rfl rfl
theorem mt_cvX11_300 : mt_CV RX11 300 yX11_goes cX11_goes 7 none 1 11 := ⟨⟨mt_mem (i := 1414) (by decide +kernel) rfl, mt_cdX11_goes, mt_mem (i := 74) (by decide +kernel) rfl, by decide, by decide +kernel, by decide +kernel, by decide +kernel⟩, mt_mem (i := 1416) (by decide +kernel) rfl, mt_mem (i := 57) (by decide +kernel) rfl, by decide, _, rfl, rfl⟩
set_option maxRecDepth 20000 in
theorem mt_cdX11_does : Cond.code yX11_does cX11_does 4 none ∈ mt_tb := mt_mem (i := 1421) rfl rfl
theorem mt_cvX11_294 : mt_CV RX11 294 yX11_does cX11_does 4 none 2 11 := ⟨⟨mt_mem (i := 1418) (by decide +kernel) rfl, mt_cdX11_does, mt_mem (i := 74) (by decide +kernel) rfl, by decide, by decide +kernel, by decide +kernel, by decide +kernel⟩, mt_mem (i := 1420) (by decide +kernel) rfl, mt_mem (i := 58) (by decide +kernel) rfl, by decide, _, rfl, rfl⟩
set_option maxRecDepth 20000 in
theorem mt_cdX11_skips : Cond.code yX11_skips cX11_skips 2 none ∈ mt_tb := mt_mem (i := 1425) rfl rfl
theorem mt_cvX11_297 : mt_CV RX11 297 yX11_skips cX11_skips 2 none 0 11 := ⟨⟨mt_mem (i := 1422) (by decide +kernel) rfl, mt_cdX11_skips, mt_mem (i := 74) (by decide +kernel) rfl, by decide, by decide +kernel, by decide +kernel, by decide +kernel⟩, mt_mem (i := 1424) (by decide +kernel) rfl, mt_mem (i := 59) (by decide +kernel) rfl, by decide, _, rfl, rfl⟩
set_option maxRecDepth 20000 in
theorem mt_cdX11_fault : Cond.code yX11_fault cX11_fault 1 (some .int) ∈ mt_tb := mt_mem (i := 1429) rfl rfl
theorem mt_cvL_44 : mt_CV RL 44 yX11_fault cX11_fault 1 (some .int) 0 11 := ⟨⟨mt_mem (i := 1426) (by decide +kernel) rfl, mt_cdX11_fault, mt_mem (i := 74) (by decide +kernel) rfl, by decide, by decide +kernel, by decide +kernel, by decide +kernel⟩, mt_mem (i := 1427) (by decide +kernel) rfl, mt_mem (i := 1428) (by decide +kernel) rfl, by decide, _, rfl, rfl⟩
set_option maxRecDepth 20000 in
theorem mt_cdX11_drawn : Cond.code yX11_drawn cX11_drawn 5 (some .int) ∈ mt_tb := mt_mem (i := 1433) rfl rfl
theorem mt_cvL_164 : mt_CV RL 164 yX11_drawn cX11_drawn 5 (some .int) 2 11 := ⟨⟨mt_mem (i := 1430) (by decide +kernel) rfl, mt_cdX11_drawn, mt_mem (i := 74) (by decide +kernel) rfl, by decide, by decide +kernel, by decide +kernel, by decide +kernel⟩, mt_mem (i := 1431) (by decide +kernel) rfl, mt_mem (i := 1432) (by decide +kernel) rfl, by decide, _, rfl, rfl⟩
theorem mt_kX11_310 : Cond.constantLong RX11 310 (60) ∈ mt_tb := mt_mem (i := 1434) (by decide +kernel) rfl
set_option maxRecDepth 20000 in
theorem mt_cdX11_draws : Cond.code yX11_draws cX11_draws 2 (some .boolean) ∈ mt_tb := mt_mem (i := 1438) rfl rfl
theorem mt_cvX11_312 : mt_CV RX11 312 yX11_draws cX11_draws 2 (some .boolean) 0 11 := ⟨⟨mt_mem (i := 1435) (by decide +kernel) rfl, mt_cdX11_draws, mt_mem (i := 74) (by decide +kernel) rfl, by decide, by decide +kernel, by decide +kernel, by decide +kernel⟩, mt_mem (i := 1437) (by decide +kernel) rfl, mt_mem (i := 60) (by decide +kernel) rfl, by decide, _, rfl, rfl⟩
set_option maxRecDepth 20000 in
theorem mt_cdX11_draw : Cond.code yX11_draw cX11_draw 2 (some .int) ∈ mt_tb := mt_mem (i := 1442) rfl rfl
theorem mt_cvX11_307 : mt_CV RX11 307 yX11_draw cX11_draw 2 (some .int) 1 11 := ⟨⟨mt_mem (i := 1439) (by decide +kernel) rfl, mt_cdX11_draw, mt_mem (i := 74) (by decide +kernel) rfl, by decide, by decide +kernel, by decide +kernel, by decide +kernel⟩, mt_mem (i := 1441) (by decide +kernel) rfl, mt_mem (i := 61) (by decide +kernel) rfl, by decide, _, rfl, rfl⟩
theorem mt_kX11_306 : Cond.constant RX11 306 (1103515245) ∈ mt_tb := mt_mem (i := 1443) (by decide +kernel) rfl
set_option maxRecDepth 20000 in
theorem mt_cdX11_now : Cond.code yX11_now cX11_now 2 (some .int) ∈ mt_tb := mt_mem (i := 1447) rfl rfl
theorem mt_cvL_49 : mt_CV RL 49 yX11_now cX11_now 2 (some .int) 1 11 := ⟨⟨mt_mem (i := 1444) (by decide +kernel) rfl, mt_cdX11_now, mt_mem (i := 74) (by decide +kernel) rfl, by decide, by decide +kernel, by decide +kernel, by decide +kernel⟩, mt_mem (i := 1445) (by decide +kernel) rfl, mt_mem (i := 1446) (by decide +kernel) rfl, by decide, _, rfl, rfl⟩
set_option maxRecDepth 20000 in
theorem mt_cdX11_undo : Cond.code yX11_undo cX11_undo 1 (some .int) ∈ mt_tb := mt_mem (i := 1451) rfl rfl
theorem mt_cvL_168 : mt_CV RL 168 yX11_undo cX11_undo 1 (some .int) 0 11 := ⟨⟨mt_mem (i := 1448) (by decide +kernel) rfl, mt_cdX11_undo, mt_mem (i := 74) (by decide +kernel) rfl, by decide, by decide +kernel, by decide +kernel, by decide +kernel⟩, mt_mem (i := 1449) (by decide +kernel) rfl, mt_mem (i := 1450) (by decide +kernel) rfl, by decide, _, rfl, rfl⟩
set_option maxRecDepth 20000 in
theorem mt_cdX11_image : Cond.code yX11_image cX11_image 2 (some .boolean) ∈ mt_tb := mt_mem (i := 1455) rfl rfl
theorem mt_cvL_172 : mt_CV RL 172 yX11_image cX11_image 2 (some .boolean) 1 11 := ⟨⟨mt_mem (i := 1452) (by decide +kernel) rfl, mt_cdX11_image, mt_mem (i := 74) (by decide +kernel) rfl, by decide, by decide +kernel, by decide +kernel, by decide +kernel⟩, mt_mem (i := 1453) (by decide +kernel) rfl, mt_mem (i := 1454) (by decide +kernel) rfl, by decide, _, rfl, rfl⟩
set_option maxRecDepth 20000 in
theorem mt_cdX11_restore : Cond.code yX11_restore cX11_restore 2 (some .boolean) ∈ mt_tb := mt_mem (i := 1459) rfl rfl
theorem mt_cvL_176 : mt_CV RL 176 yX11_restore cX11_restore 2 (some .boolean) 1 11 := ⟨⟨mt_mem (i := 1456) (by decide +kernel) rfl, mt_cdX11_restore, mt_mem (i := 74) (by decide +kernel) rfl, by decide, by decide +kernel, by decide +kernel, by decide +kernel⟩, mt_mem (i := 1457) (by decide +kernel) rfl, mt_mem (i := 1458) (by decide +kernel) rfl, by decide, _, rfl, rfl⟩
theorem mt_kL_104 : Cond.constantLong RL 104 (4294967295) ∈ mt_tb := mt_mem (i := 1460) (by decide +kernel) rfl
end
section
/-! further rows over the uniform heap -/
def mt_rfo (B : mt_B) (o : Option Nat) : Value := va_rf (o.map (fun a => B.2.2.2 + a))
def mt_bo {β : Type} (o : Option Nat) (a : Option β) (g : Nat → Option β) : Option β := match o with
  | none => a
  | some k => g k
theorem mt_rei {B : mt_B} {E : mt_E} {cs : Nat × Nat} {e r : Int32} {S S' : mt_S} (h : some (e, S) = some (r, S')) (hE : mt_End B E cs (some (.int r)) S') : mt_End B E cs (some (.int e)) S := by cases h; exact hE
theorem mt_rel {B : mt_B} {E : mt_E} {cs : Nat × Nat} {e r : Int64} {S S' : mt_S} (h : some (e, S) = some (r, S')) (hE : mt_End B E cs (some (.long r)) S') : mt_End B E cs (some (.long e)) S := by cases h; exact hE
theorem mt_rer {B : mt_B} {E : mt_E} {cs : Nat × Nat} {e r : Nat} {S S' : mt_S} (h : some (e, S) = some (r, S')) (hE : mt_End B E cs (some (mt_rf B r)) S') : mt_End B E cs (some (mt_rf B e)) S := by cases h; exact hE
theorem mt_reo {B : mt_B} {E : mt_E} {cs : Nat × Nat} {e r : Option Nat} {S S' : mt_S} (h : some (e, S) = some (r, S')) (hE : mt_End B E cs (some (mt_rfo B r)) S') : mt_End B E cs (some (mt_rfo B e)) S := by cases h; exact hE
theorem mt_rev {B : mt_B} {E : mt_E} {cs : Nat × Nat} {S S' : mt_S} (h : some S = some S') (hE : mt_End B E cs none S') : mt_End B E cs none S := by cases h; exact hE
section mtMore
variable {B : mt_B} {E : mt_E} {cs : Nat × Nat} {S : mt_S} {pc : Nat} {lv : List (Nat × Value)} {st : List Value} {cc : ByteArray} {own : String} {ret : Option FieldType} {nL d mc ms : Nat}
theorem go_sub (ks : List Nat) {lv1 : List (Nat × Value)} (hk : lv_pick lv ks = lv1) (k : mt_Go B E cs S pc lv1 st) : mt_Go B E cs S pc lv st := by
  obtain ⟨l, D, cA, b⟩ := B
  obtain ⟨p, e, R, s, m, args, below, meth, c0, Q, nL'⟩ := E
  intro H locs ls hP hS hl
  exact k H locs ls hP hS (lv_sub hl ks hk)
theorem go_aloadN_n (hC : mt_Cx B E cc own ret nL d mc ms) (j : Nat) {i : Nat} {q : Fin 4} (hd : decode cc pc = .ok (.aload_n q, 1)) (hi : (q : Nat) = i) (hj : lv[j]? = some (i, .null)) (k : mt_Go B E cs S (pc + 1) lv (.null :: st)) : mt_Go B E cs S pc lv st := by
  obtain ⟨l, D, cA, b⟩ := B
  obtain ⟨p, e, R, s, m, args, below, meth, c0, Q, nL'⟩ := E
  obtain ⟨hx, hb, hml, rfl, hown, hts, hK, hbs, hr, hlk, hrf, hrl, hrc, hrs⟩ := hC
  intro H locs ls hP hS hl
  exact lv_aload_nN hx hb hd hi (lv_at hl j hj) (k H locs ls hP hS hl)
theorem go_astoreN_n (hC : mt_Cx B E cc own ret nL d mc ms) (ks : List Nat) {i : Nat} {q : Fin 4} {lv1 : List (Nat × Value)} (hd : decode cc pc = .ok (.astore_n q, 1)) (hi : (q : Nat) = i) (hn : i < nL) (hk : lv_pick ((i, Value.null) :: lv.filter (fun q => !(q.1 == i) && !(q.1 + 1 == i && q.2.category == 2))) ks = lv1) (k : mt_Go B E cs S (pc + 1) lv1 st) : mt_Go B E cs S pc lv (.null :: st) := by
  obtain ⟨l, D, cA, b⟩ := B
  obtain ⟨p, e, R, s, m, args, below, meth, c0, Q, nL'⟩ := E
  obtain ⟨hx, hb, hml, rfl, hown, hts, hK, hbs, hr, hlk, hrf, hrl, hrc, hrs⟩ := hC
  intro H locs ls hP hS hl
  exact lv_astore_nN hx hb hd hi hl hn rfl (fun ls1 hl1 => k H locs ls1 hP hS (lv_sub hl1 ks hk))
theorem go_callVi (hC : mt_Cx B E cc own ret nL d mc ms) {y : MethodName} {bytes : ByteArray} {maxL n ci k idx d' : Nat} {ret' : Option FieldType} (As rest : List Value) {r : Int32} {S1 : mt_S} (hM : mt_M B y bytes maxL ret' d' (mt_rf B k :: As) S (some (.int r)) S1) (hq : mt_CV own idx y bytes maxL ret' n ci) (hk : mt_isK S k ci = true) (hd : decode cc pc = .ok (.invokevirtual idx, 3)) (hst : st = As.reverse ++ mt_rf B k :: rest) (hn : As.length = n) (hdd : d' + 1 ≤ d) (hw : (rest.map fun v => v.category).sum ≤ 8) (hcs : cs.1 ≤ mc ∧ cs.2 ≤ ms) (kk : mt_Go B E cs S1 (pc + 3) lv (.int r :: rest)) : mt_Go B E cs S pc lv st := go_callV hC hM hq hk hst hn hdd hw hd hcs kk
theorem go_callSi (hC : mt_Cx B E cc own ret nL d mc ms) {y : MethodName} {bytes : ByteArray} {maxL n idx d' : Nat} {ret' : Option FieldType} (As rest : List Value) {r : Int32} {S1 : mt_S} (hM : mt_M B y bytes maxL ret' d' As S (some (.int r)) S1) (hq : mt_CS own idx y bytes maxL ret' n) (hd : decode cc pc = .ok (.invokestatic idx, 3)) (hst : st = As.reverse ++ rest) (hn : As.length = n) (hdd : d' + 1 ≤ d) (hw : (rest.map fun v => v.category).sum ≤ 8) (hcs : cs.1 ≤ mc ∧ cs.2 ≤ ms) (kk : mt_Go B E cs S1 (pc + 3) lv (.int r :: rest)) : mt_Go B E cs S pc lv st := go_callS hC hM hq hst hn hdd hw hd hcs kk
theorem go_callVl (hC : mt_Cx B E cc own ret nL d mc ms) {y : MethodName} {bytes : ByteArray} {maxL n ci k idx d' : Nat} {ret' : Option FieldType} (As rest : List Value) {r : Int64} {S1 : mt_S} (hM : mt_M B y bytes maxL ret' d' (mt_rf B k :: As) S (some (.long r)) S1) (hq : mt_CV own idx y bytes maxL ret' n ci) (hk : mt_isK S k ci = true) (hd : decode cc pc = .ok (.invokevirtual idx, 3)) (hst : st = As.reverse ++ mt_rf B k :: rest) (hn : As.length = n) (hdd : d' + 1 ≤ d) (hw : (rest.map fun v => v.category).sum ≤ 8) (hcs : cs.1 ≤ mc ∧ cs.2 ≤ ms) (kk : mt_Go B E cs S1 (pc + 3) lv (.long r :: rest)) : mt_Go B E cs S pc lv st := go_callV hC hM hq hk hst hn hdd hw hd hcs kk
theorem go_callSl (hC : mt_Cx B E cc own ret nL d mc ms) {y : MethodName} {bytes : ByteArray} {maxL n idx d' : Nat} {ret' : Option FieldType} (As rest : List Value) {r : Int64} {S1 : mt_S} (hM : mt_M B y bytes maxL ret' d' As S (some (.long r)) S1) (hq : mt_CS own idx y bytes maxL ret' n) (hd : decode cc pc = .ok (.invokestatic idx, 3)) (hst : st = As.reverse ++ rest) (hn : As.length = n) (hdd : d' + 1 ≤ d) (hw : (rest.map fun v => v.category).sum ≤ 8) (hcs : cs.1 ≤ mc ∧ cs.2 ≤ ms) (kk : mt_Go B E cs S1 (pc + 3) lv (.long r :: rest)) : mt_Go B E cs S pc lv st := go_callS hC hM hq hst hn hdd hw hd hcs kk
theorem go_callVr (hC : mt_Cx B E cc own ret nL d mc ms) {y : MethodName} {bytes : ByteArray} {maxL n ci k idx d' : Nat} {ret' : Option FieldType} (As rest : List Value) {r : Nat} {S1 : mt_S} (hM : mt_M B y bytes maxL ret' d' (mt_rf B k :: As) S (some (mt_rf B r)) S1) (hq : mt_CV own idx y bytes maxL ret' n ci) (hk : mt_isK S k ci = true) (hd : decode cc pc = .ok (.invokevirtual idx, 3)) (hst : st = As.reverse ++ mt_rf B k :: rest) (hn : As.length = n) (hdd : d' + 1 ≤ d) (hw : (rest.map fun v => v.category).sum ≤ 8) (hcs : cs.1 ≤ mc ∧ cs.2 ≤ ms) (kk : mt_Go B E cs S1 (pc + 3) lv (mt_rf B r :: rest)) : mt_Go B E cs S pc lv st := go_callV hC hM hq hk hst hn hdd hw hd hcs kk
theorem go_callVv (hC : mt_Cx B E cc own ret nL d mc ms) {y : MethodName} {bytes : ByteArray} {maxL n ci k idx d' : Nat} {ret' : Option FieldType} (As rest : List Value) {S1 : mt_S} (hM : mt_M B y bytes maxL ret' d' (mt_rf B k :: As) S none S1) (hq : mt_CV own idx y bytes maxL ret' n ci) (hk : mt_isK S k ci = true) (hd : decode cc pc = .ok (.invokevirtual idx, 3)) (hst : st = As.reverse ++ mt_rf B k :: rest) (hn : As.length = n) (hdd : d' + 1 ≤ d) (hw : (rest.map fun v => v.category).sum ≤ 8) (hcs : cs.1 ≤ mc ∧ cs.2 ≤ ms) (kk : mt_Go B E cs S1 (pc + 3) lv (rest)) : mt_Go B E cs S pc lv st := go_callV hC hM hq hk hst hn hdd hw hd hcs kk
theorem go_callSv (hC : mt_Cx B E cc own ret nL d mc ms) {y : MethodName} {bytes : ByteArray} {maxL n idx d' : Nat} {ret' : Option FieldType} (As rest : List Value) {S1 : mt_S} (hM : mt_M B y bytes maxL ret' d' As S none S1) (hq : mt_CS own idx y bytes maxL ret' n) (hd : decode cc pc = .ok (.invokestatic idx, 3)) (hst : st = As.reverse ++ rest) (hn : As.length = n) (hdd : d' + 1 ≤ d) (hw : (rest.map fun v => v.category).sum ≤ 8) (hcs : cs.1 ≤ mc ∧ cs.2 ≤ ms) (kk : mt_Go B E cs S1 (pc + 3) lv (rest)) : mt_Go B E cs S pc lv st := go_callS hC hM hq hst hn hdd hw hd hcs kk
theorem go_callVn (hC : mt_Cx B E cc own ret nL d mc ms) {y : MethodName} {bytes : ByteArray} {maxL n ci k idx d' : Nat} {ret' : Option FieldType} (As rest : List Value) {S1 : mt_S} (hM : mt_M B y bytes maxL ret' d' (mt_rf B k :: As) S (some (mt_rfo B none)) S1) (hq : mt_CV own idx y bytes maxL ret' n ci) (hk : mt_isK S k ci = true) (hd : decode cc pc = .ok (.invokevirtual idx, 3)) (hst : st = As.reverse ++ mt_rf B k :: rest) (hn : As.length = n) (hdd : d' + 1 ≤ d) (hw : (rest.map fun v => v.category).sum ≤ 8) (hcs : cs.1 ≤ mc ∧ cs.2 ≤ ms) (kk : mt_Go B E cs S1 (pc + 3) lv (.null :: rest)) : mt_Go B E cs S pc lv st := go_callV hC hM hq hk hst hn hdd hw hd hcs kk
theorem go_callVo (hC : mt_Cx B E cc own ret nL d mc ms) {y : MethodName} {bytes : ByteArray} {maxL n ci k idx d' : Nat} {ret' : Option FieldType} (As rest : List Value) {r : Nat} {S1 : mt_S} (hM : mt_M B y bytes maxL ret' d' (mt_rf B k :: As) S (some (mt_rfo B (some r))) S1) (hq : mt_CV own idx y bytes maxL ret' n ci) (hk : mt_isK S k ci = true) (hd : decode cc pc = .ok (.invokevirtual idx, 3)) (hst : st = As.reverse ++ mt_rf B k :: rest) (hn : As.length = n) (hdd : d' + 1 ≤ d) (hw : (rest.map fun v => v.category).sum ≤ 8) (hcs : cs.1 ≤ mc ∧ cs.2 ≤ ms) (kk : mt_Go B E cs S1 (pc + 3) lv (mt_rf B r :: rest)) : mt_Go B E cs S pc lv st := go_callV hC hM hq hk hst hn hdd hw hd hcs kk
end mtMore
theorem mt_f2m : Cond.native ⟨"java/lang/Float", "floatToRawIntBits", "(F)I"⟩ ∈ mt_tb := mt_mem (i := 1337) (by decide +kernel) rfl
theorem mt_f2s : Cond.static ⟨"java/lang/Float", "floatToRawIntBits", "(F)I"⟩ ∈ mt_tb := mt_mem (i := 1336) (by decide +kernel) rfl
theorem mt_f2i : Cond.initialized "java/lang/Float" ∈ mt_tb := mt_mem (i := 82) (by decide +kernel) rfl
theorem mt_f2l : Cond.methodLink RJxf58ca 74 ⟨"java/lang/Float", "floatToRawIntBits", "(F)I"⟩ ∈ mt_tb := mt_mem (i := 1335) (by decide +kernel) rfl
end
